/-! New things: the diet's levels. -/
section GL
variable {G : am_G} {d j N U a : Nat} {K : Nat → Nat × Nat} {F : Nat → Nat → Int32} {R : Nat → Nat → Option Nat} {l : Nat → Nat → Int64}
def kD (K : Nat → Nat × Nat) (N : Nat) : Nat → Nat → Nat × Nat
  | 0 => kn (kn (kn K (N + 1) (4, 6)) (N + 2) (1, 5)) (N + 3) (1, 5)
  | i + 1 => kC_17 (kn (kD K N i) (N + 4 + 7 * i) (0, 4)) (N + 4 + 7 * i)
def fDt (F : Nat → Nat → Int32) (N : Nat) : Nat → Nat → Nat → Int32
  | 0 => F
  | i + 1 => fil (fDt F N i) (N + 8 + 7 * i) 60
def rD (R : Nat → Nat → Option Nat) (N a : Nat) : Nat → Nat → Nat → Option Nat
  | 0 => am_up (am_up (am_up R a 0 (some (N + 1))) a 1 (some (N + 2))) a 2 (some (N + 3))
  | i + 1 => am_up (rC_17 (rD R N a i) (N + 4 + 7 * i) (N + 4 + 7 * i)) (N + 1) i (some (N + 4 + 7 * i))
theorem kC17_le {x : Nat} (h : x ≤ N) : kC_17 K N x = K x := by
  unfold kC_17
  simp (disch := omega) only [kn_ne]
theorem rC17_ne {x k : Nat} (h : ¬ x = a) : rC_17 R N a x k = R x k := by
  unfold rC_17
  simp (disch := omega) only [am_up_nc]
theorem kD_le {x : Nat} (h : x ≤ N) : ∀ i, kD K N i x = K x := by
  intro i
  induction i with
  | zero =>
    unfold kD
    simp (disch := omega) only [kn_ne]
  | succ i ih => rw [kD, kC17_le (by omega), kn_ne (by omega)]; exact ih
theorem kD_1 : ∀ i, kD K N i (N + 1) = (4, 6) := by
  intro i
  induction i with
  | zero =>
    unfold kD
    simp (disch := omega) only [kn_ne, kn_eq]
  | succ i ih => rw [kD, kC17_le (by omega), kn_ne (by omega)]; exact ih
theorem rD_a (h : a ≤ N) : ∀ i, rD R N a i a 0 = some (N + 1) := by
  intro i
  induction i with
  | zero =>
    unfold rD
    simp (disch := omega) only [am_up_nk, am_up_eq]
  | succ i ih => rw [rD, am_up_nc _ _ _ _ _ (by omega), rC17_ne (by omega)]; exact ih
theorem nC_4 (hK : K a = (0, 1)) (haN : a ≤ N) (hN : N < 1000) (hd : 1 ≤ d) : am_C G d 4 [.ref a] (mg N U K F R l) (nwP (mg (N + 45) (U + 574) (kD K N 6) (fDt F N 6) (rD R N a 6) l)) := by
  refine en_4 _ ?_
  refine am_run9 60 [29] s4_0 ?_
  simp (disch := omega) only [w_lx0, w_lx1, w_lx2, w_ic, w_ldc_w, w_iconst, w_lconst, w_ldc2_w, w_ldc, w_iload, w_aload, w_lload, w_istore, w_astore, w_lstore, w_iinc, w_iadd, w_isub, w_imul, w_iand, w_ior, w_ixor, w_ishl, w_ishr, w_iushr, w_idiv, w_irem, w_ineg, w_i2l, w_lshl, w_lor, w_lsub, w_lcmp, w_dupa, w_dupb, w_pop, w_dup2, w_ifCond, w_if_icmp, w_goto, w_tableswitch, w_getfield, w_putfielda, w_putfieldb, w_putfieldc, w_iaload, w_baload, w_laload, w_aaload, w_iastore, w_bastore, w_lastore, w_aastore, w_arraylength, w_ireturn, w_lreturn, w_return, w_newx, w_obj, w_cpy, w_max, w_min, w_slen, w_sat, w_nil, w_nx, w_jws, w_jw0, ↓reduceIte, w_my0, w_my1, w_my2, w_gv0, w_gvs, w_cati, w_catr, w_catj, w_inc1, w_afn, w_afi, w_afl, w_afx, w_asn, w_asi, w_asl, w_asx, w_a0, List.set_cons_zero, List.set_cons_succ, List.contains_cons, List.contains_nil, Nat.reduceBEq, Bool.or_false, Bool.false_or, Bool.or_true, Bool.true_or, Nat.reduceAdd, Nat.reduceSub, Nat.reduceMul, Nat.reduceDiv, Nat.reduceMod, Nat.reduceLT, Nat.reduceLeDiff, Nat.reduceEqDiff, Nat.zero_le, List.length_cons, List.length_nil, Int.reduceLE, Int.reduceToNat, Int.reduceAdd, Int.reduceLT, decide_true, am_cp, am_cq, Option.some.injEq, exists_eq_left', true_and, and_true, if_true, if_false, ite_true, ite_false, not_false_eq_true, true_or, or_true, false_or, or_false, reduceCtorEq, false_implies, true_implies, implies_true, eq_self, Bool.false_eq_true, Bool.true_eq_false, not_true_eq_false, s4_0, s4_29, s4_53, w_i17, rt_4, hh_4, w_new, w_newi, w_newz, w_newj, w_newa, g_kk, g_ii, g_rr, g_si, g_sr, kn_eq, kn_ne, am_up_eq, am_up_nc, am_up_nk, am_nf, Nat.add_assoc, hK]
  refine am_for (fun i L M => L = [.ref a, .int (nI i)] ∧ M = mg (N + 3 + 7 * i) (U + 16 + 93 * i) (kD K N i) (fDt F N i) (rD R N a i) l) 6 ?_ ?_ 0 _ _ (by omega) ⟨rfl, rfl⟩
  · rintro i _ _ hi ⟨rfl, rfl⟩ ih
    have h1 := (kD_le (K := K) haN i).trans hK
    have h2 := kD_1 (K := K) (N := N) i
    have h3 := rD_a (R := R) haN i
    refine am_run9 60 [29] s4_29 ?_
    simp (disch := omega) only [w_lx0, w_lx1, w_lx2, w_ic, w_ldc_w, w_iconst, w_lconst, w_ldc2_w, w_ldc, w_iload, w_aload, w_lload, w_istore, w_astore, w_lstore, w_iinc, w_iadd, w_isub, w_imul, w_iand, w_ior, w_ixor, w_ishl, w_ishr, w_iushr, w_idiv, w_irem, w_ineg, w_i2l, w_lshl, w_lor, w_lsub, w_lcmp, w_dupa, w_dupb, w_pop, w_dup2, w_ifCond, w_if_icmp, w_goto, w_tableswitch, w_getfield, w_putfielda, w_putfieldb, w_putfieldc, w_iaload, w_baload, w_laload, w_aaload, w_iastore, w_bastore, w_lastore, w_aastore, w_arraylength, w_ireturn, w_lreturn, w_return, w_newx, w_obj, w_cpy, w_max, w_min, w_slen, w_sat, w_nil, w_nx, w_jws, w_jw0, ↓reduceIte, w_my0, w_my1, w_my2, w_gv0, w_gvs, w_cati, w_catr, w_catj, w_inc1, w_afn, w_afi, w_afl, w_afx, w_asn, w_asi, w_asl, w_asx, w_a0, List.set_cons_zero, List.set_cons_succ, List.contains_cons, List.contains_nil, Nat.reduceBEq, Bool.or_false, Bool.false_or, Bool.or_true, Bool.true_or, Nat.reduceAdd, Nat.reduceSub, Nat.reduceMul, Nat.reduceDiv, Nat.reduceMod, Nat.reduceLT, Nat.reduceLeDiff, Nat.reduceEqDiff, Nat.zero_le, List.length_cons, List.length_nil, Int.reduceLE, Int.reduceToNat, Int.reduceAdd, Int.reduceLT, decide_true, am_cp, am_cq, Option.some.injEq, exists_eq_left', true_and, and_true, if_true, if_false, ite_true, ite_false, not_false_eq_true, true_or, or_true, false_or, or_false, reduceCtorEq, false_implies, true_implies, implies_true, eq_self, Bool.false_eq_true, Bool.true_eq_false, not_true_eq_false, s4_0, s4_29, s4_53, w_i17, rt_4, hh_4, w_new, w_newi, w_newz, w_newj, w_newa, g_kk, g_ii, g_rr, g_si, g_sr, kn_eq, kn_ne, am_up_eq, am_up_nc, am_up_nk, am_nf, Nat.add_assoc, h1, h2, h3, nI_ltI, nI_leI, p_lt, p_nlt, p_le, p_nle]
    refine ⟨hd, ?_⟩
    have eN : N + (3 + (7 * i + 1)) = N + 4 + 7 * i := by omega
    have eU : U + (16 + (93 * i + 7)) = U + 23 + 93 * i := by omega
    rw [eN, eU]
    refine (nC_17 kn_eq (Nat.le_refl _) (by omega)).mono ?_
    rintro _ _ ⟨rfl, rfl⟩
    have k1 : kC_17 (kn (kD K N i) (N + 4 + 7 * i) (0, 4)) (N + 4 + 7 * i) (N + 4 + 7 * i) = (0, 4) := by rw [kC17_le (Nat.le_refl _), kn_eq]
    have k2 : kC_17 (kn (kD K N i) (N + 4 + 7 * i) (0, 4)) (N + 4 + 7 * i) (N + 1) = (4, 6) := by rw [kC17_le (by omega), kn_ne (by omega)]; exact h2
    obtain ⟨K9, hK9⟩ : ∃ K9, K9 = kC_17 (kn (kD K N i) (N + 4 + 7 * i) (0, 4)) (N + 4 + 7 * i) := ⟨_, rfl⟩
    rw [← hK9] at k1 k2 ⊢
    obtain ⟨R9, hR9⟩ : ∃ R9, R9 = rC_17 (rD R N a i) (N + 4 + 7 * i) (N + 4 + 7 * i) := ⟨_, rfl⟩
    rw [← hR9]
    obtain ⟨A, hA⟩ : ∃ A, A = N + 4 + 7 * i := ⟨_, rfl⟩
    rw [← hA] at k1 ⊢
    simp (disch := omega) only [w_lx0, w_lx1, w_lx2, w_ic, w_ldc_w, w_iconst, w_lconst, w_ldc2_w, w_ldc, w_iload, w_aload, w_lload, w_istore, w_astore, w_lstore, w_iinc, w_iadd, w_isub, w_imul, w_iand, w_ior, w_ixor, w_ishl, w_ishr, w_iushr, w_idiv, w_irem, w_ineg, w_i2l, w_lshl, w_lor, w_lsub, w_lcmp, w_dupa, w_dupb, w_pop, w_dup2, w_ifCond, w_if_icmp, w_goto, w_tableswitch, w_getfield, w_putfielda, w_putfieldb, w_putfieldc, w_iaload, w_baload, w_laload, w_aaload, w_iastore, w_bastore, w_lastore, w_aastore, w_arraylength, w_ireturn, w_lreturn, w_return, w_newx, w_obj, w_cpy, w_max, w_min, w_slen, w_sat, w_nil, w_nx, w_jws, w_jw0, ↓reduceIte, w_my0, w_my1, w_my2, w_gv0, w_gvs, w_cati, w_catr, w_catj, w_inc1, w_afn, w_afi, w_afl, w_afx, w_asn, w_asi, w_asl, w_asx, w_a0, List.set_cons_zero, List.set_cons_succ, List.contains_cons, List.contains_nil, Nat.reduceBEq, Bool.or_false, Bool.false_or, Bool.or_true, Bool.true_or, Nat.reduceAdd, Nat.reduceSub, Nat.reduceMul, Nat.reduceDiv, Nat.reduceMod, Nat.reduceLT, Nat.reduceLeDiff, Nat.reduceEqDiff, Nat.zero_le, List.length_cons, List.length_nil, Int.reduceLE, Int.reduceToNat, Int.reduceAdd, Int.reduceLT, decide_true, am_cp, am_cq, Option.some.injEq, exists_eq_left', true_and, and_true, if_true, if_false, ite_true, ite_false, not_false_eq_true, true_or, or_true, false_or, or_false, reduceCtorEq, false_implies, true_implies, implies_true, eq_self, Bool.false_eq_true, Bool.true_eq_false, not_true_eq_false, s4_0, s4_29, s4_53, w_i17, rt_4, hh_4, w_new, w_newi, w_newz, w_newj, w_newa, g_kk, g_ii, g_rr, g_si, g_sr, kn_eq, kn_ne, am_up_eq, am_up_nc, am_up_nk, am_nf, Nat.add_assoc, k1, k2, nI_ltI, nI_leI, nI_clamp, nI_add, p_lt, p_nlt, p_le, p_nle, p_lta, p_lea]
    refine ih _ _ ⟨rfl, ?_⟩
    rw [kD, rD, fDt, ← hK9, ← hR9, ← hA]
    have g1 : A + 6 = N + 3 + 7 * (i + 1) := by omega
    have g2 : U + (23 + (93 * i + 86)) = U + 16 + 93 * (i + 1) := by omega
    have g3 : A + 4 = N + 8 + 7 * i := by omega
    rw [g1, g2, g3]
  · rintro _ _ ⟨rfl, rfl⟩
    refine am_run9 60 [29] s4_29 ?_
    simp (disch := omega) only [w_lx0, w_lx1, w_lx2, w_ic, w_ldc_w, w_iconst, w_lconst, w_ldc2_w, w_ldc, w_iload, w_aload, w_lload, w_istore, w_astore, w_lstore, w_iinc, w_iadd, w_isub, w_imul, w_iand, w_ior, w_ixor, w_ishl, w_ishr, w_iushr, w_idiv, w_irem, w_ineg, w_i2l, w_lshl, w_lor, w_lsub, w_lcmp, w_dupa, w_dupb, w_pop, w_dup2, w_ifCond, w_if_icmp, w_goto, w_tableswitch, w_getfield, w_putfielda, w_putfieldb, w_putfieldc, w_iaload, w_baload, w_laload, w_aaload, w_iastore, w_bastore, w_lastore, w_aastore, w_arraylength, w_ireturn, w_lreturn, w_return, w_newx, w_obj, w_cpy, w_max, w_min, w_slen, w_sat, w_nil, w_nx, w_jws, w_jw0, ↓reduceIte, w_my0, w_my1, w_my2, w_gv0, w_gvs, w_cati, w_catr, w_catj, w_inc1, w_afn, w_afi, w_afl, w_afx, w_asn, w_asi, w_asl, w_asx, w_a0, List.set_cons_zero, List.set_cons_succ, List.contains_cons, List.contains_nil, Nat.reduceBEq, Bool.or_false, Bool.false_or, Bool.or_true, Bool.true_or, Nat.reduceAdd, Nat.reduceSub, Nat.reduceMul, Nat.reduceDiv, Nat.reduceMod, Nat.reduceLT, Nat.reduceLeDiff, Nat.reduceEqDiff, Nat.zero_le, List.length_cons, List.length_nil, Int.reduceLE, Int.reduceToNat, Int.reduceAdd, Int.reduceLT, decide_true, am_cp, am_cq, Option.some.injEq, exists_eq_left', true_and, and_true, if_true, if_false, ite_true, ite_false, not_false_eq_true, true_or, or_true, false_or, or_false, reduceCtorEq, false_implies, true_implies, implies_true, eq_self, Bool.false_eq_true, Bool.true_eq_false, not_true_eq_false, s4_0, s4_29, s4_53, w_i17, rt_4, hh_4, w_new, w_newi, w_newz, w_newj, w_newa, g_kk, g_ii, g_rr, g_si, g_sr, kn_eq, kn_ne, am_up_eq, am_up_nc, am_up_nk, am_nf, Nat.add_assoc, nI_ltI, nI_leI, p_lt, p_nlt, p_le, p_nle]
    exact ⟨rfl, rfl⟩
end GL
