/-! New things: minds, tables. -/
section GK
variable {G : am_G} {d j N U a : Nat} {P : am_K} {cs : List Nat} {J : Nat → List Value → List Value → am_M → Prop} {is : List (Instr × Nat)} {pc : Nat} {L S : List Value} {K : Nat → Nat × Nat} {F : Nat → Nat → Int32} {R : Nat → Nat → Option Nat} {l : Nat → Nat → Int64}
def fil (F : Nat → Nat → Int32) (c k : Nat) : Nat → Nat → Int32 := fun x y => if x = c ∧ y < k then NO else F x y
theorem fil_s {c k : Nat} : am_up (fil F c k) c k NO = fil F c (k + 1) := by
  funext x y
  unfold am_up fil
  by_cases h : x = c ∧ y = k
  · rw [if_pos h, if_pos ⟨h.1, by omega⟩]
  · rw [if_neg h]
    by_cases h2 : x = c ∧ y < k
    · rw [if_pos h2, if_pos ⟨h2.1, by omega⟩]
    · rw [if_neg h2, if_neg (fun q => h2 ⟨q.1, by have : ¬ y = k := fun q2 => h ⟨q.1, q2⟩; omega⟩)]
theorem fil_0 {c : Nat} : fil F c 0 = F := by
  funext x y
  unfold fil
  exact if_neg (fun q => absurd q.2 (Nat.not_lt_zero _))
def kC_17 (K : Nat → Nat × Nat) (N : Nat) : Nat → Nat × Nat := kn (kn (kn (kn (kn (kn K (N + 1) (1, 6)) (N + 2) (1, 6)) (N + 3) (1, 6)) (N + 4) (1, 60)) (N + 5) (1, 4)) (N + 6) (1, 4)
def rC_17 (R : Nat → Nat → Option Nat) (N a : Nat) : Nat → Nat → Option Nat := am_up (am_up (am_up (am_up (am_up (am_up R a 1 (some (N + 1))) a 2 (some (N + 2))) a 3 (some (N + 3))) a 4 (some (N + 4))) a 5 (some (N + 5))) a 6 (some (N + 6))
theorem nC_17 (hK : K a = (0, 4)) (haN : a ≤ N) (hN : N < 2000) : am_C G d 17 [.ref a] (mg N U K F R l) (nwP (mg (N + 6) (U + 86) (kC_17 K N) (fil F (N + 4) 60) (rC_17 R N a) l)) := by
  refine en_17 _ ?_
  refine am_run9 60 [52] s17_0 ?_
  simp (disch := omega) only [w_lx0, w_lx1, w_lx2, w_ic, w_ldc_w, w_iconst, w_lconst, w_ldc2_w, w_ldc, w_iload, w_aload, w_lload, w_istore, w_astore, w_lstore, w_iinc, w_iadd, w_isub, w_imul, w_iand, w_ior, w_ixor, w_ishl, w_ishr, w_iushr, w_idiv, w_irem, w_ineg, w_i2l, w_lshl, w_lor, w_lsub, w_lcmp, w_dupa, w_dupb, w_pop, w_dup2, w_ifCond, w_if_icmp, w_goto, w_tableswitch, w_getfield, w_putfielda, w_putfieldb, w_putfieldc, w_iaload, w_baload, w_laload, w_aaload, w_iastore, w_bastore, w_lastore, w_aastore, w_arraylength, w_ireturn, w_lreturn, w_return, w_newx, w_obj, w_cpy, w_max, w_min, w_slen, w_sat, w_nil, w_nx, w_jws, w_jw0, ↓reduceIte, w_my0, w_my1, w_my2, w_gv0, w_gvs, w_cati, w_catr, w_catj, w_inc1, w_afn, w_afi, w_afl, w_afx, w_asn, w_asi, w_asl, w_asx, w_a0, List.set_cons_zero, List.set_cons_succ, List.contains_cons, List.contains_nil, Nat.reduceBEq, Bool.or_false, Bool.false_or, Bool.or_true, Bool.true_or, Nat.reduceAdd, Nat.reduceSub, Nat.reduceMul, Nat.reduceDiv, Nat.reduceMod, Nat.reduceLT, Nat.reduceLeDiff, Nat.reduceEqDiff, Nat.zero_le, List.length_cons, List.length_nil, Int.reduceLE, Int.reduceToNat, Int.reduceAdd, Int.reduceLT, decide_true, am_cp, am_cq, Option.some.injEq, exists_eq_left', true_and, and_true, if_true, if_false, ite_true, ite_false, not_false_eq_true, true_or, or_true, false_or, or_false, reduceCtorEq, false_implies, true_implies, implies_true, eq_self, Bool.false_eq_true, Bool.true_eq_false, not_true_eq_false, s17_0, s17_52, s17_71, rt_17, hh_17, w_new, w_newi, w_newz, w_newj, w_newa, g_kk, g_ii, g_rr, g_si, g_sr, kn_eq, kn_ne, am_up_eq, am_up_nc, am_up_nk, am_nf, Nat.add_assoc, hK]
  have hKa : kC_17 K N a = (0, 4) := by
    unfold kC_17
    simp (disch := omega) only [kn_ne, hK]
  have hK4 : kC_17 K N (N + 4) = (1, 60) := by
    unfold kC_17
    simp (disch := omega) only [kn_ne, kn_eq]
  have hR4 : rC_17 R N a a 4 = some (N + 4) := by
    unfold rC_17
    simp (disch := omega) only [am_up_nk, am_up_eq]
  have eM : mg (N + 6) (U + 86) (kn (kn (kn (kn (kn (kn K (N + 1) (1, 6)) (N + 2) (1, 6)) (N + 3) (1, 6)) (N + 4) (1, 60)) (N + 5) (1, 4)) (N + 6) (1, 4)) F (am_up (am_up (am_up (am_up (am_up (am_up R a 1 (some (N + 1))) a 2 (some (N + 2))) a 3 (some (N + 3))) a 4 (some (N + 4))) a 5 (some (N + 5))) a 6 (some (N + 6))) l = mg (N + 6) (U + 86) (kC_17 K N) (fil F (N + 4) 0) (rC_17 R N a) l := by rw [fil_0]; rfl
  try rw [eM]
  refine am_for (fun k L M => L = [.ref a, .int (nI k)] ∧ M = mg (N + 6) (U + 86) (kC_17 K N) (fil F (N + 4) k) (rC_17 R N a) l) 60 ?_ ?_ 0 _ _ (by omega) ⟨rfl, rfl⟩
  · rintro k _ _ hk ⟨rfl, rfl⟩ ih
    refine am_run9 60 [52] s17_52 ?_
    simp only [w_lx0, w_lx1, w_lx2, w_ic, w_ldc_w, w_iconst, w_lconst, w_ldc2_w, w_ldc, w_iload, w_aload, w_lload, w_istore, w_astore, w_lstore, w_iinc, w_iadd, w_isub, w_imul, w_iand, w_ior, w_ixor, w_ishl, w_ishr, w_iushr, w_idiv, w_irem, w_ineg, w_i2l, w_lshl, w_lor, w_lsub, w_lcmp, w_dupa, w_dupb, w_pop, w_dup2, w_ifCond, w_if_icmp, w_goto, w_tableswitch, w_getfield, w_putfielda, w_putfieldb, w_putfieldc, w_iaload, w_baload, w_laload, w_aaload, w_iastore, w_bastore, w_lastore, w_aastore, w_arraylength, w_ireturn, w_lreturn, w_return, w_newx, w_obj, w_cpy, w_max, w_min, w_slen, w_sat, w_nil, w_nx, w_jws, w_jw0, ↓reduceIte, w_my0, w_my1, w_my2, w_gv0, w_gvs, w_cati, w_catr, w_catj, w_inc1, w_afn, w_afi, w_afl, w_afx, w_asn, w_asi, w_asl, w_asx, w_a0, List.set_cons_zero, List.set_cons_succ, List.contains_cons, List.contains_nil, Nat.reduceBEq, Bool.or_false, Bool.false_or, Bool.or_true, Bool.true_or, Nat.reduceAdd, Nat.reduceSub, Nat.reduceMul, Nat.reduceDiv, Nat.reduceMod, Nat.reduceLT, Nat.reduceLeDiff, Nat.reduceEqDiff, Nat.zero_le, List.length_cons, List.length_nil, Int.reduceLE, Int.reduceToNat, Int.reduceAdd, Int.reduceLT, decide_true, am_cp, am_cq, m_kk, m_ii, m_rr, m_jj, m_si, m_sj, m_sc, Option.some.injEq, exists_eq_left', true_and, and_true, if_true, if_false, ite_true, ite_false, not_false_eq_true, true_or, or_true, false_or, or_false, reduceCtorEq, false_implies, true_implies, implies_true, eq_self, Bool.false_eq_true, Bool.true_eq_false, not_true_eq_false, s17_0, s17_52, s17_71, rt_17, hh_17, g_kk, g_ii, g_rr, g_si, g_sr, hKa, hK4, hR4]
    simp (disch := omega) only [nI_ltI, nI_leI, nI_clamp, nI_add, p_lt, p_nlt, p_le, p_nle, p_lta, p_lea, p_00, true_and, and_true, implies_true, true_implies, fil_s, g_kk, hK4, g_si]
    exact ih _ _ ⟨rfl, rfl⟩
  · rintro _ _ ⟨rfl, rfl⟩
    refine am_run9 60 [52] s17_52 ?_
    simp only [w_lx0, w_lx1, w_lx2, w_ic, w_ldc_w, w_iconst, w_lconst, w_ldc2_w, w_ldc, w_iload, w_aload, w_lload, w_istore, w_astore, w_lstore, w_iinc, w_iadd, w_isub, w_imul, w_iand, w_ior, w_ixor, w_ishl, w_ishr, w_iushr, w_idiv, w_irem, w_ineg, w_i2l, w_lshl, w_lor, w_lsub, w_lcmp, w_dupa, w_dupb, w_pop, w_dup2, w_ifCond, w_if_icmp, w_goto, w_tableswitch, w_getfield, w_putfielda, w_putfieldb, w_putfieldc, w_iaload, w_baload, w_laload, w_aaload, w_iastore, w_bastore, w_lastore, w_aastore, w_arraylength, w_ireturn, w_lreturn, w_return, w_newx, w_obj, w_cpy, w_max, w_min, w_slen, w_sat, w_nil, w_nx, w_jws, w_jw0, ↓reduceIte, w_my0, w_my1, w_my2, w_gv0, w_gvs, w_cati, w_catr, w_catj, w_inc1, w_afn, w_afi, w_afl, w_afx, w_asn, w_asi, w_asl, w_asx, w_a0, List.set_cons_zero, List.set_cons_succ, List.contains_cons, List.contains_nil, Nat.reduceBEq, Bool.or_false, Bool.false_or, Bool.or_true, Bool.true_or, Nat.reduceAdd, Nat.reduceSub, Nat.reduceMul, Nat.reduceDiv, Nat.reduceMod, Nat.reduceLT, Nat.reduceLeDiff, Nat.reduceEqDiff, Nat.zero_le, List.length_cons, List.length_nil, Int.reduceLE, Int.reduceToNat, Int.reduceAdd, Int.reduceLT, decide_true, am_cp, am_cq, m_kk, m_ii, m_rr, m_jj, m_si, m_sj, m_sc, Option.some.injEq, exists_eq_left', true_and, and_true, if_true, if_false, ite_true, ite_false, not_false_eq_true, true_or, or_true, false_or, or_false, reduceCtorEq, false_implies, true_implies, implies_true, eq_self, Bool.false_eq_true, Bool.true_eq_false, not_true_eq_false, s17_0, s17_52, s17_71, rt_17, hh_17, g_kk, g_ii, g_rr, g_si, g_sr, hKa, hK4, hR4]
    simp (disch := omega) only [nI_ltI, nI_leI, nI_clamp, p_lt, p_nlt, p_le, p_nle, p_lta, p_lea, true_and, and_true, implies_true, true_implies]
    exact ⟨rfl, rfl⟩
def kng (K : Nat → Nat × Nat) (N n k : Nat) : Nat → Nat × Nat := fun a => if a = N + 1 then (5, n) else if N + 1 < a ∧ a ≤ N + 1 + n then (1, k) else K a
def rng (R : Nat → Nat → Option Nat) (N n : Nat) : Nat → Nat → Option Nat := fun a i => if a = N + 1 ∧ i < n then some (N + 2 + i) else R a i
theorem w_newg (t u n k : Nat) (h : n ≤ 10000) (hk : k ≤ 10000) (hN : N < 900000) : am_lw G d j P cs J ((.multianewarray t u, 4) :: is) pc L (.int (nI k) :: .int (nI n) :: S) (mg N U K F R l) = am_nx G d j P cs J is (pc + 4) L (.ref (N + 1) :: S) (mg (N + 1 + n) (U + n + n * k) (kng K N n k) F (rng R N n) l) := by
  obtain ⟨h0, hc⟩ := n_0 h
  obtain ⟨h0k, hck⟩ := n_0 hk
  have hs : am_st (.multianewarray t u) pc 4 L (.int (nI k) :: .int (nI n) :: S) (mg N U K F R l) = some (pc + 4, L, .ref (N + 1) :: S, mg (N + 1 + (nI n).toNatClampNeg) (U + (nI n).toNatClampNeg + (nI n).toNatClampNeg * (nI k).toNatClampNeg) (kng K N (nI n).toNatClampNeg (nI k).toNatClampNeg) F (rng R N (nI n).toNatClampNeg) l) := if_pos ⟨rfl, hN, h0, by rw [hc]; exact h, h0k, by rw [hck]; exact hk⟩
  rw [hc, hck] at hs
  have e : am_lw G d j P cs J ((.multianewarray t u, 4) :: is) pc L (.int (nI k) :: .int (nI n) :: S) (mg N U K F R l) = (match am_st (.multianewarray t u) pc 4 L (.int (nI k) :: .int (nI n) :: S) (mg N U K F R l) with | some q => q.1 = pc + 4 ∧ am_nx G d j P cs J is (pc + 4) q.2.1 q.2.2.1 q.2.2.2 | none => False) := rfl
  rw [e, hs]
  simp only [true_and]
theorem kng_ne {n k x : Nat} (h : x ≤ N) : kng K N n k x = K x := by
  unfold kng
  rw [if_neg (by omega), if_neg (by omega)]
def kC_44 (K : Nat → Nat × Nat) (N : Nat) : Nat → Nat × Nat := kn (kng (kng K N 6 21) (N + 7) 7 31) (N + 16) (1, 6)
def rC_44 (R : Nat → Nat → Option Nat) (N a : Nat) : Nat → Nat → Option Nat := am_up (am_up (rng (am_up (rng R N 6) a 0 (some (N + 1))) (N + 7) 7) a 1 (some (N + 8))) a 2 (some (N + 16))
theorem nC_44 (hK : K a = (0, 5)) (haN : a ≤ N) (hN : N < 2000) : am_C G d 44 [.ref a] (mg N U K F R l) (nwP (mg (N + 16) (U + 362) (kC_44 K N) F (rC_44 R N a) l)) := by
  refine en_44 _ ?_
  refine am_run9 60 [] s44_0 ?_
  simp (disch := omega) only [w_lx0, w_lx1, w_lx2, w_ic, w_ldc_w, w_iconst, w_lconst, w_ldc2_w, w_ldc, w_iload, w_aload, w_lload, w_istore, w_astore, w_lstore, w_iinc, w_iadd, w_isub, w_imul, w_iand, w_ior, w_ixor, w_ishl, w_ishr, w_iushr, w_idiv, w_irem, w_ineg, w_i2l, w_lshl, w_lor, w_lsub, w_lcmp, w_dupa, w_dupb, w_pop, w_dup2, w_ifCond, w_if_icmp, w_goto, w_tableswitch, w_getfield, w_putfielda, w_putfieldb, w_putfieldc, w_iaload, w_baload, w_laload, w_aaload, w_iastore, w_bastore, w_lastore, w_aastore, w_arraylength, w_ireturn, w_lreturn, w_return, w_newx, w_obj, w_cpy, w_max, w_min, w_slen, w_sat, w_nil, w_nx, w_jws, w_jw0, ↓reduceIte, w_my0, w_my1, w_my2, w_gv0, w_gvs, w_cati, w_catr, w_catj, w_inc1, w_afn, w_afi, w_afl, w_afx, w_asn, w_asi, w_asl, w_asx, w_a0, List.set_cons_zero, List.set_cons_succ, List.contains_cons, List.contains_nil, Nat.reduceBEq, Bool.or_false, Bool.false_or, Bool.or_true, Bool.true_or, Nat.reduceAdd, Nat.reduceSub, Nat.reduceMul, Nat.reduceDiv, Nat.reduceMod, Nat.reduceLT, Nat.reduceLeDiff, Nat.reduceEqDiff, Nat.zero_le, List.length_cons, List.length_nil, Int.reduceLE, Int.reduceToNat, Int.reduceAdd, Int.reduceLT, decide_true, am_cp, am_cq, Option.some.injEq, exists_eq_left', true_and, and_true, if_true, if_false, ite_true, ite_false, not_false_eq_true, true_or, or_true, false_or, or_false, reduceCtorEq, false_implies, true_implies, implies_true, eq_self, Bool.false_eq_true, Bool.true_eq_false, not_true_eq_false, s44_0, rt_44, hh_44, w_new, w_newi, w_newz, w_newj, w_newa, g_kk, g_ii, g_rr, g_si, g_sr, kn_eq, kn_ne, am_up_eq, am_up_nc, am_up_nk, am_nf, Nat.add_assoc, hK, w_newg, kng_ne]
  exact ⟨rfl, rfl⟩
end GK
