/-! New things: memory that grows. -/
section GI
variable {G : am_G} {d j : Nat} {P : am_K} {cs : List Nat} {J : Nat → List Value → List Value → am_M → Prop} {is : List (Instr × Nat)} {pc : Nat} {L S : List Value} {N U a b k : Nat} {K : Nat → Nat × Nat} {F : Nat → Nat → Int32} {R : Nat → Nat → Option Nat} {l : Nat → Nat → Int64}
def mg (N U : Nat) (K : Nat → Nat × Nat) (F : Nat → Nat → Int32) (R : Nat → Nat → Option Nat) (l : Nat → Nat → Int64) : am_M := ((N, 0, U), K, F, R, l)
def kn (K : Nat → Nat × Nat) (a : Nat) (q : Nat × Nat) : Nat → Nat × Nat := fun x => if x = a then q else K x
theorem kn_eq {q : Nat × Nat} : kn K a q a = q := if_pos rfl
theorem kn_ne {q : Nat × Nat} {x : Nat} (h : ¬ x = a) : kn K a q x = K x := if_neg h
theorem g_kk (a : Nat) : kk (mg N U K F R l) a = K a := rfl
theorem g_ii (a k : Nat) : ii (mg N U K F R l) a k = F a k := rfl
theorem g_rr (a k : Nat) : rr (mg N U K F R l) a k = R a k := rfl
theorem g_si (a k : Nat) (v : Int32) : si (mg N U K F R l) a k v = mg N U K (am_up F a k v) R l := rfl
theorem g_sr (a k v : Nat) : sr (mg N U K F R l) a k v = mg N U K F (am_up R a k (some v)) l := rfl
theorem w_new (t : Nat) (ht : t < 12) (hN : N < 900000) : am_lw G d j P cs J ((.new t, 3) :: is) pc L S (mg N U K F R l) = am_nx G d j P cs J is (pc + 3) L (.ref (N + 1) :: S) (mg (N + 1) (U + am_nf t) (kn K (N + 1) (0, t)) F R l) := by
  have hs : am_st (.new t) pc 3 L S (mg N U K F R l) = some (pc + 3, L, .ref (N + 1) :: S, mg (N + 1) (U + am_nf t) (kn K (N + 1) (0, t)) F R l) := if_pos ⟨ht, rfl, hN⟩
  have e : am_lw G d j P cs J ((.new t, 3) :: is) pc L S (mg N U K F R l) = (if 100 ≤ t then am_hh j = [] ∧ S.length ≤ 4 ∧ P (.inr (am_exn t)) (am_gar (mg N U K F R l)) else match am_st (.new t) pc 3 L S (mg N U K F R l) with | some q => q.1 = pc + 3 ∧ am_nx G d j P cs J is (pc + 3) q.2.1 q.2.2.1 q.2.2.2 | none => False) := rfl
  rw [e, if_neg (by omega), hs]
  simp only [true_and]
theorem n_0 {n : Nat} (h : n ≤ 10000) : (0 : Int32) ≤ nI n ∧ (nI n).toNatClampNeg = n := by
  refine ⟨?_, nI_clamp (by omega)⟩
  show nI 0 ≤ nI n
  rw [t_le, t_nI (by omega), t_nI (by omega)]
  omega
theorem w_newi (n : Nat) (h : n ≤ 10000) (hN : N < 900000) : am_lw G d j P cs J ((.newarray .int, 2) :: is) pc L (.int (nI n) :: S) (mg N U K F R l) = am_nx G d j P cs J is (pc + 2) L (.ref (N + 1) :: S) (mg (N + 1) (U + n) (kn K (N + 1) (1, n)) F R l) := by
  obtain ⟨h0, hc⟩ := n_0 h
  have hs : am_st (.newarray .int) pc 2 L (.int (nI n) :: S) (mg N U K F R l) = some (pc + 2, L, .ref (N + 1) :: S, mg (N + 1) (U + (nI n).toNatClampNeg) (kn K (N + 1) (1, (nI n).toNatClampNeg)) F R l) := if_pos ⟨rfl, hN, h0, by rw [hc]; exact h⟩
  rw [hc] at hs
  have e : am_lw G d j P cs J ((.newarray .int, 2) :: is) pc L (.int (nI n) :: S) (mg N U K F R l) = (match am_st (.newarray .int) pc 2 L (.int (nI n) :: S) (mg N U K F R l) with | some q => q.1 = pc + 2 ∧ am_nx G d j P cs J is (pc + 2) q.2.1 q.2.2.1 q.2.2.2 | none => False) := rfl
  rw [e, hs]
  simp only [true_and]
theorem w_newz (n : Nat) (h : n ≤ 10000) (hN : N < 900000) : am_lw G d j P cs J ((.newarray .boolean, 2) :: is) pc L (.int (nI n) :: S) (mg N U K F R l) = am_nx G d j P cs J is (pc + 2) L (.ref (N + 1) :: S) (mg (N + 1) (U + n) (kn K (N + 1) (2, n)) F R l) := by
  obtain ⟨h0, hc⟩ := n_0 h
  have hs : am_st (.newarray .boolean) pc 2 L (.int (nI n) :: S) (mg N U K F R l) = some (pc + 2, L, .ref (N + 1) :: S, mg (N + 1) (U + (nI n).toNatClampNeg) (kn K (N + 1) (2, (nI n).toNatClampNeg)) F R l) := if_pos ⟨rfl, hN, h0, by rw [hc]; exact h⟩
  rw [hc] at hs
  have e : am_lw G d j P cs J ((.newarray .boolean, 2) :: is) pc L (.int (nI n) :: S) (mg N U K F R l) = (match am_st (.newarray .boolean) pc 2 L (.int (nI n) :: S) (mg N U K F R l) with | some q => q.1 = pc + 2 ∧ am_nx G d j P cs J is (pc + 2) q.2.1 q.2.2.1 q.2.2.2 | none => False) := rfl
  rw [e, hs]
  simp only [true_and]
theorem w_newj (n : Nat) (h : n ≤ 10000) (hN : N < 900000) : am_lw G d j P cs J ((.newarray .long, 2) :: is) pc L (.int (nI n) :: S) (mg N U K F R l) = am_nx G d j P cs J is (pc + 2) L (.ref (N + 1) :: S) (mg (N + 1) (U + n) (kn K (N + 1) (3, n)) F R l) := by
  obtain ⟨h0, hc⟩ := n_0 h
  have hs : am_st (.newarray .long) pc 2 L (.int (nI n) :: S) (mg N U K F R l) = some (pc + 2, L, .ref (N + 1) :: S, mg (N + 1) (U + (nI n).toNatClampNeg) (kn K (N + 1) (3, (nI n).toNatClampNeg)) F R l) := if_pos ⟨rfl, hN, h0, by rw [hc]; exact h⟩
  rw [hc] at hs
  have e : am_lw G d j P cs J ((.newarray .long, 2) :: is) pc L (.int (nI n) :: S) (mg N U K F R l) = (match am_st (.newarray .long) pc 2 L (.int (nI n) :: S) (mg N U K F R l) with | some q => q.1 = pc + 2 ∧ am_nx G d j P cs J is (pc + 2) q.2.1 q.2.2.1 q.2.2.2 | none => False) := rfl
  rw [e, hs]
  simp only [true_and]
theorem w_newa (t n : Nat) (h : n ≤ 10000) (hN : N < 900000) : am_lw G d j P cs J ((.anewarray t, 3) :: is) pc L (.int (nI n) :: S) (mg N U K F R l) = am_nx G d j P cs J is (pc + 3) L (.ref (N + 1) :: S) (mg (N + 1) (U + n) (kn K (N + 1) (4, n)) F R l) := by
  obtain ⟨h0, hc⟩ := n_0 h
  have hs : am_st (.anewarray t) pc 3 L (.int (nI n) :: S) (mg N U K F R l) = some (pc + 3, L, .ref (N + 1) :: S, mg (N + 1) (U + (nI n).toNatClampNeg) (kn K (N + 1) (4, (nI n).toNatClampNeg)) F R l) := if_pos ⟨rfl, hN, h0, by rw [hc]; exact h⟩
  rw [hc] at hs
  have e : am_lw G d j P cs J ((.anewarray t, 3) :: is) pc L (.int (nI n) :: S) (mg N U K F R l) = (match am_st (.anewarray t) pc 3 L (.int (nI n) :: S) (mg N U K F R l) with | some q => q.1 = pc + 3 ∧ am_nx G d j P cs J is (pc + 3) q.2.1 q.2.2.1 q.2.2.2 | none => False) := rfl
  rw [e, hs]
  simp only [true_and]
def nwP (M : am_M) : am_K := fun o M' => o = .inl none ∧ M' = M
theorem n_90 (hK : K a = (0, 9)) (haN : a ≤ N) (hN : N < 800000) : am_C G d 90 [.ref a] (mg N U K F R l) (nwP (mg (N + 1) (U + 700) (kn K (N + 1) (1, 700)) F (am_up R a 0 (some (N + 1))) l)) := by
  refine en_90 _ ?_
  refine am_run9 60 [] s90_0 ?_
  simp (disch := omega) only [w_lx0, w_lx1, w_lx2, w_ic, w_ldc_w, w_iconst, w_lconst, w_ldc2_w, w_ldc, w_iload, w_aload, w_lload, w_istore, w_astore, w_lstore, w_iinc, w_iadd, w_isub, w_imul, w_iand, w_ior, w_ixor, w_ishl, w_ishr, w_iushr, w_idiv, w_irem, w_ineg, w_i2l, w_lshl, w_lor, w_lsub, w_lcmp, w_dupa, w_dupb, w_pop, w_dup2, w_ifCond, w_if_icmp, w_goto, w_tableswitch, w_getfield, w_putfielda, w_putfieldb, w_putfieldc, w_iaload, w_baload, w_laload, w_aaload, w_iastore, w_bastore, w_lastore, w_aastore, w_arraylength, w_ireturn, w_lreturn, w_return, w_newx, w_obj, w_cpy, w_max, w_min, w_slen, w_sat, w_nil, w_nx, w_jws, w_jw0, ↓reduceIte, w_my0, w_my1, w_my2, w_gv0, w_gvs, w_cati, w_catr, w_catj, w_inc1, w_afn, w_afi, w_afl, w_afx, w_asn, w_asi, w_asl, w_asx, w_a0, List.set_cons_zero, List.set_cons_succ, List.contains_cons, List.contains_nil, Nat.reduceBEq, Bool.or_false, Bool.false_or, Bool.or_true, Bool.true_or, Nat.reduceAdd, Nat.reduceSub, Nat.reduceMul, Nat.reduceDiv, Nat.reduceMod, Nat.reduceLT, Nat.reduceLeDiff, Nat.reduceEqDiff, Nat.zero_le, List.length_cons, List.length_nil, Int.reduceLE, Int.reduceToNat, Int.reduceAdd, Int.reduceLT, decide_true, am_cp, am_cq, Option.some.injEq, exists_eq_left', true_and, and_true, if_true, if_false, ite_true, ite_false, not_false_eq_true, true_or, or_true, false_or, or_false, reduceCtorEq, false_implies, true_implies, implies_true, eq_self, Bool.false_eq_true, Bool.true_eq_false, not_true_eq_false, s90_0, rt_90, hh_90, w_new, w_newi, w_newz, w_newj, w_newa, g_kk, g_ii, g_rr, g_si, g_sr, kn_eq, kn_ne, am_up_eq, am_up_nc, am_up_nk, am_nf, Nat.add_assoc, hK]
  exact ⟨rfl, rfl⟩
end GI
