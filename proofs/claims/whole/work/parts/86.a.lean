/-! Rations: the class's table. -/
section EA
variable {G : am_G} {d : Nat} {e : Nat × Nat × Bool} {F F' F'' F0 : Nat → Nat → Int32} {l : Nat → Nat → Int64} {a b c r k ns : Nat} {x y : Int32} {M : am_M} {μ ν τ σ : Mu} {np nf nt nq N : Nat}
theorem r108 {sw : Bool} {k : Nat} (h : k < 6) : R0 sw 108 k = some (109 + k) := by
  have : k = 0 ∨ k = 1 ∨ k = 2 ∨ k = 3 ∨ k = 4 ∨ k = 5 := by omega
  rcases this with rfl | rfl | rfl | rfl | rfl | rfl <;> rfl
theorem r115 {sw : Bool} {k : Nat} (h : k < 7) : R0 sw 115 k = some (116 + k) := by
  have : k = 0 ∨ k = 1 ∨ k = 2 ∨ k = 3 ∨ k = 4 ∨ k = 5 ∨ k = 6 := by omega
  rcases this with rfl | rfl | rfl | rfl | rfl | rfl | rfl <;> rfl
theorem k109 {n k : Nat} (h : k < 6) : K0 n (109 + k) = (1, 21) := by
  have : k = 0 ∨ k = 1 ∨ k = 2 ∨ k = 3 ∨ k = 4 ∨ k = 5 := by omega
  rcases this with rfl | rfl | rfl | rfl | rfl | rfl <;> rfl
theorem k116 {n k : Nat} (h : k < 7) : K0 n (116 + k) = (1, 31) := by
  have : k = 0 ∨ k = 1 ∨ k = 2 ∨ k = 3 ∨ k = 4 ∨ k = 5 ∨ k = 6 := by omega
  rcases this with rfl | rfl | rfl | rfl | rfl | rfl | rfl <;> rfl
/-- what is left over, and what one more gives -/
def oS (w : Nat) (o : Option Nat) : Option Nat := match o with
  | some v => some (w + v)
  | none => none
def oX (o o' : Option Nat) : Option Nat := match o, o' with
  | none, o' => o'
  | some v, none => some v
  | some v, some v' => some (max v v')
def oB (o : Option Nat) (b : Nat) : Prop := ∀ v, o = some v → v ≤ b
/-- the most that some people recall who are given just so many grains -/
def mB (W : Nat → Nat) (m : Nat → Option Nat) (r : Nat) : Nat → Option Nat
  | 0 => none
  | x + 1 => oX (mB W m r x) (oS (W x) (m (r - x)))
def mX (r : Nat) : Nat := min 21 (r + 1)
def mL (W : Nat → Nat → Nat) (np : Nat) : Nat → Nat → Option Nat
  | 0, r => if r = 0 then some 0 else none
  | j + 1, r => mB (W (np - 1 - j)) (mL W np j) r (mX r)
theorem c_47 (p r x w : Nat) (o : Option Nat) (hp : p < 6) (hr : r ≤ 30) (hx : x ≤ 20) (hxr : x ≤ r) (h1 : F (116 + (p + 1)) (r - x) = oN o 0) (ho : oB o 600) (hw : F (109 + p) x = nI w) : am_C G d 47 [.ref 107, .int (nI p), .int (nI r), .int (nI x)] (mm e F l) (aP (mm e F l) (oN (oS w o) 0)) := by
  have a1 := r108 (sw := e.2.2) hp
  have a2 := r115 (sw := e.2.2) (k := p + 1) (by omega)
  have a3 := k109 (n := e.1) hp
  have a4 := k116 (n := e.1) (k := p + 1) (by omega)
  refine en_47 _ _ _ _ ?_
  cases o with
  | none =>
    have h1' : F (116 + (p + 1)) (r - x) = NO := h1
    refine am_run9 60 [] s47_0 ?_
    simp only [w_lx0, w_lx1, w_lx2, w_ic, w_ldc_w, w_iconst, w_lconst, w_ldc2_w, w_ldc, w_iload, w_aload, w_lload, w_istore, w_astore, w_lstore, w_iinc, w_iadd, w_isub, w_imul, w_iand, w_ior, w_ixor, w_ishl, w_ishr, w_iushr, w_idiv, w_irem, w_ineg, w_i2l, w_lshl, w_lor, w_lsub, w_lcmp, w_dupa, w_dupb, w_pop, w_dup2, w_ifCond, w_if_icmp, w_goto, w_tableswitch, w_getfield, w_putfielda, w_putfieldb, w_putfieldc, w_iaload, w_baload, w_laload, w_aaload, w_iastore, w_bastore, w_lastore, w_aastore, w_arraylength, w_ireturn, w_lreturn, w_return, w_newx, w_obj, w_cpy, w_max, w_min, w_slen, w_sat, w_nil, w_nx, w_jws, w_jw0, ↓reduceIte, w_my0, w_my1, w_my2, w_gv0, w_gvs, w_cati, w_catr, w_catj, w_inc1, w_afn, w_afi, w_afl, w_afx, w_asn, w_asi, w_asl, w_asx, w_a0, List.set_cons_zero, List.set_cons_succ, List.contains_cons, List.contains_nil, Nat.reduceBEq, Bool.or_false, Bool.false_or, Bool.or_true, Bool.true_or, Nat.reduceAdd, Nat.reduceSub, Nat.reduceMul, Nat.reduceDiv, Nat.reduceMod, Nat.reduceLT, Nat.reduceLeDiff, Nat.reduceEqDiff, Nat.zero_le, List.length_cons, List.length_nil, Int.reduceLE, Int.reduceToNat, Int.reduceAdd, Int.reduceLT, decide_true, am_cp, am_cq, m_kk, m_ii, m_rr, m_jj, m_si, m_sj, m_sc, Option.some.injEq, exists_eq_left', true_and, and_true, if_true, if_false, ite_true, ite_false, not_false_eq_true, true_or, or_true, false_or, or_false, reduceCtorEq, false_implies, true_implies, implies_true, eq_self, Bool.false_eq_true, Bool.true_eq_false, not_true_eq_false, s47_0, s47_24, s47_35, rt_47, hh_47, k_107, r_107_0, r_107_1, r_107_2, k_108, r_108_0, r_108_1, r_108_2, r_108_3, r_108_4, r_108_5, k_109, k_110, k_111, k_112, k_113, k_114, k_115, r_115_0, r_115_1, r_115_2, r_115_3, r_115_4, r_115_5, r_115_6, k_116, k_117, k_118, k_119, k_120, k_121, k_122, k_123, a1, a2, a3, a4, h1', hw]
    try simp (disch := omega) only [am_up_nc, am_up_eq, am_up_nk, nI_sub, w_dec, nI_pos9, nI_add, nI_mul, nI_ltI, nI_leI, nI_eq, nI_clamp, p_le, p_nle, p_lt, p_nlt, p_eq, p_ne, p_neq, p_neqf, p_lea, p_lta, p_nea, p_00, true_and, and_true, eq_self, not_true_eq_false, implies_true, true_implies, Nat.zero_add, Nat.not_lt_zero, false_implies, not_false_eq_true, Nat.reduceLeDiff, Nat.reduceLT, Nat.reduceEqDiff, Nat.reduceMul, Nat.reduceAdd, k_107, r_107_0, r_107_1, r_107_2, k_108, r_108_0, r_108_1, r_108_2, r_108_3, r_108_4, r_108_5, k_109, k_110, k_111, k_112, k_113, k_114, k_115, r_115_0, r_115_1, r_115_2, r_115_3, r_115_4, r_115_5, r_115_6, k_116, k_117, k_118, k_119, k_120, k_121, k_122, k_123, a1, a2, a3, a4, Option.some.injEq, exists_eq_left', true_or, h1', hw]
    exact aP_mk rfl
  | some v =>
    have hv := ho v rfl
    have h1' : F (116 + (p + 1)) (r - x) = nI v := h1
    have hne := nI_NO (x := v) (by omega)
    refine am_run9 60 [] s47_0 ?_
    simp only [w_lx0, w_lx1, w_lx2, w_ic, w_ldc_w, w_iconst, w_lconst, w_ldc2_w, w_ldc, w_iload, w_aload, w_lload, w_istore, w_astore, w_lstore, w_iinc, w_iadd, w_isub, w_imul, w_iand, w_ior, w_ixor, w_ishl, w_ishr, w_iushr, w_idiv, w_irem, w_ineg, w_i2l, w_lshl, w_lor, w_lsub, w_lcmp, w_dupa, w_dupb, w_pop, w_dup2, w_ifCond, w_if_icmp, w_goto, w_tableswitch, w_getfield, w_putfielda, w_putfieldb, w_putfieldc, w_iaload, w_baload, w_laload, w_aaload, w_iastore, w_bastore, w_lastore, w_aastore, w_arraylength, w_ireturn, w_lreturn, w_return, w_newx, w_obj, w_cpy, w_max, w_min, w_slen, w_sat, w_nil, w_nx, w_jws, w_jw0, ↓reduceIte, w_my0, w_my1, w_my2, w_gv0, w_gvs, w_cati, w_catr, w_catj, w_inc1, w_afn, w_afi, w_afl, w_afx, w_asn, w_asi, w_asl, w_asx, w_a0, List.set_cons_zero, List.set_cons_succ, List.contains_cons, List.contains_nil, Nat.reduceBEq, Bool.or_false, Bool.false_or, Bool.or_true, Bool.true_or, Nat.reduceAdd, Nat.reduceSub, Nat.reduceMul, Nat.reduceDiv, Nat.reduceMod, Nat.reduceLT, Nat.reduceLeDiff, Nat.reduceEqDiff, Nat.zero_le, List.length_cons, List.length_nil, Int.reduceLE, Int.reduceToNat, Int.reduceAdd, Int.reduceLT, decide_true, am_cp, am_cq, m_kk, m_ii, m_rr, m_jj, m_si, m_sj, m_sc, Option.some.injEq, exists_eq_left', true_and, and_true, if_true, if_false, ite_true, ite_false, not_false_eq_true, true_or, or_true, false_or, or_false, reduceCtorEq, false_implies, true_implies, implies_true, eq_self, Bool.false_eq_true, Bool.true_eq_false, not_true_eq_false, s47_0, s47_24, s47_35, rt_47, hh_47, k_107, r_107_0, r_107_1, r_107_2, k_108, r_108_0, r_108_1, r_108_2, r_108_3, r_108_4, r_108_5, k_109, k_110, k_111, k_112, k_113, k_114, k_115, r_115_0, r_115_1, r_115_2, r_115_3, r_115_4, r_115_5, r_115_6, k_116, k_117, k_118, k_119, k_120, k_121, k_122, k_123, a1, a2, a3, a4, h1', hw, hne]
    try simp (disch := omega) only [am_up_nc, am_up_eq, am_up_nk, nI_sub, w_dec, nI_pos9, nI_add, nI_mul, nI_ltI, nI_leI, nI_eq, nI_clamp, p_le, p_nle, p_lt, p_nlt, p_eq, p_ne, p_neq, p_neqf, p_lea, p_lta, p_nea, p_00, true_and, and_true, eq_self, not_true_eq_false, implies_true, true_implies, Nat.zero_add, Nat.not_lt_zero, false_implies, not_false_eq_true, Nat.reduceLeDiff, Nat.reduceLT, Nat.reduceEqDiff, Nat.reduceMul, Nat.reduceAdd, k_107, r_107_0, r_107_1, r_107_2, k_108, r_108_0, r_108_1, r_108_2, r_108_3, r_108_4, r_108_5, k_109, k_110, k_111, k_112, k_113, k_114, k_115, r_115_0, r_115_1, r_115_2, r_115_3, r_115_4, r_115_5, r_115_6, k_116, k_117, k_118, k_119, k_120, k_121, k_122, k_123, a1, a2, a3, a4, Option.some.injEq, exists_eq_left', true_or, h1', hw, hne]
    exact aP_mk rfl
theorem oX_B {o o' : Option Nat} {b : Nat} (h : oB o b) (h' : oB o' b) : oB (oX o o') b := by
  intro v hv
  unfold oX at hv
  cases o with
  | none => exact h' v hv
  | some u =>
    cases o' with
    | none => exact h v hv
    | some u' =>
      have h1 := h u rfl
      have h2 := h' u' rfl
      cases hv
      omega
theorem oS_B {o : Option Nat} {w b c : Nat} (h : oB o b) (hw : w ≤ c) : oB (oS w o) (c + b) := by
  intro v hv
  cases o with
  | none => cases hv
  | some u =>
    have := h u rfl
    cases hv
    omega
theorem mB_B {W : Nat → Nat} {m : Nat → Option Nat} {r b c : Nat} (h : ∀ y, y ≤ r → oB (m y) b) (n : Nat) (hn : n ≤ r + 1) (hw : ∀ x, x < n → W x ≤ c) : oB (mB W m r n) (c + b) := by
  induction n with
  | zero => intro v hv; cases hv
  | succ n ih => exact oX_B (ih (by omega) (fun x hx => hw x (by omega))) (oS_B (h _ (by omega)) (hw n (by omega)))
theorem oX_m {o o' : Option Nat} (h : oB o 700) (h' : oB o' 700) : am_mx (oN o 0) (oN o' 0) = oN (oX o o') 0 := by
  cases o with
  | none =>
    cases o' with
    | none => decide
    | some u' =>
      have h2 := h' u' rfl
      show am_mx NO (nI u') = nI u'
      have : ∀ u : Fin 701, am_mx NO (nI u.val) = nI u.val := by decide +kernel
      exact this ⟨u', by omega⟩
  | some u =>
    have h1 := h u rfl
    cases o' with
    | none =>
      show am_mx (nI u) NO = nI u
      have : ∀ u : Fin 701, am_mx (nI u.val) NO = nI u.val := by decide +kernel
      exact this ⟨u, by omega⟩
    | some u' =>
      have h2 := h' u' rfl
      show am_mx (nI u) (nI u') = nI (max u u')
      exact mx_n (by omega) (by omega)
theorem c_46 (p r : Nat) (m : Nat → Option Nat) (W : Nat → Nat) (hp : p < 6) (hr : r ≤ 30) (h1 : ∀ y, y ≤ r → F (116 + (p + 1)) y = oN (m y) 0 ∧ oB (m y) 500) (hw : ∀ x, x < 21 → x < r + 1 → F (109 + p) x = nI (W x) ∧ W x ≤ 90) (hd : 1 ≤ d) : am_C G d 46 [.ref 107, .int (nI p), .int (nI r)] (mm e F l) (aP (mm e F l) (oN (mB W m r (mX r)) 0)) := by
  have hX : mX r ≤ 21 ∧ mX r ≤ r + 1 := by unfold mX; omega
  refine en_46 _ _ _ ?_
  refine am_run9 60 [5] s46_0 ?_
  simp only [w_lx0, w_lx1, w_lx2, w_ic, w_ldc_w, w_iconst, w_lconst, w_ldc2_w, w_ldc, w_iload, w_aload, w_lload, w_istore, w_astore, w_lstore, w_iinc, w_iadd, w_isub, w_imul, w_iand, w_ior, w_ixor, w_ishl, w_ishr, w_iushr, w_idiv, w_irem, w_ineg, w_i2l, w_lshl, w_lor, w_lsub, w_lcmp, w_dupa, w_dupb, w_pop, w_dup2, w_ifCond, w_if_icmp, w_goto, w_tableswitch, w_getfield, w_putfielda, w_putfieldb, w_putfieldc, w_iaload, w_baload, w_laload, w_aaload, w_iastore, w_bastore, w_lastore, w_aastore, w_arraylength, w_ireturn, w_lreturn, w_return, w_newx, w_obj, w_cpy, w_max, w_min, w_slen, w_sat, w_nil, w_nx, w_jws, w_jw0, ↓reduceIte, w_my0, w_my1, w_my2, w_gv0, w_gvs, w_cati, w_catr, w_catj, w_inc1, w_afn, w_afi, w_afl, w_afx, w_asn, w_asi, w_asl, w_asx, w_a0, List.set_cons_zero, List.set_cons_succ, List.contains_cons, List.contains_nil, Nat.reduceBEq, Bool.or_false, Bool.false_or, Bool.or_true, Bool.true_or, Nat.reduceAdd, Nat.reduceSub, Nat.reduceMul, Nat.reduceDiv, Nat.reduceMod, Nat.reduceLT, Nat.reduceLeDiff, Nat.reduceEqDiff, Nat.zero_le, List.length_cons, List.length_nil, Int.reduceLE, Int.reduceToNat, Int.reduceAdd, Int.reduceLT, decide_true, am_cp, am_cq, m_kk, m_ii, m_rr, m_jj, m_si, m_sj, m_sc, Option.some.injEq, exists_eq_left', true_and, and_true, if_true, if_false, ite_true, ite_false, not_false_eq_true, true_or, or_true, false_or, or_false, reduceCtorEq, false_implies, true_implies, implies_true, eq_self, Bool.false_eq_true, Bool.true_eq_false, not_true_eq_false, s46_0, s46_5, s46_37, w_v47, cv_47, rt_46, hh_46, k_107, r_107_0, r_107_1, r_107_2, k_108, r_108_0, r_108_1, r_108_2, r_108_3, r_108_4, r_108_5, k_109, k_110, k_111, k_112, k_113, k_114, k_115, r_115_0, r_115_1, r_115_2, r_115_3, r_115_4, r_115_5, r_115_6, k_116, k_117, k_118, k_119, k_120, k_121, k_122, k_123]
  try simp (disch := omega) only [am_up_nc, am_up_eq, am_up_nk, nI_sub, w_dec, nI_pos9, nI_add, nI_mul, nI_ltI, nI_leI, nI_eq, nI_clamp, p_le, p_nle, p_lt, p_nlt, p_eq, p_ne, p_neq, p_neqf, p_lea, p_lta, p_nea, p_00, true_and, and_true, eq_self, not_true_eq_false, implies_true, true_implies, Nat.zero_add, Nat.not_lt_zero, false_implies, not_false_eq_true, Nat.reduceLeDiff, Nat.reduceLT, Nat.reduceEqDiff, Nat.reduceMul, Nat.reduceAdd, k_107, r_107_0, r_107_1, r_107_2, k_108, r_108_0, r_108_1, r_108_2, r_108_3, r_108_4, r_108_5, k_109, k_110, k_111, k_112, k_113, k_114, k_115, r_115_0, r_115_1, r_115_2, r_115_3, r_115_4, r_115_5, r_115_6, k_116, k_117, k_118, k_119, k_120, k_121, k_122, k_123]
  refine am_for (fun k L M => L = [.ref 107, .int (nI p), .int (nI r), .int (oN (mB W m r k) 0), .int (nI k)] ∧ M = mm e F l) (mX r) ?_ ?_ 0 _ _ (by omega) ⟨rfl, rfl⟩
  · rintro k _ _ hk ⟨rfl, rfl⟩ ih
    have hk1 : k < 21 := by omega
    have hk2 : k < r + 1 := by omega
    have hb : oB (mB W m r k) 590 := mB_B (c := 90) (b := 500) (fun y hy => (h1 y hy).2) k (by omega) (fun x hx => (hw x (by omega) (by omega)).2)
    have hb2 : oB (oS (W k) (m (r - k))) 590 := oS_B (c := 90) (b := 500) ((h1 _ (by omega)).2) (hw k hk1 hk2).2
    rw [mB] at ih
    generalize mB W m r k = o at ih hb
    refine am_run9 60 [5] s46_5 ?_
    simp only [w_lx0, w_lx1, w_lx2, w_ic, w_ldc_w, w_iconst, w_lconst, w_ldc2_w, w_ldc, w_iload, w_aload, w_lload, w_istore, w_astore, w_lstore, w_iinc, w_iadd, w_isub, w_imul, w_iand, w_ior, w_ixor, w_ishl, w_ishr, w_iushr, w_idiv, w_irem, w_ineg, w_i2l, w_lshl, w_lor, w_lsub, w_lcmp, w_dupa, w_dupb, w_pop, w_dup2, w_ifCond, w_if_icmp, w_goto, w_tableswitch, w_getfield, w_putfielda, w_putfieldb, w_putfieldc, w_iaload, w_baload, w_laload, w_aaload, w_iastore, w_bastore, w_lastore, w_aastore, w_arraylength, w_ireturn, w_lreturn, w_return, w_newx, w_obj, w_cpy, w_max, w_min, w_slen, w_sat, w_nil, w_nx, w_jws, w_jw0, ↓reduceIte, w_my0, w_my1, w_my2, w_gv0, w_gvs, w_cati, w_catr, w_catj, w_inc1, w_afn, w_afi, w_afl, w_afx, w_asn, w_asi, w_asl, w_asx, w_a0, List.set_cons_zero, List.set_cons_succ, List.contains_cons, List.contains_nil, Nat.reduceBEq, Bool.or_false, Bool.false_or, Bool.or_true, Bool.true_or, Nat.reduceAdd, Nat.reduceSub, Nat.reduceMul, Nat.reduceDiv, Nat.reduceMod, Nat.reduceLT, Nat.reduceLeDiff, Nat.reduceEqDiff, Nat.zero_le, List.length_cons, List.length_nil, Int.reduceLE, Int.reduceToNat, Int.reduceAdd, Int.reduceLT, decide_true, am_cp, am_cq, m_kk, m_ii, m_rr, m_jj, m_si, m_sj, m_sc, Option.some.injEq, exists_eq_left', true_and, and_true, if_true, if_false, ite_true, ite_false, not_false_eq_true, true_or, or_true, false_or, or_false, reduceCtorEq, false_implies, true_implies, implies_true, eq_self, Bool.false_eq_true, Bool.true_eq_false, not_true_eq_false, s46_0, s46_5, s46_37, w_v47, cv_47, rt_46, hh_46, k_107, r_107_0, r_107_1, r_107_2, k_108, r_108_0, r_108_1, r_108_2, r_108_3, r_108_4, r_108_5, k_109, k_110, k_111, k_112, k_113, k_114, k_115, r_115_0, r_115_1, r_115_2, r_115_3, r_115_4, r_115_5, r_115_6, k_116, k_117, k_118, k_119, k_120, k_121, k_122, k_123]
    try simp (disch := omega) only [am_up_nc, am_up_eq, am_up_nk, nI_sub, w_dec, nI_pos9, nI_add, nI_mul, nI_ltI, nI_leI, nI_eq, nI_clamp, p_le, p_nle, p_lt, p_nlt, p_eq, p_ne, p_neq, p_neqf, p_lea, p_lta, p_nea, p_00, true_and, and_true, eq_self, not_true_eq_false, implies_true, true_implies, Nat.zero_add, Nat.not_lt_zero, false_implies, not_false_eq_true, Nat.reduceLeDiff, Nat.reduceLT, Nat.reduceEqDiff, Nat.reduceMul, Nat.reduceAdd, k_107, r_107_0, r_107_1, r_107_2, k_108, r_108_0, r_108_1, r_108_2, r_108_3, r_108_4, r_108_5, k_109, k_110, k_111, k_112, k_113, k_114, k_115, r_115_0, r_115_1, r_115_2, r_115_3, r_115_4, r_115_5, r_115_6, k_116, k_117, k_118, k_119, k_120, k_121, k_122, k_123]
    refine (c_47 p r k (W k) (m (r - k)) hp hr (by omega) (by omega) (h1 _ (by omega)).1 (fun v hv => by have := (h1 (r - k) (by omega)).2 v hv; omega) (hw k hk1 hk2).1).mono ?_
    rintro _ _ ⟨rfl, rfl⟩
    simp only [w_lx0, w_lx1, w_lx2, w_ic, w_ldc_w, w_iconst, w_lconst, w_ldc2_w, w_ldc, w_iload, w_aload, w_lload, w_istore, w_astore, w_lstore, w_iinc, w_iadd, w_isub, w_imul, w_iand, w_ior, w_ixor, w_ishl, w_ishr, w_iushr, w_idiv, w_irem, w_ineg, w_i2l, w_lshl, w_lor, w_lsub, w_lcmp, w_dupa, w_dupb, w_pop, w_dup2, w_ifCond, w_if_icmp, w_goto, w_tableswitch, w_getfield, w_putfielda, w_putfieldb, w_putfieldc, w_iaload, w_baload, w_laload, w_aaload, w_iastore, w_bastore, w_lastore, w_aastore, w_arraylength, w_ireturn, w_lreturn, w_return, w_newx, w_obj, w_cpy, w_max, w_min, w_slen, w_sat, w_nil, w_nx, w_jws, w_jw0, ↓reduceIte, w_my0, w_my1, w_my2, w_gv0, w_gvs, w_cati, w_catr, w_catj, w_inc1, w_afn, w_afi, w_afl, w_afx, w_asn, w_asi, w_asl, w_asx, w_a0, List.set_cons_zero, List.set_cons_succ, List.contains_cons, List.contains_nil, Nat.reduceBEq, Bool.or_false, Bool.false_or, Bool.or_true, Bool.true_or, Nat.reduceAdd, Nat.reduceSub, Nat.reduceMul, Nat.reduceDiv, Nat.reduceMod, Nat.reduceLT, Nat.reduceLeDiff, Nat.reduceEqDiff, Nat.zero_le, List.length_cons, List.length_nil, Int.reduceLE, Int.reduceToNat, Int.reduceAdd, Int.reduceLT, decide_true, am_cp, am_cq, m_kk, m_ii, m_rr, m_jj, m_si, m_sj, m_sc, Option.some.injEq, exists_eq_left', true_and, and_true, if_true, if_false, ite_true, ite_false, not_false_eq_true, true_or, or_true, false_or, or_false, reduceCtorEq, false_implies, true_implies, implies_true, eq_self, Bool.false_eq_true, Bool.true_eq_false, not_true_eq_false, s46_0, s46_5, s46_37, w_v47, cv_47, rt_46, hh_46, k_107, r_107_0, r_107_1, r_107_2, k_108, r_108_0, r_108_1, r_108_2, r_108_3, r_108_4, r_108_5, k_109, k_110, k_111, k_112, k_113, k_114, k_115, r_115_0, r_115_1, r_115_2, r_115_3, r_115_4, r_115_5, r_115_6, k_116, k_117, k_118, k_119, k_120, k_121, k_122, k_123]
    try simp (disch := omega) only [am_up_nc, am_up_eq, am_up_nk, nI_sub, w_dec, nI_pos9, nI_add, nI_mul, nI_ltI, nI_leI, nI_eq, nI_clamp, p_le, p_nle, p_lt, p_nlt, p_eq, p_ne, p_neq, p_neqf, p_lea, p_lta, p_nea, p_00, true_and, and_true, eq_self, not_true_eq_false, implies_true, true_implies, Nat.zero_add, Nat.not_lt_zero, false_implies, not_false_eq_true, Nat.reduceLeDiff, Nat.reduceLT, Nat.reduceEqDiff, Nat.reduceMul, Nat.reduceAdd, k_107, r_107_0, r_107_1, r_107_2, k_108, r_108_0, r_108_1, r_108_2, r_108_3, r_108_4, r_108_5, k_109, k_110, k_111, k_112, k_113, k_114, k_115, r_115_0, r_115_1, r_115_2, r_115_3, r_115_4, r_115_5, r_115_6, k_116, k_117, k_118, k_119, k_120, k_121, k_122, k_123]
    rw [oX_m (fun v hv => by have := hb v hv; omega) (fun v hv => by have := hb2 v hv; omega)]
    exact ih _ _ ⟨rfl, rfl⟩
  · rintro _ _ ⟨rfl, rfl⟩
    have : mX r = 21 ∨ mX r = r + 1 := by unfold mX; omega
    by_cases c1 : mX r ≤ 20
    · have c2 : mX r = r + 1 := by omega
      rw [c2] at c1 ⊢
      refine am_run9 60 [5] s46_5 ?_
      simp only [w_lx0, w_lx1, w_lx2, w_ic, w_ldc_w, w_iconst, w_lconst, w_ldc2_w, w_ldc, w_iload, w_aload, w_lload, w_istore, w_astore, w_lstore, w_iinc, w_iadd, w_isub, w_imul, w_iand, w_ior, w_ixor, w_ishl, w_ishr, w_iushr, w_idiv, w_irem, w_ineg, w_i2l, w_lshl, w_lor, w_lsub, w_lcmp, w_dupa, w_dupb, w_pop, w_dup2, w_ifCond, w_if_icmp, w_goto, w_tableswitch, w_getfield, w_putfielda, w_putfieldb, w_putfieldc, w_iaload, w_baload, w_laload, w_aaload, w_iastore, w_bastore, w_lastore, w_aastore, w_arraylength, w_ireturn, w_lreturn, w_return, w_newx, w_obj, w_cpy, w_max, w_min, w_slen, w_sat, w_nil, w_nx, w_jws, w_jw0, ↓reduceIte, w_my0, w_my1, w_my2, w_gv0, w_gvs, w_cati, w_catr, w_catj, w_inc1, w_afn, w_afi, w_afl, w_afx, w_asn, w_asi, w_asl, w_asx, w_a0, List.set_cons_zero, List.set_cons_succ, List.contains_cons, List.contains_nil, Nat.reduceBEq, Bool.or_false, Bool.false_or, Bool.or_true, Bool.true_or, Nat.reduceAdd, Nat.reduceSub, Nat.reduceMul, Nat.reduceDiv, Nat.reduceMod, Nat.reduceLT, Nat.reduceLeDiff, Nat.reduceEqDiff, Nat.zero_le, List.length_cons, List.length_nil, Int.reduceLE, Int.reduceToNat, Int.reduceAdd, Int.reduceLT, decide_true, am_cp, am_cq, m_kk, m_ii, m_rr, m_jj, m_si, m_sj, m_sc, Option.some.injEq, exists_eq_left', true_and, and_true, if_true, if_false, ite_true, ite_false, not_false_eq_true, true_or, or_true, false_or, or_false, reduceCtorEq, false_implies, true_implies, implies_true, eq_self, Bool.false_eq_true, Bool.true_eq_false, not_true_eq_false, s46_0, s46_5, s46_37, w_v47, cv_47, rt_46, hh_46, k_107, r_107_0, r_107_1, r_107_2, k_108, r_108_0, r_108_1, r_108_2, r_108_3, r_108_4, r_108_5, k_109, k_110, k_111, k_112, k_113, k_114, k_115, r_115_0, r_115_1, r_115_2, r_115_3, r_115_4, r_115_5, r_115_6, k_116, k_117, k_118, k_119, k_120, k_121, k_122, k_123]
      try simp (disch := omega) only [am_up_nc, am_up_eq, am_up_nk, nI_sub, w_dec, nI_pos9, nI_add, nI_mul, nI_ltI, nI_leI, nI_eq, nI_clamp, p_le, p_nle, p_lt, p_nlt, p_eq, p_ne, p_neq, p_neqf, p_lea, p_lta, p_nea, p_00, true_and, and_true, eq_self, not_true_eq_false, implies_true, true_implies, Nat.zero_add, Nat.not_lt_zero, false_implies, not_false_eq_true, Nat.reduceLeDiff, Nat.reduceLT, Nat.reduceEqDiff, Nat.reduceMul, Nat.reduceAdd, k_107, r_107_0, r_107_1, r_107_2, k_108, r_108_0, r_108_1, r_108_2, r_108_3, r_108_4, r_108_5, k_109, k_110, k_111, k_112, k_113, k_114, k_115, r_115_0, r_115_1, r_115_2, r_115_3, r_115_4, r_115_5, r_115_6, k_116, k_117, k_118, k_119, k_120, k_121, k_122, k_123]
      exact aP_mk rfl
    · have c2 : mX r = 21 := by omega
      rw [c2]
      refine am_run9 60 [5] s46_5 ?_
      simp only [w_lx0, w_lx1, w_lx2, w_ic, w_ldc_w, w_iconst, w_lconst, w_ldc2_w, w_ldc, w_iload, w_aload, w_lload, w_istore, w_astore, w_lstore, w_iinc, w_iadd, w_isub, w_imul, w_iand, w_ior, w_ixor, w_ishl, w_ishr, w_iushr, w_idiv, w_irem, w_ineg, w_i2l, w_lshl, w_lor, w_lsub, w_lcmp, w_dupa, w_dupb, w_pop, w_dup2, w_ifCond, w_if_icmp, w_goto, w_tableswitch, w_getfield, w_putfielda, w_putfieldb, w_putfieldc, w_iaload, w_baload, w_laload, w_aaload, w_iastore, w_bastore, w_lastore, w_aastore, w_arraylength, w_ireturn, w_lreturn, w_return, w_newx, w_obj, w_cpy, w_max, w_min, w_slen, w_sat, w_nil, w_nx, w_jws, w_jw0, ↓reduceIte, w_my0, w_my1, w_my2, w_gv0, w_gvs, w_cati, w_catr, w_catj, w_inc1, w_afn, w_afi, w_afl, w_afx, w_asn, w_asi, w_asl, w_asx, w_a0, List.set_cons_zero, List.set_cons_succ, List.contains_cons, List.contains_nil, Nat.reduceBEq, Bool.or_false, Bool.false_or, Bool.or_true, Bool.true_or, Nat.reduceAdd, Nat.reduceSub, Nat.reduceMul, Nat.reduceDiv, Nat.reduceMod, Nat.reduceLT, Nat.reduceLeDiff, Nat.reduceEqDiff, Nat.zero_le, List.length_cons, List.length_nil, Int.reduceLE, Int.reduceToNat, Int.reduceAdd, Int.reduceLT, decide_true, am_cp, am_cq, m_kk, m_ii, m_rr, m_jj, m_si, m_sj, m_sc, Option.some.injEq, exists_eq_left', true_and, and_true, if_true, if_false, ite_true, ite_false, not_false_eq_true, true_or, or_true, false_or, or_false, reduceCtorEq, false_implies, true_implies, implies_true, eq_self, Bool.false_eq_true, Bool.true_eq_false, not_true_eq_false, s46_0, s46_5, s46_37, w_v47, cv_47, rt_46, hh_46, k_107, r_107_0, r_107_1, r_107_2, k_108, r_108_0, r_108_1, r_108_2, r_108_3, r_108_4, r_108_5, k_109, k_110, k_111, k_112, k_113, k_114, k_115, r_115_0, r_115_1, r_115_2, r_115_3, r_115_4, r_115_5, r_115_6, k_116, k_117, k_118, k_119, k_120, k_121, k_122, k_123]
      try simp (disch := omega) only [am_up_nc, am_up_eq, am_up_nk, nI_sub, w_dec, nI_pos9, nI_add, nI_mul, nI_ltI, nI_leI, nI_eq, nI_clamp, p_le, p_nle, p_lt, p_nlt, p_eq, p_ne, p_neq, p_neqf, p_lea, p_lta, p_nea, p_00, true_and, and_true, eq_self, not_true_eq_false, implies_true, true_implies, Nat.zero_add, Nat.not_lt_zero, false_implies, not_false_eq_true, Nat.reduceLeDiff, Nat.reduceLT, Nat.reduceEqDiff, Nat.reduceMul, Nat.reduceAdd, k_107, r_107_0, r_107_1, r_107_2, k_108, r_108_0, r_108_1, r_108_2, r_108_3, r_108_4, r_108_5, k_109, k_110, k_111, k_112, k_113, k_114, k_115, r_115_0, r_115_1, r_115_2, r_115_3, r_115_4, r_115_5, r_115_6, k_116, k_117, k_118, k_119, k_120, k_121, k_122, k_123]
      exact aP_mk rfl
theorem mB_hit {W : Nat → Nat} {m : Nat → Option Nat} {r v : Nat} {n : Nat} (h : mB W m r n = some v) : ∃ x, x < n ∧ oS (W x) (m (r - x)) = some v := by
  induction n with
  | zero => cases h
  | succ n ih =>
    rw [mB] at h
    cases h1 : mB W m r n with
    | none => rw [h1] at h; exact ⟨n, by omega, h⟩
    | some u =>
      cases h2 : oS (W n) (m (r - n)) with
      | none =>
        rw [h1, h2] at h
        obtain ⟨x, hx, hx2⟩ := ih (h1.trans h)
        exact ⟨x, by omega, hx2⟩
      | some u' =>
        rw [h1, h2] at h
        have hm : max u u' = v := Option.some.inj h
        by_cases hc : u ≤ u'
        · exact ⟨n, by omega, by rw [h2]; congr 1; omega⟩
        · obtain ⟨x, hx, hx2⟩ := ih (by rw [h1]; congr 1; omega)
          exact ⟨x, by omega, hx2⟩
/-- whether so many grains for one go with the most -/
def gH (W : Nat → Nat → Nat) (np p r x : Nat) : Bool := decide (oS (W p x) (mL W np (np - (p + 1)) (r - x)) = mL W np (np - p) r)
def gX (W : Nat → Nat → Nat) (np p r : Nat) : Nat := (ff (gH W np p r) (mX r)).getD 0
theorem gX_p {W : Nat → Nat → Nat} {np p r : Nat} (hp : p < np) (h : ¬ mL W np (np - p) r = none) : gX W np p r < mX r ∧ gH W np p r (gX W np p r) = true ∧ (∀ i, i < gX W np p r → gH W np p r i = false) := by
  obtain ⟨j, hj⟩ : ∃ j, np - p = j + 1 := ⟨np - p - 1, by omega⟩
  cases hm : mL W np (np - p) r with
  | none => exact absurd hm h
  | some v =>
    have hm' := hm
    rw [hj, mL] at hm'
    obtain ⟨x, hx, hx2⟩ := mB_hit hm'
    have e1 : np - 1 - j = p := by omega
    have e2 : j = np - (p + 1) := by omega
    rw [e1, e2] at hx2
    have hh : gH W np p r x = true := decide_eq_true (hx2.trans hm.symm)
    unfold gX
    cases hf : ff (gH W np p r) (mX r) with
    | none => exact absurd hf (ff_hit2 hx hh)
    | some y =>
      obtain ⟨h1, h2⟩ := ff_lt hf
      exact ⟨h1, h2, ff_min hf⟩
def gL (W : Nat → Nat → Nat) (np u : Nat) : Nat → Nat
  | 0 => u
  | p + 1 => gL W np u p - gX W np p (gL W np u p)
theorem gL_p {W : Nat → Nat → Nat} {np u : Nat} (h : ¬ mL W np np u = none) (p : Nat) (hp : p ≤ np) : gL W np u p ≤ u ∧ ¬ mL W np (np - p) (gL W np u p) = none := by
  induction p with
  | zero => exact ⟨Nat.le_refl _, h⟩
  | succ p ih =>
    obtain ⟨h1, h2⟩ := ih (by omega)
    obtain ⟨h3, h4, -⟩ := gX_p (by omega) h2
    rw [gL]
    refine ⟨by omega, fun h5 => h2 ?_⟩
    have h6 := of_decide_eq_true h4
    rw [h5] at h6
    exact h6.symm
end EA
