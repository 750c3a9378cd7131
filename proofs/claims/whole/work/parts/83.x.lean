/-! Bits below 2^21: how many, and the first. -/
section DX
variable {G : am_G} {d : Nat} {M : am_M}
theorem us_k {x k : Nat} (hx : x < 2147483648) (hk : k = 1 ∨ k = 2 ∨ k = 4 ∨ k = 8 ∨ k = 16) : am_ushr (nI x) (nI k) = nI (x / 2 ^ k) := by
  have e : ((nI k).toUInt32 &&& Int32.toUInt32 31) = UInt32.ofNat k := by rcases hk with rfl | rfl | rfl | rfl | rfl <;> decide
  unfold am_ushr
  rw [e]
  apply Int32.toBitVec_inj.mp
  show (BitVec.ofNat 32 x >>> (BitVec.ofNat 32 k % 32#32)) = BitVec.ofNat 32 (x / 2 ^ k)
  have e2 : BitVec.ofNat 32 k % 32#32 = BitVec.ofNat 32 k := by rcases hk with rfl | rfl | rfl | rfl | rfl <;> decide
  rw [e2]
  apply BitVec.eq_of_toNat_eq
  have hk2 : k < 32 := by omega
  have h1 : x / 2 ^ k ≤ x := Nat.div_le_self _ _
  have h2 : x % 4294967296 = x := Nat.mod_eq_of_lt (by omega)
  have h3 : k % 4294967296 = k := Nat.mod_eq_of_lt (by omega)
  have h4 : (x / 2 ^ k) % 4294967296 = x / 2 ^ k := Nat.mod_eq_of_lt (by omega)
  rw [BitVec.ushiftRight_eq', BitVec.toNat_ushiftRight, BitVec.toNat_ofNat, BitVec.toNat_ofNat, BitVec.toNat_ofNat]
  show (x % 4294967296) >>> (k % 4294967296) = (x / 2 ^ k) % 4294967296
  rw [h2, h3, h4, Nat.shiftRight_eq_div_pow]
theorem an_256 {a m b n : Nat} (ha : a < 256) (hm : m < 256) : (a + 256 * b) &&& (m + 256 * n) = (a &&& m) + 256 * (b &&& n) := by
  have ham : a &&& m < 2 ^ 8 := Nat.and_lt_two_pow _ (n := 8) hm
  apply Nat.eq_of_testBit_eq
  intro i
  have r : ∀ u v : Nat, u < 2 ^ 8 → (u + 256 * v).testBit i = if i < 8 then u.testBit i else v.testBit (i - 8) := by
    intro u v hu
    rw [Nat.add_comm, show (256 : Nat) = 2 ^ 8 from rfl, Nat.testBit_two_pow_mul_add _ hu]
  rw [Nat.testBit_and, r _ _ ha, r _ _ hm, r _ _ ham, Nat.testBit_and, Nat.testBit_and]
  split <;> rfl
def f1 (a : Nat) : Nat := a - (a / 2 &&& 85)
def f2 (a : Nat) : Nat := (a &&& 51) + (a / 4 &&& 51)
def f3 (a : Nat) : Nat := (a + a / 16) &&& 15
set_option maxRecDepth 20000 in
theorem f1_f : ∀ a : Fin 256, (∀ c : Fin 2, (a.val / 2 + 128 * c.val) &&& 85 = a.val / 2 &&& 85) ∧ (a.val / 2 &&& 85) ≤ a.val ∧ f1 a.val < 256 := by decide +kernel
set_option maxRecDepth 20000 in
theorem f2_f : ∀ a : Fin 256, (∀ c : Fin 4, (a.val / 4 + 64 * c.val) &&& 51 = a.val / 4 &&& 51) ∧ f2 a.val < 256 := by decide +kernel
set_option maxRecDepth 20000 in
theorem f3_f : ∀ a : Fin 256, f3 (f2 (f1 a.val)) = ct (fun i => a.val.testBit i) 8 ∧ (f2 (f1 a.val) + f2 (f1 a.val) / 16 + 240 < 512) ∧ f2 (f1 a.val) + f2 (f1 a.val) / 16 < 256 ∧ f2 (f1 a.val) % 16 ≤ 4 ∧ f2 (f1 a.val) / 16 ≤ 4 := by decide +kernel
theorem s1 {a b n : Nat} (ha : a < 256) (hb : b / 2 &&& n ≤ b) : (a + 256 * b) - ((a + 256 * b) / 2 &&& (85 + 256 * n)) = f1 a + 256 * (b - (b / 2 &&& n)) := by
  obtain ⟨h1, h2, h3⟩ := f1_f ⟨a, ha⟩
  have h1' := h1 ⟨b % 2, by omega⟩
  have e : (a + 256 * b) / 2 = (a / 2 + 128 * (b % 2)) + 256 * (b / 2) := by omega
  rw [e, an_256 (by omega) (by decide), h1']
  unfold f1
  have h2' : (a / 2 &&& 85) ≤ a := h2
  generalize (a / 2 &&& 85) = u at h2'
  generalize (b / 2 &&& n) = v at hb
  omega
theorem s2 {a b n : Nat} (ha : a < 256) : ((a + 256 * b) &&& (51 + 256 * n)) + ((a + 256 * b) / 4 &&& (51 + 256 * n)) = f2 a + 256 * ((b &&& n) + (b / 4 &&& n)) := by
  obtain ⟨h1, h2⟩ := f2_f ⟨a, ha⟩
  have h1' : (a / 4 + 64 * (b % 4)) &&& 51 = a / 4 &&& 51 := h1 ⟨b % 4, by omega⟩
  have e : (a + 256 * b) / 4 = (a / 4 + 64 * (b % 4)) + 256 * (b / 4) := by omega
  rw [e, an_256 ha (by decide), an_256 (a := a / 4 + 64 * (b % 4)) (by omega) (by decide), h1']
  unfold f2
  omega
set_option maxRecDepth 20000 in
theorem s3a : ∀ u : Fin 5, ∀ v : Fin 5, ∀ c : Fin 5, ((u.val + 16 * v.val) + (v.val + 16 * c.val)) &&& 15 = f3 (u.val + 16 * v.val) := by decide +kernel
theorem s3 {a b n : Nat} (h1 : a % 16 ≤ 4) (h2 : a / 16 ≤ 4) (h3 : b % 16 ≤ 4) : ((a + 256 * b) + (a + 256 * b) / 16) &&& (15 + 256 * n) = f3 a + 256 * ((b + b / 16) &&& n) := by
  have e : (a + 256 * b) + (a + 256 * b) / 16 = ((a % 16 + 16 * (a / 16)) + (a / 16 + 16 * (b % 16))) + 256 * (b + b / 16) := by omega
  have := s3a ⟨a % 16, by omega⟩ ⟨a / 16, by omega⟩ ⟨b % 16, by omega⟩
  rw [e, an_256 (by omega) (by decide), this]
  show f3 (a % 16 + 16 * (a / 16)) + _ = _
  rw [Nat.mod_add_div]
theorem hl_le {y n : Nat} : (y / 2 &&& n) ≤ y := Nat.le_trans Nat.and_le_left (Nat.div_le_self _ _)
set_option maxRecDepth 20000 in
theorem f_32 : ∀ a : Fin 32, a.val - (a.val / 2 &&& 21845) = f1 a.val ∧ (f1 a.val &&& 13107) + (f1 a.val / 4 &&& 13107) = f2 (f1 a.val) ∧ (f2 (f1 a.val) + f2 (f1 a.val) / 16) &&& 3855 = f3 (f2 (f1 a.val)) := by decide +kernel
theorem bc_n1 {x : Nat} (hx : x < 2147483648) : bc1 (nI x) = nI (x - (x / 2 &&& 1431655765)) := by
  unfold bc1
  rw [us_k hx (Or.inl rfl), nI_and, nI_sub hl_le]
theorem bc_n2 {x : Nat} (hx : x < 2147483648) : bc2 (nI x) = nI ((x &&& 858993459) + (x / 4 &&& 858993459)) := by
  unfold bc2
  rw [us_k hx (Or.inr (Or.inl rfl)), nI_and, nI_and, nI_add]
theorem bc_n3 {x : Nat} (hx : x < 2147483648) : bc3 (nI x) = nI ((x + x / 16) &&& 252645135) := by
  unfold bc3
  rw [us_k hx (Or.inr (Or.inr (Or.inl rfl))), nI_add, nI_and]
theorem bc_n4 {x : Nat} (hx : x < 2147483648) : bc4 (nI x) = nI (x + x / 256) := by
  unfold bc4
  rw [us_k hx (Or.inr (Or.inr (Or.inr (Or.inl rfl)))), nI_add]
theorem bc_n5 {x : Nat} (hx : x < 2147483648) : bc5 (nI x) = nI ((x + x / 65536) &&& 63) := by
  unfold bc5
  rw [us_k hx (Or.inr (Or.inr (Or.inr (Or.inr rfl)))), nI_add, nI_and]
theorem ct_add (q : Nat → Bool) (n m : Nat) : ct q (n + m) = ct q n + ct (fun i => q (n + i)) m := by
  induction m with
  | zero => rfl
  | succ m ih => rw [← Nat.add_assoc, ct, ih, ct, Nat.add_assoc]
theorem ct_md {x : Nat} : ct (fun i => x.testBit i) 8 = ct (fun i => (x % 256).testBit i) 8 := ct_congr (fun i hi => by
  show x.testBit i = (x % 2 ^ 8).testBit i
  rw [Nat.testBit_mod_two_pow]; simp [hi])
theorem ct_dv {x m : Nat} : ct (fun i => x.testBit i) (8 + m) = ct (fun i => (x % 256).testBit i) 8 + ct (fun i => (x / 256).testBit i) m := by
  rw [ct_add, ct_md]
  congr 1
  exact ct_congr (fun i hi => by rw [Nat.add_comm, Nat.testBit_add])
theorem bc_21 {x : Nat} (hx : x < 2097152) : bc5 (bc4 (bc3 (bc2 (bc1 (nI x))))) = nI (ct (fun i => x.testBit i) 21) := by
  have hct : ct (fun i => x.testBit i) 21 = ct (fun i => (x % 256).testBit i) 8 + (ct (fun i => (x / 256 % 256).testBit i) 8 + ct (fun i => (x / 256 / 256).testBit i) 8) := by
    rw [← ct_dv, ← ct_dv]
    refine (ct_ext (n := 21) (m := 24) (by omega) (fun i h1 h2 => ?_)).symm
    exact Nat.testBit_lt_two_pow (Nat.lt_of_lt_of_le hx (show 2 ^ 21 ≤ 2 ^ i from Nat.pow_le_pow_right (by decide) h1))
  rw [hct]
  have h0 : x % 256 < 256 := by omega
  have h1 : x / 256 % 256 < 256 := by omega
  have h2 : x / 256 / 256 < 32 := by omega
  have ex : x = x % 256 + 256 * (x / 256 % 256 + 256 * (x / 256 / 256)) := by omega
  generalize x % 256 = b0 at h0 ex
  generalize x / 256 % 256 = b1 at h1 ex
  generalize x / 256 / 256 = b2 at h2 ex
  subst ex
  obtain ⟨-, -, a1⟩ := f1_f ⟨b0, h0⟩
  obtain ⟨-, -, a2⟩ := f1_f ⟨b1, h1⟩
  obtain ⟨-, -, a3⟩ := f1_f ⟨b2, by omega⟩
  obtain ⟨-, c1⟩ := f2_f ⟨f1 b0, a1⟩
  obtain ⟨-, c2⟩ := f2_f ⟨f1 b1, a2⟩
  obtain ⟨-, c3⟩ := f2_f ⟨f1 b2, a3⟩
  obtain ⟨u1, -, -, p1, q1⟩ := f3_f ⟨b0, h0⟩
  obtain ⟨u2, -, -, p2, q2⟩ := f3_f ⟨b1, h1⟩
  obtain ⟨u3, -, -, p3, q3⟩ := f3_f ⟨b2, by omega⟩
  obtain ⟨w1, w2, w3⟩ := f_32 ⟨b2, h2⟩
  simp only at a1 a2 a3 c1 c2 c3 u1 u2 u3 p1 p2 p3 q1 q2 q3 w1 w2 w3
  have k1 := ct_le (fun i => b0.testBit i) 8
  have k2 := ct_le (fun i => b1.testBit i) 8
  have k3 := ct_le (fun i => b2.testBit i) 8
  rw [bc_n1 (by omega), show (1431655765 : Nat) = 85 + 256 * 5592405 from rfl, s1 h0 hl_le, show (5592405 : Nat) = 85 + 256 * 21845 from rfl, s1 h1 hl_le, w1]
  rw [bc_n2 (by omega), show (858993459 : Nat) = 51 + 256 * 3355443 from rfl, s2 a1, show (3355443 : Nat) = 51 + 256 * 13107 from rfl, s2 a2, w2]
  rw [bc_n3 (by omega), show (252645135 : Nat) = 15 + 256 * 986895 from rfl, s3 p1 q1 (by omega), show (986895 : Nat) = 15 + 256 * 3855 from rfl, s3 p2 q2 p3, w3, u1, u2, u3]
  generalize ct (fun i => b0.testBit i) 8 = n0 at k1
  generalize ct (fun i => b1.testBit i) 8 = n1 at k2
  generalize ct (fun i => b2.testBit i) 8 = n2 at k3
  clear hct w1 w2 w3 u1 u2 u3
  have v1 : (n0 + 256 * (n1 + 256 * n2)) / 256 = n1 + 256 * n2 := by omega
  have v2 : (n0 + 256 * (n1 + 256 * n2) + (n1 + 256 * n2)) / 65536 = n2 := by omega
  rw [bc_n4 (by omega), v1, bc_n5 (by omega), v2]
  refine congrArg nI ?_
  rw [show (63 : Nat) = 2 ^ 6 - 1 from rfl, Nat.and_two_pow_sub_one_eq_mod]
  omega
theorem c_268c (q : Nat → Bool) : am_C G d 268 [.int (nI (bs q 21))] M (aP M (nI (ct q 21))) := by
  refine en_268 _ ?_
  refine am_run9 60 [] s268_0 ?_
  simp only [w_lx0, w_lx1, w_lx2, w_ic, w_ldc_w, w_iconst, w_lconst, w_ldc2_w, w_ldc, w_iload, w_aload, w_lload, w_istore, w_astore, w_lstore, w_iinc, w_iadd, w_isub, w_imul, w_iand, w_ior, w_ixor, w_ishl, w_ishr, w_iushr, w_idiv, w_irem, w_ineg, w_i2l, w_lshl, w_lor, w_lsub, w_lcmp, w_dupa, w_dupb, w_pop, w_dup2, w_ifCond, w_if_icmp, w_goto, w_tableswitch, w_getfield, w_putfielda, w_putfieldb, w_putfieldc, w_iaload, w_baload, w_laload, w_aaload, w_iastore, w_bastore, w_lastore, w_aastore, w_arraylength, w_ireturn, w_lreturn, w_return, w_newx, w_obj, w_cpy, w_max, w_min, w_slen, w_sat, w_nil, w_nx, w_jws, w_jw0, ↓reduceIte, w_my0, w_my1, w_my2, w_gv0, w_gvs, w_cati, w_catr, w_catj, w_inc1, w_afn, w_afi, w_afl, w_afx, w_asn, w_asi, w_asl, w_asx, w_a0, List.set_cons_zero, List.set_cons_succ, List.contains_cons, List.contains_nil, Nat.reduceBEq, Bool.or_false, Bool.false_or, Bool.or_true, Bool.true_or, Nat.reduceAdd, Nat.reduceSub, Nat.reduceMul, Nat.reduceDiv, Nat.reduceMod, Nat.reduceLT, Nat.reduceLeDiff, Nat.reduceEqDiff, Nat.zero_le, List.length_cons, List.length_nil, Int.reduceLE, Int.reduceToNat, Int.reduceAdd, Int.reduceLT, decide_true, am_cp, am_cq, m_kk, m_ii, m_rr, m_jj, m_si, m_sj, m_sc, Option.some.injEq, exists_eq_left', true_and, and_true, if_true, if_false, ite_true, ite_false, not_false_eq_true, true_or, or_true, false_or, or_false, reduceCtorEq, false_implies, true_implies, implies_true, eq_self, Bool.false_eq_true, Bool.true_eq_false, not_true_eq_false, s268_0, rt_268, hh_268]
  refine aP_mk ((bc_21 (bs_lt q 21)).trans (congrArg nI ?_))
  exact ct_congr (fun i hi => by rw [bs_bit]; simp [hi])
/-- the first -/
theorem an_n {a b n : Nat} (ha : a < 2 ^ n) : nI a &&& (nI b ^^^ am_c (-1)) = nI (bs (fun i => a.testBit i && !b.testBit i) n) := by
  apply Int32.toBitVec_inj.mp
  apply BitVec.eq_of_getLsbD_eq
  intro i hi
  have hm : (am_c (-1)).toBitVec = BitVec.allOnes 32 := by decide
  show (BitVec.ofNat 32 a &&& (BitVec.ofNat 32 b ^^^ (am_c (-1)).toBitVec)).getLsbD i = (BitVec.ofNat 32 (bs (fun i => a.testBit i && !b.testBit i) n)).getLsbD i
  rw [hm]
  simp only [BitVec.getLsbD_and, BitVec.getLsbD_xor, BitVec.getLsbD_ofNat, BitVec.getLsbD_allOnes, hi, decide_true, Bool.true_and, Bool.xor_true, bs_bit]
  by_cases h10 : i < n
  · simp [h10]
  · have : a.testBit i = false := Nat.testBit_lt_two_pow (Nat.lt_of_lt_of_le ha (Nat.pow_le_pow_right (by decide) (by omega)))
    simp [this]
theorem low_k {x k : Nat} (h : ∀ i, i < k → x.testBit i = false) (hk : x.testBit k = true) : x = 2 ^ (k + 1) * (x / 2 ^ (k + 1)) + 2 ^ k := by
  have : x % 2 ^ (k + 1) = 2 ^ k := by
    apply Nat.eq_of_testBit_eq
    intro i
    rw [Nat.testBit_mod_two_pow, Nat.testBit_two_pow]
    by_cases e1 : i = k
    · subst e1; simp [hk]
    · by_cases e2 : i < k
      · simp [h i e2]; omega
      · have : ¬ i < k + 1 := by omega
        simp [this]; omega
  have h2 := Nat.div_add_mod x (2 ^ (k + 1))
  rw [this] at h2
  exact h2.symm
theorem tz_21 {x k : Nat} (hx : x < 2097152) (hk : k < 21) (h : ∀ i, i < k → x.testBit i = false) (hb : x.testBit k = true) : tz2 ((nI x ^^^ am_c (-1)) &&& (nI x - nI 1)) = nI k := by
  have e := low_k h hb
  have h2 : 0 < 2 ^ k := Nat.two_pow_pos k
  have hp : 2 ^ (k + 1) = 2 * 2 ^ k := by rw [Nat.pow_succ, Nat.mul_comm]
  generalize hm : x / 2 ^ (k + 1) = m at e
  have e1 : x - 1 = 2 ^ (k + 1) * m + (2 ^ k - 1) := by omega
  have bit : ∀ i, i < 21 → ((x - 1).testBit i && !x.testBit i) = decide (i < k) := by
    intro i hi
    rw [e1]
    rw [e]
    rw [Nat.testBit_two_pow_mul_add _ (by omega), Nat.testBit_two_pow_mul_add _ (by omega), Nat.testBit_two_pow_sub_one, Nat.testBit_two_pow]
    by_cases c1 : i < k + 1
    · rw [if_pos c1, if_pos c1]
      by_cases c2 : i < k
      · have : ¬ k = i := by omega
        simp [c2, this]
      · simp [c2]
    · rw [if_neg c1, if_neg c1]
      have : ¬ i < k := by omega
      simp [this]
  rw [nI_sub (by omega), Int32.and_comm, an_n (n := 21) (show x - 1 < 2 ^ 21 by omega)]
  have e3 : bs (fun i => (x - 1).testBit i && !x.testBit i) 21 = bs (fun i => decide (i < k)) 21 := bs_congr bit
  rw [e3]
  have : ∀ k : Fin 21, tz2 (nI (bs (fun i => decide (i < k.val)) 21)) = nI k.val := by decide +kernel
  exact this ⟨k, hk⟩
end DX
