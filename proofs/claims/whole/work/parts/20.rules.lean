/-! am_lw by rows, an instruction each. -/
section WRU
variable {G : am_G} {d j pc len : Nat} {P : am_K} {J : Nat → List Value → List Value → am_M → Prop} {L S : List Value} {M : am_M} {cs : List Nat} {is : List (Instr × Nat)}
def am_lx (t : Nat) (v : Value) (G : am_G) (d j : Nat) (P : am_K) (cs : List Nat) (J : Nat → List Value → List Value → am_M → Prop) (is : List (Instr × Nat)) (pc : Nat) (L S : List Value) (M : am_M) : Prop := am_ld1 v (fun v => am_nx G d j P cs J is pc L (v :: S) M) t
theorem w_lx0 (x) : am_lx 0 (.int x) G d j P cs J is pc L S M = am_nx G d j P cs J is pc L (.int x :: S) M := by simp [am_lx, am_ld1]
theorem w_lx1 (x) : am_lx 1 (.ref x) G d j P cs J is pc L S M = am_nx G d j P cs J is pc L (.ref x :: S) M := by simp [am_lx, am_ld1]
theorem w_lx2 (x) : am_lx 2 (.long x) G d j P cs J is pc L S M = am_nx G d j P cs J is pc L (.long x :: S) M := by simp [am_lx, am_ld1]
def am_ic (i : Nat) (v : Int) (u : Value) (G : am_G) (d j : Nat) (P : am_K) (cs : List Nat) (J : Nat → List Value → List Value → am_M → Prop) (is : List (Instr × Nat)) (pc : Nat) (L S : List Value) (M : am_M) : Prop := ∃ x : Int32, u = .int x ∧ am_may L i = true ∧ am_nx G d j P cs J is pc (L.set i (.int (am_inc x v))) S M
theorem w_ic (i v x) : am_ic i v (.int x) G d j P cs J is pc L S M = (am_may L i = true ∧ am_nx G d j P cs J is pc (L.set i (.int (am_inc x v))) S M) := by simp [am_ic]
theorem w_ldc_w (v) : am_lw G d j P cs J ((.ldc_w v, len) :: is) pc L S M = (am_nx G d j P cs J is (pc + len) L (.int (nI v) :: S) M) := rfl
theorem w_iconst (v) : am_lw G d j P cs J ((.iconst v, len) :: is) pc L S M = (am_nx G d j P cs J is (pc + len) L (.int (am_c v) :: S) M) := rfl
theorem w_lconst (v) : am_lw G d j P cs J ((.lconst v, len) :: is) pc L S M = (am_nx G d j P cs J is (pc + len) L (.long (Int64.ofNat v) :: S) M) := rfl
theorem w_ldc2_w (v) : am_lw G d j P cs J ((.ldc2_w v, len) :: is) pc L S M = (am_nx G d j P cs J is (pc + len) L (.long (Int64.ofNat v) :: S) M) := rfl
theorem w_ldc (k) : am_lw G d j P cs J ((.ldc k, len) :: is) pc L S M = (am_nx G d j P cs J is (pc + len) L (.ref (1000000 + k) :: S) M) := rfl
theorem w_iload (i) : am_lw G d j P cs J ((.iload i, len) :: is) pc L S M = (am_lx 0 (am_gv L i) G d j P cs J is (pc + len) L S M) := rfl
theorem w_aload (i) : am_lw G d j P cs J ((.aload i, len) :: is) pc L S M = (am_lx 1 (am_gv L i) G d j P cs J is (pc + len) L S M) := rfl
theorem w_lload (i) : am_lw G d j P cs J ((.lload i, len) :: is) pc L S M = (am_lx 2 (am_gv L i) G d j P cs J is (pc + len) L S M) := rfl
theorem w_istore (i) (x) : am_lw G d j P cs J ((.istore i, len) :: is) pc L (.int x :: S) M = (am_may L i = true ∧ am_nx G d j P cs J is (pc + len) (L.set i (.int x)) S M) := rfl
theorem w_astore (i) (x) : am_lw G d j P cs J ((.astore i, len) :: is) pc L (.ref x :: S) M = (am_may L i = true ∧ am_nx G d j P cs J is (pc + len) (L.set i (.ref x)) S M) := rfl
theorem w_lstore (i) (x) : am_lw G d j P cs J ((.lstore i, len) :: is) pc L (.long x :: S) M = (am_may L i = true ∧ i + 1 < L.length ∧ am_nx G d j P cs J is (pc + len) ((L.set i (.long x)).set (i + 1) am_junk) S M) := rfl
theorem w_iinc (i) (v) : am_lw G d j P cs J ((.iinc i v, len) :: is) pc L S M = (am_ic i v (am_gv L i) G d j P cs J is (pc + len) L S M) := rfl
theorem w_iadd (x) (y) : am_lw G d j P cs J ((.iadd, len) :: is) pc L (.int y :: .int x :: S) M = (am_nx G d j P cs J is (pc + len) L (.int (x + y) :: S) M) := rfl
theorem w_isub (x) (y) : am_lw G d j P cs J ((.isub, len) :: is) pc L (.int y :: .int x :: S) M = (am_nx G d j P cs J is (pc + len) L (.int (x - y) :: S) M) := rfl
theorem w_imul (x) (y) : am_lw G d j P cs J ((.imul, len) :: is) pc L (.int y :: .int x :: S) M = (am_nx G d j P cs J is (pc + len) L (.int (x * y) :: S) M) := rfl
theorem w_iand (x) (y) : am_lw G d j P cs J ((.iand, len) :: is) pc L (.int y :: .int x :: S) M = (am_nx G d j P cs J is (pc + len) L (.int (x &&& y) :: S) M) := rfl
theorem w_ior (x) (y) : am_lw G d j P cs J ((.ior, len) :: is) pc L (.int y :: .int x :: S) M = (am_nx G d j P cs J is (pc + len) L (.int (x ||| y) :: S) M) := rfl
theorem w_ixor (x) (y) : am_lw G d j P cs J ((.ixor, len) :: is) pc L (.int y :: .int x :: S) M = (am_nx G d j P cs J is (pc + len) L (.int (x ^^^ y) :: S) M) := rfl
theorem w_ishl (x) (y) : am_lw G d j P cs J ((.ishl, len) :: is) pc L (.int y :: .int x :: S) M = (am_nx G d j P cs J is (pc + len) L (.int (am_shl x y) :: S) M) := rfl
theorem w_ishr (x) (y) : am_lw G d j P cs J ((.ishr, len) :: is) pc L (.int y :: .int x :: S) M = (am_nx G d j P cs J is (pc + len) L (.int (am_shr x y) :: S) M) := rfl
theorem w_iushr (x) (y) : am_lw G d j P cs J ((.iushr, len) :: is) pc L (.int y :: .int x :: S) M = (am_nx G d j P cs J is (pc + len) L (.int (am_ushr x y) :: S) M) := rfl
theorem w_idiv (x) (y) : am_lw G d j P cs J ((.idiv, len) :: is) pc L (.int y :: .int x :: S) M = (¬ y = nI 0 ∧ am_nx G d j P cs J is (pc + len) L (.int (x / y) :: S) M) := rfl
theorem w_irem (x) (y) : am_lw G d j P cs J ((.irem, len) :: is) pc L (.int y :: .int x :: S) M = (¬ y = nI 0 ∧ am_nx G d j P cs J is (pc + len) L (.int (am_rem x y) :: S) M) := rfl
theorem w_ineg (x) : am_lw G d j P cs J ((.ineg, len) :: is) pc L (.int x :: S) M = (am_nx G d j P cs J is (pc + len) L (.int (-x) :: S) M) := rfl
theorem w_i2l (x) : am_lw G d j P cs J ((.i2l, len) :: is) pc L (.int x :: S) M = (am_nx G d j P cs J is (pc + len) L (.long x.toInt64 :: S) M) := rfl
theorem w_lshl (x) (y) : am_lw G d j P cs J ((.lshl, len) :: is) pc L (.int y :: .long x :: S) M = (am_nx G d j P cs J is (pc + len) L (.long (am_lshl x y) :: S) M) := rfl
theorem w_lor (x) (y) : am_lw G d j P cs J ((.lor, len) :: is) pc L (.long y :: .long x :: S) M = (am_nx G d j P cs J is (pc + len) L (.long (x ||| y) :: S) M) := rfl
theorem w_lsub (x) (y) : am_lw G d j P cs J ((.lsub, len) :: is) pc L (.long y :: .long x :: S) M = (am_nx G d j P cs J is (pc + len) L (.long (x - y) :: S) M) := rfl
theorem w_lcmp (x) (y) : am_lw G d j P cs J ((.lcmp, len) :: is) pc L (.long y :: .long x :: S) M = (am_nx G d j P cs J is (pc + len) L (.int (lg_cmp x y) :: S) M) := rfl
theorem w_dupa (x) : am_lw G d j P cs J ((.dup, len) :: is) pc L (.int x :: S) M = (am_nx G d j P cs J is (pc + len) L (.int x :: .int x :: S) M) := rfl
theorem w_dupb (x) : am_lw G d j P cs J ((.dup, len) :: is) pc L (.ref x :: S) M = (am_nx G d j P cs J is (pc + len) L (.ref x :: .ref x :: S) M) := rfl
theorem w_pop (x) : am_lw G d j P cs J ((.pop, len) :: is) pc L (.int x :: S) M = (am_nx G d j P cs J is (pc + len) L S M) := rfl
theorem w_dup2 (x) (y) : am_lw G d j P cs J ((.dup2, len) :: is) pc L (.int x :: .ref y :: S) M = (am_nx G d j P cs J is (pc + len) L (.int x :: .ref y :: .int x :: .ref y :: S) M) := rfl
theorem w_ifCond (c) (t) (x) : am_lw G d j P cs J ((.ifCond c t, len) :: is) pc L (.int x :: S) M = (0 ≤ t ∧ (am_cp c x (nI 0) → J t.toNat L S M) ∧ (am_cq c x (nI 0) → am_nx G d j P cs J is (pc + len) L S M)) := rfl
theorem w_if_icmp (c) (t) (x) (y) : am_lw G d j P cs J ((.if_icmp c t, len) :: is) pc L (.int y :: .int x :: S) M = (0 ≤ t ∧ (am_cp c x y → J t.toNat L S M) ∧ (am_cq c x y → am_nx G d j P cs J is (pc + len) L S M)) := rfl
theorem w_goto (t) : am_lw G d j P cs J ((.goto t, len) :: is) pc L S M = (0 ≤ t ∧ J t.toNat L S M) := rfl
theorem w_tableswitch (dd) (lo) (hi) (offs) (x) : am_lw G d j P cs J ((.tableswitch dd lo hi offs, len) :: is) pc L (.int x :: S) M = (lo + offs.size = hi + 1 ∧ (x.toInt < lo ∨ hi < x.toInt → 0 ≤ dd ∧ J dd.toNat L S M) ∧ am_tsw J x L S M lo offs.toList) := rfl
theorem w_getfield (q) (a) : am_lw G d j P cs J ((.getfield q, len) :: is) pc L (.ref a :: S) M = (kk M a = (0, q / 10000) ∧ (if q % 10 = 2 then ∃ b, rr M a (q % 10000 / 10) = some b ∧ am_nx G d j P cs J is (pc + len) L (.ref b :: S) M else if q % 10 = 3 then am_nx G d j P cs J is (pc + len) L (.long (jj M a (q % 10000 / 10)) :: S) M else am_nx G d j P cs J is (pc + len) L (.int (ii M a (q % 10000 / 10)) :: S) M)) := rfl
theorem w_putfielda (q) (a) (x) : am_lw G d j P cs J ((.putfield q, len) :: is) pc L (.int x :: .ref a :: S) M = (kk M a = (0, q / 10000) ∧ (q % 10 = 0 ∨ q % 10 = 1 ∧ (x = nI 0 ∨ x = nI 1)) ∧ am_nx G d j P cs J is (pc + len) L S (si M a (q % 10000 / 10) x)) := rfl
theorem w_putfieldb (q) (a) (x) : am_lw G d j P cs J ((.putfield q, len) :: is) pc L (.ref x :: .ref a :: S) M = (kk M a = (0, q / 10000) ∧ q % 10 = 2 ∧ am_nx G d j P cs J is (pc + len) L S (sr M a (q % 10000 / 10) x)) := rfl
theorem w_putfieldc (q) (a) (x) : am_lw G d j P cs J ((.putfield q, len) :: is) pc L (.long x :: .ref a :: S) M = (kk M a = (0, q / 10000) ∧ q % 10 = 3 ∧ am_nx G d j P cs J is (pc + len) L S (sj M a (q % 10000 / 10) x)) := rfl
theorem w_iaload (a) (i) : am_lw G d j P cs J ((.iaload, len) :: is) pc L (.int i :: .ref a :: S) M = (((kk M a).1 = 1 ∨ (kk M a).1 = 7) ∧ (nI 0 ≤ i ∧ i.toNatClampNeg < (kk M a).2 ∧ (kk M a).2 ≤ 1000000) ∧ am_nx G d j P cs J is (pc + len) L (.int (ii M a i.toNatClampNeg) :: S) M) := rfl
theorem w_baload (a) (i) : am_lw G d j P cs J ((.baload, len) :: is) pc L (.int i :: .ref a :: S) M = ((kk M a).1 = 2 ∧ (nI 0 ≤ i ∧ i.toNatClampNeg < (kk M a).2 ∧ (kk M a).2 ≤ 1000000) ∧ am_nx G d j P cs J is (pc + len) L (.int (ii M a i.toNatClampNeg) :: S) M) := rfl
theorem w_laload (a) (i) : am_lw G d j P cs J ((.laload, len) :: is) pc L (.int i :: .ref a :: S) M = ((kk M a).1 = 3 ∧ (nI 0 ≤ i ∧ i.toNatClampNeg < (kk M a).2 ∧ (kk M a).2 ≤ 1000000) ∧ am_nx G d j P cs J is (pc + len) L (.long (jj M a i.toNatClampNeg) :: S) M) := rfl
theorem w_aaload (a) (i) : am_lw G d j P cs J ((.aaload, len) :: is) pc L (.int i :: .ref a :: S) M = (((kk M a).1 = 4 ∨ (kk M a).1 = 5) ∧ (nI 0 ≤ i ∧ i.toNatClampNeg < (kk M a).2 ∧ (kk M a).2 ≤ 1000000) ∧ ∃ b, rr M a i.toNatClampNeg = some b ∧ am_nx G d j P cs J is (pc + len) L (.ref b :: S) M) := rfl
theorem w_iastore (a) (i) (x) : am_lw G d j P cs J ((.iastore, len) :: is) pc L (.int x :: .int i :: .ref a :: S) M = ((kk M a).1 = 1 ∧ (nI 0 ≤ i ∧ i.toNatClampNeg < (kk M a).2 ∧ (kk M a).2 ≤ 1000000) ∧ am_nx G d j P cs J is (pc + len) L S (si M a i.toNatClampNeg x)) := rfl
theorem w_bastore (a) (i) (x) : am_lw G d j P cs J ((.bastore, len) :: is) pc L (.int x :: .int i :: .ref a :: S) M = ((kk M a).1 = 2 ∧ (x = nI 0 ∨ x = nI 1) ∧ (nI 0 ≤ i ∧ i.toNatClampNeg < (kk M a).2 ∧ (kk M a).2 ≤ 1000000) ∧ am_nx G d j P cs J is (pc + len) L S (si M a i.toNatClampNeg x)) := rfl
theorem w_lastore (a) (i) (x) : am_lw G d j P cs J ((.lastore, len) :: is) pc L (.long x :: .int i :: .ref a :: S) M = ((kk M a).1 = 3 ∧ (nI 0 ≤ i ∧ i.toNatClampNeg < (kk M a).2 ∧ (kk M a).2 ≤ 1000000) ∧ am_nx G d j P cs J is (pc + len) L S (sj M a i.toNatClampNeg x)) := rfl
theorem w_aastore (a) (i) (x) : am_lw G d j P cs J ((.aastore, len) :: is) pc L (.ref x :: .int i :: .ref a :: S) M = ((kk M a).1 = 4 ∧ kk M x = (0, 4) ∧ (nI 0 ≤ i ∧ i.toNatClampNeg < (kk M a).2 ∧ (kk M a).2 ≤ 1000000) ∧ am_nx G d j P cs J is (pc + len) L S (sr M a i.toNatClampNeg x)) := rfl
theorem w_arraylength (a) : am_lw G d j P cs J ((.arraylength, len) :: is) pc L (.ref a :: S) M = ((1 ≤ (kk M a).1 ∧ (kk M a).1 ≤ 7) ∧ am_nx G d j P cs J is (pc + len) L (.int (nI (kk M a).2) :: S) M) := rfl
theorem w_ireturn (x) : am_lw G d j P cs J ((.ireturn, len) :: is) pc L [.int x] M = (am_rk j x ∧ P (.inl (some (.int x))) M) := rfl
theorem w_lreturn (x) : am_lw G d j P cs J ((.lreturn, len) :: is) pc L [.long x] M = (am_rt j = some .long ∧ P (.inl (some (.long x))) M) := rfl
theorem w_return : am_lw G d j P cs J ((.return_, len) :: is) pc L [] M = (am_rt j = none ∧ P (.inl none) M) := rfl
theorem w_newx (t : Nat) (h : 100 ≤ t) : am_lw G d j P cs J ((.new t, len) :: is) pc L S M = (am_hh j = [] ∧ S.length ≤ 4 ∧ P (.inr (am_exn t)) (am_gar M)) := by
  show (if 100 ≤ t then _ else _) = _
  rw [if_pos h]
theorem w_iv0 (t a : Nat) (h1 : ¬ t = 1002) (h2 : ¬ t = 1003) (hn : am_np t = 0) : am_lw G d j P cs J ((.invokevirtual t, len) :: is) pc L (.ref a :: S) M = (1 ≤ d ∧ am_cv t (kk M a) ∧ S.length ≤ 4 ∧ am_C G (d - 1) t [.ref a] M (am_af G d j P cs J is (pc + len) L S)) := by
  show (if t = 1002 then _ else if t = 1003 then _ else _) = _
  rw [if_neg h1, if_neg h2, hn]
  simp only [am_spl, List.length_cons, List.length_nil, true_and]
  rfl
theorem w_is0 (t : Nat) (h1 : ¬ t = 1001) (h2 : ¬ t = 269) (h3 : ¬ t = 270) (hn : am_np t = 0) : am_lw G d j P cs J ((.invokestatic t, len) :: is) pc L (S) M = (1 ≤ d ∧ am_cs t ∧ S.length ≤ 4 ∧ am_C G (d - 1) t [] M (am_af1 t G d j P cs J is (pc + len) L S)) := by
  show (if t = 1001 then _ else if t = 269 then _ else if t = 270 then _ else _) = _
  rw [if_neg h1, if_neg h2, if_neg h3, hn]
  simp only [am_spl, List.length_cons, List.length_nil, true_and]
  rfl
theorem w_ii0 (t a : Nat) (h1 : ¬ t = 1000) (hn : am_np t = 0) : am_lw G d j P cs J ((.invokespecial t, len) :: is) pc L (.ref a :: S) M = (1 ≤ d ∧ am_ci t ∧ S.length ≤ 4 ∧ am_C G (d - 1) t [.ref a] M (am_af0 G d j P cs J is (pc + len) L S)) := by
  show (if t = 1000 then _ else _) = _
  rw [if_neg h1, hn]
  simp only [am_spl, List.length_nil, List.length_cons, true_and]
  rfl
theorem w_iv1 (t a : Nat) (x1 : Value) (h1 : ¬ t = 1002) (h2 : ¬ t = 1003) (hn : am_np t = 1) : am_lw G d j P cs J ((.invokevirtual t, len) :: is) pc L (x1 :: .ref a :: S) M = (1 ≤ d ∧ am_cv t (kk M a) ∧ S.length ≤ 4 ∧ am_C G (d - 1) t [.ref a, x1] M (am_af G d j P cs J is (pc + len) L S)) := by
  show (if t = 1002 then _ else if t = 1003 then _ else _) = _
  rw [if_neg h1, if_neg h2, hn]
  simp only [am_spl, List.length_cons, List.length_nil, true_and]
  rfl
theorem w_is1 (t : Nat) (x1 : Value) (h1 : ¬ t = 1001) (h2 : ¬ t = 269) (h3 : ¬ t = 270) (hn : am_np t = 1) : am_lw G d j P cs J ((.invokestatic t, len) :: is) pc L (x1 :: S) M = (1 ≤ d ∧ am_cs t ∧ S.length ≤ 4 ∧ am_C G (d - 1) t [x1] M (am_af1 t G d j P cs J is (pc + len) L S)) := by
  show (if t = 1001 then _ else if t = 269 then _ else if t = 270 then _ else _) = _
  rw [if_neg h1, if_neg h2, if_neg h3, hn]
  simp only [am_spl, List.length_cons, List.length_nil, true_and]
  rfl
theorem w_ii1 (t a : Nat) (x1 : Value) (h1 : ¬ t = 1000) (hn : am_np t = 1) : am_lw G d j P cs J ((.invokespecial t, len) :: is) pc L (x1 :: .ref a :: S) M = (1 ≤ d ∧ am_ci t ∧ S.length ≤ 4 ∧ am_C G (d - 1) t [.ref a, x1] M (am_af0 G d j P cs J is (pc + len) L S)) := by
  show (if t = 1000 then _ else _) = _
  rw [if_neg h1, hn]
  simp only [am_spl, List.length_nil, List.length_cons, true_and]
  rfl
theorem w_iv2 (t a : Nat) (x1 x2 : Value) (h1 : ¬ t = 1002) (h2 : ¬ t = 1003) (hn : am_np t = 2) : am_lw G d j P cs J ((.invokevirtual t, len) :: is) pc L (x2 :: x1 :: .ref a :: S) M = (1 ≤ d ∧ am_cv t (kk M a) ∧ S.length ≤ 4 ∧ am_C G (d - 1) t [.ref a, x1, x2] M (am_af G d j P cs J is (pc + len) L S)) := by
  show (if t = 1002 then _ else if t = 1003 then _ else _) = _
  rw [if_neg h1, if_neg h2, hn]
  simp only [am_spl, List.length_cons, List.length_nil, true_and]
  rfl
theorem w_is2 (t : Nat) (x1 x2 : Value) (h1 : ¬ t = 1001) (h2 : ¬ t = 269) (h3 : ¬ t = 270) (hn : am_np t = 2) : am_lw G d j P cs J ((.invokestatic t, len) :: is) pc L (x2 :: x1 :: S) M = (1 ≤ d ∧ am_cs t ∧ S.length ≤ 4 ∧ am_C G (d - 1) t [x1, x2] M (am_af1 t G d j P cs J is (pc + len) L S)) := by
  show (if t = 1001 then _ else if t = 269 then _ else if t = 270 then _ else _) = _
  rw [if_neg h1, if_neg h2, if_neg h3, hn]
  simp only [am_spl, List.length_cons, List.length_nil, true_and]
  rfl
theorem w_iv3 (t a : Nat) (x1 x2 x3 : Value) (h1 : ¬ t = 1002) (h2 : ¬ t = 1003) (hn : am_np t = 3) : am_lw G d j P cs J ((.invokevirtual t, len) :: is) pc L (x3 :: x2 :: x1 :: .ref a :: S) M = (1 ≤ d ∧ am_cv t (kk M a) ∧ S.length ≤ 4 ∧ am_C G (d - 1) t [.ref a, x1, x2, x3] M (am_af G d j P cs J is (pc + len) L S)) := by
  show (if t = 1002 then _ else if t = 1003 then _ else _) = _
  rw [if_neg h1, if_neg h2, hn]
  simp only [am_spl, List.length_cons, List.length_nil, true_and]
  rfl
theorem w_is3 (t : Nat) (x1 x2 x3 : Value) (h1 : ¬ t = 1001) (h2 : ¬ t = 269) (h3 : ¬ t = 270) (hn : am_np t = 3) : am_lw G d j P cs J ((.invokestatic t, len) :: is) pc L (x3 :: x2 :: x1 :: S) M = (1 ≤ d ∧ am_cs t ∧ S.length ≤ 4 ∧ am_C G (d - 1) t [x1, x2, x3] M (am_af1 t G d j P cs J is (pc + len) L S)) := by
  show (if t = 1001 then _ else if t = 269 then _ else if t = 270 then _ else _) = _
  rw [if_neg h1, if_neg h2, if_neg h3, hn]
  simp only [am_spl, List.length_cons, List.length_nil, true_and]
  rfl
theorem w_iv4 (t a : Nat) (x1 x2 x3 x4 : Value) (h1 : ¬ t = 1002) (h2 : ¬ t = 1003) (hn : am_np t = 4) : am_lw G d j P cs J ((.invokevirtual t, len) :: is) pc L (x4 :: x3 :: x2 :: x1 :: .ref a :: S) M = (1 ≤ d ∧ am_cv t (kk M a) ∧ S.length ≤ 4 ∧ am_C G (d - 1) t [.ref a, x1, x2, x3, x4] M (am_af G d j P cs J is (pc + len) L S)) := by
  show (if t = 1002 then _ else if t = 1003 then _ else _) = _
  rw [if_neg h1, if_neg h2, hn]
  simp only [am_spl, List.length_cons, List.length_nil, true_and]
  rfl
theorem w_is4 (t : Nat) (x1 x2 x3 x4 : Value) (h1 : ¬ t = 1001) (h2 : ¬ t = 269) (h3 : ¬ t = 270) (hn : am_np t = 4) : am_lw G d j P cs J ((.invokestatic t, len) :: is) pc L (x4 :: x3 :: x2 :: x1 :: S) M = (1 ≤ d ∧ am_cs t ∧ S.length ≤ 4 ∧ am_C G (d - 1) t [x1, x2, x3, x4] M (am_af1 t G d j P cs J is (pc + len) L S)) := by
  show (if t = 1001 then _ else if t = 269 then _ else if t = 270 then _ else _) = _
  rw [if_neg h1, if_neg h2, if_neg h3, hn]
  simp only [am_spl, List.length_cons, List.length_nil, true_and]
  rfl
theorem w_iv5 (t a : Nat) (x1 x2 x3 x4 x5 : Value) (h1 : ¬ t = 1002) (h2 : ¬ t = 1003) (hn : am_np t = 5) : am_lw G d j P cs J ((.invokevirtual t, len) :: is) pc L (x5 :: x4 :: x3 :: x2 :: x1 :: .ref a :: S) M = (1 ≤ d ∧ am_cv t (kk M a) ∧ S.length ≤ 4 ∧ am_C G (d - 1) t [.ref a, x1, x2, x3, x4, x5] M (am_af G d j P cs J is (pc + len) L S)) := by
  show (if t = 1002 then _ else if t = 1003 then _ else _) = _
  rw [if_neg h1, if_neg h2, hn]
  simp only [am_spl, List.length_cons, List.length_nil, true_and]
  rfl
theorem w_is5 (t : Nat) (x1 x2 x3 x4 x5 : Value) (h1 : ¬ t = 1001) (h2 : ¬ t = 269) (h3 : ¬ t = 270) (hn : am_np t = 5) : am_lw G d j P cs J ((.invokestatic t, len) :: is) pc L (x5 :: x4 :: x3 :: x2 :: x1 :: S) M = (1 ≤ d ∧ am_cs t ∧ S.length ≤ 4 ∧ am_C G (d - 1) t [x1, x2, x3, x4, x5] M (am_af1 t G d j P cs J is (pc + len) L S)) := by
  show (if t = 1001 then _ else if t = 269 then _ else if t = 270 then _ else _) = _
  rw [if_neg h1, if_neg h2, if_neg h3, hn]
  simp only [am_spl, List.length_cons, List.length_nil, true_and]
  rfl
theorem w_iv6 (t a : Nat) (x1 x2 x3 x4 x5 x6 : Value) (h1 : ¬ t = 1002) (h2 : ¬ t = 1003) (hn : am_np t = 6) : am_lw G d j P cs J ((.invokevirtual t, len) :: is) pc L (x6 :: x5 :: x4 :: x3 :: x2 :: x1 :: .ref a :: S) M = (1 ≤ d ∧ am_cv t (kk M a) ∧ S.length ≤ 4 ∧ am_C G (d - 1) t [.ref a, x1, x2, x3, x4, x5, x6] M (am_af G d j P cs J is (pc + len) L S)) := by
  show (if t = 1002 then _ else if t = 1003 then _ else _) = _
  rw [if_neg h1, if_neg h2, hn]
  simp only [am_spl, List.length_cons, List.length_nil, true_and]
  rfl
theorem w_is6 (t : Nat) (x1 x2 x3 x4 x5 x6 : Value) (h1 : ¬ t = 1001) (h2 : ¬ t = 269) (h3 : ¬ t = 270) (hn : am_np t = 6) : am_lw G d j P cs J ((.invokestatic t, len) :: is) pc L (x6 :: x5 :: x4 :: x3 :: x2 :: x1 :: S) M = (1 ≤ d ∧ am_cs t ∧ S.length ≤ 4 ∧ am_C G (d - 1) t [x1, x2, x3, x4, x5, x6] M (am_af1 t G d j P cs J is (pc + len) L S)) := by
  show (if t = 1001 then _ else if t = 269 then _ else if t = 270 then _ else _) = _
  rw [if_neg h1, if_neg h2, if_neg h3, hn]
  simp only [am_spl, List.length_cons, List.length_nil, true_and]
  rfl
theorem w_obj (a) : am_lw G d j P cs J ((.invokespecial 1000, len) :: is) pc L (.ref a :: S) M = (S.length ≤ 4 ∧ am_nx G d j P cs J is (pc + len) L S M) := rfl
theorem w_cpy (n dp b sp a) : am_lw G d j P cs J ((.invokestatic 1001, len) :: is) pc L (.int n :: .int dp :: .ref b :: .int sp :: .ref a :: S) M = ((kk M a).1 = 1 ∧ (kk M b).1 = 1 ∧ (kk M a).2 ≤ 1000000 ∧ (kk M b).2 ≤ 1000000 ∧ S.length ≤ 4 ∧ (nI 0 ≤ n ∧ nI 0 ≤ dp ∧ nI 0 ≤ sp) ∧ sp.toNatClampNeg + n.toNatClampNeg ≤ (kk M a).2 ∧ dp.toNatClampNeg + n.toNatClampNeg ≤ (kk M b).2 ∧ am_nx G d j P cs J is (pc + len) L S (sc M a b sp.toNatClampNeg dp.toNatClampNeg n.toNatClampNeg)) := rfl
theorem w_max (y x) : am_lw G d j P cs J ((.invokestatic 269, len) :: is) pc L (.int y :: .int x :: S) M = (S.length ≤ 4 ∧ am_nx G d j P cs J is (pc + len) L (.int (am_mx x y) :: S) M) := rfl
theorem w_min (y x) : am_lw G d j P cs J ((.invokestatic 270, len) :: is) pc L (.int y :: .int x :: S) M = (S.length ≤ 4 ∧ am_nx G d j P cs J is (pc + len) L (.int (am_mn x y) :: S) M) := rfl
theorem w_slen (r) : am_lw G d j P cs J ((.invokevirtual 1002, len) :: is) pc L (.ref r :: S) M = (2 ≤ d ∧ S.length ≤ 4 ∧ 1000000 ≤ r ∧ r - 1000000 < 31 ∧ am_nx G d j P cs J is (pc + len) L (.int (nI (am_len.getD (r - 1000000) 0)) :: S) M) := rfl
theorem w_sat (i r) : am_lw G d j P cs J ((.invokevirtual 1003, len) :: is) pc L (.int i :: .ref r :: S) M = (4 ≤ d ∧ S.length ≤ 4 ∧ 1000000 ≤ r ∧ r - 1000000 < 31 ∧ am_ix i (am_len.getD (r - 1000000) 0) = true ∧ narrow .char (.int (am_chr (r - 1000000) i)) = .int (am_chr (r - 1000000) i) ∧ am_nx G d j P cs J is (pc + len) L (.int (am_chr (r - 1000000) i) :: S) M) := rfl
theorem w_nil : am_lw G d j P cs J [] pc L S M = am_V G d j pc L S M P := rfl
theorem w_nx : am_nx G d j P cs J is pc L S M = if cs.contains pc = true then am_V G d j pc L S M P else am_lw G d j P cs J is pc L S M := rfl
theorem w_jws (n : Nat) : am_jw G d j P cs (n + 1) pc L S M = if cs.contains pc = true then am_V G d j pc L S M P else am_lw G d j P cs (am_jw G d j P cs n) (am_suf j pc) pc L S M := rfl
theorem w_jw0 : am_jw G d j P cs 0 pc L S M = am_V G d j pc L S M P := rfl
theorem w_my0 (v : Value) : am_may (v :: L) 0 = true := by simp [am_may]
theorem w_my1 (u v : Value) : am_may (u :: v :: L) 1 = decide (u.category = 1) := by simp [am_may]
theorem w_my2 (u : Value) (i : Nat) : am_may (u :: L) (i + 2) = am_may L (i + 1) := by
  simp [am_may]
  rw [show (decide (i + 2 < L.length + 1)) = decide (i + 1 < L.length) from decide_eq_decide.mpr (by omega)]
theorem w_gv0 (v : Value) : am_gv (v :: L) 0 = v := rfl
theorem w_gvs (v : Value) (i : Nat) : am_gv (v :: L) (i + 1) = am_gv L i := rfl
theorem w_cati (x) : (Value.int x).category = 1 := rfl
theorem w_catr (x) : (Value.ref x).category = 1 := rfl
theorem w_catj : am_junk.category = 1 := rfl
theorem w_incp (x : Int32) (n : Nat) : am_inc x (n : Int) = x + nI n := by simp [am_inc]
theorem w_inc1 (x : Int32) : am_inc x 1 = x + nI 1 := rfl
theorem w_af (v : Option Value) : am_af G d j P cs J is pc L S (.inl v) M = (match v with
  | none => am_nx G d j P cs J is pc L S M
  | some (.int x) => am_nx G d j P cs J is pc L (.int x :: S) M
  | some (.long x) => am_nx G d j P cs J is pc L (.long x :: S) M
  | some _ => False) := by
  cases v with
  | none => rfl
  | some v => cases v <;> rfl
theorem w_afn : am_af G d j P cs J is pc L S (.inl none) M = am_nx G d j P cs J is pc L S M := rfl
theorem w_afi (x) : am_af G d j P cs J is pc L S (.inl (some (.int x))) M = am_nx G d j P cs J is pc L (.int x :: S) M := rfl
theorem w_afl (x) : am_af G d j P cs J is pc L S (.inl (some (.long x))) M = am_nx G d j P cs J is pc L (.long x :: S) M := rfl
theorem w_afx (E) : am_af G d j P cs J is pc L S (.inr E) M = (am_hh j = [] ∧ P (.inr E) M) := rfl
theorem w_asn (t) : am_af1 t G d j P cs J is pc L S (.inl none) M = am_nx G d j P cs J is pc L S M := rfl
theorem w_asi (t x) : am_af1 t G d j P cs J is pc L S (.inl (some (.int x))) M = am_nx G d j P cs J is pc L (.int x :: S) M := rfl
theorem w_asl (t x) : am_af1 t G d j P cs J is pc L S (.inl (some (.long x))) M = am_nx G d j P cs J is pc L (.long x :: S) M := rfl
theorem w_asx (t E) : am_af1 t G d j P cs J is pc L S (.inr E) M = (am_hh t = [] ∧ am_nn (am_y t) = true ∧ am_hh j = [] ∧ P (.inr E) M) := rfl
theorem w_a0 (M' : am_M) (o) : am_af0 G d j P cs J is pc L S o M' = (o = .inl none ∧ am_nx G d j P cs J is pc L S M') := rfl
end WRU
