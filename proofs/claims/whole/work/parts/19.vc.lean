/-! What must hold, an instruction each. -/
/-- after a call -/
def am_afk (P : am_K) (K : List Value → List Value → am_M → Prop) (j : Nat) (L S : List Value) : am_K := fun o M' => match o with
  | .inl none => K L S M'
  | .inl (some (.int x)) => K L (.int x :: S) M'
  | .inl (some (.long x)) => K L (.long x :: S) M'
  | .inl (some _) => False
  | .inr E => am_hh j = [] ∧ P (.inr E) M'
def am_afs (t : Nat) (P : am_K) (K : List Value → List Value → am_M → Prop) (j : Nat) (L S : List Value) : am_K := fun o M' => match o with
  | .inl none => K L S M'
  | .inl (some (.int x)) => K L (.int x :: S) M'
  | .inl (some (.long x)) => K L (.long x :: S) M'
  | .inl (some _) => False
  | .inr E => am_hh t = [] ∧ am_nn (am_y t) = true ∧ am_hh j = [] ∧ P (.inr E) M'
def am_ld1 (v : Value) (K : Value → Prop) (t : Nat) : Prop := match v with
  | .int x => t = 0 ∧ K (.int x)
  | .ref x => t = 1 ∧ K (.ref x)
  | .long x => t = 2 ∧ K (.long x)
  | _ => False
def am_tsw (J : Nat → List Value → List Value → am_M → Prop) (x : Int32) (L S : List Value) (M : am_M) : Int → List Int → Prop
  | _, [] => True
  | lo, t :: ts => (x.toInt = lo → 0 ≤ t ∧ J t.toNat L S M) ∧ am_tsw J x L S M (lo + 1) ts

def am_wi (G : am_G) (d j : Nat) (P : am_K) (J : Nat → List Value → List Value → am_M → Prop) (K : List Value → List Value → am_M → Prop) (i : Instr) (pc len : Nat) (L S : List Value) (M : am_M) : Prop := match i with
  | .ldc_w v => K L (.int (nI v) :: S) M
  | .iconst v => K L (.int (am_c v) :: S) M
  | .lconst v => K L (.long (Int64.ofNat v) :: S) M
  | .ldc2_w v => K L (.long (Int64.ofNat v) :: S) M
  | .ldc k => K L (.ref (1000000 + k) :: S) M
  | .iload i => am_ld1 (am_gv L i) (fun v => K L (v :: S) M) 0
  | .aload i => am_ld1 (am_gv L i) (fun v => K L (v :: S) M) 1
  | .lload i => am_ld1 (am_gv L i) (fun v => K L (v :: S) M) 2
  | .istore i => match S with
    | .int x :: S => am_may L i = true ∧ K (L.set i (.int x)) S M
    | _ => False
  | .astore i => match S with
    | .ref x :: S => am_may L i = true ∧ K (L.set i (.ref x)) S M
    | _ => False
  | .lstore i => match S with
    | .long x :: S => am_may L i = true ∧ i + 1 < L.length ∧ K ((L.set i (.long x)).set (i + 1) am_junk) S M
    | _ => False
  | .iinc i v => ∃ x : Int32, am_gv L i = .int x ∧ am_may L i = true ∧ K (L.set i (.int (am_inc x v))) S M
  | .iadd => match S with
    | .int y :: .int x :: S => K L (.int (x + y) :: S) M
    | _ => False
  | .isub => match S with
    | .int y :: .int x :: S => K L (.int (x - y) :: S) M
    | _ => False
  | .imul => match S with
    | .int y :: .int x :: S => K L (.int (x * y) :: S) M
    | _ => False
  | .iand => match S with
    | .int y :: .int x :: S => K L (.int (x &&& y) :: S) M
    | _ => False
  | .ior => match S with
    | .int y :: .int x :: S => K L (.int (x ||| y) :: S) M
    | _ => False
  | .ixor => match S with
    | .int y :: .int x :: S => K L (.int (x ^^^ y) :: S) M
    | _ => False
  | .ishl => match S with
    | .int y :: .int x :: S => K L (.int (am_shl x y) :: S) M
    | _ => False
  | .ishr => match S with
    | .int y :: .int x :: S => K L (.int (am_shr x y) :: S) M
    | _ => False
  | .iushr => match S with
    | .int y :: .int x :: S => K L (.int (am_ushr x y) :: S) M
    | _ => False
  | .idiv => match S with
    | .int y :: .int x :: S => ¬ y = nI 0 ∧ K L (.int (x / y) :: S) M
    | _ => False
  | .irem => match S with
    | .int y :: .int x :: S => ¬ y = nI 0 ∧ K L (.int (am_rem x y) :: S) M
    | _ => False
  | .ineg => match S with
    | .int x :: S => K L (.int (-x) :: S) M
    | _ => False
  | .i2l => match S with
    | .int x :: S => K L (.long x.toInt64 :: S) M
    | _ => False
  | .lshl => match S with
    | .int y :: .long x :: S => K L (.long (am_lshl x y) :: S) M
    | _ => False
  | .lor => match S with
    | .long y :: .long x :: S => K L (.long (x ||| y) :: S) M
    | _ => False
  | .lsub => match S with
    | .long y :: .long x :: S => K L (.long (x - y) :: S) M
    | _ => False
  | .lcmp => match S with
    | .long y :: .long x :: S => K L (.int (lg_cmp x y) :: S) M
    | _ => False
  | .dup => match S with
    | .int x :: S => K L (.int x :: .int x :: S) M
    | .ref x :: S => K L (.ref x :: .ref x :: S) M
    | _ => False
  | .pop => match S with
    | .int x :: S => K L S M
    | _ => False
  | .dup2 => match S with
    | .int x :: .ref y :: S => K L (.int x :: .ref y :: .int x :: .ref y :: S) M
    | _ => False
  | .ifCond c t => match S with
    | .int x :: S => 0 ≤ t ∧ (am_cp c x (nI 0) → J t.toNat L S M) ∧ (am_cq c x (nI 0) → K L S M)
    | _ => False
  | .if_icmp c t => match S with
    | .int y :: .int x :: S => 0 ≤ t ∧ (am_cp c x y → J t.toNat L S M) ∧ (am_cq c x y → K L S M)
    | _ => False
  | .goto t => 0 ≤ t ∧ J t.toNat L S M
  | .tableswitch dd lo hi offs => match S with
    | .int x :: S => lo + offs.size = hi + 1 ∧ (x.toInt < lo ∨ hi < x.toInt → 0 ≤ dd ∧ J dd.toNat L S M) ∧ am_tsw J x L S M lo offs.toList
    | _ => False
  | .getfield q => match S with
    | .ref a :: S => kk M a = (0, q / 10000) ∧ (if q % 10 = 2 then ∃ b, rr M a (q % 10000 / 10) = some b ∧ K L (.ref b :: S) M else if q % 10 = 3 then K L (.long (jj M a (q % 10000 / 10)) :: S) M else K L (.int (ii M a (q % 10000 / 10)) :: S) M)
    | _ => False
  | .putfield q => match S with
    | .int x :: .ref a :: S => kk M a = (0, q / 10000) ∧ (q % 10 = 0 ∨ q % 10 = 1 ∧ (x = nI 0 ∨ x = nI 1)) ∧ K L S (si M a (q % 10000 / 10) x)
    | .ref x :: .ref a :: S => kk M a = (0, q / 10000) ∧ q % 10 = 2 ∧ K L S (sr M a (q % 10000 / 10) x)
    | .long x :: .ref a :: S => kk M a = (0, q / 10000) ∧ q % 10 = 3 ∧ K L S (sj M a (q % 10000 / 10) x)
    | _ => False
  | .iaload => match S with
    | .int i :: .ref a :: S => ((kk M a).1 = 1 ∨ (kk M a).1 = 7) ∧ (nI 0 ≤ i ∧ i.toNatClampNeg < (kk M a).2 ∧ (kk M a).2 ≤ 1000000) ∧ K L (.int (ii M a i.toNatClampNeg) :: S) M
    | _ => False
  | .baload => match S with
    | .int i :: .ref a :: S => (kk M a).1 = 2 ∧ (nI 0 ≤ i ∧ i.toNatClampNeg < (kk M a).2 ∧ (kk M a).2 ≤ 1000000) ∧ K L (.int (ii M a i.toNatClampNeg) :: S) M
    | _ => False
  | .laload => match S with
    | .int i :: .ref a :: S => (kk M a).1 = 3 ∧ (nI 0 ≤ i ∧ i.toNatClampNeg < (kk M a).2 ∧ (kk M a).2 ≤ 1000000) ∧ K L (.long (jj M a i.toNatClampNeg) :: S) M
    | _ => False
  | .aaload => match S with
    | .int i :: .ref a :: S => ((kk M a).1 = 4 ∨ (kk M a).1 = 5) ∧ (nI 0 ≤ i ∧ i.toNatClampNeg < (kk M a).2 ∧ (kk M a).2 ≤ 1000000) ∧ ∃ b, rr M a i.toNatClampNeg = some b ∧ K L (.ref b :: S) M
    | _ => False
  | .iastore => match S with
    | .int x :: .int i :: .ref a :: S => (kk M a).1 = 1 ∧ (nI 0 ≤ i ∧ i.toNatClampNeg < (kk M a).2 ∧ (kk M a).2 ≤ 1000000) ∧ K L S (si M a i.toNatClampNeg x)
    | _ => False
  | .bastore => match S with
    | .int x :: .int i :: .ref a :: S => (kk M a).1 = 2 ∧ (x = nI 0 ∨ x = nI 1) ∧ (nI 0 ≤ i ∧ i.toNatClampNeg < (kk M a).2 ∧ (kk M a).2 ≤ 1000000) ∧ K L S (si M a i.toNatClampNeg x)
    | _ => False
  | .lastore => match S with
    | .long x :: .int i :: .ref a :: S => (kk M a).1 = 3 ∧ (nI 0 ≤ i ∧ i.toNatClampNeg < (kk M a).2 ∧ (kk M a).2 ≤ 1000000) ∧ K L S (sj M a i.toNatClampNeg x)
    | _ => False
  | .aastore => match S with
    | .ref x :: .int i :: .ref a :: S => (kk M a).1 = 4 ∧ kk M x = (0, 4) ∧ (nI 0 ≤ i ∧ i.toNatClampNeg < (kk M a).2 ∧ (kk M a).2 ≤ 1000000) ∧ K L S (sr M a i.toNatClampNeg x)
    | _ => False
  | .arraylength => match S with
    | .ref a :: S => (1 ≤ (kk M a).1 ∧ (kk M a).1 ≤ 7) ∧ K L (.int (nI (kk M a).2) :: S) M
    | _ => False
  | .ireturn => match S with
    | [.int x] => am_rk j x ∧ P (.inl (some (.int x))) M
    | _ => False
  | .lreturn => match S with
    | [.long x] => am_rt j = some .long ∧ P (.inl (some (.long x))) M
    | _ => False
  | .return_ => match S with
    | [] => am_rt j = none ∧ P (.inl none) M
    | _ => False
  | .new t => if 100 ≤ t then am_hh j = [] ∧ S.length ≤ 4 ∧ P (.inr (am_exn t)) (am_gar M) else match am_st (.new t) pc len L S M with | some q => q.1 = pc + len ∧ K q.2.1 q.2.2.1 q.2.2.2 | none => False
  | .invokevirtual t => if t = 1002 then (match S with
      | .ref r :: S => 2 ≤ d ∧ S.length ≤ 4 ∧ 1000000 ≤ r ∧ r - 1000000 < 31 ∧ K L (.int (nI (am_len.getD (r - 1000000) 0)) :: S) M
      | _ => False)
    else if t = 1003 then (match S with
      | .int i :: .ref r :: S => 4 ≤ d ∧ S.length ≤ 4 ∧ 1000000 ≤ r ∧ r - 1000000 < 31 ∧ am_ix i (am_len.getD (r - 1000000) 0) = true ∧ narrow .char (.int (am_chr (r - 1000000) i)) = .int (am_chr (r - 1000000) i) ∧ K L (.int (am_chr (r - 1000000) i) :: S) M
      | _ => False)
    else (match am_spl (am_np t) S [] with
      | (As, .ref a :: S) => 1 ≤ d ∧ am_cv t (kk M a) ∧ As.length = am_np t ∧ S.length ≤ 4 ∧ am_C G (d - 1) t (.ref a :: As) M (am_afk P K j L S)
      | _ => False)
  | .invokestatic t => if t = 1001 then (match S with
      | .int n :: .int dp :: .ref b :: .int sp :: .ref a :: S => (kk M a).1 = 1 ∧ (kk M b).1 = 1 ∧ (kk M a).2 ≤ 1000000 ∧ (kk M b).2 ≤ 1000000 ∧ S.length ≤ 4 ∧ (nI 0 ≤ n ∧ nI 0 ≤ dp ∧ nI 0 ≤ sp) ∧ sp.toNatClampNeg + n.toNatClampNeg ≤ (kk M a).2 ∧ dp.toNatClampNeg + n.toNatClampNeg ≤ (kk M b).2 ∧ K L S (sc M a b sp.toNatClampNeg dp.toNatClampNeg n.toNatClampNeg)
      | _ => False)
    else if t = 269 then (match S with
      | .int y :: .int x :: S => S.length ≤ 4 ∧ K L (.int (am_mx x y) :: S) M
      | _ => False)
    else if t = 270 then (match S with
      | .int y :: .int x :: S => S.length ≤ 4 ∧ K L (.int (am_mn x y) :: S) M
      | _ => False)
    else (match am_spl (am_np t) S [] with
      | (As, S) => 1 ≤ d ∧ am_cs t ∧ As.length = am_np t ∧ S.length ≤ 4 ∧ am_C G (d - 1) t As M (am_afs t P K j L S))
  | .invokespecial t => if t = 1000 then (match S with
      | .ref _ :: S => S.length ≤ 4 ∧ K L S M
      | _ => False)
    else (match am_spl (am_np t) S [] with
      | (As, .ref a :: S) => 1 ≤ d ∧ am_ci t ∧ As.length = am_np t ∧ S.length ≤ 4 ∧ am_C G (d - 1) t (.ref a :: As) M (fun o M' => o = .inl none ∧ K L S M')
      | _ => False)
  | i => match am_st i pc len L S M with
    | some q => q.1 = pc + len ∧ K q.2.1 q.2.2.1 q.2.2.2
    | none => False

def am_lw (G : am_G) (d j : Nat) (P : am_K) (cs : List Nat) (J : Nat → List Value → List Value → am_M → Prop) : List (Instr × Nat) → Nat → List Value → List Value → am_M → Prop
  | [], pc, L, S, M => am_V G d j pc L S M P
  | (i, len) :: is, pc, L, S, M => am_wi G d j P J (fun L S M => if cs.contains (pc + len) = true then am_V G d j (pc + len) L S M P else am_lw G d j P cs J is (pc + len) L S M) i pc len L S M
def am_nx (G : am_G) (d j : Nat) (P : am_K) (cs : List Nat) (J : Nat → List Value → List Value → am_M → Prop) (is : List (Instr × Nat)) (pc : Nat) (L S : List Value) (M : am_M) : Prop := if cs.contains pc = true then am_V G d j pc L S M P else am_lw G d j P cs J is pc L S M
def am_jw (G : am_G) (d j : Nat) (P : am_K) (cs : List Nat) : Nat → Nat → List Value → List Value → am_M → Prop
  | 0, pc, L, S, M => am_V G d j pc L S M P
  | n + 1, pc, L, S, M => if cs.contains pc = true then am_V G d j pc L S M P else am_lw G d j P cs (am_jw G d j P cs n) (am_suf j pc) pc L S M
def am_af (G : am_G) (d j : Nat) (P : am_K) (cs : List Nat) (J : Nat → List Value → List Value → am_M → Prop) (is : List (Instr × Nat)) (pc : Nat) (L S : List Value) : am_K := am_afk P (fun L S M => am_nx G d j P cs J is pc L S M) j L S
def am_af0 (G : am_G) (d j : Nat) (P : am_K) (cs : List Nat) (J : Nat → List Value → List Value → am_M → Prop) (is : List (Instr × Nat)) (pc : Nat) (L S : List Value) : am_K := fun o M' => o = .inl none ∧ am_nx G d j P cs J is pc L S M'

def am_af1 (t : Nat) (G : am_G) (d j : Nat) (P : am_K) (cs : List Nat) (J : Nat → List Value → List Value → am_M → Prop) (is : List (Instr × Nat)) (pc : Nat) (L S : List Value) : am_K := am_afs t P (fun L S M => am_nx G d j P cs J is pc L S M) j L S
section WPV
variable {G : am_G} {d j pc len : Nat} {P : am_K} {J : Nat → List Value → List Value → am_M → Prop} {K : List Value → List Value → am_M → Prop} {L S : List Value} {M : am_M} {i : Instr} {cs : List Nat}
theorem am_few {S : List Value} (h : S.length ≤ 4) : (S.map fun v => v.category).sum ≤ 8 := by
  have : ∀ T : List Value, (T.map fun v => v.category).sum ≤ 2 * T.length := by
    intro T
    induction T with
    | nil => simp
    | cons v T ih =>
      have : v.category ≤ 2 := by cases v <;> simp [Value.category]
      simp only [List.map_cons, List.sum_cons, List.length_cons]
      omega
  have := this S
  omega
theorem am_cq_p {c : ClassFile.Cond} {x y : Int32} : am_cp c x y ∨ am_cq c x y := by
  cases c <;> simp only [am_cp, am_cq]
  · exact Classical.em _
  · rcases Classical.em (x = y) with h | h
    · exact Or.inr h
    · exact Or.inl h
  · rcases Classical.em (x < y) with h | h
    · exact Or.inl h
    · exact Or.inr (Int32.not_lt.mp h)
  · rcases Classical.em (y ≤ x) with h | h
    · exact Or.inl h
    · exact Or.inr (Int32.not_le.mp h)
  · rcases Classical.em (y < x) with h | h
    · exact Or.inl h
    · exact Or.inr (Int32.not_lt.mp h)
  · rcases Classical.em (x ≤ y) with h | h
    · exact Or.inl h
    · exact Or.inr (Int32.not_le.mp h)
theorem am_cp_c {c : ClassFile.Cond} {x y : Int32} : am_cp c x y ↔ am_cc2 c x y = true := by cases c <;> simp [am_cp, am_cc2]
theorem am_cq_c {c : ClassFile.Cond} {x y : Int32} : am_cq c x y ↔ am_cc2 c x y = false := by
  cases c <;> simp [am_cq, am_cc2, Int32.not_lt, Int32.not_le]
theorem am_cc2_z {c : ClassFile.Cond} {x : Int32} : am_cc2 c x (nI 0) = am_cz c x := by
  rw [nI_0]
  cases c <;> rfl
theorem am_tgp {pc : Nat} {off : Int} (h : 0 ≤ (pc : Int) + off) : am_tg pc off = some ((pc : Int) + off).toNat := by
  unfold am_tg
  rw [if_pos h]
theorem am_spl_ok : ∀ (n : Nat) (S A As S' : List Value), am_spl n S A = (As, S') → ∃ B, As = B ++ A ∧ B.reverse ++ S' = S := by
  intro n
  induction n with
  | zero => intro S A As S' h; simp only [am_spl, Prod.mk.injEq] at h; exact ⟨[], by simp [h.1], by simp [h.2]⟩
  | succ n ih =>
    intro S A As S' h
    cases S with
    | nil => simp only [am_spl, Prod.mk.injEq] at h; obtain ⟨rfl, rfl⟩ := h; exact ⟨[], by simp, by simp⟩
    | cons v S =>
      obtain ⟨B, h1, h2⟩ := ih S (v :: A) As S' h
      exact ⟨B ++ [v], by simp [h1], by simp [← h2]⟩
theorem am_spl_0 {n : Nat} {S As S' : List Value} (h : am_spl n S [] = (As, S')) : As.reverse ++ S' = S := by
  obtain ⟨B, h1, h2⟩ := am_spl_ok n S [] As S' h
  rw [h1, List.append_nil]
  exact h2
end WPV
