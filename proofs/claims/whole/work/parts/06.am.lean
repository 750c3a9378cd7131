/-! THE ABSTRACT MACHINE. Memory: how many cells, how many cells of thrown things behind them, how many slots in all; of each cell its kind; ints, references, longs by cell and place. -/
abbrev am_M : Type := (Nat × Nat × Nat) × (Nat → Nat × Nat) × (Nat → Nat → Int32) × (Nat → Nat → Option Nat) × (Nat → Nat → Int64)
abbrev am_n (M : am_M) : Nat := M.1.1
abbrev am_g (M : am_M) : Nat := M.1.2.1
abbrev am_u (M : am_M) : Nat := M.1.2.2
abbrev am_k (M : am_M) : Nat → Nat × Nat := M.2.1
abbrev am_i (M : am_M) : Nat → Nat → Int32 := M.2.2.1
abbrev am_r (M : am_M) : Nat → Nat → Option Nat := M.2.2.2.1
abbrev am_j (M : am_M) : Nat → Nat → Int64 := M.2.2.2.2
abbrev am_sz (M : am_M) : Nat := am_n M + am_g M
def am_up {α : Type} (f : Nat → Nat → α) (a k : Nat) (v : α) : Nat → Nat → α := fun x y => if x = a ∧ y = k then v else f x y
abbrev am_si (M : am_M) (a k : Nat) (v : Int32) : am_M := (M.1, M.2.1, am_up M.2.2.1 a k v, M.2.2.2)
abbrev am_sr (M : am_M) (a k : Nat) (v : Option Nat) : am_M := (M.1, M.2.1, M.2.2.1, am_up M.2.2.2.1 a k v, M.2.2.2.2)
abbrev am_sj (M : am_M) (a k : Nat) (v : Int64) : am_M := (M.1, M.2.1, M.2.2.1, M.2.2.2.1, am_up M.2.2.2.2 a k v)
/-- a new cell of a kind, of w slots -/
abbrev am_new (M : am_M) (q : Nat × Nat) (w : Nat) : am_M := ((am_n M + 1, am_g M, am_u M + w), (fun a => if a = am_n M + 1 then q else am_k M a), M.2.2)
/-- c places are written from one row of ints to another -/
def am_cpy (f : Nat → Nat → Int32) (a b sp dp n : Nat) : Nat → Nat → Int32 := fun x y => if x = b then va_cpy (f a) (f b) sp dp n y else f x y
/-- new int[n][k]: the outer row, its n rows behind it -/
abbrev am_newg (M : am_M) (n k : Nat) : am_M := ((am_n M + 1 + n, am_g M, am_u M + n + n * k), (fun a => if a = am_n M + 1 then (5, n) else if am_n M + 1 < a ∧ a ≤ am_n M + 1 + n then (1, k) else am_k M a), M.2.2.1, (fun a i => if a = am_n M + 1 ∧ i < n then some (am_n M + 2 + i) else am_r M a i), M.2.2.2.2)
def am_tg (pc : Nat) (off : Int) : Option Nat := if 0 ≤ (pc : Int) + off then some ((pc : Int) + off).toNat else none
def am_cz (c : ClassFile.Cond) (x : Int32) : Bool := match c with
  | .eq => decide (x = 0) | .ne => decide (¬ x = 0) | .lt => decide (x < 0) | .ge => decide (0 ≤ x) | .gt => decide (0 < x) | .le => decide (x ≤ 0)
def am_cc2 (c : ClassFile.Cond) (x y : Int32) : Bool := match c with
  | .eq => decide (x = y) | .ne => decide (¬ x = y) | .lt => decide (x < y) | .ge => decide (y ≤ x) | .gt => decide (y < x) | .le => decide (x ≤ y)
def am_junk : Value := .retAddr 0
/-- index i of a row of n -/
def am_ix (i : Int32) (n : Nat) : Bool := decide (0 ≤ i) && decide (i.toNatClampNeg < n)
/-- place i may be stored to: no long ends there -/
def am_may (L : List Value) (i : Nat) : Bool := decide (i < L.length) && (match i with | 0 => true | k + 1 => decide ((L.getD k am_junk).category = 1))
abbrev am_S : Type := Nat × List Value × List Value × am_M
def am_ld (L : List Value) (i pc len : Nat) (S : List Value) (M : am_M) (t : Nat) : Option am_S :=
  match L[i]? with
  | some (.int x) => if t = 0 then some (pc + len, L, .int x :: S, M) else none
  | some (.ref x) => if t = 1 then some (pc + len, L, .ref x :: S, M) else none
  | some (.long x) => if t = 2 then some (pc + len, L, .long x :: S, M) else none
  | _ => none
def am_sto (L : List Value) (i pc len : Nat) (S : List Value) (M : am_M) (t : Nat) : Option am_S :=
  match S with
  | .int x :: S => if t = 0 ∧ am_may L i = true then some (pc + len, L.set i (.int x), S, M) else none
  | .ref x :: S => if t = 1 ∧ am_may L i = true then some (pc + len, L.set i (.ref x), S, M) else none
  | .long x :: S => if t = 2 ∧ am_may L i = true ∧ i + 1 < L.length then some (pc + len, (L.set i (.long x)).set (i + 1) am_junk, S, M) else none
  | _ => none
def am_bin (S : List Value) (pc : Nat) (L : List Value) (M : am_M) (f : Int32 → Int32 → Int32) : Option am_S :=
  match S with
  | .int y :: .int x :: S => some (pc + 1, L, .int (f x y) :: S, M)
  | _ => none
/-- the instructions without calls and ends -/
def am_st (i : Instr) (pc len : Nat) (L S : List Value) (M : am_M) : Option am_S :=
  match i with
  | .iconst v => some (pc + 1, L, .int (Int32.ofInt v) :: S, M)
  | .bipush v => some (pc + 2, L, .int (Int8.ofInt v).toInt32 :: S, M)
  | .sipush v => some (pc + 3, L, .int (Int16.ofInt v).toInt32 :: S, M)
  | .lconst v => some (pc + 1, L, .long (Int64.ofNat v) :: S, M)
  | .ldc_w v => some (pc + 3, L, .int (Int32.ofNat v) :: S, M)
  | .ldc2_w v => some (pc + 3, L, .long (Int64.ofNat v) :: S, M)
  | .ldc k => some (pc + 2, L, .ref (1000000 + k) :: S, M)
  | .iload i => am_ld L i pc 2 S M 0
  | .iload_n k => am_ld L k.val pc 1 S M 0
  | .aload i => am_ld L i pc 2 S M 1
  | .aload_n k => am_ld L k.val pc 1 S M 1
  | .lload i => am_ld L i pc 2 S M 2
  | .lload_n k => am_ld L k.val pc 1 S M 2
  | .istore i => am_sto L i pc 2 S M 0
  | .istore_n k => am_sto L k.val pc 1 S M 0
  | .astore i => am_sto L i pc 2 S M 1
  | .astore_n k => am_sto L k.val pc 1 S M 1
  | .lstore i => am_sto L i pc 2 S M 2
  | .lstore_n k => am_sto L k.val pc 1 S M 2
  | .iinc i v => match L[i]? with
    | some (.int x) => if am_may L i = true then some (pc + 3, L.set i (.int (x + Int32.ofInt v)), S, M) else none
    | _ => none
  | .iadd => am_bin S pc L M (fun x y => x + y)
  | .isub => am_bin S pc L M (fun x y => x - y)
  | .imul => am_bin S pc L M (fun x y => x * y)
  | .iand => am_bin S pc L M (fun x y => x &&& y)
  | .ior => am_bin S pc L M (fun x y => x ||| y)
  | .ixor => am_bin S pc L M (fun x y => x ^^^ y)
  | .ishl => am_bin S pc L M (fun x y => x <<< (y &&& 31))
  | .ishr => am_bin S pc L M (fun x y => x >>> (y &&& 31))
  | .iushr => am_bin S pc L M (fun x y => (x.toUInt32 >>> (y.toUInt32 &&& Int32.toUInt32 31)).toInt32)
  | .idiv => match S with
    | .int y :: .int x :: S => if y = 0 then none else some (pc + 1, L, .int (x / y) :: S, M)
    | _ => none
  | .irem => match S with
    | .int y :: .int x :: S => if y = 0 then none else some (pc + 1, L, .int (x - x / y * y) :: S, M)
    | _ => none
  | .ineg => match S with
    | .int x :: S => some (pc + 1, L, .int (-x) :: S, M)
    | _ => none
  | .i2l => match S with
    | .int x :: S => some (pc + 1, L, .long x.toInt64 :: S, M)
    | _ => none
  | .lshl => match S with
    | .int y :: .long x :: S => some (pc + 1, L, .long (x <<< (y.toInt64 &&& 63)) :: S, M)
    | _ => none
  | .lor => match S with
    | .long y :: .long x :: S => some (pc + 1, L, .long (x ||| y) :: S, M)
    | _ => none
  | .lsub => match S with
    | .long y :: .long x :: S => some (pc + 1, L, .long (x - y) :: S, M)
    | _ => none
  | .lcmp => match S with
    | .long y :: .long x :: S => some (pc + 1, L, .int (lg_cmp x y) :: S, M)
    | _ => none
  | .dup => match S with
    | .int x :: S => some (pc + 1, L, .int x :: .int x :: S, M)
    | .ref x :: S => some (pc + 1, L, .ref x :: .ref x :: S, M)
    | _ => none
  | .pop => match S with
    | .int _ :: S => some (pc + 1, L, S, M)
    | _ => none
  | .dup2 => match S with
    | .int x :: .ref y :: S => some (pc + 1, L, .int x :: .ref y :: .int x :: .ref y :: S, M)
    | _ => none
  | .ifCond c off => match S with
    | .int x :: S => (am_tg pc off).bind (fun t => some (if am_cz c x = true then t else pc + 3, L, S, M))
    | _ => none
  | .if_icmp c off => match S with
    | .int y :: .int x :: S => (am_tg pc off).bind (fun t => some (if am_cc2 c x y = true then t else pc + 3, L, S, M))
    | _ => none
  | .goto off => (am_tg pc off).bind (fun t => some (t, L, S, M))
  | .tableswitch dflt lo hi offs => match S with
    | .int x :: S => if x.toInt < lo ∨ hi < x.toInt then (am_tg pc dflt).bind (fun t => some (t, L, S, M)) else match offs[(x.toInt - lo).toNat]? with
      | some off => (am_tg pc off).bind (fun t => some (t, L, S, M))
      | none => none
    | _ => none
  | .getfield q => match S with
    | .ref a :: S => if am_k M a = (0, q / 10000) then (match q % 10 with
      | 2 => (am_r M a (q % 10000 / 10)).bind (fun b => some (pc + 3, L, .ref b :: S, M))
      | 3 => some (pc + 3, L, .long (am_j M a (q % 10000 / 10)) :: S, M)
      | _ => some (pc + 3, L, .int (am_i M a (q % 10000 / 10)) :: S, M)) else none
    | _ => none
  | .putfield q => match S with
    | .int x :: .ref a :: S => if am_k M a = (0, q / 10000) ∧ (q % 10 = 0 ∨ q % 10 = 1 ∧ (x = 0 ∨ x = 1)) then some (pc + 3, L, S, am_si M a (q % 10000 / 10) x) else none
    | .ref x :: .ref a :: S => if am_k M a = (0, q / 10000) ∧ q % 10 = 2 then some (pc + 3, L, S, am_sr M a (q % 10000 / 10) (some x)) else none
    | .long x :: .ref a :: S => if am_k M a = (0, q / 10000) ∧ q % 10 = 3 then some (pc + 3, L, S, am_sj M a (q % 10000 / 10) x) else none
    | _ => none
  | .iaload => match S with
    | .int i :: .ref a :: S => if ((am_k M a).1 = 1 ∨ (am_k M a).1 = 7) ∧ am_ix i (am_k M a).2 = true then some (pc + 1, L, .int (am_i M a i.toNatClampNeg) :: S, M) else none
    | _ => none
  | .baload => match S with
    | .int i :: .ref a :: S => if (am_k M a).1 = 2 ∧ am_ix i (am_k M a).2 = true then some (pc + 1, L, .int (am_i M a i.toNatClampNeg) :: S, M) else none
    | _ => none
  | .laload => match S with
    | .int i :: .ref a :: S => if (am_k M a).1 = 3 ∧ am_ix i (am_k M a).2 = true then some (pc + 1, L, .long (am_j M a i.toNatClampNeg) :: S, M) else none
    | _ => none
  | .aaload => match S with
    | .int i :: .ref a :: S => if ((am_k M a).1 = 4 ∨ (am_k M a).1 = 5) ∧ am_ix i (am_k M a).2 = true then (am_r M a i.toNatClampNeg).bind (fun b => some (pc + 1, L, .ref b :: S, M)) else none
    | _ => none
  | .iastore => match S with
    | .int x :: .int i :: .ref a :: S => if (am_k M a).1 = 1 ∧ am_ix i (am_k M a).2 = true then some (pc + 1, L, S, am_si M a i.toNatClampNeg x) else none
    | _ => none
  | .bastore => match S with
    | .int x :: .int i :: .ref a :: S => if (am_k M a).1 = 2 ∧ am_ix i (am_k M a).2 = true ∧ (x = 0 ∨ x = 1) then some (pc + 1, L, S, am_si M a i.toNatClampNeg x) else none
    | _ => none
  | .lastore => match S with
    | .long x :: .int i :: .ref a :: S => if (am_k M a).1 = 3 ∧ am_ix i (am_k M a).2 = true then some (pc + 1, L, S, am_sj M a i.toNatClampNeg x) else none
    | _ => none
  | .aastore => match S with
    | .ref x :: .int i :: .ref a :: S => if (am_k M a).1 = 4 ∧ am_ix i (am_k M a).2 = true ∧ am_k M x = (0, 4) then some (pc + 1, L, S, am_sr M a i.toNatClampNeg (some x)) else none
    | _ => none
  | .arraylength => match S with
    | .ref a :: S => if 1 ≤ (am_k M a).1 ∧ (am_k M a).1 ≤ 7 then some (pc + 1, L, .int (Int32.ofNat (am_k M a).2) :: S, M) else none
    | _ => none
  | .newarray t => match S with
    | .int n :: S => if am_g M = 0 ∧ am_n M < 900000 ∧ 0 ≤ n ∧ n.toNatClampNeg ≤ 10000 then (match t with
      | .int => some (pc + 2, L, .ref (am_n M + 1) :: S, am_new M (1, n.toNatClampNeg) n.toNatClampNeg)
      | .boolean => some (pc + 2, L, .ref (am_n M + 1) :: S, am_new M (2, n.toNatClampNeg) n.toNatClampNeg)
      | .long => some (pc + 2, L, .ref (am_n M + 1) :: S, am_new M (3, n.toNatClampNeg) n.toNatClampNeg)
      | _ => none) else none
    | _ => none
  | .anewarray _ => match S with
    | .int n :: S => if am_g M = 0 ∧ am_n M < 900000 ∧ 0 ≤ n ∧ n.toNatClampNeg ≤ 10000 then some (pc + 3, L, .ref (am_n M + 1) :: S, am_new M (4, n.toNatClampNeg) n.toNatClampNeg) else none
    | _ => none
  | .multianewarray _ _ => match S with
    | .int k :: .int n :: S => if am_g M = 0 ∧ am_n M < 900000 ∧ 0 ≤ n ∧ n.toNatClampNeg ≤ 10000 ∧ 0 ≤ k ∧ k.toNatClampNeg ≤ 10000 then some (pc + 4, L, .ref (am_n M + 1) :: S, am_newg M n.toNatClampNeg k.toNatClampNeg) else none
    | _ => none
  | .new t => if t < 12 ∧ am_g M = 0 ∧ am_n M < 900000 then some (pc + 3, L, .ref (am_n M + 1) :: S, am_new M (0, t) (am_nf t)) else none
  | _ => none
