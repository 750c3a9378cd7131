/-! CONDITIONS COMPUTED: am_lw of a list of resolved instructions says what must hold so that the code from there comes to its end; branches to places that are no cuts are followed. -/
def kk (M : am_M) (a : Nat) : Nat × Nat := am_k M a
def ii (M : am_M) (a k : Nat) : Int32 := am_i M a k
def rr (M : am_M) (a k : Nat) : Option Nat := am_r M a k
def jj (M : am_M) (a k : Nat) : Int64 := am_j M a k
def si (M : am_M) (a k : Nat) (v : Int32) : am_M := am_si M a k v
def sr (M : am_M) (a k : Nat) (v : Nat) : am_M := am_sr M a k (some v)
def sj (M : am_M) (a k : Nat) (v : Int64) : am_M := am_sj M a k v
def sc (M : am_M) (a b sp dp n : Nat) : am_M := (M.1, M.2.1, am_cpy M.2.2.1 a b sp dp n, M.2.2.2)
def am_c (v : Int) : Int32 := Int32.ofInt v
def am_inc (x : Int32) (v : Int) : Int32 := if 0 ≤ v then x + nI v.toNat else x + am_c v
def am_cp (c : ClassFile.Cond) (x y : Int32) : Prop := match c with
  | .eq => x = y | .ne => ¬ x = y | .lt => x < y | .ge => y ≤ x | .gt => y < x | .le => x ≤ y
def am_cq (c : ClassFile.Cond) (x y : Int32) : Prop := match c with
  | .eq => ¬ x = y | .ne => x = y | .lt => y ≤ x | .ge => x < y | .gt => x ≤ y | .le => y < x
def am_shl (x y : Int32) : Int32 := x <<< (y &&& 31)
def am_shr (x y : Int32) : Int32 := x >>> (y &&& 31)
def am_ushr (x y : Int32) : Int32 := (x.toUInt32 >>> (y.toUInt32 &&& Int32.toUInt32 31)).toInt32
def am_rem (x y : Int32) : Int32 := x - x / y * y
def am_lshl (x : Int64) (y : Int32) : Int64 := x <<< (y.toInt64 &&& 63)
def am_mx (x y : Int32) : Int32 := if x < y then y else x
def am_mn (x y : Int32) : Int32 := if y < x then y else x
def am_nrm (pc : Nat) (i : Instr) : Instr := match i with
  | .iload_n k => .iload k.val
  | .aload_n k => .aload k.val
  | .lload_n k => .lload k.val
  | .istore_n k => .istore k.val
  | .astore_n k => .astore k.val
  | .lstore_n k => .lstore k.val
  | .iconst v => if 0 ≤ v then .ldc_w v.toNat else .iconst v
  | .bipush v => if 0 ≤ v ∧ v < 128 then .ldc_w v.toNat else if -128 ≤ v ∧ v < 0 then .iconst v else .bipush v
  | .sipush v => if 0 ≤ v ∧ v < 32768 then .ldc_w v.toNat else if -32768 ≤ v ∧ v < 0 then .iconst v else .sipush v
  | .ifCond c off => .ifCond c ((pc : Int) + off)
  | .if_icmp c off => .if_icmp c ((pc : Int) + off)
  | .goto off => .goto ((pc : Int) + off)
  | .tableswitch d lo hi offs => .tableswitch ((pc : Int) + d) lo hi (offs.map (fun o => (pc : Int) + o))
  | i => i
def am_trm (i : Instr) : Bool := match i with
  | .goto _ | .ireturn | .lreturn | .return_ | .tableswitch _ _ _ _ => true
  | .new t => decide (100 ≤ t)
  | _ => false
def am_sf (j : Nat) : Nat → Nat → List (Instr × Nat)
  | 0, _ => []
  | n + 1, pc => match am_at j pc with
    | none => []
    | some (i, len) => (am_nrm pc i, len) :: (if am_trm i = true then [] else am_sf j n (pc + len))
def am_suf (j pc : Nat) : List (Instr × Nat) := am_sf j 400 pc
def am_gv : List Value → Nat → Value
  | [], _ => am_junk
  | v :: _, 0 => v
  | _ :: L, i + 1 => am_gv L i
def am_spl : Nat → List Value → List Value → List Value × List Value
  | 0, S, A => (A, S)
  | _ + 1, [], A => (A, [])
  | n + 1, v :: S, A => am_spl n S (v :: A)
def am_cv (t : Nat) (q : Nat × Nat) : Prop := t < 302 ∧ am_hh t = [] ∧ q.1 = 0 ∧ q.2 < 12 ∧ (am_y t).cls = am_cn q.2
def am_cs (t : Nat) : Prop := t < 302 ∧ (am_hh t = [] ∨ am_nn (am_y t) = true)
def am_ci (t : Nat) : Prop := t < 302 ∧ am_hh t = [] ∧ am_rt t = none
def am_rk (j : Nat) (x : Int32) : Prop := am_rt j = some .int ∨ am_rt j = some .boolean ∧ (x = 0 ∨ x = 1)
