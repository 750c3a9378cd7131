/-! Numbers. -/
theorem nI_mul (a b : Nat) : nI a * nI b = nI (a * b) := (Int32.ofNat_mul a b).symm
theorem nI_sub {a b : Nat} (h : b ≤ a) : nI a - nI b = nI (a - b) := by
  obtain ⟨c, rfl⟩ := Nat.exists_eq_add_of_le h
  rw [Nat.add_sub_cancel_left, ← nI_add]
  show nI b + nI c - nI b = nI c
  rw [Int32.sub_eq_add_neg, Int32.add_comm (nI b), Int32.add_assoc, Int32.add_right_neg, Int32.add_zero]
theorem t_lt {x y : Int32} : x < y ↔ x.toInt < y.toInt := Int32.lt_iff_toInt_lt
theorem t_le {x y : Int32} : x ≤ y ↔ x.toInt ≤ y.toInt := Int32.le_iff_toInt_le
theorem t_eq {x y : Int32} : x = y ↔ x.toInt = y.toInt := Int32.toInt_inj.symm
theorem t_rng (x : Int32) : -2147483648 ≤ x.toInt ∧ x.toInt < 2147483648 := ⟨Int32.le_toInt x, Int32.toInt_lt x⟩
theorem t_nI {n : Nat} (h : n < 2147483648) : (nI n).toInt = (n : Int) := nI_toInt h
theorem t_c {v : Int} (h : -2147483648 ≤ v ∧ v < 2147483648) : (am_c v).toInt = v := by
  rw [am_c, Int32.toInt_ofInt]
  show Int.bmod v 4294967296 = v
  rw [Int.bmod_eq_of_le (by omega) (by omega)]
theorem t_bm {v : Int} (h : -2147483648 ≤ v ∧ v < 2147483648) : v.bmod (2 ^ 32) = v := by
  show Int.bmod v 4294967296 = v
  rw [Int.bmod_eq_of_le (by omega) (by omega)]
theorem t_add {x y : Int32} (h : -2147483648 ≤ x.toInt + y.toInt ∧ x.toInt + y.toInt < 2147483648) : (x + y).toInt = x.toInt + y.toInt := by rw [Int32.toInt_add, t_bm h]
theorem t_sub {x y : Int32} (h : -2147483648 ≤ x.toInt - y.toInt ∧ x.toInt - y.toInt < 2147483648) : (x - y).toInt = x.toInt - y.toInt := by rw [Int32.toInt_sub, t_bm h]
theorem t_mul {x y : Int32} (h : -2147483648 ≤ x.toInt * y.toInt ∧ x.toInt * y.toInt < 2147483648) : (x * y).toInt = x.toInt * y.toInt := by rw [Int32.toInt_mul, t_bm h]
theorem nI_of3 {x : Int32} {n : Int} (h0 : 0 ≤ x.toInt) (h1 : x.toInt < n) : ∃ k : Nat, (k : Int) < n ∧ x = nI k := by
  refine ⟨x.toInt.toNat, by omega, ?_⟩
  have := t_rng x
  rw [t_eq, t_nI (by omega)]
  omega
/-- prunings -/
theorem p_le {a b : Nat} {q : Prop} (h : a ≤ b) : (a ≤ b → q) = q := by simp [h]
theorem p_nle {a b : Nat} {q : Prop} (h : b < a) : (a ≤ b → q) = True := by simp; omega
theorem p_lt {a b : Nat} {q : Prop} (h : a < b) : (a < b → q) = q := by simp [h]
theorem p_nlt {a b : Nat} {q : Prop} (h : b ≤ a) : (a < b → q) = True := by simp; omega
theorem p_eq {a b : Nat} {q : Prop} (h : a = b) : (a = b → q) = q := by simp [h]
theorem p_ne {a b : Nat} {q : Prop} (h : ¬ a = b) : (a = b → q) = True := by simp [h]
theorem p_neq {a b : Nat} {q : Prop} (h : ¬ a = b) : (¬ a = b → q) = q := by simp [h]
theorem p_neqf {a b : Nat} {q : Prop} (h : a = b) : (¬ a = b → q) = True := by simp [h]
theorem p_lea {a b : Nat} {q : Prop} (h : a ≤ b) : (a ≤ b ∧ q) = q := by simp [h]
theorem p_lta {a b : Nat} {q : Prop} (h : a < b) : (a < b ∧ q) = q := by simp [h]
theorem p_nea {a b : Nat} {q : Prop} (h : ¬ a = b) : (¬ a = b ∧ q) = q := by simp [h]
theorem p_00 {a : Nat} : (0 ≤ a) = True := by simp
theorem am_up_eq {α : Type} (f : Nat → Nat → α) (a k : Nat) (v : α) : am_up f a k v a k = v := by simp [am_up]
theorem am_up_nc {α : Type} (f : Nat → Nat → α) (a k c : Nat) (v : α) (h : ¬ c = a) : am_up f a k v c = f c := by funext y; simp [am_up, h]
theorem am_up_nk {α : Type} (f : Nat → Nat → α) (a k x : Nat) (v : α) (h : ¬ x = k) : am_up f a k v a x = f a x := by simp [am_up, h]
/-- a loop that counts up -/
theorem am_for {G : am_G} {d j pc : Nat} {P : am_K} (I : Nat → List Value → am_M → Prop) (n : Nat)
    (hb : ∀ k L M, k < n → I k L M → (∀ L' M', I (k + 1) L' M' → am_V G d j pc L' [] M' P) → am_V G d j pc L [] M P)
    (he : ∀ L M, I n L M → am_V G d j pc L [] M P) : ∀ k L M, k ≤ n → I k L M → am_V G d j pc L [] M P := by
  have : ∀ m k L M, k + m = n → I k L M → am_V G d j pc L [] M P := by
    intro m
    induction m with
    | zero => intro k L M hk hi; rw [Nat.add_zero] at hk; subst hk; exact he L M hi
    | succ m ih => intro k L M hk hi; exact hb k L M (by omega) hi (fun L' M' h' => ih (k + 1) L' M' (by omega) h')
  intro k L M hk hi
  exact this (n - k) k L M (by omega) hi
/-- sets of numbers as bits -/
def bs (q : Nat → Bool) : Nat → Nat
  | 0 => 0
  | n + 1 => bs q n ||| (if q n then 2 ^ n else 0)
theorem bs_lt (q : Nat → Bool) (n : Nat) : bs q n < 2 ^ n := by
  induction n with
  | zero => simp [bs]
  | succ n ih =>
    rw [bs]
    refine Nat.or_lt_two_pow (Nat.lt_of_lt_of_le ih (Nat.pow_le_pow_right (by decide) (by omega))) ?_
    split
    · exact Nat.pow_lt_pow_right (by decide) (by omega)
    · exact Nat.two_pow_pos _
theorem bs_bit (q : Nat → Bool) (n i : Nat) : (bs q n).testBit i = (decide (i < n) && q i) := by
  induction n with
  | zero => simp [bs]
  | succ n ih =>
    rw [bs, Nat.testBit_or, ih]
    by_cases h : i = n
    · subst h
      cases q i <;> simp
    · have h2 : (if q n then 2 ^ n else 0).testBit i = false := by
        split
        · rw [Nat.testBit_two_pow]; simp; omega
        · simp
      rw [h2, Bool.or_false]
      congr 1
      rw [decide_eq_decide]
      omega
theorem bs_congr {q r : Nat → Bool} {n : Nat} (h : ∀ i, i < n → q i = r i) : bs q n = bs r n := by
  induction n with
  | zero => rfl
  | succ n ih => rw [bs, bs, ih (fun i hi => h i (by omega)), h n (by omega)]
theorem bs_ext {q : Nat → Bool} {n m : Nat} (hnm : n ≤ m) (h : ∀ i, n ≤ i → i < m → q i = false) : bs q m = bs q n := by
  induction m with
  | zero => rw [show n = 0 by omega]
  | succ m ih =>
    by_cases e : n = m + 1
    · rw [e]
    · rw [bs, h m (by omega) (by omega), ih (by omega) (fun i h1 h2 => h i h1 (by omega))]
      simp
theorem nI_or (a b : Nat) : nI a ||| nI b = nI (a ||| b) := by
  apply Int32.toBitVec_inj.mp
  rw [Int32.toBitVec_or]
  show BitVec.ofNat 32 a ||| BitVec.ofNat 32 b = BitVec.ofNat 32 (a ||| b)
  rw [BitVec.ofNat_or]
theorem nI_and (a b : Nat) : nI a &&& nI b = nI (a &&& b) := by
  apply Int32.toBitVec_inj.mp
  rw [Int32.toBitVec_and]
  show BitVec.ofNat 32 a &&& BitVec.ofNat 32 b = BitVec.ofNat 32 (a &&& b)
  rw [BitVec.ofNat_and]
theorem nI_shl1 {k : Nat} (h : k < 31) : am_shl (nI 1) (nI k) = nI (2 ^ k) := by
  have : ∀ k : Fin 31, am_shl (nI 1) (nI k.val) = nI (2 ^ k.val) := by decide +kernel
  exact this ⟨k, h⟩
