/-! The conditions are enough. -/
section WPX
variable {G : am_G} {d j pc len : Nat} {P : am_K} {J : Nat → List Value → List Value → am_M → Prop} {K : List Value → List Value → am_M → Prop} {L S : List Value} {M : am_M} {i : Instr} {cs : List Nat}
theorem am_ofI {v : Int} (h : 0 ≤ v) : Int32.ofInt v = nI v.toNat := by
  obtain ⟨n, rfl⟩ := Int.eq_ofNat_of_zero_le h
  rfl
theorem am_of8 {v : Int} (h : -128 ≤ v ∧ v < 128) : (Int8.ofInt v).toInt32 = Int32.ofInt v := by
  apply Int32.toInt_inj.mp
  rw [Int8.toInt_toInt32, Int8.toInt_ofInt, Int32.toInt_ofInt]
  show Int.bmod v 256 = Int.bmod v 4294967296
  rw [Int.bmod_eq_of_le (by omega) (by omega), Int.bmod_eq_of_le (by omega) (by omega)]
theorem am_of16 {v : Int} (h : -32768 ≤ v ∧ v < 32768) : (Int16.ofInt v).toInt32 = Int32.ofInt v := by
  apply Int32.toInt_inj.mp
  rw [Int16.toInt_toInt32, Int16.toInt_ofInt, Int32.toInt_ofInt]
  show Int.bmod v 65536 = Int.bmod v 4294967296
  rw [Int.bmod_eq_of_le (by omega) (by omega), Int.bmod_eq_of_le (by omega) (by omega)]
theorem am_ixk {k n : Nat} {i : Int32} (h1 : i = nI k) (h2 : k < n) (h3 : n ≤ 1000000) : am_ix i n = true ∧ i.toNatClampNeg = k := by
  subst h1
  exact ⟨am_ix_of h2 (by omega), nI_clamp (by omega)⟩
theorem am_ixc {n : Nat} {i : Int32} (h1 : nI 0 ≤ i) (h2 : i.toNatClampNeg < n) : am_ix i n = true := by
  rw [nI_0] at h1
  simp [am_ix, h1, h2]
theorem am_gv_get : ∀ (L : List Value) (i : Nat) (v : Value), am_gv L i = v → v ≠ am_junk → L[i]? = some v := by
  intro L
  induction L with
  | nil => intro i v h1 h2; exact absurd h1.symm h2
  | cons a L ih =>
    intro i v h1 h2
    cases i with
    | zero => simpa [am_gv] using h1
    | succ i => rw [List.getElem?_cons_succ]; exact ih i v h1 h2
theorem am_dflt (ha : am_at j pc = some (i, len)) (hK : ∀ L S M, K L S M → am_V G d j (pc + len) L S M P) (h : match am_st i pc len L S M with
    | some q => q.1 = pc + len ∧ K q.2.1 q.2.2.1 q.2.2.2
    | none => False) : am_V G d j pc L S M P := by
  cases hs : am_st i pc len L S M with
  | none => rw [hs] at h; exact absurd h id
  | some q =>
    obtain ⟨q1, q2, q3, q4⟩ := q
    rw [hs] at h
    obtain ⟨e1, h⟩ := h
    simp only at e1 h
    subst e1
    exact v_st ha hs (hK _ _ _ h)
theorem am_ldok {t i' : Nat} {ist : Instr} (ha : am_at j pc = some (ist, len)) (hs : am_st ist pc len L S M = am_ld L i' pc len S M t) (hK : ∀ L S M, K L S M → am_V G d j (pc + len) L S M P) (h : am_ld1 (am_gv L i') (fun v => K L (v :: S) M) t) : am_V G d j pc L S M P := by
  unfold am_ld1 at h
  split at h
  · rename_i x hx
    obtain ⟨rfl, h⟩ := h
    refine v_st ha (pc' := pc + len) (L' := L) (S' := .int x :: S) (M' := M) ?_ (hK _ _ _ h)
    rw [hs]; unfold am_ld
    rw [am_gv_get _ _ _ hx (by simp [am_junk])]; rfl
  · rename_i x hx
    obtain ⟨rfl, h⟩ := h
    refine v_st ha (pc' := pc + len) (L' := L) (S' := .ref x :: S) (M' := M) ?_ (hK _ _ _ h)
    rw [hs]; unfold am_ld
    rw [am_gv_get _ _ _ hx (by simp [am_junk])]; rfl
  · rename_i x hx
    obtain ⟨rfl, h⟩ := h
    refine v_st ha (pc' := pc + len) (L' := L) (S' := .long x :: S) (M' := M) ?_ (hK _ _ _ h)
    rw [hs]; unfold am_ld
    rw [am_gv_get _ _ _ hx (by simp [am_junk])]; rfl
  · exact absurd h id
theorem am_len_of {i : Instr} (ha : am_at j pc = some (i, len)) {n : Nat} (h : ∀ l, am_ln i l = (l == n)) : len = n := by
  have := (am_at_ok ha).2
  rw [h] at this
  simpa using this
end WPX
