/-! A text's lines: what each one tells. -/
section FF
variable {n : Nat} {B : Nat → Nat} {s i j f np nf nt nq : Nat} {D : Mu}
def nmI (n : Nat) (B : Nat → Nat) (lo hi s : Nat) : Ft ⊕ (Nat × Nat) := if ¬ kd n B s = 2 then .inl (1, s) else if 4 < lg n B s ∨ vlp n B s < lo ∨ hi < vlp n B s then .inl (2, s) else .inr (vlp n B s, nxp n B s)
def psI (n : Nat) (B : Nat → Nat) (np bar s : Nat) : Ft ⊕ (Nat × Nat) := if ¬ kd n B s = 2 then .inl (1, s) else if 4 < lg n B s then .inl (2, s) else if np ≤ vlp n B s then .inl (3, s) else if bar.testBit (vlp n B s) = true then .inl (4, s) else .inr (vlp n B s, nxp n B s)
def bd {α β : Type} (x : Ft ⊕ α) (g : α → Ft ⊕ β) : Ft ⊕ β := match x with
  | .inl y => .inl y
  | .inr a => g a
theorem bd_l {α β : Type} {y : Ft} {g : α → Ft ⊕ β} : bd (.inl y) g = .inl y := rfl
theorem bd_r {α β : Type} {a : α} {g : α → Ft ⊕ β} : bd (.inr a) g = g a := rfl
theorem bd_inv {α β : Type} {x : Ft ⊕ α} {g : α → Ft ⊕ β} {y : β} (h : bd x g = .inr y) : ∃ a, x = .inr a ∧ g a = .inr y := by
  cases x with
  | inl e => cases h
  | inr a => exact ⟨a, rfl, h⟩
def peI (n : Nat) (B : Nat → Nat) (s : Nat) : Ft ⊕ (Nat × Nat × Nat) := bd (nmI n B 0 9999 s) (fun x => bd (nmI n B 0 3 x.2) (fun y => .inr (x.1, y.1, y.2)))
def lrI (n : Nat) (B : Nat → Nat) (np : Nat) : Nat → Nat → Nat → Ft ⊕ (Nat × Nat)
  | 0, bits, s => .inr (bits, s)
  | f + 1, bits, s => bd (psI n B np bits s) (fun x => if kd n B x.2 = 2 then lrI n B np f (bits ||| 2 ^ x.1) x.2 else .inr (bits ||| 2 ^ x.1, x.2))
def dbI (n : Nat) (B : Nat → Nat) (np s : Nat) : Ft ⊕ ((Int32 × Int32 × Int32) × Nat) := if kw n B s = 9 then bd (psI n B np 0 (nxp n B s)) (fun x => bd (psI n B np (2 ^ x.1) x.2) (fun y => bd (nmI n B 1 999 y.2) (fun z => .inr ((nI x.1, nI y.1, nI z.1), z.2)))) else .inr ((NO, NO, NO), s)
def faI (n : Nat) (B : Nat → Nat) (np s : Nat) : Ft ⊕ ((Nat × Nat × Nat) × (Int32 × Int32 × Int32) × Nat) := bd (nmI n B 0 400 s) (fun x => bd (nmI n B 1 9 x.2) (fun y => bd (lrI n B np 8 0 y.2) (fun z => bd (dbI n B np z.2) (fun w => .inr ((x.1, y.1, z.1), w.1, w.2)))))
def taI (n : Nat) (B : Nat → Nat) (D : Mu) (np nt s : Nat) : Ft ⊕ (Nat × Nat × Nat) := bd (psI n B np 0 s) (fun x => bd (psI n B np (2 ^ x.1 ||| twI D nt (nI x.1)) x.2) (fun y => .inr (x.1, y.1, y.2)))
def exB (q : Nat → Bool) : Nat → Bool
  | 0 => false
  | k + 1 => exB q k || q k
theorem exB_f {q : Nat → Bool} {k : Nat} : exB q k = false ↔ ∀ i, i < k → q i = false := by
  induction k with
  | zero => exact ⟨fun _ i hi => absurd hi (by omega), fun _ => rfl⟩
  | succ k ih =>
    rw [exB, Bool.or_eq_false_iff, ih]
    constructor
    · intro h i hi
      by_cases e : i = k
      · rw [e]; exact h.2
      · exact h.1 i (by omega)
    · intro h
      exact ⟨fun i hi => h i (by omega), h k (by omega)⟩
def pqB (D : Mu) (nq d : Nat) : Bool := exB (fun k => decide (D 11 k = nI d)) nq
def pcI (n : Nat) (B : Nat → Nat) (D : Mu) (nq s : Nat) : Ft ⊕ (Nat × Nat × Nat) := bd (nmI n B 0 400 s) (fun x => if pqB D nq x.1 = true then .inl (4, s) else bd (nmI n B 0 99 x.2) (fun y => .inr (x.1, y.1, y.2)))
abbrev PS := Nat × Mu × (Nat × Nat × Nat × Nat) × Bool × Cd
/-- what a line adds -/
def upP (D : Mu) (np a b : Nat) : Mu := am_up (am_up D 1 np (nI a)) 2 np (nI b)
def upF (D : Mu) (nf : Nat) (x : (Nat × Nat × Nat) × (Int32 × Int32 × Int32) × Nat) : Mu := am_up (am_up (am_up (am_up (am_up (am_up D 3 nf (nI x.1.1)) 4 nf (nI x.1.2.1)) 5 nf (nI x.1.2.2)) 6 nf x.2.1.1) 7 nf x.2.1.2.1) 8 nf x.2.1.2.2
def upT (D : Mu) (nt a b : Nat) : Mu := am_up (am_up D 9 nt (nI a)) 10 nt (nI b)
def upQ (D : Mu) (nq a b : Nat) : Mu := am_up (am_up D 11 nq (nI a)) 12 nq (nI b)
def lnB (n : Nat) (B : Nat → Nat) (s : Nat) (D : Mu) (np nf nt nq : Nat) (ru : Bool) (c : Cd) : Ft ⊕ PS :=
  if kw n B s = 7 then (if np = 6 then .inl (2, s) else bd (peI n B (nxp n B s)) (fun x => .inr (x.2.2, upP D np x.1 x.2.1, (np + 1, nf, nt, nq), ru, c)))
  else if kw n B s = 8 then (if nf = 10 then .inl (2, s) else bd (faI n B np (nxp n B s)) (fun x => .inr (x.2.2, upF D nf x, (np, nf + 1, nt, nq), ru, c)))
  else if kw n B s = 10 then (if nt = 10 then .inl (2, s) else bd (taI n B D np nt (nxp n B s)) (fun x => .inr (x.2.2, upT D nt x.1 x.2.1, (np, nf, nt + 1, nq), ru, c)))
  else if kw n B s = 11 then (if nq = 8 then .inl (2, s) else bd (pcI n B D nq (nxp n B s)) (fun x => .inr (x.2.2, upQ D nq x.1 x.2.1, (np, nf, nt, nq + 1), ru, c)))
  else if kw n B s = 12 then (if ru = true then .inl (5, s) else bd (xr n B 700 (nxp n B s) true true 0 0 [] (0, fun _ => nI 0)) (fun x => .inr (x.1, D, (np, nf, nt, nq), true, x.2)))
  else .inl (1, s)
def lnS (n : Nat) (B : Nat → Nat) (y : PS) : Ft ⊕ PS := if isS n B y.1 59 = true then .inr (nxp n B y.1, y.2) else .inl (1, y.1)
def lsI (n : Nat) (B : Nat → Nat) : Nat → PS → Ft ⊕ PS
  | 0, x => .inr x
  | f + 1, x => if kd n B x.1 = 0 then .inr x else bd (lnB n B x.1 x.2.1 x.2.2.1.1 x.2.2.1.2.1 x.2.2.1.2.2.1 x.2.2.1.2.2.2 x.2.2.2.1 x.2.2.2.2) (fun y => bd (lnS n B y) (fun z => lsI n B f z))
/-- what is well made -/
def wD (D : Mu) (np nf nt nq : Nat) : Prop := (np ≤ 6 ∧ nf ≤ 10 ∧ nt ≤ 10 ∧ nq ≤ 8) ∧
  (∀ p, p < np → (∃ x : Nat, x ≤ 9999 ∧ D 1 p = nI x) ∧ ∃ x : Nat, x < 4 ∧ D 2 p = nI x) ∧
  (∀ f, f < nf → (∃ x : Nat, x ≤ 400 ∧ D 3 f = nI x) ∧ (∃ x : Nat, 1 ≤ x ∧ x ≤ 9 ∧ D 4 f = nI x) ∧ (∃ x : Nat, x < 2 ^ np ∧ D 5 f = nI x) ∧ ((D 6 f = NO ∧ D 7 f = NO ∧ D 8 f = NO) ∨ ∃ x y z : Nat, x < np ∧ y < np ∧ x ≠ y ∧ z ≤ 999 ∧ D 6 f = nI x ∧ D 7 f = nI y ∧ D 8 f = nI z)) ∧
  tlk D np nt ∧
  (∀ k, k < nq → ∃ x y : Nat, x ≤ 400 ∧ y ≤ 99 ∧ D 11 k = nI x ∧ D 12 k = nI y)
theorem nmI_ok {lo hi a s1 : Nat} (hs : s ≤ n) (h : nmI n B lo hi s = .inr (a, s1)) : lo ≤ a ∧ a ≤ hi ∧ s < s1 ∧ s1 ≤ n := by
  unfold nmI at h
  split at h
  · cases h
  · rename_i hk
    have hlt := (kd_2 (Classical.not_not.mp hk)).1
    split at h
    · cases h
    · have e := Prod.mk.inj (Sum.inr.inj h)
      rw [← e.1, ← e.2]
      have := nxp_lt (B := B) hlt
      have := nxp_n (B := B) hs
      omega
theorem psI_ok {bar a s1 : Nat} (hs : s ≤ n) (h : psI n B np bar s = .inr (a, s1)) : a < np ∧ bar.testBit a = false ∧ s < s1 ∧ s1 ≤ n := by
  unfold psI at h
  split at h
  · cases h
  · rename_i hk
    have hlt := (kd_2 (Classical.not_not.mp hk)).1
    split at h
    · cases h
    · split at h
      · cases h
      · split at h
        · cases h
        · rename_i h1 h2
          have e := Prod.mk.inj (Sum.inr.inj h)
          rw [← e.1, ← e.2]
          have := nxp_lt (B := B) hlt
          have := nxp_n (B := B) hs
          exact ⟨by omega, by simpa using h2, by omega, by omega⟩
theorem lrI_ok (h6 : np ≤ 6) : ∀ f bits s, 1 ≤ f → s ≤ n → bits < 2 ^ np → ∀ x, lrI n B np f bits s = .inr x → x.1 < 2 ^ np ∧ s < x.2 ∧ x.2 ≤ n := by
  intro f
  induction f with
  | zero => intro bits s h; omega
  | succ f ih =>
    intro bits s _ hs hb x h
    rw [lrI] at h
    obtain ⟨⟨a, s1⟩, h1, h2⟩ := bd_inv h
    obtain ⟨g1, g2, g3, g4⟩ := psI_ok hs h1
    have hb' : bits ||| 2 ^ a < 2 ^ np := Nat.or_lt_two_pow hb (Nat.pow_lt_pow_right (by decide) g1)
    dsimp only at h2
    split at h2
    · cases f with
      | zero => rw [lrI] at h2; cases h2; exact ⟨hb', g3, g4⟩
      | succ f =>
        have := ih _ s1 (by omega) g4 hb' x h2
        exact ⟨this.1, by omega, this.2.2⟩
    · cases h2; exact ⟨hb', g3, g4⟩
theorem dbI_ok (hs : s ≤ n) {w : (Int32 × Int32 × Int32) × Nat} (h : dbI n B np s = .inr w) : s ≤ w.2 ∧ w.2 ≤ n ∧ ((w.1.1 = NO ∧ w.1.2.1 = NO ∧ w.1.2.2 = NO) ∨ ∃ x y z : Nat, x < np ∧ y < np ∧ x ≠ y ∧ z ≤ 999 ∧ w.1.1 = nI x ∧ w.1.2.1 = nI y ∧ w.1.2.2 = nI z) := by
  unfold dbI at h
  split at h
  · rename_i hk
    have hlt : s < n := by
      by_cases q : s < n
      · exact q
      · have : kd n B s = 0 := kd_0.mpr (by omega)
        unfold kw at hk
        rw [if_neg (by omega)] at hk
        cases hk
    obtain ⟨⟨x, s1⟩, h1, h2⟩ := bd_inv h
    obtain ⟨⟨y, s2⟩, h3, h4⟩ := bd_inv h2
    obtain ⟨⟨z, s3⟩, h5, h6⟩ := bd_inv h4
    have g0 := nxp_lt (B := B) hlt
    have g1 := psI_ok (nxp_n hs) h1
    have g2 := psI_ok g1.2.2.2 h3
    have g3 := nmI_ok g2.2.2.2 h5
    cases h6
    refine ⟨?_, g3.2.2.2, Or.inr ⟨x, y, z, g1.1, g2.1, ?_, g3.2.1, rfl, rfl, rfl⟩⟩
    · show s ≤ s3
      have := g1.2.2.1
      have := g2.2.2.1
      dsimp only at *
      omega
    · intro e
      have := g2.2.1
      dsimp only at this
      rw [e, Nat.testBit_two_pow] at this
      simp at this
  · cases h; exact ⟨Nat.le_refl _, hs, Or.inl ⟨rfl, rfl, rfl⟩⟩
theorem twI_cg {D D' : Mu} {p : Int32} : ∀ nt, (∀ k, k < nt → D 9 k = D' 9 k ∧ D 10 k = D' 10 k) → twI D nt p = twI D' nt p := by
  intro nt
  unfold twI
  induction nt with
  | zero => intro _; rw [fd, fd]
  | succ nt ih =>
    intro h
    obtain ⟨e1, e2⟩ := h nt (by omega)
    have e3 : ∀ v, twS D p nt v = twS D' p nt v := by
      intro v
      unfold twS
      rw [e1, e2]
    rw [fd, fd, ih (fun k hk => h k (by omega))]
    exact e3 _
theorem wD_P {a b : Nat} (h : wD D np nf nt nq) (h6 : ¬ np = 6) (ha : a ≤ 9999) (hb : b ≤ 3) : wD (upP D np a b) (np + 1) nf nt nq := by
  obtain ⟨⟨h1, h2, h3, h4⟩, h5, h7, h8, h9⟩ := h
  have e3 : ∀ c, ¬ c = 1 → ¬ c = 2 → upP D np a b c = D c := fun c q1 q2 => by unfold upP; rw [am_up_nc _ _ _ _ _ q2, am_up_nc _ _ _ _ _ q1]
  have hpow : 2 ^ np ≤ 2 ^ (np + 1) := Nat.pow_le_pow_right (by decide) (by omega)
  refine ⟨⟨by omega, h2, h3, h4⟩, fun p hp => ?_, fun f hf => ?_, fun k hk => ?_, fun k hk => ?_⟩
  · unfold upP
    rw [am_up_nc _ _ _ _ _ (show ¬ 1 = 2 by omega)]
    by_cases e : p = np
    · subst e
      exact ⟨⟨a, ha, am_up_eq _ _ _ _⟩, ⟨b, by omega, am_up_eq _ _ _ _⟩⟩
    · rw [am_up_nk _ _ _ _ _ e, am_up_nk _ _ _ _ _ e, am_up_nc _ _ _ _ _ (show ¬ 2 = 1 by omega)]
      exact h5 p (by omega)
  · rw [e3 3 (by omega) (by omega), e3 4 (by omega) (by omega), e3 5 (by omega) (by omega), e3 6 (by omega) (by omega), e3 7 (by omega) (by omega), e3 8 (by omega) (by omega)]
    obtain ⟨g1, g2, ⟨x, g3, g4⟩, g5⟩ := h7 f hf
    refine ⟨g1, g2, ⟨x, by omega, g4⟩, ?_⟩
    rcases g5 with g | ⟨x, y, z, k1, k2, k3⟩
    · exact Or.inl g
    · exact Or.inr ⟨x, y, z, by omega, by omega, k3⟩
  · rw [e3 9 (by omega) (by omega), e3 10 (by omega) (by omega)]
    obtain ⟨x, y, k1, k2, k3⟩ := h8 k hk
    exact ⟨x, y, by omega, by omega, k3⟩
  · rw [e3 11 (by omega) (by omega), e3 12 (by omega) (by omega)]
    exact h9 k hk
theorem upF_c {x : (Nat × Nat × Nat) × (Int32 × Int32 × Int32) × Nat} {c : Nat} (hc : c < 3 ∨ 8 < c) : upF D nf x c = D c := by
  unfold upF
  rw [am_up_nc _ _ _ _ _ (by omega), am_up_nc _ _ _ _ _ (by omega), am_up_nc _ _ _ _ _ (by omega), am_up_nc _ _ _ _ _ (by omega), am_up_nc _ _ _ _ _ (by omega), am_up_nc _ _ _ _ _ (by omega)]
theorem upF_k {x : (Nat × Nat × Nat) × (Int32 × Int32 × Int32) × Nat} {c : Nat} (hj : ¬ j = nf) : upF D nf x c j = D c j := by
  have e : ∀ (E : Mu) (a : Nat) (v : Int32), am_up E a nf v c j = E c j := by
    intro E a v
    by_cases q : c = a
    · subst q; exact am_up_nk _ _ _ _ _ hj
    · rw [am_up_nc _ _ _ _ _ q]
  unfold upF
  rw [e, e, e, e, e, e]
theorem upF_v {x : (Nat × Nat × Nat) × (Int32 × Int32 × Int32) × Nat} : upF D nf x 3 nf = nI x.1.1 ∧ upF D nf x 4 nf = nI x.1.2.1 ∧ upF D nf x 5 nf = nI x.1.2.2 ∧ upF D nf x 6 nf = x.2.1.1 ∧ upF D nf x 7 nf = x.2.1.2.1 ∧ upF D nf x 8 nf = x.2.1.2.2 := by
  unfold upF
  refine ⟨?_, ?_, ?_, ?_, ?_, am_up_eq _ _ _ _⟩
  · rw [am_up_nc _ _ _ _ _ (by omega), am_up_nc _ _ _ _ _ (by omega), am_up_nc _ _ _ _ _ (by omega), am_up_nc _ _ _ _ _ (by omega), am_up_nc _ _ _ _ _ (by omega), am_up_eq]
  · rw [am_up_nc _ _ _ _ _ (by omega), am_up_nc _ _ _ _ _ (by omega), am_up_nc _ _ _ _ _ (by omega), am_up_nc _ _ _ _ _ (by omega), am_up_eq]
  · rw [am_up_nc _ _ _ _ _ (by omega), am_up_nc _ _ _ _ _ (by omega), am_up_nc _ _ _ _ _ (by omega), am_up_eq]
  · rw [am_up_nc _ _ _ _ _ (by omega), am_up_nc _ _ _ _ _ (by omega), am_up_eq]
  · rw [am_up_nc _ _ _ _ _ (by omega), am_up_eq]
theorem faI_ok (hs : s ≤ n) (h6 : np ≤ 6) {x : (Nat × Nat × Nat) × (Int32 × Int32 × Int32) × Nat} (h : faI n B np s = .inr x) : (x.1.1 ≤ 400 ∧ 1 ≤ x.1.2.1 ∧ x.1.2.1 ≤ 9 ∧ x.1.2.2 < 2 ^ np) ∧ ((x.2.1.1 = NO ∧ x.2.1.2.1 = NO ∧ x.2.1.2.2 = NO) ∨ ∃ a y z : Nat, a < np ∧ y < np ∧ a ≠ y ∧ z ≤ 999 ∧ x.2.1.1 = nI a ∧ x.2.1.2.1 = nI y ∧ x.2.1.2.2 = nI z) ∧ s < x.2.2 ∧ x.2.2 ≤ n := by
  unfold faI at h
  obtain ⟨⟨a, s1⟩, h1, h2⟩ := bd_inv h
  obtain ⟨⟨b, s2⟩, h3, h4⟩ := bd_inv h2
  obtain ⟨z, h5, h7⟩ := bd_inv h4
  obtain ⟨w, h8, h9⟩ := bd_inv h7
  have g1 := nmI_ok hs h1
  have g2 := nmI_ok g1.2.2.2 h3
  have g3 := lrI_ok h6 8 0 _ (by omega) g2.2.2.2 (Nat.two_pow_pos np) z h5
  have g4 := dbI_ok g3.2.2 h8
  cases h9
  dsimp only at *
  exact ⟨⟨g1.2.1, g2.1, g2.2.1, g3.1⟩, g4.2.2, by omega, g4.2.1⟩
theorem wD_F {x : (Nat × Nat × Nat) × (Int32 × Int32 × Int32) × Nat} (h : wD D np nf nt nq) (h10 : ¬ nf = 10) (hx : (x.1.1 ≤ 400 ∧ 1 ≤ x.1.2.1 ∧ x.1.2.1 ≤ 9 ∧ x.1.2.2 < 2 ^ np) ∧ ((x.2.1.1 = NO ∧ x.2.1.2.1 = NO ∧ x.2.1.2.2 = NO) ∨ ∃ a y z : Nat, a < np ∧ y < np ∧ a ≠ y ∧ z ≤ 999 ∧ x.2.1.1 = nI a ∧ x.2.1.2.1 = nI y ∧ x.2.1.2.2 = nI z)) : wD (upF D nf x) np (nf + 1) nt nq := by
  obtain ⟨⟨h1, h2, h3, h4⟩, h5, h7, h8, h9⟩ := h
  refine ⟨⟨h1, by omega, h3, h4⟩, ?_, fun f hf => ?_, ?_, ?_⟩
  · rw [upF_c (by omega), upF_c (by omega)]; exact h5
  · by_cases e : f = nf
    · subst e
      obtain ⟨v3, v4, v5, v6, v7, v8⟩ := upF_v (D := D) (nf := f) (x := x)
      rw [v3, v4, v5, v6, v7, v8]
      exact ⟨⟨_, hx.1.1, rfl⟩, ⟨_, hx.1.2.1, hx.1.2.2.1, rfl⟩, ⟨_, hx.1.2.2.2, rfl⟩, hx.2⟩
    · rw [upF_k e, upF_k e, upF_k e, upF_k e, upF_k e, upF_k e]
      exact h7 f (by omega)
  · unfold tlk; rw [upF_c (by omega), upF_c (by omega)]; exact h8
  · rw [upF_c (by omega), upF_c (by omega)]; exact h9
theorem wD_T {a b : Nat} (h : wD D np nf nt nq) (h10 : ¬ nt = 10) (ha : a < np) (hb : b < np) (hab : ¬ a = b) : wD (upT D nt a b) np nf (nt + 1) nq := by
  obtain ⟨⟨h1, h2, h3, h4⟩, h5, h7, h8, h9⟩ := h
  have e3 : ∀ c, ¬ c = 9 → ¬ c = 10 → upT D nt a b c = D c := fun c q1 q2 => by unfold upT; rw [am_up_nc _ _ _ _ _ q2, am_up_nc _ _ _ _ _ q1]
  refine ⟨⟨h1, h2, by omega, h4⟩, ?_, ?_, fun k hk => ?_, ?_⟩
  · rw [e3 1 (by omega) (by omega), e3 2 (by omega) (by omega)]; exact h5
  · rw [e3 3 (by omega) (by omega), e3 4 (by omega) (by omega), e3 5 (by omega) (by omega), e3 6 (by omega) (by omega), e3 7 (by omega) (by omega), e3 8 (by omega) (by omega)]; exact h7
  · unfold upT
    rw [am_up_nc _ _ _ _ _ (show ¬ 9 = 10 by omega)]
    by_cases e : k = nt
    · subst e
      exact ⟨a, b, ha, hb, hab, am_up_eq _ _ _ _, am_up_eq _ _ _ _⟩
    · rw [am_up_nk _ _ _ _ _ e, am_up_nk _ _ _ _ _ e, am_up_nc _ _ _ _ _ (show ¬ 10 = 9 by omega)]
      exact h8 k (by omega)
  · rw [e3 11 (by omega) (by omega), e3 12 (by omega) (by omega)]; exact h9
theorem wD_Q {a b : Nat} (h : wD D np nf nt nq) (h8' : ¬ nq = 8) (ha : a ≤ 400) (hb : b ≤ 99) : wD (upQ D nq a b) np nf nt (nq + 1) := by
  obtain ⟨⟨h1, h2, h3, h4⟩, h5, h7, h8, h9⟩ := h
  have e3 : ∀ c, ¬ c = 11 → ¬ c = 12 → upQ D nq a b c = D c := fun c q1 q2 => by unfold upQ; rw [am_up_nc _ _ _ _ _ q2, am_up_nc _ _ _ _ _ q1]
  refine ⟨⟨h1, h2, h3, by omega⟩, ?_, ?_, ?_, fun k hk => ?_⟩
  · rw [e3 1 (by omega) (by omega), e3 2 (by omega) (by omega)]; exact h5
  · rw [e3 3 (by omega) (by omega), e3 4 (by omega) (by omega), e3 5 (by omega) (by omega), e3 6 (by omega) (by omega), e3 7 (by omega) (by omega), e3 8 (by omega) (by omega)]; exact h7
  · unfold tlk; rw [e3 9 (by omega) (by omega), e3 10 (by omega) (by omega)]; exact h8
  · unfold upQ
    rw [am_up_nc _ _ _ _ _ (show ¬ 11 = 12 by omega)]
    by_cases e : k = nq
    · subst e
      exact ⟨a, b, ha, hb, am_up_eq _ _ _ _, am_up_eq _ _ _ _⟩
    · rw [am_up_nk _ _ _ _ _ e, am_up_nk _ _ _ _ _ e, am_up_nc _ _ _ _ _ (show ¬ 12 = 11 by omega)]
      exact h9 k (by omega)
theorem kw_lt (h : kw n B s < 16) : s < n := by
  by_cases q : s < n
  · exact q
  · have : kd n B s = 0 := kd_0.mpr (by omega)
    unfold kw at h
    rw [if_neg (by omega)] at h
    omega
/-- a rule that has been read -/
theorem xr_ok : ∀ f s w mn dp nt H c, s ≤ n → n < s + f → xI s w mn dp nt H c → ∀ x, xr n B f s w mn dp nt H c = .inr x → s ≤ x.1 ∧ x.1 ≤ n ∧ okC x.2 1 ∧ x.2.1 ≤ n := by
  intro f
  induction f with
  | zero => intro s w mn dp nt H c h1 h2; omega
  | succ f ih =>
    intro s w mn dp nt H c h1 h2 hI x h
    rw [xr] at h
    have hn := nxp_n (B := B) h1
    cases w with
    | true =>
      rw [if_pos rfl] at h
      unfold xP at h
      split at h
      · cases h
      · rename_i hk0
        have hlt : s < n := by
          by_cases q : s < n
          · exact q
          · exfalso
            have h0 : kd n B s = 0 := kd_0.mpr (by omega)
            apply hk0
            rintro (q | q | q)
            · omega
            · omega
            · exact absurd (isS_lt q) (by omega)
        have hx := nxp_lt (B := B) hlt
        split at h
        · cases h
        · rename_i hd6
          split at h
          · rename_i hmn
            split at h
            · cases h
            · obtain ⟨rfl, -⟩ := hmn
              have := ih _ _ _ _ _ _ _ hn (by omega) (xI_not hI (by omega) (by omega) hx) x h
              exact ⟨by omega, this.2⟩
          · split at h
            · have := ih _ _ _ _ _ _ _ hn (by omega) (xI_opn hI (by omega) hx) x h
              exact ⟨by omega, this.2⟩
            · split at h
              · rename_i hk2
                split at h
                · cases h
                · have := ih _ _ _ _ _ _ _ hn (by omega) (xI_leaf hI (by omega) hx (Or.inl ⟨_, vlp_b hk2, rfl⟩)) x h
                  exact ⟨by omega, this.2⟩
              · split at h
                · have := ih _ _ _ _ _ _ _ hn (by omega) (xI_leaf hI (by omega) hx (Or.inr ⟨_, by omega, by omega, rfl⟩)) x h
                  exact ⟨by omega, this.2⟩
                · cases h
    | false =>
      rw [if_neg (by decide)] at h
      unfold xJ at h
      split at h
      · rename_i hd
        obtain ⟨rfl, -⟩ := hd
        have he := xI_end hI
        cases h
        exact ⟨Nat.le_refl _, h1, he.2.1, Nat.le_trans he.2.2 h1⟩
      · have hlt : ¬ jt n B s = 0 → s < n := by
          intro q
          by_cases q1 : s < n
          · exact q1
          · exfalso
            apply q
            have h0 : ∀ c, ¬ isS n B s c = true := fun c q2 => absurd (isS_lt q2) q1
            have h3 : ¬ kw n B s < 16 := fun q2 => absurd (kw_lt q2) q1
            unfold jt
            rw [if_neg (by omega), if_neg (by omega), if_neg (h0 _), if_neg (h0 _), if_neg (h0 _), if_neg (h0 _), if_neg (h0 _), if_neg (h0 _)]
        have hjb : ¬ jt n B s = 0 → 9 ≤ jt n B s ∧ jt n B s ≤ 16 := by
          unfold jt
          intro q
          repeat' split
          all_goals first | omega | (exfalso; apply q; simp [*])
        split at h
        · split at h
          · cases h
          · rename_i hq
            have hd : ¬ dp = 0 := fun q => hq (Or.inl q)
            have hs41 : isS n B s 41 = true := by
              by_cases q : isS n B s 41 = true
              · exact q
              · exact absurd (Or.inr q) hq
            have hl := isS_lt hs41
            have hx := nxp_lt (B := B) hl
            have := ih _ _ _ _ _ _ _ hn (by omega) (xI_cl hI hd hx).2 x h
            exact ⟨by omega, this.2⟩
        · rename_i hj0
          have hx := nxp_lt (B := B) (hlt hj0)
          have hb := hjb hj0
          split at h
          · rename_i h4
            split at h
            · cases h
            · rename_i ht4
              have hts : jt n B s = 11 ∨ jt n B s = 12 := by
                unfold sg at h4
                repeat' split at h4
                all_goals omega
              have := ih _ _ _ _ _ _ _ hn (by omega) (xI_ts hI hts ht4 hx) x h
              exact ⟨by omega, this.2⟩
          · rename_i h4
            have := ih _ _ _ _ _ _ _ hn (by omega) (xI_jn hI hb h4 hx).1 x h
            exact ⟨by omega, this.2⟩
/-- the places in order -/
def wP (x : PS) : Prop := wD x.2.1 x.2.2.1.1 x.2.2.1.2.1 x.2.2.1.2.2.1 x.2.2.1.2.2.2 ∧ (x.2.2.2.1 = true → okC x.2.2.2.2 1 ∧ x.2.2.2.2.1 ≤ 700)
theorem lnB_ok {ru : Bool} {c : Cd} (hn : n ≤ 700) (hs : s < n) (hw : wP (s, D, (np, nf, nt, nq), ru, c)) {y : PS} (h : lnB n B s D np nf nt nq ru c = .inr y) : wP y ∧ s < y.1 ∧ y.1 ≤ n := by
  obtain ⟨hw1, hw2⟩ := hw
  dsimp only at hw1 hw2
  have hx := nxp_lt (B := B) hs
  have hxn := nxp_n (B := B) (Nat.le_of_lt hs)
  unfold lnB at h
  split at h
  · split at h
    · cases h
    · rename_i h6
      obtain ⟨x, h1, h2⟩ := bd_inv h
      unfold peI at h1
      obtain ⟨⟨a, s1⟩, h3, h4⟩ := bd_inv h1
      obtain ⟨⟨b, s2⟩, h5, h7⟩ := bd_inv h4
      have g1 := nmI_ok hxn h3
      have g2 := nmI_ok g1.2.2.2 h5
      cases h7
      cases h2
      exact ⟨⟨wD_P hw1 h6 g1.2.1 g2.2.1, hw2⟩, by show s < s2; omega, g2.2.2.2⟩
  · split at h
    · split at h
      · cases h
      · rename_i h10
        obtain ⟨x, h1, h2⟩ := bd_inv h
        have g1 := faI_ok hxn hw1.1.1 h1
        cases h2
        exact ⟨⟨wD_F hw1 h10 ⟨g1.1, g1.2.1⟩, hw2⟩, by show s < x.2.2; omega, g1.2.2.2⟩
    · split at h
      · split at h
        · cases h
        · rename_i h10
          obtain ⟨x, h1, h2⟩ := bd_inv h
          unfold taI at h1
          obtain ⟨⟨a, s1⟩, h3, h4⟩ := bd_inv h1
          obtain ⟨⟨b, s2⟩, h5, h7⟩ := bd_inv h4
          have g1 := psI_ok hxn h3
          have g2 := psI_ok g1.2.2.2 h5
          cases h7
          cases h2
          refine ⟨⟨wD_T hw1 h10 g1.1 g2.1 ?_, hw2⟩, by show s < s2; omega, g2.2.2.2⟩
          intro e
          have := g2.2.1
          dsimp only at this e
          rw [← e, Nat.testBit_or, Nat.testBit_two_pow] at this
          simp at this
      · split at h
        · split at h
          · cases h
          · rename_i h8
            obtain ⟨x, h1, h2⟩ := bd_inv h
            unfold pcI at h1
            obtain ⟨⟨a, s1⟩, h3, h4⟩ := bd_inv h1
            dsimp only at h4
            split at h4
            · cases h4
            · obtain ⟨⟨b, s2⟩, h5, h7⟩ := bd_inv h4
              have g1 := nmI_ok hxn h3
              have g2 := nmI_ok g1.2.2.2 h5
              cases h7
              cases h2
              exact ⟨⟨wD_Q hw1 h8 g1.2.1 g2.2.1, hw2⟩, by show s < s2; omega, g2.2.2.2⟩
        · split at h
          · split at h
            · cases h
            · obtain ⟨x, h1, h2⟩ := bd_inv h
              have g := xr_ok 700 _ _ _ _ _ _ _ hxn (by omega) xI_0 x h1
              cases h2
              exact ⟨⟨hw1, fun _ => ⟨g.2.2.1, by have := g.2.2.2; show x.2.1 ≤ 700; omega⟩⟩, by show s < x.1; omega, g.2.1⟩
          · cases h
theorem lnS_ok {y z : PS} (hy : y.1 ≤ n) (hw : wP y) (h : lnS n B y = .inr z) : wP z ∧ y.1 < z.1 ∧ z.1 ≤ n := by
  unfold lnS at h
  split at h
  · rename_i q
    have := isS_lt q
    cases h
    exact ⟨hw, nxp_lt this, nxp_n hy⟩
  · cases h
end FF
