/-! WHAT A PIECE OF CODE COMES TO, with a condition on the end: am_V of a place in a body, am_C of a call. -/
abbrev am_K : Type := am_O → am_M → Prop
def am_V (G : am_G) (d j pc : Nat) (L S : List Value) (M : am_M) (P : am_K) : Prop := ∃ (o : am_O) (MF : am_M), P o MF ∧ am_W G d j o MF pc L S M
def am_C (G : am_G) (d t : Nat) (As : List Value) (M : am_M) (P : am_K) : Prop := ∃ (o : am_O) (MF : am_M), P o MF ∧ am_Met G d t As M o MF
section WPA
variable {G : am_G} {d d' j t pc pc' len : Nat} {L L' S S' As : List Value} {M M' : am_M} {P P' : am_K}
theorem am_V.lift (h : ∀ (o : am_O) (MF : am_M), am_W G d j o MF pc' L' S' M' → am_W G d j o MF pc L S M) (k : am_V G d j pc' L' S' M' P) : am_V G d j pc L S M P := by
  obtain ⟨o, MF, h1, h2⟩ := k
  exact ⟨o, MF, h1, h o MF h2⟩
theorem am_V.mono (hP : ∀ o M, P o M → P' o M) (k : am_V G d j pc L S M P) : am_V G d j pc L S M P' := by
  obtain ⟨o, MF, h1, h2⟩ := k
  exact ⟨o, MF, hP o MF h1, h2⟩
theorem am_C.mono (hP : ∀ o M, P o M → P' o M) (k : am_C G d t As M P) : am_C G d t As M P' := by
  obtain ⟨o, MF, h1, h2⟩ := k
  exact ⟨o, MF, hP o MF h1, h2⟩
theorem am_W.up {o : am_O} {MF : am_M} (hd : d ≤ d') (k : am_W G d j o MF pc L S M) : am_W G d' j o MF pc L S M := by
  refine ⟨k.1, ?_⟩
  intro p e R s m args below meth c H locs ls cells slots mc ms Q C
  obtain ⟨c1, c2, c3, c4, c5, c6, c7, c8, c9, c10, c11, c12, c13⟩ := C
  exact k.2 ⟨c1, c2, c3, c4, c5, c6, c7, c8, c9, c10, c11, by omega, by omega⟩
theorem am_V.up (hd : d ≤ d') (k : am_V G d j pc L S M P) : am_V G d' j pc L S M P := by
  obtain ⟨o, MF, h1, h2⟩ := k
  exact ⟨o, MF, h1, h2.up hd⟩
/-- a method's contract out of its body -/
theorem am_C.of (hp : plainName (am_y t).cls = true) (ha : As.all am_one = true) (hl : As.length ≤ am_mL t) (hL : am_ent t As = L) (k : am_V G d t 0 L [] M P) : am_C G d t As M P := by
  subst hL
  obtain ⟨o, MF, h1, h2⟩ := k
  exact ⟨o, MF, h1, am_met hp ha hl h2⟩
theorem v_st {i : Instr} (ha : am_at j pc = some (i, len)) (hs : am_st i pc len L S M = some (pc', L', S', M')) (k : am_V G d j pc' L' S' M' P) : am_V G d j pc L S M P := am_V.lift (fun _ _ k => am_step ha hs k) k
/-- ends -/
theorem v_ri {x : Int32} (ha : am_at j pc = some (.ireturn, len)) (hr : am_rt j = some .int) (hP : P (.inl (some (.int x))) M) : am_V G d j pc L [.int x] M P := by
  obtain ⟨hok, hln⟩ := am_at_ok ha
  have hl9 : len = 1 := by simpa [am_ln] using hln
  subst hl9
  have hd := am_okp' (i := .ireturn) rfl hok
  refine ⟨_, M, hP, ⟨Nat.le_refl _, Nat.le_refl _, Nat.le_refl _⟩, ?_⟩
  intro p e R s m args below meth c H locs ls cells slots mc ms Q C r f l z h2 h3 h4 h5 he
  have := he H locs pc ls r f ⟨hd, Or.inl hr⟩
  rw [← h2, ← h3, Nat.sub_self, Nat.sub_self] at this
  exact this
theorem v_rz {x : Int32} (ha : am_at j pc = some (.ireturn, len)) (hr : am_rt j = some .boolean) (hx : x = 0 ∨ x = 1) (hP : P (.inl (some (.int x))) M) : am_V G d j pc L [.int x] M P := by
  obtain ⟨hok, hln⟩ := am_at_ok ha
  have hl9 : len = 1 := by simpa [am_ln] using hln
  subst hl9
  have hd := am_okp' (i := .ireturn) rfl hok
  refine ⟨_, M, hP, ⟨Nat.le_refl _, Nat.le_refl _, Nat.le_refl _⟩, ?_⟩
  intro p e R s m args below meth c H locs ls cells slots mc ms Q C r f l z h2 h3 h4 h5 he
  have := he H locs pc ls r f ⟨hd, Or.inr ⟨hr, hx⟩⟩
  rw [← h2, ← h3, Nat.sub_self, Nat.sub_self] at this
  exact this
theorem v_rj {x : Int64} (ha : am_at j pc = some (.lreturn, len)) (hr : am_rt j = some .long) (hP : P (.inl (some (.long x))) M) : am_V G d j pc L [.long x] M P := by
  obtain ⟨hok, hln⟩ := am_at_ok ha
  have hl9 : len = 1 := by simpa [am_ln] using hln
  subst hl9
  have hd := am_okp' (i := .lreturn) rfl hok
  refine ⟨_, M, hP, ⟨Nat.le_refl _, Nat.le_refl _, Nat.le_refl _⟩, ?_⟩
  intro p e R s m args below meth c H locs ls cells slots mc ms Q C r f l z h2 h3 h4 h5 he
  have := he H locs pc ls r f ⟨hd, hr⟩
  rw [← h2, ← h3, Nat.sub_self, Nat.sub_self] at this
  exact this
theorem v_rv (ha : am_at j pc = some (.return_, len)) (hr : am_rt j = none) (hP : P (.inl none) M) : am_V G d j pc L [] M P := by
  obtain ⟨hok, hln⟩ := am_at_ok ha
  have hl9 : len = 1 := by simpa [am_ln] using hln
  subst hl9
  have hd := am_okp' (i := .return_) rfl hok
  refine ⟨_, M, hP, ⟨Nat.le_refl _, Nat.le_refl _, Nat.le_refl _⟩, ?_⟩
  intro p e R s m args below meth c H locs ls cells slots mc ms Q C r f l z h2 h3 h4 h5 he
  have := he H locs pc ls r f ⟨hd, hr⟩
  rw [← h2, ← h3, Nat.sub_self, Nat.sub_self] at this
  exact this
/-- fields -/
theorem v_gi {a q : Nat} (c k : Nat) (ha : am_at j pc = some (.getfield q, len)) (hq : q = c * 10000 + k * 10 ∨ q = c * 10000 + k * 10 + 1) (hk9 : k < 1000) (hk : am_k M a = (0, c)) (kk : am_V G d j (pc + 3) L (.int (am_i M a k) :: S) M P) : am_V G d j pc L (.ref a :: S) M P := by
  have e1 : q / 10000 = c := by omega
  have e2 : q % 10000 / 10 = k := by omega
  have e3 : q % 10 ≠ 2 ∧ q % 10 ≠ 3 := by omega
  refine v_st ha (pc' := pc + 3) (L' := L) (S' := .int (am_i M a k) :: S) (M' := M) ?_ kk
  simp only [am_st, e1, e2, hk, if_true]
  split
  · rename_i h; exact absurd h e3.1
  · rename_i h; exact absurd h e3.2
  · rfl
theorem v_gr {a q b : Nat} (c k : Nat) (ha : am_at j pc = some (.getfield q, len)) (hq : q = c * 10000 + k * 10 + 2) (hk9 : k < 1000) (hk : am_k M a = (0, c)) (hr : am_r M a k = some b) (kk : am_V G d j (pc + 3) L (.ref b :: S) M P) : am_V G d j pc L (.ref a :: S) M P := by
  have e1 : q / 10000 = c := by omega
  have e2 : q % 10000 / 10 = k := by omega
  have e3 : q % 10 = 2 := by omega
  refine v_st ha (pc' := pc + 3) (L' := L) (S' := .ref b :: S) (M' := M) ?_ kk
  simp only [am_st, e1, e2, e3, hk, if_true, hr]
  rfl
theorem v_gj {a q : Nat} (c k : Nat) (ha : am_at j pc = some (.getfield q, len)) (hq : q = c * 10000 + k * 10 + 3) (hk9 : k < 1000) (hk : am_k M a = (0, c)) (kk : am_V G d j (pc + 3) L (.long (am_j M a k) :: S) M P) : am_V G d j pc L (.ref a :: S) M P := by
  have e1 : q / 10000 = c := by omega
  have e2 : q % 10000 / 10 = k := by omega
  have e3 : q % 10 = 3 := by omega
  refine v_st ha (pc' := pc + 3) (L' := L) (S' := .long (am_j M a k) :: S) (M' := M) ?_ kk
  simp only [am_st, e1, e2, e3, hk, if_true]
theorem v_pi {a q : Nat} {x : Int32} (c k : Nat) (ha : am_at j pc = some (.putfield q, len)) (hq : q = c * 10000 + k * 10) (hk9 : k < 1000) (hk : am_k M a = (0, c)) (kk : am_V G d j (pc + 3) L S (am_si M a k x) P) : am_V G d j pc L (.int x :: .ref a :: S) M P := by
  have e1 : q / 10000 = c := by omega
  have e2 : q % 10000 / 10 = k := by omega
  have e3 : q % 10 = 0 := by omega
  refine v_st ha (pc' := pc + 3) (L' := L) (S' := S) (M' := am_si M a k x) ?_ kk
  simp only [am_st, e1, e2, hk]
  rw [if_pos ⟨trivial, Or.inl e3⟩]
theorem v_pz {a q : Nat} {x : Int32} (c k : Nat) (ha : am_at j pc = some (.putfield q, len)) (hq : q = c * 10000 + k * 10 + 1) (hk9 : k < 1000) (hk : am_k M a = (0, c)) (hx : x = 0 ∨ x = 1) (kk : am_V G d j (pc + 3) L S (am_si M a k x) P) : am_V G d j pc L (.int x :: .ref a :: S) M P := by
  have e1 : q / 10000 = c := by omega
  have e2 : q % 10000 / 10 = k := by omega
  have e3 : q % 10 = 1 := by omega
  refine v_st ha (pc' := pc + 3) (L' := L) (S' := S) (M' := am_si M a k x) ?_ kk
  simp only [am_st, e1, e2, hk]
  rw [if_pos ⟨trivial, Or.inr ⟨e3, hx⟩⟩]
theorem v_pr {a q x : Nat} (c k : Nat) (ha : am_at j pc = some (.putfield q, len)) (hq : q = c * 10000 + k * 10 + 2) (hk9 : k < 1000) (hk : am_k M a = (0, c)) (kk : am_V G d j (pc + 3) L S (am_sr M a k (some x)) P) : am_V G d j pc L (.ref x :: .ref a :: S) M P := by
  have e1 : q / 10000 = c := by omega
  have e2 : q % 10000 / 10 = k := by omega
  have e3 : q % 10 = 2 := by omega
  refine v_st ha (pc' := pc + 3) (L' := L) (S' := S) (M' := am_sr M a k (some x)) ?_ kk
  simp only [am_st, e1, e2, hk]
  rw [if_pos ⟨trivial, e3⟩]
theorem v_pj {a q : Nat} {x : Int64} (c k : Nat) (ha : am_at j pc = some (.putfield q, len)) (hq : q = c * 10000 + k * 10 + 3) (hk9 : k < 1000) (hk : am_k M a = (0, c)) (kk : am_V G d j (pc + 3) L S (am_sj M a k x) P) : am_V G d j pc L (.long x :: .ref a :: S) M P := by
  have e1 : q / 10000 = c := by omega
  have e2 : q % 10000 / 10 = k := by omega
  have e3 : q % 10 = 3 := by omega
  refine v_st ha (pc' := pc + 3) (L' := L) (S' := S) (M' := am_sj M a k x) ?_ kk
  simp only [am_st, e1, e2, hk]
  rw [if_pos ⟨trivial, e3⟩]
/-- arrays -/
theorem am_ix_of {i n : Nat} (h : i < n) (hn : n < 2 ^ 31) : am_ix (nI i) n = true := by
  unfold am_ix
  rw [nI_clamp (by omega)]
  simp [nI_pos' (show i < 2 ^ 31 by omega), h]
theorem v_ial {a n : Nat} {i : Int32} (ha : am_at j pc = some (.iaload, len)) (hk : am_k M a = (1, n) ∨ am_k M a = (7, n)) (hi : am_ix i n = true) (kk : am_V G d j (pc + 1) L (.int (am_i M a i.toNatClampNeg) :: S) M P) : am_V G d j pc L (.int i :: .ref a :: S) M P := by
  refine v_st ha (pc' := pc + 1) (L' := L) (S' := .int (am_i M a i.toNatClampNeg) :: S) (M' := M) ?_ kk
  rcases hk with hk | hk
  · simp [am_st, hk, hi]
  · simp [am_st, hk, hi]
theorem v_bal {a n : Nat} {i : Int32} (ha : am_at j pc = some (.baload, len)) (hk : am_k M a = (2, n)) (hi : am_ix i n = true) (kk : am_V G d j (pc + 1) L (.int (am_i M a i.toNatClampNeg) :: S) M P) : am_V G d j pc L (.int i :: .ref a :: S) M P := by
  refine v_st ha (pc' := pc + 1) (L' := L) (S' := .int (am_i M a i.toNatClampNeg) :: S) (M' := M) ?_ kk
  simp [am_st, hk, hi]
theorem v_lal {a n : Nat} {i : Int32} (ha : am_at j pc = some (.laload, len)) (hk : am_k M a = (3, n)) (hi : am_ix i n = true) (kk : am_V G d j (pc + 1) L (.long (am_j M a i.toNatClampNeg) :: S) M P) : am_V G d j pc L (.int i :: .ref a :: S) M P := by
  refine v_st ha (pc' := pc + 1) (L' := L) (S' := .long (am_j M a i.toNatClampNeg) :: S) (M' := M) ?_ kk
  simp [am_st, hk, hi]
theorem v_aal {a n b : Nat} {i : Int32} (ha : am_at j pc = some (.aaload, len)) (hk : am_k M a = (4, n) ∨ am_k M a = (5, n)) (hi : am_ix i n = true) (hr : am_r M a i.toNatClampNeg = some b) (kk : am_V G d j (pc + 1) L (.ref b :: S) M P) : am_V G d j pc L (.int i :: .ref a :: S) M P := by
  refine v_st ha (pc' := pc + 1) (L' := L) (S' := .ref b :: S) (M' := M) ?_ kk
  rcases hk with hk | hk
  · simp [am_st, hk, hi, hr]
  · simp [am_st, hk, hi, hr]
theorem v_ias {a n : Nat} {i x : Int32} (ha : am_at j pc = some (.iastore, len)) (hk : am_k M a = (1, n)) (hi : am_ix i n = true) (kk : am_V G d j (pc + 1) L S (am_si M a i.toNatClampNeg x) P) : am_V G d j pc L (.int x :: .int i :: .ref a :: S) M P := by
  refine v_st ha (pc' := pc + 1) (L' := L) (S' := S) (M' := am_si M a i.toNatClampNeg x) ?_ kk
  simp [am_st, hk, hi]
theorem v_bas {a n : Nat} {i x : Int32} (ha : am_at j pc = some (.bastore, len)) (hk : am_k M a = (2, n)) (hi : am_ix i n = true) (hx : x = 0 ∨ x = 1) (kk : am_V G d j (pc + 1) L S (am_si M a i.toNatClampNeg x) P) : am_V G d j pc L (.int x :: .int i :: .ref a :: S) M P := by
  refine v_st ha (pc' := pc + 1) (L' := L) (S' := S) (M' := am_si M a i.toNatClampNeg x) ?_ kk
  simp [am_st, hk, hi, hx]
theorem v_las {a n : Nat} {i : Int32} {x : Int64} (ha : am_at j pc = some (.lastore, len)) (hk : am_k M a = (3, n)) (hi : am_ix i n = true) (kk : am_V G d j (pc + 1) L S (am_sj M a i.toNatClampNeg x) P) : am_V G d j pc L (.long x :: .int i :: .ref a :: S) M P := by
  refine v_st ha (pc' := pc + 1) (L' := L) (S' := S) (M' := am_sj M a i.toNatClampNeg x) ?_ kk
  simp [am_st, hk, hi]
theorem v_aas {a n x : Nat} {i : Int32} (ha : am_at j pc = some (.aastore, len)) (hk : am_k M a = (4, n)) (hi : am_ix i n = true) (hx : am_k M x = (0, 4)) (kk : am_V G d j (pc + 1) L S (am_sr M a i.toNatClampNeg (some x)) P) : am_V G d j pc L (.ref x :: .int i :: .ref a :: S) M P := by
  refine v_st ha (pc' := pc + 1) (L' := L) (S' := S) (M' := am_sr M a i.toNatClampNeg (some x)) ?_ kk
  simp [am_st, hk, hi, hx]
theorem v_len {a t0 n : Nat} (ha : am_at j pc = some (.arraylength, len)) (hk : am_k M a = (t0, n)) (ht : 1 ≤ t0 ∧ t0 ≤ 7) (kk : am_V G d j (pc + 1) L (.int (Int32.ofNat n) :: S) M P) : am_V G d j pc L (.ref a :: S) M P := by
  refine v_st ha (pc' := pc + 1) (L' := L) (S' := .int (Int32.ofNat n) :: S) (M' := M) ?_ kk
  simp [am_st, hk, ht]
/-- branches -/
theorem v_if_eq {off : Int} {x : Int32} (tg : Nat) (ha : am_at j pc = some (.ifCond .eq off, len)) (ht : am_tg pc off = some tg) (k1 : x = 0 → am_V G d j tg L S M P) (k2 : ¬ (x = 0) → am_V G d j (pc + 3) L S M P) : am_V G d j pc L (.int x :: S) M P := by
  by_cases h : x = 0
  · refine v_st ha (pc' := tg) (L' := L) (S' := S) (M' := M) ?_ (k1 h)
    simp [am_st, ht, am_cz, h]
  · refine v_st ha (pc' := pc + 3) (L' := L) (S' := S) (M' := M) ?_ (k2 h)
    simp only [am_st, ht, am_cz, decide_eq_true_eq, Option.bind_some]
    rw [if_neg h]
theorem v_ic_eq {off : Int} {x y : Int32} (tg : Nat) (ha : am_at j pc = some (.if_icmp .eq off, len)) (ht : am_tg pc off = some tg) (k1 : x = y → am_V G d j tg L S M P) (k2 : ¬ (x = y) → am_V G d j (pc + 3) L S M P) : am_V G d j pc L (.int y :: .int x :: S) M P := by
  by_cases h : x = y
  · refine v_st ha (pc' := tg) (L' := L) (S' := S) (M' := M) ?_ (k1 h)
    simp only [am_st, ht, am_cc2, decide_eq_true_eq, Option.bind_some]
    rw [if_pos h]
  · refine v_st ha (pc' := pc + 3) (L' := L) (S' := S) (M' := M) ?_ (k2 h)
    simp only [am_st, ht, am_cc2, decide_eq_true_eq, Option.bind_some]
    rw [if_neg h]
theorem v_if_ne {off : Int} {x : Int32} (tg : Nat) (ha : am_at j pc = some (.ifCond .ne off, len)) (ht : am_tg pc off = some tg) (k1 : ¬ x = 0 → am_V G d j tg L S M P) (k2 : ¬ (¬ x = 0) → am_V G d j (pc + 3) L S M P) : am_V G d j pc L (.int x :: S) M P := by
  by_cases h : ¬ x = 0
  · refine v_st ha (pc' := tg) (L' := L) (S' := S) (M' := M) ?_ (k1 h)
    simp [am_st, ht, am_cz, h]
  · refine v_st ha (pc' := pc + 3) (L' := L) (S' := S) (M' := M) ?_ (k2 h)
    simp only [am_st, ht, am_cz, decide_eq_true_eq, Option.bind_some]
    rw [if_neg h]
theorem v_ic_ne {off : Int} {x y : Int32} (tg : Nat) (ha : am_at j pc = some (.if_icmp .ne off, len)) (ht : am_tg pc off = some tg) (k1 : ¬ x = y → am_V G d j tg L S M P) (k2 : ¬ (¬ x = y) → am_V G d j (pc + 3) L S M P) : am_V G d j pc L (.int y :: .int x :: S) M P := by
  by_cases h : ¬ x = y
  · refine v_st ha (pc' := tg) (L' := L) (S' := S) (M' := M) ?_ (k1 h)
    simp only [am_st, ht, am_cc2, decide_eq_true_eq, Option.bind_some]
    rw [if_pos h]
  · refine v_st ha (pc' := pc + 3) (L' := L) (S' := S) (M' := M) ?_ (k2 h)
    simp only [am_st, ht, am_cc2, decide_eq_true_eq, Option.bind_some]
    rw [if_neg h]
theorem v_if_lt {off : Int} {x : Int32} (tg : Nat) (ha : am_at j pc = some (.ifCond .lt off, len)) (ht : am_tg pc off = some tg) (k1 : x < 0 → am_V G d j tg L S M P) (k2 : ¬ (x < 0) → am_V G d j (pc + 3) L S M P) : am_V G d j pc L (.int x :: S) M P := by
  by_cases h : x < 0
  · refine v_st ha (pc' := tg) (L' := L) (S' := S) (M' := M) ?_ (k1 h)
    simp [am_st, ht, am_cz, h]
  · refine v_st ha (pc' := pc + 3) (L' := L) (S' := S) (M' := M) ?_ (k2 h)
    simp only [am_st, ht, am_cz, decide_eq_true_eq, Option.bind_some]
    rw [if_neg h]
theorem v_ic_lt {off : Int} {x y : Int32} (tg : Nat) (ha : am_at j pc = some (.if_icmp .lt off, len)) (ht : am_tg pc off = some tg) (k1 : x < y → am_V G d j tg L S M P) (k2 : ¬ (x < y) → am_V G d j (pc + 3) L S M P) : am_V G d j pc L (.int y :: .int x :: S) M P := by
  by_cases h : x < y
  · refine v_st ha (pc' := tg) (L' := L) (S' := S) (M' := M) ?_ (k1 h)
    simp only [am_st, ht, am_cc2, decide_eq_true_eq, Option.bind_some]
    rw [if_pos h]
  · refine v_st ha (pc' := pc + 3) (L' := L) (S' := S) (M' := M) ?_ (k2 h)
    simp only [am_st, ht, am_cc2, decide_eq_true_eq, Option.bind_some]
    rw [if_neg h]
theorem v_if_ge {off : Int} {x : Int32} (tg : Nat) (ha : am_at j pc = some (.ifCond .ge off, len)) (ht : am_tg pc off = some tg) (k1 : 0 ≤ x → am_V G d j tg L S M P) (k2 : ¬ (0 ≤ x) → am_V G d j (pc + 3) L S M P) : am_V G d j pc L (.int x :: S) M P := by
  by_cases h : 0 ≤ x
  · refine v_st ha (pc' := tg) (L' := L) (S' := S) (M' := M) ?_ (k1 h)
    simp [am_st, ht, am_cz, h]
  · refine v_st ha (pc' := pc + 3) (L' := L) (S' := S) (M' := M) ?_ (k2 h)
    simp only [am_st, ht, am_cz, decide_eq_true_eq, Option.bind_some]
    rw [if_neg h]
theorem v_ic_ge {off : Int} {x y : Int32} (tg : Nat) (ha : am_at j pc = some (.if_icmp .ge off, len)) (ht : am_tg pc off = some tg) (k1 : y ≤ x → am_V G d j tg L S M P) (k2 : ¬ (y ≤ x) → am_V G d j (pc + 3) L S M P) : am_V G d j pc L (.int y :: .int x :: S) M P := by
  by_cases h : y ≤ x
  · refine v_st ha (pc' := tg) (L' := L) (S' := S) (M' := M) ?_ (k1 h)
    simp only [am_st, ht, am_cc2, decide_eq_true_eq, Option.bind_some]
    rw [if_pos h]
  · refine v_st ha (pc' := pc + 3) (L' := L) (S' := S) (M' := M) ?_ (k2 h)
    simp only [am_st, ht, am_cc2, decide_eq_true_eq, Option.bind_some]
    rw [if_neg h]
theorem v_if_gt {off : Int} {x : Int32} (tg : Nat) (ha : am_at j pc = some (.ifCond .gt off, len)) (ht : am_tg pc off = some tg) (k1 : 0 < x → am_V G d j tg L S M P) (k2 : ¬ (0 < x) → am_V G d j (pc + 3) L S M P) : am_V G d j pc L (.int x :: S) M P := by
  by_cases h : 0 < x
  · refine v_st ha (pc' := tg) (L' := L) (S' := S) (M' := M) ?_ (k1 h)
    simp [am_st, ht, am_cz, h]
  · refine v_st ha (pc' := pc + 3) (L' := L) (S' := S) (M' := M) ?_ (k2 h)
    simp only [am_st, ht, am_cz, decide_eq_true_eq, Option.bind_some]
    rw [if_neg h]
theorem v_ic_gt {off : Int} {x y : Int32} (tg : Nat) (ha : am_at j pc = some (.if_icmp .gt off, len)) (ht : am_tg pc off = some tg) (k1 : y < x → am_V G d j tg L S M P) (k2 : ¬ (y < x) → am_V G d j (pc + 3) L S M P) : am_V G d j pc L (.int y :: .int x :: S) M P := by
  by_cases h : y < x
  · refine v_st ha (pc' := tg) (L' := L) (S' := S) (M' := M) ?_ (k1 h)
    simp only [am_st, ht, am_cc2, decide_eq_true_eq, Option.bind_some]
    rw [if_pos h]
  · refine v_st ha (pc' := pc + 3) (L' := L) (S' := S) (M' := M) ?_ (k2 h)
    simp only [am_st, ht, am_cc2, decide_eq_true_eq, Option.bind_some]
    rw [if_neg h]
theorem v_if_le {off : Int} {x : Int32} (tg : Nat) (ha : am_at j pc = some (.ifCond .le off, len)) (ht : am_tg pc off = some tg) (k1 : x ≤ 0 → am_V G d j tg L S M P) (k2 : ¬ (x ≤ 0) → am_V G d j (pc + 3) L S M P) : am_V G d j pc L (.int x :: S) M P := by
  by_cases h : x ≤ 0
  · refine v_st ha (pc' := tg) (L' := L) (S' := S) (M' := M) ?_ (k1 h)
    simp [am_st, ht, am_cz, h]
  · refine v_st ha (pc' := pc + 3) (L' := L) (S' := S) (M' := M) ?_ (k2 h)
    simp only [am_st, ht, am_cz, decide_eq_true_eq, Option.bind_some]
    rw [if_neg h]
theorem v_ic_le {off : Int} {x y : Int32} (tg : Nat) (ha : am_at j pc = some (.if_icmp .le off, len)) (ht : am_tg pc off = some tg) (k1 : x ≤ y → am_V G d j tg L S M P) (k2 : ¬ (x ≤ y) → am_V G d j (pc + 3) L S M P) : am_V G d j pc L (.int y :: .int x :: S) M P := by
  by_cases h : x ≤ y
  · refine v_st ha (pc' := tg) (L' := L) (S' := S) (M' := M) ?_ (k1 h)
    simp only [am_st, ht, am_cc2, decide_eq_true_eq, Option.bind_some]
    rw [if_pos h]
  · refine v_st ha (pc' := pc + 3) (L' := L) (S' := S) (M' := M) ?_ (k2 h)
    simp only [am_st, ht, am_cc2, decide_eq_true_eq, Option.bind_some]
    rw [if_neg h]
theorem v_goto {off : Int} (tg : Nat) (ha : am_at j pc = some (.goto off, len)) (ht : am_tg pc off = some tg) (k1 : am_V G d j tg L S M P) : am_V G d j pc L S M P := by
  refine v_st ha (pc' := tg) (L' := L) (S' := S) (M' := M) ?_ k1
  simp [am_st, ht]
/-- calls -/
theorem v_cv {a : Nat} (c0 : Nat) (ha : am_at j pc = some (.invokevirtual t, len)) (ht : t < 302) (hh : am_hh t = []) (hk : am_k M a = (0, c0)) (hc0 : c0 < 12) (hcn : (am_y t).cls = am_cn c0) (hn : As.length = am_np t) (hS : (S.map fun v => v.category).sum ≤ 8)
    (hm : am_C G d t (.ref a :: As) M (fun o M' => ∃ v : Option Value, o = .inl v ∧ v.toList.map (am_sv G) = v.toList ∧ am_V G (d + 1) j (pc + 3) L (v.toList ++ S) M' P)) : am_V G (d + 1) j pc L (As.reverse ++ .ref a :: S) M P := by
  obtain ⟨o, M', ⟨v, rfl, hv, k⟩, hm⟩ := hm
  exact am_V.lift (fun _ _ k => am_callV ha ht hh hk hc0 hcn hm hn hS hv k) k
theorem v_cs (ha : am_at j pc = some (.invokestatic t, len)) (ht : t < 302) (hx : am_hh t = [] ∨ am_nn (am_y t) = true) (hn : As.length = am_np t) (hS : (S.map fun v => v.category).sum ≤ 8)
    (hm : am_C G d t As M (fun o M' => ∃ v : Option Value, o = .inl v ∧ v.toList.map (am_sv G) = v.toList ∧ am_V G (d + 1) j (pc + 3) L (v.toList ++ S) M' P)) : am_V G (d + 1) j pc L (As.reverse ++ S) M P := by
  obtain ⟨o, M', ⟨v, rfl, hv, k⟩, hm⟩ := hm
  exact am_V.lift (fun _ _ k => am_callS ha ht hm hn hS hv (hx.imp id (fun h idx host => am_nn_ok h _ idx host)) k) k
theorem v_ci {a : Nat} (ha : am_at j pc = some (.invokespecial t, len)) (ht : t < 302) (hh : am_hh t = []) (hrt : am_rt t = none) (hn : As.length = am_np t) (hS : (S.map fun v => v.category).sum ≤ 8)
    (hm : am_C G d t (.ref a :: As) M (fun o M' => o = .inl none ∧ am_V G (d + 1) j (pc + 3) L S M' P)) : am_V G (d + 1) j pc L (As.reverse ++ .ref a :: S) M P := by
  obtain ⟨o, M', ⟨rfl, k⟩, hm⟩ := hm
  exact am_V.lift (fun _ _ k => am_callI ha ht hh hrt hm hn hS k) k
/-- an instance method that throws past this one -/
theorem v_cvx {a : Nat} {E : String} (c0 : Nat) (ha : am_at j pc = some (.invokevirtual t, len)) (ht : t < 302) (hh : am_hh t = []) (hhj : am_hh j = []) (hk : am_k M a = (0, c0)) (hc0 : c0 < 12) (hcn : (am_y t).cls = am_cn c0) (hn : As.length = am_np t) (hS : (S.map fun v => v.category).sum ≤ 8)
    (hm : am_C G d t (.ref a :: As) M (fun o M' => o = .inr E ∧ P (.inr E) M')) : am_V G (d + 1) j pc L (As.reverse ++ .ref a :: S) M P := by
  obtain ⟨o, M', ⟨rfl, k⟩, hm⟩ := hm
  exact ⟨_, M', k, am_callVx ha ht hh hhj hk hc0 hcn hm hn hS⟩
theorem v_csx {E : String} (ha : am_at j pc = some (.invokestatic t, len)) (ht : t < 302) (hh : am_hh t = []) (hhj : am_hh j = []) (hx : am_nn (am_y t) = true) (hn : As.length = am_np t) (hS : (S.map fun v => v.category).sum ≤ 8)
    (hm : am_C G d t As M (fun o M' => o = .inr E ∧ P (.inr E) M')) : am_V G (d + 1) j pc L (As.reverse ++ S) M P := by
  obtain ⟨o, M', ⟨rfl, k⟩, hm⟩ := hm
  exact ⟨_, M', k, am_callSx ha ht hh hhj (am_nn_ok hx _) hm hn hS⟩
theorem v_thr {x : Nat} (ha : am_at j pc = some (.new x, len)) (hx : 100 ≤ x) (hhj : am_hh j = []) (hS : (S.map fun v => v.category).sum ≤ 8) (hP : P (.inr (am_exn x)) (am_gar M)) : am_V G d j pc L S M P := ⟨_, _, hP, am_thr ha hx hhj hS⟩
theorem v_obj {a : Nat} (ha : am_at j pc = some (.invokespecial 1000, len)) (hS : (S.map fun v => v.category).sum ≤ 8) (k : am_V G d j (pc + 3) L S M P) : am_V G d j pc L (.ref a :: S) M P := am_V.lift (fun _ _ k => am_obj ha hS k) k
theorem v_copy {a b na nb : Nat} {sp dp n : Int32} (ha : am_at j pc = some (.invokestatic 1001, len)) (hka : am_k M a = (1, na)) (hkb : am_k M b = (1, nb)) (h1 : 0 ≤ sp) (h2 : 0 ≤ dp) (h3 : 0 ≤ n) (h4 : sp.toNatClampNeg + n.toNatClampNeg ≤ na) (h5 : dp.toNatClampNeg + n.toNatClampNeg ≤ nb) (hS : (S.map fun v => v.category).sum ≤ 8)
    (k : am_V G d j (pc + 3) L S (M.1, M.2.1, am_cpy M.2.2.1 a b sp.toNatClampNeg dp.toNatClampNeg n.toNatClampNeg, M.2.2.2) P) : am_V G d j pc L (.int n :: .int dp :: .ref b :: .int sp :: .ref a :: S) M P := am_V.lift (fun _ _ k => am_copy ha hka hkb h1 h2 h3 h4 h5 hS k) k
theorem v_max {x y : Int32} (ha : am_at j pc = some (.invokestatic 269, len)) (hS : (S.map fun v => v.category).sum ≤ 8) (k : am_V G d j (pc + 3) L (.int (if x < y then y else x) :: S) M P) : am_V G d j pc L (.int y :: .int x :: S) M P := am_V.lift (fun _ _ k => am_callMax ha hS k) k
theorem v_min {x y : Int32} (ha : am_at j pc = some (.invokestatic 270, len)) (hS : (S.map fun v => v.category).sum ≤ 8) (k : am_V G d j (pc + 3) L (.int (if y < x then y else x) :: S) M P) : am_V G d j pc L (.int y :: .int x :: S) M P := am_V.lift (fun _ _ k => am_callMin ha hS k) k
end WPA
