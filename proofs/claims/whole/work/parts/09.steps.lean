/-! Each instruction without calls and ends, as a row of the walk. -/
section AMS
variable {G : am_G} {d j : Nat} {o : am_O} {MF : am_M} {pc pc' len : Nat} {L L' S S' : List Value} {M M' : am_M}
theorem am_lift (h : ∀ {p : Program} {e : Env} {R : Room} {s : State} {m : MethodId} {args : Array Value} {below : List Frame} {meth : Method} {c : Code} {H : Heap} {locs : List Loc} {ls : Array Slot} {cells slots : Nat} {Q : State → Prop},
    am_Cx G d j p R s m args meth c → am_R G M H → va_S (am_A G) s.heap H locs → am_lr G ls (am_mL j) L → W p G.1 e R s m args below meth c H locs cells slots Q (F0 m pc' ls (S'.map (am_sv G))) → W p G.1 e R s m args below meth c H locs cells slots Q (F0 m pc ls (S.map (am_sv G)))) (k : am_W G d j o MF pc' L S' M) : am_W G d j o MF pc L S M :=
  ⟨k.1, fun C r f l z a b c d e => h C r f l (k.2 C r f l z a b c d e)⟩
theorem am_liftL (h : ∀ {p : Program} {e : Env} {R : Room} {s : State} {m : MethodId} {args : Array Value} {below : List Frame} {meth : Method} {c : Code} {H : Heap} {locs : List Loc} {ls : Array Slot} {cells slots : Nat} {Q : State → Prop},
    am_Cx G d j p R s m args meth c → am_R G M H → va_S (am_A G) s.heap H locs → am_lr G ls (am_mL j) L → (∀ ls' : Array Slot, am_lr G ls' (am_mL j) L' → W p G.1 e R s m args below meth c H locs cells slots Q (F0 m pc' ls' (S'.map (am_sv G)))) → W p G.1 e R s m args below meth c H locs cells slots Q (F0 m pc ls (S.map (am_sv G)))) (k : am_W G d j o MF pc' L' S' M) : am_W G d j o MF pc L S M :=
  ⟨k.1, fun C r f l z a b c d e => h C r f l (fun ls' l' => k.2 C r f l' z a b c d e)⟩
theorem am_liftM (hm : M'.1 = M.1) (h : ∀ {p : Program} {e : Env} {R : Room} {s : State} {m : MethodId} {args : Array Value} {below : List Frame} {meth : Method} {c : Code} {H : Heap} {locs : List Loc} {ls : Array Slot} {cells slots : Nat} {Q : State → Prop},
    am_Cx G d j p R s m args meth c → am_R G M H → va_S (am_A G) s.heap H locs → am_lr G ls (am_mL j) L → (∀ (H' : Heap) (locs' : List Loc), am_R G M' H' → va_S (am_A G) s.heap H' locs' → W p G.1 e R s m args below meth c H' locs' cells slots Q (F0 m pc' ls (S'.map (am_sv G)))) → W p G.1 e R s m args below meth c H locs cells slots Q (F0 m pc ls (S.map (am_sv G)))) (k : am_W G d j o MF pc' L S' M') : am_W G d j o MF pc L S M := by
  obtain ⟨⟨n, g, u⟩, M2⟩ := M
  obtain ⟨⟨n', g', u'⟩, M2'⟩ := M'
  cases hm
  exact ⟨k.1, fun C r f l z a b c d e => h C r f l (fun H' locs' r' f' => k.2 C r' f' l z a b c d e)⟩
theorem am_liftN {w : Nat} {cn : Nat} (hg : am_g M = 0) (hg' : am_g M' = 0) (hz : am_n M' = am_n M + cn) (hu : am_u M' = am_u M + w) (h : ∀ {p : Program} {e : Env} {R : Room} {s : State} {m : MethodId} {args : Array Value} {below : List Frame} {meth : Method} {c : Code} {H : Heap} {locs : List Loc} {ls : Array Slot} {cells slots : Nat} {Q : State → Prop},
    am_Cx G d j p R s m args meth c → am_R G M H → va_S (am_A G) s.heap H locs → am_lr G ls (am_mL j) L → s.heap.size + cells = am_z G + am_n M → cells + cn ≤ R.cells → slots + w ≤ R.slots → (∀ (H' : Heap) (locs' : List Loc), am_R G M' H' → va_S (am_A G) s.heap H' locs' → W p G.1 e R s m args below meth c H' locs' (cells + cn) (slots + w) Q (F0 m pc' ls (S'.map (am_sv G)))) → W p G.1 e R s m args below meth c H locs cells slots Q (F0 m pc ls (S.map (am_sv G)))) (k : am_W G d j o MF pc' L S' M') : am_W G d j o MF pc L S M := by
  obtain ⟨⟨k1, k2, k4⟩, k3⟩ := k
  refine ⟨⟨by unfold am_sz at *; omega, by omega, by omega⟩, fun C r f l z a b c d e => h C r f l (z hg) (by unfold am_sz at *; omega) (by omega) (fun H' locs' r' f' => k3 C r' f' l (fun _ => by have := z hg; omega) (by unfold am_sz at *; omega) (by omega) c d e)⟩
theorem am_tg_inv {off : Int} {t : Nat} (h : am_tg pc off = some t) : (pc : Int) + off = (t : Int) := by
  unfold am_tg at h
  split at h
  · cases h
    omega
  · cases h
theorem am_bin_inv {f : Int32 → Int32 → Int32} {r : am_S} (h : am_bin S pc L M f = some r) : ∃ (x y : Int32) (S0 : List Value), S = .int y :: .int x :: S0 ∧ r = (pc + 1, L, .int (f x y) :: S0, M) := by
  unfold am_bin at h
  split at h
  · cases h
    exact ⟨_, _, _, rfl, rfl⟩
  · cases h
theorem am_s_iconst {v : Int} (ha : am_at j pc = some (.iconst v, len)) (hs : am_st (.iconst v) pc len L S M = some (pc', L', S', M')) (k : am_W G d j o MF pc' L' S' M') : am_W G d j o MF pc L S M := by
  obtain ⟨hok, hln⟩ := am_at_ok ha
  have hl9 : len = 1 := by simpa [am_ln] using hln
  subst hl9
  have hd := am_okp' (i := .iconst v) rfl hok
  cases hs
  exact am_lift (fun C _ _ _ k => lv_iconst C.1 C.2.1 hd rfl k) k
theorem am_s_bipush {v : Int} (ha : am_at j pc = some (.bipush v, len)) (hs : am_st (.bipush v) pc len L S M = some (pc', L', S', M')) (k : am_W G d j o MF pc' L' S' M') : am_W G d j o MF pc L S M := by
  obtain ⟨hok, hln⟩ := am_at_ok ha
  have hl9 : len = 2 := by simpa [am_ln] using hln
  subst hl9
  have hd := am_okp' (i := .bipush v) rfl hok
  cases hs
  exact am_lift (fun C _ _ _ k => lv_bipush C.1 C.2.1 hd rfl k) k
theorem am_s_sipush {v : Int} (ha : am_at j pc = some (.sipush v, len)) (hs : am_st (.sipush v) pc len L S M = some (pc', L', S', M')) (k : am_W G d j o MF pc' L' S' M') : am_W G d j o MF pc L S M := by
  obtain ⟨hok, hln⟩ := am_at_ok ha
  have hl9 : len = 3 := by simpa [am_ln] using hln
  subst hl9
  have hd := am_okp' (i := .sipush v) rfl hok
  cases hs
  exact am_lift (fun C _ _ _ k => lv_sipush C.1 C.2.1 hd rfl k) k
theorem am_s_lconst {v : Fin 2} (ha : am_at j pc = some (.lconst v, len)) (hs : am_st (.lconst v) pc len L S M = some (pc', L', S', M')) (k : am_W G d j o MF pc' L' S' M') : am_W G d j o MF pc L S M := by
  obtain ⟨hok, hln⟩ := am_at_ok ha
  have hl9 : len = 1 := by simpa [am_ln] using hln
  subst hl9
  have hd := am_okp' (i := .lconst v) rfl hok
  cases hs
  exact am_lift (fun C _ _ _ k => lv_lconst C.1 C.2.1 hd rfl k) k
theorem am_s_ldc_w {v : Nat} (ha : am_at j pc = some (.ldc_w v, len)) (hs : am_st (.ldc_w v) pc len L S M = some (pc', L', S', M')) (k : am_W G d j o MF pc' L' S' M') : am_W G d j o MF pc L S M := by
  obtain ⟨hok, hln⟩ := am_at_ok ha
  have hl9 : len = 3 := by simpa [am_ln] using hln
  subst hl9
  obtain ⟨idx, hd, -, hm⟩ := hok
  cases hs
  exact am_lift (fun C _ _ _ k => lv_ldcw C.1 C.2.1 C.2.2.2.1 (C.2.2.2.2.1 _ hm rfl) hd k) k
theorem am_s_ldc2_w {v : Nat} (ha : am_at j pc = some (.ldc2_w v, len)) (hs : am_st (.ldc2_w v) pc len L S M = some (pc', L', S', M')) (k : am_W G d j o MF pc' L' S' M') : am_W G d j o MF pc L S M := by
  obtain ⟨hok, hln⟩ := am_at_ok ha
  have hl9 : len = 3 := by simpa [am_ln] using hln
  subst hl9
  obtain ⟨idx, hd, hm⟩ := hok
  cases hs
  exact am_lift (fun C _ _ _ k => lv_ldc2 C.1 C.2.1 C.2.2.2.1 (C.2.2.2.2.1 _ hm rfl) hd k) k
theorem am_s_ldc {v : Nat} (ha : am_at j pc = some (.ldc v, len)) (hs : am_st (.ldc v) pc len L S M = some (pc', L', S', M')) (k : am_W G d j o MF pc' L' S' M') : am_W G d j o MF pc L S M := by
  obtain ⟨hok, hln⟩ := am_at_ok ha
  have hl9 : len = 2 := by simpa [am_ln] using hln
  subst hl9
  obtain ⟨idx, tx, hd, hm⟩ := hok
  have hlt : v < 1000 := by have := (List.getElem?_eq_some_iff.mp hm).1; have h31 : am_str.length = 31 := by decide +kernel
                            omega
  have e1 : am_ad G (1000000 + v) = am_sk G v := by unfold am_ad; rw [if_neg (by omega), if_neg (by omega), Nat.add_sub_cancel_left]
  cases hs
  refine am_lift (fun C _ _ _ k => ?_) k
  refine va_ldcS C.1 C.2.1 C.2.2.2.1 (C.2.2.2.2.2.2.2.2.1.2.2.1 v idx _ tx hm) hd ?_
  rw [← e1]
  exact k
theorem am_s_iload {v : Nat} (ha : am_at j pc = some (.iload v, len)) (hs : am_st (.iload v) pc len L S M = some (pc', L', S', M')) (k : am_W G d j o MF pc' L' S' M') : am_W G d j o MF pc L S M := by
  obtain ⟨hok, hln⟩ := am_at_ok ha
  have hl9 : len = 2 := by simpa [am_ln] using hln
  subst hl9
  have hd := am_okp' (i := .iload v) rfl hok
  simp only [am_st, am_ld] at hs
  split at hs
  · rename_i x hx
    first | rw [if_pos rfl] at hs | rw [if_pos trivial] at hs
    cases hs
    exact am_lift (fun C _ _ h k => lv_iload C.1 C.2.1 hd (h.get hx (fun q => by cases q)) k) k
  · rename_i x hx
    rw [if_neg (by decide)] at hs
    cases hs
  · rename_i x hx
    rw [if_neg (by decide)] at hs
    cases hs
  · cases hs
theorem am_s_iload_n {v : Fin 4} (ha : am_at j pc = some (.iload_n v, len)) (hs : am_st (.iload_n v) pc len L S M = some (pc', L', S', M')) (k : am_W G d j o MF pc' L' S' M') : am_W G d j o MF pc L S M := by
  obtain ⟨hok, hln⟩ := am_at_ok ha
  have hl9 : len = 1 := by simpa [am_ln] using hln
  subst hl9
  have hd := am_okp' (i := .iload_n v) rfl hok
  simp only [am_st, am_ld] at hs
  split at hs
  · rename_i x hx
    first | rw [if_pos rfl] at hs | rw [if_pos trivial] at hs
    cases hs
    exact am_lift (fun C _ _ h k => lv_iload_n C.1 C.2.1 hd rfl (h.get hx (fun q => by cases q)) k) k
  · rename_i x hx
    rw [if_neg (by decide)] at hs
    cases hs
  · rename_i x hx
    rw [if_neg (by decide)] at hs
    cases hs
  · cases hs
theorem am_s_aload {v : Nat} (ha : am_at j pc = some (.aload v, len)) (hs : am_st (.aload v) pc len L S M = some (pc', L', S', M')) (k : am_W G d j o MF pc' L' S' M') : am_W G d j o MF pc L S M := by
  obtain ⟨hok, hln⟩ := am_at_ok ha
  have hl9 : len = 2 := by simpa [am_ln] using hln
  subst hl9
  have hd := am_okp' (i := .aload v) rfl hok
  simp only [am_st, am_ld] at hs
  split at hs
  · rename_i x hx
    rw [if_neg (by decide)] at hs
    cases hs
  · rename_i x hx
    first | rw [if_pos rfl] at hs | rw [if_pos trivial] at hs
    cases hs
    exact am_lift (fun C _ _ h k => lv_aload C.1 C.2.1 hd (h.get hx (fun q => by cases q)) k) k
  · rename_i x hx
    rw [if_neg (by decide)] at hs
    cases hs
  · cases hs
theorem am_s_aload_n {v : Fin 4} (ha : am_at j pc = some (.aload_n v, len)) (hs : am_st (.aload_n v) pc len L S M = some (pc', L', S', M')) (k : am_W G d j o MF pc' L' S' M') : am_W G d j o MF pc L S M := by
  obtain ⟨hok, hln⟩ := am_at_ok ha
  have hl9 : len = 1 := by simpa [am_ln] using hln
  subst hl9
  have hd := am_okp' (i := .aload_n v) rfl hok
  simp only [am_st, am_ld] at hs
  split at hs
  · rename_i x hx
    rw [if_neg (by decide)] at hs
    cases hs
  · rename_i x hx
    first | rw [if_pos rfl] at hs | rw [if_pos trivial] at hs
    cases hs
    exact am_lift (fun C _ _ h k => lv_aload_n C.1 C.2.1 hd rfl (h.get hx (fun q => by cases q)) k) k
  · rename_i x hx
    rw [if_neg (by decide)] at hs
    cases hs
  · cases hs
theorem am_s_lload {v : Nat} (ha : am_at j pc = some (.lload v, len)) (hs : am_st (.lload v) pc len L S M = some (pc', L', S', M')) (k : am_W G d j o MF pc' L' S' M') : am_W G d j o MF pc L S M := by
  obtain ⟨hok, hln⟩ := am_at_ok ha
  have hl9 : len = 2 := by simpa [am_ln] using hln
  subst hl9
  have hd := am_okp' (i := .lload v) rfl hok
  simp only [am_st, am_ld] at hs
  split at hs
  · rename_i x hx
    rw [if_neg (by decide)] at hs
    cases hs
  · rename_i x hx
    rw [if_neg (by decide)] at hs
    cases hs
  · rename_i x hx
    first | rw [if_pos rfl] at hs | rw [if_pos trivial] at hs
    cases hs
    exact am_lift (fun C _ _ h k => lv_lload C.1 C.2.1 hd (h.get hx (fun q => by cases q)) k) k
  · cases hs
theorem am_s_lload_n {v : Fin 4} (ha : am_at j pc = some (.lload_n v, len)) (hs : am_st (.lload_n v) pc len L S M = some (pc', L', S', M')) (k : am_W G d j o MF pc' L' S' M') : am_W G d j o MF pc L S M := by
  obtain ⟨hok, hln⟩ := am_at_ok ha
  have hl9 : len = 1 := by simpa [am_ln] using hln
  subst hl9
  have hd := am_okp' (i := .lload_n v) rfl hok
  simp only [am_st, am_ld] at hs
  split at hs
  · rename_i x hx
    rw [if_neg (by decide)] at hs
    cases hs
  · rename_i x hx
    rw [if_neg (by decide)] at hs
    cases hs
  · rename_i x hx
    first | rw [if_pos rfl] at hs | rw [if_pos trivial] at hs
    cases hs
    exact am_lift (fun C _ _ h k => lv_lload_n C.1 C.2.1 hd rfl (h.get hx (fun q => by cases q)) k) k
  · cases hs
theorem am_s_istore {v : Nat} (ha : am_at j pc = some (.istore v, len)) (hs : am_st (.istore v) pc len L S M = some (pc', L', S', M')) (k : am_W G d j o MF pc' L' S' M') : am_W G d j o MF pc L S M := by
  obtain ⟨hok, hln⟩ := am_at_ok ha
  have hl9 : len = 2 := by simpa [am_ln] using hln
  subst hl9
  have hd := am_okp' (i := .istore v) rfl hok
  simp only [am_st, am_sto] at hs
  split at hs
  · rename_i x S0
    split at hs
    · rename_i hc
      cases hs
      refine am_liftL (fun C _ _ h k => lv_istore C.1 C.2.1 hd h.2 ?_ rfl (fun ls' h' => k ls' (h.set1 (v := .int x) hc.2 h'))) k
      have h2 := hc.2
      simp only [am_may, Bool.and_eq_true, decide_eq_true_eq] at h2
      rw [← h.1]; exact h2.1
    · cases hs
  · rename_i x S0
    rw [if_neg (fun q => absurd q.1 (by decide))] at hs
    cases hs
  · rename_i x S0
    rw [if_neg (fun q => absurd q.1 (by decide))] at hs
    cases hs
  · cases hs
theorem am_s_istore_n {v : Fin 4} (ha : am_at j pc = some (.istore_n v, len)) (hs : am_st (.istore_n v) pc len L S M = some (pc', L', S', M')) (k : am_W G d j o MF pc' L' S' M') : am_W G d j o MF pc L S M := by
  obtain ⟨hok, hln⟩ := am_at_ok ha
  have hl9 : len = 1 := by simpa [am_ln] using hln
  subst hl9
  have hd := am_okp' (i := .istore_n v) rfl hok
  simp only [am_st, am_sto] at hs
  split at hs
  · rename_i x S0
    split at hs
    · rename_i hc
      cases hs
      refine am_liftL (fun C _ _ h k => lv_istore_n C.1 C.2.1 hd rfl h.2 ?_ rfl (fun ls' h' => k ls' (h.set1 (v := .int x) hc.2 h'))) k
      have h2 := hc.2
      simp only [am_may, Bool.and_eq_true, decide_eq_true_eq] at h2
      rw [← h.1]; exact h2.1
    · cases hs
  · rename_i x S0
    rw [if_neg (fun q => absurd q.1 (by decide))] at hs
    cases hs
  · rename_i x S0
    rw [if_neg (fun q => absurd q.1 (by decide))] at hs
    cases hs
  · cases hs
theorem am_s_astore {v : Nat} (ha : am_at j pc = some (.astore v, len)) (hs : am_st (.astore v) pc len L S M = some (pc', L', S', M')) (k : am_W G d j o MF pc' L' S' M') : am_W G d j o MF pc L S M := by
  obtain ⟨hok, hln⟩ := am_at_ok ha
  have hl9 : len = 2 := by simpa [am_ln] using hln
  subst hl9
  have hd := am_okp' (i := .astore v) rfl hok
  simp only [am_st, am_sto] at hs
  split at hs
  · rename_i x S0
    rw [if_neg (fun q => absurd q.1 (by decide))] at hs
    cases hs
  · rename_i x S0
    split at hs
    · rename_i hc
      cases hs
      refine am_liftL (fun C _ _ h k => lv_astore C.1 C.2.1 hd h.2 ?_ rfl (fun ls' h' => k ls' (h.set1 (v := .ref x) hc.2 h'))) k
      have h2 := hc.2
      simp only [am_may, Bool.and_eq_true, decide_eq_true_eq] at h2
      rw [← h.1]; exact h2.1
    · cases hs
  · rename_i x S0
    rw [if_neg (fun q => absurd q.1 (by decide))] at hs
    cases hs
  · cases hs
theorem am_s_astore_n {v : Fin 4} (ha : am_at j pc = some (.astore_n v, len)) (hs : am_st (.astore_n v) pc len L S M = some (pc', L', S', M')) (k : am_W G d j o MF pc' L' S' M') : am_W G d j o MF pc L S M := by
  obtain ⟨hok, hln⟩ := am_at_ok ha
  have hl9 : len = 1 := by simpa [am_ln] using hln
  subst hl9
  have hd := am_okp' (i := .astore_n v) rfl hok
  simp only [am_st, am_sto] at hs
  split at hs
  · rename_i x S0
    rw [if_neg (fun q => absurd q.1 (by decide))] at hs
    cases hs
  · rename_i x S0
    split at hs
    · rename_i hc
      cases hs
      refine am_liftL (fun C _ _ h k => lv_astore_n C.1 C.2.1 hd rfl h.2 ?_ rfl (fun ls' h' => k ls' (h.set1 (v := .ref x) hc.2 h'))) k
      have h2 := hc.2
      simp only [am_may, Bool.and_eq_true, decide_eq_true_eq] at h2
      rw [← h.1]; exact h2.1
    · cases hs
  · rename_i x S0
    rw [if_neg (fun q => absurd q.1 (by decide))] at hs
    cases hs
  · cases hs
theorem am_s_lstore {v : Nat} (ha : am_at j pc = some (.lstore v, len)) (hs : am_st (.lstore v) pc len L S M = some (pc', L', S', M')) (k : am_W G d j o MF pc' L' S' M') : am_W G d j o MF pc L S M := by
  obtain ⟨hok, hln⟩ := am_at_ok ha
  have hl9 : len = 2 := by simpa [am_ln] using hln
  subst hl9
  have hd := am_okp' (i := .lstore v) rfl hok
  simp only [am_st, am_sto] at hs
  split at hs
  · rename_i x S0
    rw [if_neg (fun q => absurd q.1 (by decide))] at hs
    cases hs
  · rename_i x S0
    rw [if_neg (fun q => absurd q.1 (by decide))] at hs
    cases hs
  · rename_i x S0
    split at hs
    · rename_i hc
      cases hs
      refine am_liftL (fun C _ _ h k => lv_lstore C.1 C.2.1 hd h.2 ?_ rfl (fun ls' h' => k ls' (h.set2 (v := .long x) hc.2.1 h'))) k
      rw [← h.1]; exact hc.2.2
    · cases hs
  · cases hs
theorem am_s_lstore_n {v : Fin 4} (ha : am_at j pc = some (.lstore_n v, len)) (hs : am_st (.lstore_n v) pc len L S M = some (pc', L', S', M')) (k : am_W G d j o MF pc' L' S' M') : am_W G d j o MF pc L S M := by
  obtain ⟨hok, hln⟩ := am_at_ok ha
  have hl9 : len = 1 := by simpa [am_ln] using hln
  subst hl9
  have hd := am_okp' (i := .lstore_n v) rfl hok
  simp only [am_st, am_sto] at hs
  split at hs
  · rename_i x S0
    rw [if_neg (fun q => absurd q.1 (by decide))] at hs
    cases hs
  · rename_i x S0
    rw [if_neg (fun q => absurd q.1 (by decide))] at hs
    cases hs
  · rename_i x S0
    split at hs
    · rename_i hc
      cases hs
      refine am_liftL (fun C _ _ h k => lv_lstore_n C.1 C.2.1 hd rfl h.2 ?_ rfl (fun ls' h' => k ls' (h.set2 (v := .long x) hc.2.1 h'))) k
      rw [← h.1]; exact hc.2.2
    · cases hs
  · cases hs
theorem am_s_iinc {v : Nat} {w : Int} (ha : am_at j pc = some (.iinc v w, len)) (hs : am_st (.iinc v w) pc len L S M = some (pc', L', S', M')) (k : am_W G d j o MF pc' L' S' M') : am_W G d j o MF pc L S M := by
  obtain ⟨hok, hln⟩ := am_at_ok ha
  have hl9 : len = 3 := by simpa [am_ln] using hln
  subst hl9
  have hd := am_okp' (i := .iinc v w) rfl hok
  simp only [am_st] at hs
  split at hs
  · rename_i x hx
    split at hs
    · rename_i hc
      cases hs
      refine am_liftL (fun C _ _ h k => ?_) k
      obtain ⟨q, hq⟩ := List.mem_iff_getElem?.mp (am_lv_mem.mpr ⟨_, hx, (fun q => by cases q), rfl⟩ : (v, am_sv G (.int x)) ∈ am_lv G L)
      have h2 := hc
      simp only [am_may, Bool.and_eq_true, decide_eq_true_eq] at h2
      exact lv_iinc (v := x + Int32.ofInt w) C.1 C.2.1 hd h.2 hq rfl (by rw [← h.1]; exact h2.1) rfl (fun ls' h' => k ls' (h.set1 hc h'))
    · cases hs
  · cases hs
theorem am_s_iadd (ha : am_at j pc = some (.iadd, len)) (hs : am_st (.iadd) pc len L S M = some (pc', L', S', M')) (k : am_W G d j o MF pc' L' S' M') : am_W G d j o MF pc L S M := by
  obtain ⟨hok, hln⟩ := am_at_ok ha
  have hl9 : len = 1 := by simpa [am_ln] using hln
  subst hl9
  have hd := am_okp' (i := .iadd) rfl hok
  obtain ⟨x, y, S0, rfl, h2⟩ := am_bin_inv hs
  cases h2
  exact am_lift (fun C _ _ _ k => lv_iadd C.1 C.2.1 hd k) k
theorem am_s_isub (ha : am_at j pc = some (.isub, len)) (hs : am_st (.isub) pc len L S M = some (pc', L', S', M')) (k : am_W G d j o MF pc' L' S' M') : am_W G d j o MF pc L S M := by
  obtain ⟨hok, hln⟩ := am_at_ok ha
  have hl9 : len = 1 := by simpa [am_ln] using hln
  subst hl9
  have hd := am_okp' (i := .isub) rfl hok
  obtain ⟨x, y, S0, rfl, h2⟩ := am_bin_inv hs
  cases h2
  exact am_lift (fun C _ _ _ k => lv_isub C.1 C.2.1 hd k) k
theorem am_s_imul (ha : am_at j pc = some (.imul, len)) (hs : am_st (.imul) pc len L S M = some (pc', L', S', M')) (k : am_W G d j o MF pc' L' S' M') : am_W G d j o MF pc L S M := by
  obtain ⟨hok, hln⟩ := am_at_ok ha
  have hl9 : len = 1 := by simpa [am_ln] using hln
  subst hl9
  have hd := am_okp' (i := .imul) rfl hok
  obtain ⟨x, y, S0, rfl, h2⟩ := am_bin_inv hs
  cases h2
  exact am_lift (fun C _ _ _ k => lv_imul C.1 C.2.1 hd k) k
theorem am_s_iand (ha : am_at j pc = some (.iand, len)) (hs : am_st (.iand) pc len L S M = some (pc', L', S', M')) (k : am_W G d j o MF pc' L' S' M') : am_W G d j o MF pc L S M := by
  obtain ⟨hok, hln⟩ := am_at_ok ha
  have hl9 : len = 1 := by simpa [am_ln] using hln
  subst hl9
  have hd := am_okp' (i := .iand) rfl hok
  obtain ⟨x, y, S0, rfl, h2⟩ := am_bin_inv hs
  cases h2
  exact am_lift (fun C _ _ _ k => lv_iand C.1 C.2.1 hd k) k
theorem am_s_ior (ha : am_at j pc = some (.ior, len)) (hs : am_st (.ior) pc len L S M = some (pc', L', S', M')) (k : am_W G d j o MF pc' L' S' M') : am_W G d j o MF pc L S M := by
  obtain ⟨hok, hln⟩ := am_at_ok ha
  have hl9 : len = 1 := by simpa [am_ln] using hln
  subst hl9
  have hd := am_okp' (i := .ior) rfl hok
  obtain ⟨x, y, S0, rfl, h2⟩ := am_bin_inv hs
  cases h2
  exact am_lift (fun C _ _ _ k => lv_ior C.1 C.2.1 hd k) k
theorem am_s_ixor (ha : am_at j pc = some (.ixor, len)) (hs : am_st (.ixor) pc len L S M = some (pc', L', S', M')) (k : am_W G d j o MF pc' L' S' M') : am_W G d j o MF pc L S M := by
  obtain ⟨hok, hln⟩ := am_at_ok ha
  have hl9 : len = 1 := by simpa [am_ln] using hln
  subst hl9
  have hd := am_okp' (i := .ixor) rfl hok
  obtain ⟨x, y, S0, rfl, h2⟩ := am_bin_inv hs
  cases h2
  exact am_lift (fun C _ _ _ k => lv_ixor C.1 C.2.1 hd k) k
theorem am_s_ishl (ha : am_at j pc = some (.ishl, len)) (hs : am_st (.ishl) pc len L S M = some (pc', L', S', M')) (k : am_W G d j o MF pc' L' S' M') : am_W G d j o MF pc L S M := by
  obtain ⟨hok, hln⟩ := am_at_ok ha
  have hl9 : len = 1 := by simpa [am_ln] using hln
  subst hl9
  have hd := am_okp' (i := .ishl) rfl hok
  obtain ⟨x, y, S0, rfl, h2⟩ := am_bin_inv hs
  cases h2
  exact am_lift (fun C _ _ _ k => lv_ishl C.1 C.2.1 hd k) k
theorem am_s_ishr (ha : am_at j pc = some (.ishr, len)) (hs : am_st (.ishr) pc len L S M = some (pc', L', S', M')) (k : am_W G d j o MF pc' L' S' M') : am_W G d j o MF pc L S M := by
  obtain ⟨hok, hln⟩ := am_at_ok ha
  have hl9 : len = 1 := by simpa [am_ln] using hln
  subst hl9
  have hd := am_okp' (i := .ishr) rfl hok
  obtain ⟨x, y, S0, rfl, h2⟩ := am_bin_inv hs
  cases h2
  exact am_lift (fun C _ _ _ k => lv_ishr C.1 C.2.1 hd k) k
theorem am_s_iushr (ha : am_at j pc = some (.iushr, len)) (hs : am_st (.iushr) pc len L S M = some (pc', L', S', M')) (k : am_W G d j o MF pc' L' S' M') : am_W G d j o MF pc L S M := by
  obtain ⟨hok, hln⟩ := am_at_ok ha
  have hl9 : len = 1 := by simpa [am_ln] using hln
  subst hl9
  have hd := am_okp' (i := .iushr) rfl hok
  obtain ⟨x, y, S0, rfl, h2⟩ := am_bin_inv hs
  cases h2
  exact am_lift (fun C _ _ _ k => lv_iushr C.1 C.2.1 hd rfl k) k
theorem am_s_idiv (ha : am_at j pc = some (.idiv, len)) (hs : am_st (.idiv) pc len L S M = some (pc', L', S', M')) (k : am_W G d j o MF pc' L' S' M') : am_W G d j o MF pc L S M := by
  obtain ⟨hok, hln⟩ := am_at_ok ha
  have hl9 : len = 1 := by simpa [am_ln] using hln
  subst hl9
  have hd := am_okp' (i := .idiv) rfl hok
  simp only [am_st] at hs
  split at hs
  · split at hs
    · cases hs
    · rename_i hne
      cases hs
      exact am_lift (fun C _ _ _ k => lv_idiv C.1 C.2.1 hd hne k) k
  · cases hs
theorem am_s_irem (ha : am_at j pc = some (.irem, len)) (hs : am_st (.irem) pc len L S M = some (pc', L', S', M')) (k : am_W G d j o MF pc' L' S' M') : am_W G d j o MF pc L S M := by
  obtain ⟨hok, hln⟩ := am_at_ok ha
  have hl9 : len = 1 := by simpa [am_ln] using hln
  subst hl9
  have hd := am_okp' (i := .irem) rfl hok
  simp only [am_st] at hs
  split at hs
  · split at hs
    · cases hs
    · rename_i hne
      cases hs
      exact am_lift (fun C _ _ _ k => lv_irem C.1 C.2.1 hd hne k) k
  · cases hs
theorem am_s_ineg (ha : am_at j pc = some (.ineg, len)) (hs : am_st (.ineg) pc len L S M = some (pc', L', S', M')) (k : am_W G d j o MF pc' L' S' M') : am_W G d j o MF pc L S M := by
  obtain ⟨hok, hln⟩ := am_at_ok ha
  have hl9 : len = 1 := by simpa [am_ln] using hln
  subst hl9
  have hd := am_okp' (i := .ineg) rfl hok
  simp only [am_st] at hs
  split at hs
  · cases hs
    exact am_lift (fun C _ _ _ k => lv_ineg C.1 C.2.1 hd k) k
  · cases hs
theorem am_s_i2l (ha : am_at j pc = some (.i2l, len)) (hs : am_st (.i2l) pc len L S M = some (pc', L', S', M')) (k : am_W G d j o MF pc' L' S' M') : am_W G d j o MF pc L S M := by
  obtain ⟨hok, hln⟩ := am_at_ok ha
  have hl9 : len = 1 := by simpa [am_ln] using hln
  subst hl9
  have hd := am_okp' (i := .i2l) rfl hok
  simp only [am_st] at hs
  split at hs
  · cases hs
    exact am_lift (fun C _ _ _ k => lv_i2l C.1 C.2.1 hd rfl k) k
  · cases hs
theorem am_s_lshl (ha : am_at j pc = some (.lshl, len)) (hs : am_st (.lshl) pc len L S M = some (pc', L', S', M')) (k : am_W G d j o MF pc' L' S' M') : am_W G d j o MF pc L S M := by
  obtain ⟨hok, hln⟩ := am_at_ok ha
  have hl9 : len = 1 := by simpa [am_ln] using hln
  subst hl9
  have hd := am_okp' (i := .lshl) rfl hok
  simp only [am_st] at hs
  split at hs
  · cases hs
    exact am_lift (fun C _ _ _ k => lv_lshl C.1 C.2.1 hd rfl k) k
  · cases hs
theorem am_s_lor (ha : am_at j pc = some (.lor, len)) (hs : am_st (.lor) pc len L S M = some (pc', L', S', M')) (k : am_W G d j o MF pc' L' S' M') : am_W G d j o MF pc L S M := by
  obtain ⟨hok, hln⟩ := am_at_ok ha
  have hl9 : len = 1 := by simpa [am_ln] using hln
  subst hl9
  have hd := am_okp' (i := .lor) rfl hok
  simp only [am_st] at hs
  split at hs
  · cases hs
    exact am_lift (fun C _ _ _ k => lv_lor C.1 C.2.1 hd k) k
  · cases hs
theorem am_s_lsub (ha : am_at j pc = some (.lsub, len)) (hs : am_st (.lsub) pc len L S M = some (pc', L', S', M')) (k : am_W G d j o MF pc' L' S' M') : am_W G d j o MF pc L S M := by
  obtain ⟨hok, hln⟩ := am_at_ok ha
  have hl9 : len = 1 := by simpa [am_ln] using hln
  subst hl9
  have hd := am_okp' (i := .lsub) rfl hok
  simp only [am_st] at hs
  split at hs
  · cases hs
    exact am_lift (fun C _ _ _ k => lv_lsub C.1 C.2.1 hd k) k
  · cases hs
theorem am_s_lcmp (ha : am_at j pc = some (.lcmp, len)) (hs : am_st (.lcmp) pc len L S M = some (pc', L', S', M')) (k : am_W G d j o MF pc' L' S' M') : am_W G d j o MF pc L S M := by
  obtain ⟨hok, hln⟩ := am_at_ok ha
  have hl9 : len = 1 := by simpa [am_ln] using hln
  subst hl9
  have hd := am_okp' (i := .lcmp) rfl hok
  simp only [am_st] at hs
  split at hs
  · cases hs
    exact am_lift (fun C _ _ _ k => W.lcmp C.1 C.2.1 hd k) k
  · cases hs
theorem am_s_pop (ha : am_at j pc = some (.pop, len)) (hs : am_st (.pop) pc len L S M = some (pc', L', S', M')) (k : am_W G d j o MF pc' L' S' M') : am_W G d j o MF pc L S M := by
  obtain ⟨hok, hln⟩ := am_at_ok ha
  have hl9 : len = 1 := by simpa [am_ln] using hln
  subst hl9
  have hd := am_okp' (i := .pop) rfl hok
  simp only [am_st] at hs
  split at hs
  · cases hs
    exact am_lift (fun C _ _ _ k => lv_pop C.1 C.2.1 hd rfl k) k
  · cases hs
theorem am_s_dup2 (ha : am_at j pc = some (.dup2, len)) (hs : am_st (.dup2) pc len L S M = some (pc', L', S', M')) (k : am_W G d j o MF pc' L' S' M') : am_W G d j o MF pc L S M := by
  obtain ⟨hok, hln⟩ := am_at_ok ha
  have hl9 : len = 1 := by simpa [am_ln] using hln
  subst hl9
  have hd := am_okp' (i := .dup2) rfl hok
  simp only [am_st] at hs
  split at hs
  · cases hs
    exact am_lift (fun C _ _ _ k => lv_dup2_11 C.1 C.2.1 hd rfl rfl k) k
  · cases hs
theorem am_s_dup (ha : am_at j pc = some (.dup, len)) (hs : am_st (.dup) pc len L S M = some (pc', L', S', M')) (k : am_W G d j o MF pc' L' S' M') : am_W G d j o MF pc L S M := by
  obtain ⟨hok, hln⟩ := am_at_ok ha
  have hl9 : len = 1 := by simpa [am_ln] using hln
  subst hl9
  have hd := am_okp' (i := .dup) rfl hok
  simp only [am_st] at hs
  split at hs
  · cases hs
    exact am_lift (fun C _ _ _ k => lv_dup C.1 C.2.1 hd rfl k) k
  · cases hs
    exact am_lift (fun C _ _ _ k => lv_dup C.1 C.2.1 hd rfl k) k
  · cases hs
theorem am_s_ifCond_eq {off : Int} (ha : am_at j pc = some (.ifCond .eq off, len)) (hs : am_st (.ifCond .eq off) pc len L S M = some (pc', L', S', M')) (k : am_W G d j o MF pc' L' S' M') : am_W G d j o MF pc L S M := by
  obtain ⟨hok, hln⟩ := am_at_ok ha
  have hl9 : len = 3 := by simpa [am_ln] using hln
  subst hl9
  have hd := am_okp' (i := .ifCond .eq off) rfl hok
  simp only [am_st] at hs
  split at hs
  · obtain ⟨t, ht, h2⟩ := Option.bind_eq_some_iff.mp hs
    have ht := am_tg_inv ht
    cases h2
    refine am_lift (fun C _ _ _ k => lv_if_eq C.1 C.2.1 hd ht (fun hc => ?_) (fun hc => ?_)) k
    · rw [if_pos (by simp [am_cz]; exact hc)] at k; exact k
    · rw [if_neg (by simp [am_cz]; first | exact hc | (simpa using hc))] at k; exact k
  · cases hs
theorem am_s_ifCond_ne {off : Int} (ha : am_at j pc = some (.ifCond .ne off, len)) (hs : am_st (.ifCond .ne off) pc len L S M = some (pc', L', S', M')) (k : am_W G d j o MF pc' L' S' M') : am_W G d j o MF pc L S M := by
  obtain ⟨hok, hln⟩ := am_at_ok ha
  have hl9 : len = 3 := by simpa [am_ln] using hln
  subst hl9
  have hd := am_okp' (i := .ifCond .ne off) rfl hok
  simp only [am_st] at hs
  split at hs
  · obtain ⟨t, ht, h2⟩ := Option.bind_eq_some_iff.mp hs
    have ht := am_tg_inv ht
    cases h2
    refine am_lift (fun C _ _ _ k => lv_if_ne C.1 C.2.1 hd ht (fun hc => ?_) (fun hc => ?_)) k
    · rw [if_pos (by simp [am_cz]; exact hc)] at k; exact k
    · rw [if_neg (by simp [am_cz]; first | exact hc | (simpa using hc))] at k; exact k
  · cases hs
theorem am_s_ifCond_lt {off : Int} (ha : am_at j pc = some (.ifCond .lt off, len)) (hs : am_st (.ifCond .lt off) pc len L S M = some (pc', L', S', M')) (k : am_W G d j o MF pc' L' S' M') : am_W G d j o MF pc L S M := by
  obtain ⟨hok, hln⟩ := am_at_ok ha
  have hl9 : len = 3 := by simpa [am_ln] using hln
  subst hl9
  have hd := am_okp' (i := .ifCond .lt off) rfl hok
  simp only [am_st] at hs
  split at hs
  · obtain ⟨t, ht, h2⟩ := Option.bind_eq_some_iff.mp hs
    have ht := am_tg_inv ht
    cases h2
    refine am_lift (fun C _ _ _ k => lv_if_lt C.1 C.2.1 hd ht (fun hc => ?_) (fun hc => ?_)) k
    · rw [if_pos (by simp [am_cz]; exact hc)] at k; exact k
    · rw [if_neg (by simp [am_cz]; first | exact hc | (simpa using hc))] at k; exact k
  · cases hs
theorem am_s_ifCond_ge {off : Int} (ha : am_at j pc = some (.ifCond .ge off, len)) (hs : am_st (.ifCond .ge off) pc len L S M = some (pc', L', S', M')) (k : am_W G d j o MF pc' L' S' M') : am_W G d j o MF pc L S M := by
  obtain ⟨hok, hln⟩ := am_at_ok ha
  have hl9 : len = 3 := by simpa [am_ln] using hln
  subst hl9
  have hd := am_okp' (i := .ifCond .ge off) rfl hok
  simp only [am_st] at hs
  split at hs
  · obtain ⟨t, ht, h2⟩ := Option.bind_eq_some_iff.mp hs
    have ht := am_tg_inv ht
    cases h2
    refine am_lift (fun C _ _ _ k => lv_if_ge C.1 C.2.1 hd ht (fun hc => ?_) (fun hc => ?_)) k
    · rw [if_pos (by simp [am_cz]; exact hc)] at k; exact k
    · rw [if_neg (by simp [am_cz]; first | exact hc | (simpa using hc))] at k; exact k
  · cases hs
theorem am_s_ifCond_gt {off : Int} (ha : am_at j pc = some (.ifCond .gt off, len)) (hs : am_st (.ifCond .gt off) pc len L S M = some (pc', L', S', M')) (k : am_W G d j o MF pc' L' S' M') : am_W G d j o MF pc L S M := by
  obtain ⟨hok, hln⟩ := am_at_ok ha
  have hl9 : len = 3 := by simpa [am_ln] using hln
  subst hl9
  have hd := am_okp' (i := .ifCond .gt off) rfl hok
  simp only [am_st] at hs
  split at hs
  · obtain ⟨t, ht, h2⟩ := Option.bind_eq_some_iff.mp hs
    have ht := am_tg_inv ht
    cases h2
    refine am_lift (fun C _ _ _ k => lv_if_gt C.1 C.2.1 hd ht (fun hc => ?_) (fun hc => ?_)) k
    · rw [if_pos (by simp [am_cz]; exact hc)] at k; exact k
    · rw [if_neg (by simp [am_cz]; first | exact hc | (simpa using hc))] at k; exact k
  · cases hs
theorem am_s_ifCond_le {off : Int} (ha : am_at j pc = some (.ifCond .le off, len)) (hs : am_st (.ifCond .le off) pc len L S M = some (pc', L', S', M')) (k : am_W G d j o MF pc' L' S' M') : am_W G d j o MF pc L S M := by
  obtain ⟨hok, hln⟩ := am_at_ok ha
  have hl9 : len = 3 := by simpa [am_ln] using hln
  subst hl9
  have hd := am_okp' (i := .ifCond .le off) rfl hok
  simp only [am_st] at hs
  split at hs
  · obtain ⟨t, ht, h2⟩ := Option.bind_eq_some_iff.mp hs
    have ht := am_tg_inv ht
    cases h2
    refine am_lift (fun C _ _ _ k => lv_if_le C.1 C.2.1 hd ht (fun hc => ?_) (fun hc => ?_)) k
    · rw [if_pos (by simp [am_cz]; exact hc)] at k; exact k
    · rw [if_neg (by simp [am_cz]; first | exact hc | (simpa using hc))] at k; exact k
  · cases hs
theorem am_s_if_icmp_eq {off : Int} (ha : am_at j pc = some (.if_icmp .eq off, len)) (hs : am_st (.if_icmp .eq off) pc len L S M = some (pc', L', S', M')) (k : am_W G d j o MF pc' L' S' M') : am_W G d j o MF pc L S M := by
  obtain ⟨hok, hln⟩ := am_at_ok ha
  have hl9 : len = 3 := by simpa [am_ln] using hln
  subst hl9
  have hd := am_okp' (i := .if_icmp .eq off) rfl hok
  simp only [am_st] at hs
  split at hs
  · obtain ⟨t, ht, h2⟩ := Option.bind_eq_some_iff.mp hs
    have ht := am_tg_inv ht
    cases h2
    refine am_lift (fun C _ _ _ k => lv_icmp_eq C.1 C.2.1 hd ht (fun hc => ?_) (fun hc => ?_)) k
    · rw [if_pos (by simp [am_cc2]; exact hc)] at k; exact k
    · rw [if_neg (by simp [am_cc2]; first | exact hc | (simpa using hc))] at k; exact k
  · cases hs
theorem am_s_if_icmp_ne {off : Int} (ha : am_at j pc = some (.if_icmp .ne off, len)) (hs : am_st (.if_icmp .ne off) pc len L S M = some (pc', L', S', M')) (k : am_W G d j o MF pc' L' S' M') : am_W G d j o MF pc L S M := by
  obtain ⟨hok, hln⟩ := am_at_ok ha
  have hl9 : len = 3 := by simpa [am_ln] using hln
  subst hl9
  have hd := am_okp' (i := .if_icmp .ne off) rfl hok
  simp only [am_st] at hs
  split at hs
  · obtain ⟨t, ht, h2⟩ := Option.bind_eq_some_iff.mp hs
    have ht := am_tg_inv ht
    cases h2
    refine am_lift (fun C _ _ _ k => lv_icmp_ne C.1 C.2.1 hd ht (fun hc => ?_) (fun hc => ?_)) k
    · rw [if_pos (by simp [am_cc2]; exact hc)] at k; exact k
    · rw [if_neg (by simp [am_cc2]; first | exact hc | (simpa using hc))] at k; exact k
  · cases hs
theorem am_s_if_icmp_lt {off : Int} (ha : am_at j pc = some (.if_icmp .lt off, len)) (hs : am_st (.if_icmp .lt off) pc len L S M = some (pc', L', S', M')) (k : am_W G d j o MF pc' L' S' M') : am_W G d j o MF pc L S M := by
  obtain ⟨hok, hln⟩ := am_at_ok ha
  have hl9 : len = 3 := by simpa [am_ln] using hln
  subst hl9
  have hd := am_okp' (i := .if_icmp .lt off) rfl hok
  simp only [am_st] at hs
  split at hs
  · obtain ⟨t, ht, h2⟩ := Option.bind_eq_some_iff.mp hs
    have ht := am_tg_inv ht
    cases h2
    refine am_lift (fun C _ _ _ k => lv_icmp_lt C.1 C.2.1 hd ht (fun hc => ?_) (fun hc => ?_)) k
    · rw [if_pos (by simp [am_cc2]; exact hc)] at k; exact k
    · rw [if_neg (by simp [am_cc2]; first | exact hc | (simpa using hc))] at k; exact k
  · cases hs
theorem am_s_if_icmp_ge {off : Int} (ha : am_at j pc = some (.if_icmp .ge off, len)) (hs : am_st (.if_icmp .ge off) pc len L S M = some (pc', L', S', M')) (k : am_W G d j o MF pc' L' S' M') : am_W G d j o MF pc L S M := by
  obtain ⟨hok, hln⟩ := am_at_ok ha
  have hl9 : len = 3 := by simpa [am_ln] using hln
  subst hl9
  have hd := am_okp' (i := .if_icmp .ge off) rfl hok
  simp only [am_st] at hs
  split at hs
  · obtain ⟨t, ht, h2⟩ := Option.bind_eq_some_iff.mp hs
    have ht := am_tg_inv ht
    cases h2
    refine am_lift (fun C _ _ _ k => lv_icmp_ge C.1 C.2.1 hd ht (fun hc => ?_) (fun hc => ?_)) k
    · rw [if_pos (by simp [am_cc2]; exact hc)] at k; exact k
    · rw [if_neg (by simp [am_cc2]; first | exact hc | (simpa using hc))] at k; exact k
  · cases hs
theorem am_s_if_icmp_gt {off : Int} (ha : am_at j pc = some (.if_icmp .gt off, len)) (hs : am_st (.if_icmp .gt off) pc len L S M = some (pc', L', S', M')) (k : am_W G d j o MF pc' L' S' M') : am_W G d j o MF pc L S M := by
  obtain ⟨hok, hln⟩ := am_at_ok ha
  have hl9 : len = 3 := by simpa [am_ln] using hln
  subst hl9
  have hd := am_okp' (i := .if_icmp .gt off) rfl hok
  simp only [am_st] at hs
  split at hs
  · obtain ⟨t, ht, h2⟩ := Option.bind_eq_some_iff.mp hs
    have ht := am_tg_inv ht
    cases h2
    refine am_lift (fun C _ _ _ k => lv_icmp_gt C.1 C.2.1 hd ht (fun hc => ?_) (fun hc => ?_)) k
    · rw [if_pos (by simp [am_cc2]; exact hc)] at k; exact k
    · rw [if_neg (by simp [am_cc2]; first | exact hc | (simpa using hc))] at k; exact k
  · cases hs
theorem am_s_if_icmp_le {off : Int} (ha : am_at j pc = some (.if_icmp .le off, len)) (hs : am_st (.if_icmp .le off) pc len L S M = some (pc', L', S', M')) (k : am_W G d j o MF pc' L' S' M') : am_W G d j o MF pc L S M := by
  obtain ⟨hok, hln⟩ := am_at_ok ha
  have hl9 : len = 3 := by simpa [am_ln] using hln
  subst hl9
  have hd := am_okp' (i := .if_icmp .le off) rfl hok
  simp only [am_st] at hs
  split at hs
  · obtain ⟨t, ht, h2⟩ := Option.bind_eq_some_iff.mp hs
    have ht := am_tg_inv ht
    cases h2
    refine am_lift (fun C _ _ _ k => lv_icmp_le C.1 C.2.1 hd ht (fun hc => ?_) (fun hc => ?_)) k
    · rw [if_pos (by simp [am_cc2]; exact hc)] at k; exact k
    · rw [if_neg (by simp [am_cc2]; first | exact hc | (simpa using hc))] at k; exact k
  · cases hs
theorem am_s_goto {off : Int} (ha : am_at j pc = some (.goto off, len)) (hs : am_st (.goto off) pc len L S M = some (pc', L', S', M')) (k : am_W G d j o MF pc' L' S' M') : am_W G d j o MF pc L S M := by
  obtain ⟨hok, hln⟩ := am_at_ok ha
  have hl9 : len = 3 := by simpa [am_ln] using hln
  subst hl9
  have hd := am_okp' (i := .goto off) rfl hok
  obtain ⟨t, ht, h2⟩ := Option.bind_eq_some_iff.mp hs
  have ht := am_tg_inv ht
  cases h2
  exact am_lift (fun C _ _ _ k => lv_goto C.1 C.2.1 hd ht k) k
theorem am_s_tableswitch {df lo hi : Int} {offs : Array Int} (ha : am_at j pc = some (.tableswitch df lo hi offs, len)) (hs : am_st (.tableswitch df lo hi offs) pc len L S M = some (pc', L', S', M')) (k : am_W G d j o MF pc' L' S' M') : am_W G d j o MF pc L S M := by
  obtain ⟨hok, hln⟩ := am_at_ok ha
  have hd := am_okp' (i := .tableswitch df lo hi offs) rfl hok
  simp only [am_st] at hs
  split at hs
  · split at hs
    · rename_i hc
      obtain ⟨t, ht, h2⟩ := Option.bind_eq_some_iff.mp hs
      have ht := am_tg_inv ht
      cases h2
      exact am_lift (fun C _ _ _ k => lv_tableOut C.1 C.2.1 hd hc ht k) k
    · rename_i hc
      split at hs
      · rename_i off ho
        obtain ⟨t, ht, h2⟩ := Option.bind_eq_some_iff.mp hs
        have ht := am_tg_inv ht
        cases h2
        exact am_lift (fun C _ _ _ k => lv_tableIn C.1 C.2.1 hd (fun q => hc (Or.inl q)) (fun q => hc (Or.inr q)) ho ht k) k
      · cases hs
  · cases hs
end AMS
