/-! THE WALK: what it is that the machine, from an abstract state on, comes to an end with an outcome and an abstract memory. -/
theorem am_sv_cat {G : am_G} (v : Value) : (am_sv G v).category = v.category := by cases v <;> rfl
def am_lv (G : am_G) (L : List Value) : List (Nat × Value) := L.zipIdx.filterMap (fun q => if q.1 = am_junk then none else some (q.2, am_sv G q.1))
theorem am_lv_mem {G : am_G} {L : List Value} {i : Nat} {w : Value} : (i, w) ∈ am_lv G L ↔ ∃ v, L[i]? = some v ∧ v ≠ am_junk ∧ w = am_sv G v := by
  unfold am_lv
  rw [List.mem_filterMap]
  constructor
  · rintro ⟨⟨v, k⟩, hm, he⟩
    by_cases hv : v = am_junk
    · simp [hv] at he
    · simp only [hv, if_false, Option.some.injEq, Prod.mk.injEq] at he
      obtain ⟨rfl, rfl⟩ := he
      exact ⟨v, List.mk_mem_zipIdx_iff_getElem?.mp hm, hv, rfl⟩
  · rintro ⟨v, h1, h2, rfl⟩
    exact ⟨(v, i), List.mk_mem_zipIdx_iff_getElem?.mpr h1, by simp [h2]⟩
def am_lr (G : am_G) (ls : Array Slot) (nL : Nat) (L : List Value) : Prop := L.length = nL ∧ lv_has ls nL (am_lv G L)
theorem am_lr.get {G : am_G} {ls : Array Slot} {nL : Nat} {L : List Value} (h : am_lr G ls nL L) {i : Nat} {v : Value} (hv : L[i]? = some v) (hj : v ≠ am_junk) : ls[i]? = some (.val (am_sv G v)) := h.2.2.2 (i, am_sv G v) (am_lv_mem.mpr ⟨v, hv, hj, rfl⟩)
theorem am_lr.set1 {G : am_G} {ls ls' : Array Slot} {nL : Nat} {L : List Value} (h : am_lr G ls nL L) {i : Nat} {v : Value} (hm : am_may L i = true)
    (h' : lv_has ls' nL ((i, am_sv G v) :: (am_lv G L).filter (fun q => !(q.1 == i) && !(q.1 + 1 == i && q.2.category == 2)))) : am_lr G ls' nL (L.set i v) := by
  refine ⟨by rw [List.length_set]; exact h.1, h'.1, h'.2.1, ?_⟩
  rintro ⟨k, w⟩ hq
  obtain ⟨v', h1, h2, rfl⟩ := am_lv_mem.mp hq
  by_cases hk : k = i
  · subst hk
    have hlt : k < L.length := by
      have := (List.getElem?_eq_some_iff.mp h1).1
      rwa [List.length_set] at this
    rw [List.getElem?_set_self hlt] at h1
    cases h1
    exact h'.2.2 _ List.mem_cons_self
  · rw [List.getElem?_set_ne (by omega)] at h1
    refine h'.2.2 _ (List.mem_cons_of_mem _ (List.mem_filter.mpr ⟨am_lv_mem.mpr ⟨v', h1, h2, rfl⟩, ?_⟩))
    simp only [am_sv_cat]
    by_cases hk1 : k + 1 = i
    · subst hk1
      simp only [am_may, Bool.and_eq_true, decide_eq_true_eq] at hm
      have : L.getD k am_junk = v' := by rw [List.getD_eq_getElem?_getD, h1]; rfl
      rw [this] at hm
      simp [hm.2]
    · simp [hk, hk1]
theorem am_lr.set2 {G : am_G} {ls ls' : Array Slot} {nL : Nat} {L : List Value} (h : am_lr G ls nL L) {i : Nat} {v : Value} (hm : am_may L i = true)
    (h' : lv_has ls' nL ((i, am_sv G v) :: (am_lv G L).filter (fun q => !(q.1 == i) && (!(q.1 == i + 1) && !(q.1 + 1 == i && q.2.category == 2))))) : am_lr G ls' nL ((L.set i v).set (i + 1) am_junk) := by
  refine ⟨by rw [List.length_set, List.length_set]; exact h.1, h'.1, h'.2.1, ?_⟩
  rintro ⟨k, w⟩ hq
  obtain ⟨v', h1, h2, rfl⟩ := am_lv_mem.mp hq
  by_cases hk1 : k = i + 1
  · subst hk1
    have hlt : i + 1 < (L.set i v).length := by
      have := (List.getElem?_eq_some_iff.mp h1).1
      rwa [List.length_set] at this
    rw [List.getElem?_set_self hlt] at h1
    cases h1
    exact absurd rfl h2
  · rw [List.getElem?_set_ne (by omega)] at h1
    by_cases hk : k = i
    · subst hk
      have hlt : k < L.length := by
        have := (List.getElem?_eq_some_iff.mp h1).1
        rwa [List.length_set] at this
      rw [List.getElem?_set_self hlt] at h1
      cases h1
      exact h'.2.2 _ List.mem_cons_self
    · rw [List.getElem?_set_ne (by omega)] at h1
      refine h'.2.2 _ (List.mem_cons_of_mem _ (List.mem_filter.mpr ⟨am_lv_mem.mpr ⟨v', h1, h2, rfl⟩, ?_⟩))
      simp only [am_sv_cat]
      by_cases hk2 : k + 1 = i
      · subst hk2
        simp only [am_may, Bool.and_eq_true, decide_eq_true_eq] at hm
        have : L.getD k am_junk = v' := by rw [List.getD_eq_getElem?_getD, h1]; rfl
        rw [this] at hm
        simp [hm.2, show ¬ k = k + 1 + 1 by omega]
      · simp [hk, hk1, hk2]
/-- outcomes: an answer (or none), or what was thrown -/
abbrev am_O : Type := Option Value ⊕ String
def am_Q (G : am_G) (o : am_O) (MF : am_M) : Array Value → State → Outcome → State → Prop := fun _ st oc t =>
  ∃ v, o = .inl v ∧ oc = .returned v ∧ am_R G MF t.heap ∧ va_F (am_A G) st t
def am_X (G : am_G) (o : am_O) (MF : am_M) : String → State → State → Prop := fun E st t => o = .inr E ∧ am_R G MF t.heap ∧ va_F (am_A G) st t
def am_retat (j pc : Nat) (v : Option Value) : Prop := match v with
  | none => decode (am_cc j) pc = .ok (.return_, 1) ∧ am_rt j = none
  | some (.int x) => decode (am_cc j) pc = .ok (.ireturn, 1) ∧ (am_rt j = some .int ∨ am_rt j = some .boolean ∧ (x = 0 ∨ x = 1))
  | some (.long _) => decode (am_cc j) pc = .ok (.lreturn, 1) ∧ am_rt j = some .long
  | _ => False
/-- the fixed things of a method's body -/
def am_Cx (G : am_G) (d j : Nat) (p : Program) (R : Room) (s : State) (m : MethodId) (args : Array Value) (meth : Method) (c : Code) : Prop :=
  p.tables.exec = Jvm.exec ∧ c.code = am_cc j ∧ c.maxLocals = am_mL j ∧ s.vm.findClass (am_y j).cls = some m.cls ∧ (∀ w ∈ lw_tbl, goodWord w = true → w.before args s = true) ∧ meth.sig.returnType = am_rt j ∧ meth.locks = false ∧ meth.name = (am_y j).name ∧ am_E G s ∧ am_EH G s s.heap ∧ c.exceptionTable.toList = tableOf (am_hh j) ∧ d + 6 ≤ R.frames ∧ 60 * d + 300 ≤ R.locals
def am_end (G : am_G) (j : Nat) (o : am_O) (MF : am_M) (p : Program) (e : Env) (R : Room) (s : State) (m : MethodId) (args : Array Value) (below : List Frame) (meth : Method) (c : Code) (mc ms : Nat) (Q : State → Prop) : Prop :=
  match o with
  | .inl v => ∀ (H : Heap) (locs : List Loc) (pc : Nat) (ls : Array Slot), am_R G MF H → va_S (am_A G) s.heap H locs → am_retat j pc v → W p G.1 e R s m args below meth c H locs mc ms Q (F0 m pc ls v.toList)
  | .inr E => Q = vx_MQ below (am_Q G (.inr E) MF) (am_X G (.inr E) MF) args s mc ms (am_A G)
def am_W (G : am_G) (d j : Nat) (o : am_O) (MF : am_M) (pc : Nat) (L S : List Value) (M : am_M) : Prop :=
  (am_sz M ≤ am_sz MF ∧ am_u M ≤ am_u MF ∧ am_g M ≤ am_g MF) ∧
  ∀ {p : Program} {e : Env} {R : Room} {s : State} {m : MethodId} {args : Array Value} {below : List Frame} {meth : Method} {c : Code} {H : Heap} {locs : List Loc} {ls : Array Slot} {cells slots mc ms : Nat} {Q : State → Prop},
    am_Cx G d j p R s m args meth c → am_R G M H → va_S (am_A G) s.heap H locs → am_lr G ls (am_mL j) L → (am_g M = 0 → s.heap.size + cells = am_z G + am_n M) →
    cells + (am_sz MF - am_sz M) = mc → slots + (am_u MF - am_u M) = ms → mc ≤ R.cells → ms ≤ R.slots →
    am_end G j o MF p e R s m args below meth c mc ms Q →
    W p G.1 e R s m args below meth c H locs cells slots Q (F0 m pc ls (S.map (am_sv G)))
/-- what the tables of the program say of a place -/
def am_fok (q : Nat) : Bool := decide (q / 10000 < 12) && decide (q % 10000 / 10 < am_nf (q / 10000)) && (match am_ty (q / 10000) (q % 10000 / 10) with
  | .int => q % 10 == 0 | .boolean => q % 10 == 1 | .long => q % 10 == 3 | .object _ => q % 10 == 2 | .array _ => q % 10 == 2 | _ => false)
def am_ln : Instr → Nat → Bool
  | .getfield q, l => am_fok q && l == 3
  | .putfield q, l => am_fok q && l == 3
  | .tableswitch _ _ _ _, _ => true
  | .iload _, l | .aload _, l | .lload _, l | .istore _, l | .astore _, l | .lstore _, l | .bipush _, l | .newarray _, l | .ldc _, l => l == 2
  | .sipush _, l | .iinc _ _, l | .ifCond _ _, l | .if_icmp _ _, l | .goto _, l | .invokevirtual _, l | .invokespecial _, l | .invokestatic _, l | .new _, l | .anewarray _, l | .ldc_w _, l | .ldc2_w _, l => l == 3
  | .multianewarray _ _, l => l == 4
  | _, l => l == 1
theorem am_lnall : am_tb.all (fun t => t.all (fun q => am_ln q.2.1 q.2.2)) = true := by decide +kernel
theorem am_at_ok {j pc len : Nat} {i : Instr} (h : am_at j pc = some (i, len)) : am_ok j pc i len ∧ am_ln i len = true := by
  unfold am_at at h
  obtain ⟨q, hq, he⟩ := Option.map_eq_some_iff.mp h
  have hm := List.mem_of_find?_eq_some hq
  have hp := List.find?_some hq
  simp only [beq_iff_eq] at hp
  have e1 : q.2 = (i, len) := he
  have hj : j < am_tb.length := by
    by_cases hj : j < am_tb.length
    · exact hj
    · have : am_tab j = [] := by
        unfold am_tab
        rw [List.getD_eq_getElem?_getD, List.getElem?_eq_none (by omega)]; rfl
      rw [this] at hm
      exact absurd hm List.not_mem_nil
  have hN : am_tb.length = 303 := by decide +kernel
  have h1 := am_okall j q hm
  have h2 : am_tab j ∈ am_tb := by
    unfold am_tab
    rw [List.getD_eq_getElem?_getD, List.getElem?_eq_getElem hj]
    exact List.getElem_mem hj
  have h3 := List.all_eq_true.mp (List.all_eq_true.mp am_lnall _ h2) q hm
  rw [e1] at h1 h3
  subst hp
  exact ⟨h1, h3⟩
