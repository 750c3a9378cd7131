/-! From the entry to the end of the law. -/
def R_law : String := "SaltMindsLaw"
def lw_P (b : Addr) (xs : List Int32) (args : Array Value) (s : State) : Prop := args = #[.ref b] ∧ s.IntsAt b xs ∧ xs.length ≤ 3072 ∧ (Jvm.Cond.and given_1 narrow_1).before args s = true
def lw_Q (_ : Array Value) (s : State) (o : Outcome) (t : State) : Prop := o = .returned (some (.int 1)) ∧ Framed s o t [] 601024 7293034
def lw_Z (below : List Frame) (a : Array Value) (s : State) : State → Prop := fun t => ∃ o, t.status = .running ∧ Ended t below o ∧ lw_Q a s o t
/-- the law's own end, with 1 on the stack, nothing written that was there before, its room as the claim has it -/
theorem lw_ret {p : Program} {l : Launch} {e : Env} {s : State} {m : MethodId} {below : List Frame} {meth : Method} {c : Code} {b : Nat} (hx : p.tables.exec = Jvm.exec) (hb : c.code = code) (hr : meth.sig.returnType = ret) (hlocks : meth.locks = false) {pc : Nat} {H : Heap} {ls : Array Slot} (hdg : decode code pc = .ok (.ireturn, 1)) : W p l e room_1 s m #[Value.ref b] below meth c H [] 601024 7293034 (lw_Z below #[Value.ref b] s) (F0 m pc ls [.int 1]) := by
  intro T hT X
  obtain ⟨fs, hret, hrun, hended, hW, hframe⟩ := X.leave (v := some (.int 1)) (hlocks := hlocks) (fun h => by rw [hr] at h; cases h)
  have hmeth' : T.vm.method? m = some meth := X.method'
  refine ⟨T.setFrames fs, ?_, .returned (some (.int 1)), hrun, hended, rfl, ⟨_, rfl⟩, hW, hframe⟩
  jvm_step X.here [X.here.top, hx, hb, hdg, hmeth', hr, ret, narrow_b1]
  (try refine ⟨rfl, ?_⟩); (try refine ⟨rfl, ?_⟩)
  first | (intro acts; rw [hret _ acts rfl rfl rfl]) | rw [hret _ _ rfl rfl rfl]
  exact Steps.refl _
/-- what holds at the law's entry: the machine, the code, the tables' words (any of lw_tbl by 'hts w (by decide +kernel)'), the script of L ints xs at the cell b, what the Statement gives of the start (any of its parts by flat_of_before) -/
def lw_At (p : Program) (s : State) (m : MethodId) (meth : Method) (c : Code) (b L : Nat) (xs : Nat → Int32) : Prop :=
  p.tables.exec = Jvm.exec ∧ c.code = code ∧ meth.sig.returnType = ret ∧ c.maxLocals = 7 ∧ s.vm.findClass R_law = some m.cls ∧ (∀ w ∈ lw_tbl, w.before #[Value.ref b] s = true) ∧ va_X b L xs s s.heap ∧ b < s.heap.size ∧ meth.locks = false ∧ (Jvm.Cond.and given_1 narrow_1).before #[Value.ref b] s = true ∧ meth.name = x.name ∧ c.exceptionTable.toList = []
theorem q302 : am_q 302 = (x, code, maxLocals, ret, []) := rfl
theorem y302 : am_y 302 = x := by unfold am_y; rw [q302]
theorem cc302 : am_cc 302 = code := by unfold am_cc; rw [q302]
theorem mL302 : am_mL 302 = 7 := by unfold am_mL; rw [q302]; rfl
theorem rt302 : am_rt 302 = ret := by unfold am_rt; rw [q302]
theorem hh302 : am_hh 302 = [] := by unfold am_hh; rw [q302]
theorem ent302 : am_ent 302 [.ref 0] = [.ref 0, am_junk, am_junk, am_junk, am_junk, am_junk, am_junk] := by unfold am_ent; rw [mL302]; rfl
theorem wm_0 {G : am_G} (hL : am_L G ≤ 3072) : am_wm G (mg 0 0 (K00 (am_L G)) (F00 (am_xs G)) r00 (fun _ _ => 0)) := by
  have hk : ∀ a : Nat, 1 ≤ a → K00 (am_L G) a = (99, 0) := fun a h => if_neg (by omega)
  refine ⟨rfl, fun i _ => rfl, fun a h => hk a h, fun a h k => ⟨if_neg (Nat.ne_of_gt h), if_neg (Nat.ne_of_gt h), rfl⟩, fun a h1 h2 => absurd (show 1 ≤ 0 from Nat.le_trans h1 h2) (by decide), (show 0 < 1000000 by decide), by omega, fun a h => ?_⟩
  show (K00 (am_L G) a).2 < 2 ^ 31
  rw [hk a h]
  decide
/-- from the entry, for every script of at most 3072 ints, the law comes to its end with true -/
theorem whole_start {p : Program} {e : Env} {s : State} {m : MethodId} {below : List Frame} {meth : Method} {c : Code} (l : Launch) (hst : l.stackTraces = false) {b L : Nat} {xs : Nat → Int32} (hL : L ≤ 3072) (C0 : lw_At p s m meth c b L xs) : W p l e room_1 s m #[Value.ref b] below meth c s.heap [] 0 0 (lw_Z below #[Value.ref b] s) (entryFrame m ([Value.ref b] : List Value).toArray 7) := by
  obtain ⟨hx, hb, hr, hml, hown, hts, hX, hbl, hlocks, hgv, hnm, htab⟩ := C0
  obtain ⟨G, rfl, hz, rfl, rfl, rfl, hE, hEH⟩ := entry hst hts (flat_of_before _ hgv) hX hbl
  obtain ⟨o, MF, ⟨rfl, e', F', l', rfl, hg⟩, hW⟩ := law_go (G := G) (d := 1000) (n := am_L G) (F := F00 (am_xs G)) (l := fun _ _ => 0) hL (by decide) (fun c k h => if_neg h)
  have C : am_Cx G 1000 302 p room_1 s m #[Value.ref (am_b G)] meth c := ⟨hx, hb.trans cc302.symm, hml.trans mL302.symm, by rw [y302]; exact hown, fun w hw _ => hts w hw, hr.trans rt302.symm, hlocks, by rw [y302]; exact hnm, hE, hEH, by rw [hh302]; exact htab, by decide, by decide⟩
  have hlr : am_lr G ((lg_sl ([Value.ref (am_b G)]) ++ List.replicate (7 - (lg_sl ([Value.ref (am_b G)])).length) Slot.unset).toArray) (am_mL 302) [.ref 0, am_junk, am_junk, am_junk, am_junk, am_junk, am_junk] := by
    have h := am_ent_lr (G := G) (j := 302) (As := [.ref 0]) rfl (by rw [mL302]; decide)
    rw [ent302] at h
    rw [show List.replicate (7 - (lg_sl ([Value.ref (am_b G)])).length) Slot.unset = List.replicate (am_mL 302 - (lg_sl ([Value.ref (am_b G)])).length) Slot.unset by rw [mL302]]
    exact h
  rw [lg_entry_eq]
  refine hW.2 C ⟨fun k q h => ?_, wm_0 hL⟩ va_S.rf hlr (fun _ => ?_) (Nat.zero_add _) (Nat.zero_add _) ?_ ?_ ?_
  · have h : ([] : va_W)[k]? = some q := h
    simp at h
  · show s.heap.size + 0 = am_z G + 0
    omega
  · show 176 + e'.2.1 - (0 + 0) ≤ 601024
    omega
  · show 28945 + 6 * e'.2.1 - 0 ≤ 7293034
    omega
  · intro H locs pc ls hR' hS' hv
    have hd : decode code pc = .ok (.ireturn, 1) := by rw [← cc302]; exact hv.1
    refine va_forget (fun q hq => ?_) (W.widen (k := 601024) (n := 7293034) ?_ ?_ (lw_ret hx hb hr hlocks hd))
    · have := hS'.2.2 q hq
      rw [← hz]
      exact this
    · show 176 + e'.2.1 - (0 + 0) ≤ 601024
      omega
    · show 28945 + 6 * e'.2.1 - 0 ≤ 7293034
      omega
