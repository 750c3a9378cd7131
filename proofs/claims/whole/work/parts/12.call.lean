/-! Contracts of methods over abstract memory, and calls by them. -/
def am_rm (d mc ms : Nat) : Room := { frames := d + 6, cells := mc, slots := ms, locals := 60 * d + 300 }
set_option maxRecDepth 20000 in
theorem am_lolem {a d r : Nat} (h7 : a ≤ 40) (hlo : 60 * (d + 1) + 300 ≤ r) : 8 + (a + 11) + (60 * d + 300) ≤ r := by omega
theorem am_rm_lo {d mc ms : Nat} : (am_rm d mc ms).locals = 60 * d + 300 := rfl
def am_wl (j : Nat) : List Cond := am_cw j :: lw_tbl.filter goodWord
def am_Pc (G : am_G) (As : List Value) (M : am_M) : Array Value → State → Prop := va_Pc (As.map (am_sv G)) (fun U => am_E G U ∧ am_EH G U U.heap ∧ am_R G M U.heap ∧ (am_g M = 0 → U.heap.size = am_z G + am_n M))
def am_Met (G : am_G) (d t : Nat) (As : List Value) (M : am_M) (o : am_O) (MF : am_M) : Prop :=
  (am_sz M ≤ am_sz MF ∧ am_u M ≤ am_u MF ∧ am_g M ≤ am_g MF) ∧ vx_Met G.1 (am_y t) (am_wl t) (am_rm d (am_sz MF - am_sz M) (am_u MF - am_u M)) (am_Pc G As M) (am_Q G o MF) (am_X G o MF) (am_sz MF - am_sz M) (am_u MF - am_u M) (am_A G)
/-- the locals of a method at its entry -/
def am_ent (j : Nat) (As : List Value) : List Value := As ++ List.replicate (am_mL j - As.length) am_junk
def am_one (v : Value) : Bool := match v with
  | .int _ => true
  | .ref _ => true
  | _ => false
theorem am_args_mem {G : am_G} : ∀ (As : List Value) (i k : Nat) (v : Value), As.all am_one = true → As[k]? = some v → (i + k, am_sv G v) ∈ lv_args i (As.map (am_sv G)) := by
  intro As
  induction As with
  | nil => intro i k v _ h; simp at h
  | cons a As ih =>
    intro i k v ha h
    simp only [List.all_cons, Bool.and_eq_true] at ha
    have h1 : ¬ (am_sv G a).category = 2 := by
      rw [am_sv_cat]
      cases a <;> simp_all [am_one, Value.category]
    rw [List.map_cons, lv_args, if_neg h1]
    cases k with
    | zero =>
      simp only [List.getElem?_cons_zero, Option.some.injEq] at h
      subst h
      exact List.mem_cons_self
    | succ k =>
      rw [List.getElem?_cons_succ] at h
      have := ih (i + 1) k v ha.2 h
      rw [show i + 1 + k = i + (k + 1) by omega] at this
      exact List.mem_cons_of_mem _ this
theorem am_sl_len {G : am_G} : ∀ (As : List Value), As.all am_one = true → (lg_sl (As.map (am_sv G))).length = As.length := by
  intro As
  induction As with
  | nil => intro _; rfl
  | cons a As ih =>
    intro ha
    simp only [List.all_cons, Bool.and_eq_true] at ha
    have h1 : ¬ (am_sv G a).category = 2 := by
      rw [am_sv_cat]
      cases a <;> simp_all [am_one, Value.category]
    have := ih ha.2
    unfold lg_sl at this ⊢
    rw [List.map_cons, List.flatMap_cons, if_neg h1, List.length_append, this]
    simp
    omega
theorem am_ent_lr {G : am_G} {j : Nat} {As : List Value} (ha : As.all am_one = true) (hl : As.length ≤ am_mL j) : am_lr G ((lg_sl (As.map (am_sv G)) ++ List.replicate (am_mL j - (lg_sl (As.map (am_sv G))).length) Slot.unset).toArray) (am_mL j) (am_ent j As) := by
  have h := lv_entry (As.map (am_sv G)) (n := am_mL j) (by rw [am_sl_len As ha]; exact hl)
  refine ⟨by unfold am_ent; rw [List.length_append, List.length_replicate]; omega, h.1, h.2.1, ?_⟩
  rintro ⟨k, w⟩ hq
  obtain ⟨v, h1, h2, rfl⟩ := am_lv_mem.mp hq
  unfold am_ent at h1
  by_cases hk : k < As.length
  · rw [List.getElem?_append_left hk] at h1
    have := am_args_mem (G := G) As 0 k v ha h1
    rw [Nat.zero_add] at this
    exact h.2.2 _ this
  · rw [List.getElem?_append_right (by omega)] at h1
    have := List.mem_of_getElem? h1
    exact absurd (List.eq_of_mem_replicate this) h2
theorem am_aov {s U : State} {ty : FieldType} (hvm : s.vm.Alike U.vm) (h : (Cond.arrayOver ty).before #[] s = true) : (Cond.arrayOver ty).before #[] U = true := by
  have e := Cond.arrayOver_setVmC (args := #[]) hvm ty
  rw [h] at e
  simp only [Cond.before, Cond.holds, Cond.value, State.vm_setVm] at e ⊢
  exact e
theorem am_E.warm {G : am_G} {s U : State} (hW : s.WarmedH U.vm) (h : am_E G s) : am_E G U := by
  obtain ⟨h1, h2, h3, h4, h5, h6, h7, h8, h9⟩ := h
  refine ⟨va_K.moved hW.alike h1, fun w hw hn => ?_, fun k i o t hk => vk_R.warm hW (h3 k i o t hk), va_AO.moved hW.alike h4, am_aov hW.alike h5, fun w hw hn => ?_, va_Nc.moved hW.alike h7, va_Nc.moved hW.alike h8, h9⟩
  · have := h2 w hw hn
    cases w <;> simp [am_nst] at hn
    exact va_Nw.warmM hW this
  · have := h6 w hw hn
    unfold am_cst at hn
    rw [Bool.and_eq_true] at hn
    exact va_tabs hn.2 (rfl : (s.setVm U.vm).vm = U.vm) (Cond.faceAtom_setVm hW.alike w hn.1 this)
theorem am_EH.go {G : am_G} {s U : State} {H : Heap} {locs : List Loc} (hvm : s.vm.Alike U.vm) (hS : va_S (am_A G) s.heap H locs) (h : am_EH G s s.heap) : am_EH G U H := by
  obtain ⟨⟨adV, h1⟩, h2, h3, h4, h5, h6, h7, h8⟩ := h
  exact ⟨⟨adV, (h1.kept hS.2.1).moved hvm⟩, (h2.kept hS.2.1).moved hvm, (h3.kept hS.2.1).moved hvm, va_X.moved hvm (h4.kept (hS.2.1 _ (Nat.lt_of_lt_of_le h5 h6) (Nat.not_le.mpr h5))), h5, Nat.le_trans h6 hS.1, (h7.kept hS.2.1).moved hvm, (h8.kept hS.2.1).moved hvm⟩
theorem am_nar1 {x : Int32} (h : x = 0 ∨ x = 1) : narrow .boolean (.int x) = .int x := by rcases h with h | h <;> subst h <;> decide
/-- a body's walk gives the contract -/
theorem am_met {G : am_G} {d t : Nat} {As : List Value} {M MF : am_M} {o : am_O} (hp : plainName (am_y t).cls = true) (ha : As.all am_one = true) (hl : As.length ≤ am_mL t) (h : am_W G d t o MF 0 (am_ent t As) [] M) : am_Met G d t As M o MF := by
  refine ⟨h.1, ?_⟩
  have body : ∀ (p : Program) (e : Env) (s : State) (m : MethodId) (args : Array Value) (below : List Frame) (meth : Method) (c : Code) (s₁ : State), BodyLoose p G.1 (am_y t) (headSpec (am_wl t) (am_rm d (am_sz MF - am_sz M) (am_u MF - am_u M))) (am_cc t) (am_mL t) (am_rt t) e s m args below meth c s₁ → c.maxLocals = am_mL t → c.exceptionTable.toList = tableOf (am_hh t) → am_Pc G As M args s →
      W p G.1 e (headSpec (am_wl t) (am_rm d (am_sz MF - am_sz M) (am_u MF - am_u M))).room s m args below meth c s.heap [] 0 0 (vx_MQ below (am_Q G o MF) (am_X G o MF) args s (am_sz MF - am_sz M) (am_u MF - am_u M) (am_A G)) (entryFrame m args (am_mL t)) := by
    intro p e s m args below meth c s₁ B hml htab hP
    obtain ⟨rfl, hE, hEH, hR, hz⟩ := hP
    have hts := atoms_spec (ws := am_wl t) B.pre
    have hown : s.vm.findClass (am_y t).cls = some m.cls := findClass_of_methodNamed B.named
    have hlocks := B.notSynchronized
    have hr := B.returns
    have C : am_Cx G d t p (am_rm d (am_sz MF - am_sz M) (am_u MF - am_u M)) s m (As.map (am_sv G)).toArray meth c := ⟨B.exec, B.bytes, hml, hown, fun w hw hg => hts w (List.mem_cons_of_mem _ (List.mem_filter.mpr ⟨hw, hg⟩)), hr, hlocks, (name_of_methodNamed B.named B.method).1, hE, hEH, htab, Nat.le_refl _, Nat.le_refl _⟩
    rw [lg_entry_eq]
    refine h.2 C hR va_S.rf (am_ent_lr ha hl) (fun hg => by have := hz hg; omega) (Nat.zero_add _) (Nat.zero_add _) (Nat.le_refl _) (Nat.le_refl _) ?_
    cases o with
    | inr E => rfl
    | inl v =>
      intro H locs pc ls hR' hS' hv
      have hq : ∀ (tt : State), tt.heap = H → s.WarmedH tt.vm → am_Q G (.inl v) MF (As.map (am_sv G)).toArray s (.returned v) tt := fun tt ht hW => ⟨v, rfl, rfl, by rw [ht]; exact hR', hS'.F ht⟩
      have hf : ∀ q ∈ locs, am_A G q.base := hS'.2.2
      refine vx_ret ?_
      match v, hv, hq with
      | none, hv, hq => exact W.vret B.exec B.bytes (hr.trans hv.2) hq hf hv.1
      | some (.int x), hv, hq =>
        rcases hv.2 with h2 | ⟨h2, h3⟩
        · exact W.iret B.exec B.bytes (hr.trans h2) hq hf hv.1
        · exact W.zret B.exec B.bytes (hr.trans h2) (am_nar1 h3) hq hf hv.1
      | some (.long x), hv, hq => exact W.lret B.exec B.bytes (hr.trans hv.2) hq hf hv.1
  by_cases hh : am_hh t = []
  · refine vx_ofW (cc := am_cc t) (maxL := am_mL t) (ret := am_rt t) hp (ws' := lw_tbl.filter goodWord) (by unfold am_wl am_cw; rw [if_pos hh]) (fun p e s m args below meth c s₁ B hml htab hP => body p e s m args below meth c s₁ B hml ?_ hP)
    rw [hh]
    exact List.eq_nil_iff_forall_not_mem.mpr (fun x hx => htab x hx)
  · refine vx_ofWH (cc := am_cc t) (maxL := am_mL t) (ret := am_rt t) (hh := am_hh t) hp (ws' := lw_tbl.filter goodWord) (by unfold am_wl am_cw; rw [if_neg hh]) (fun p e s m args below meth c s₁ B hml hP => body p e s m args below meth c s₁ B hml ?_ hP)
    have hts := atoms_spec (ws := am_wl t) B.pre
    exact vx_table (x := am_y t) B (bytes := am_cc t) (maxL' := am_mL t) (ret' := am_rt t) (by have := hts _ List.mem_cons_self; unfold am_cw at this; rw [if_neg hh] at this; exact this)
/-- a contract that returns -/
theorem am_Met.ret {G : am_G} {d t : Nat} {As : List Value} {M MF : am_M} {v : Option Value} (h : am_Met G d t As M (.inl v) MF) : Met G.1 (am_y t) (am_wl t) (am_rm d (am_sz MF - am_sz M) (am_u MF - am_u M)) (am_Pc G As M) (am_Q G (.inl v) MF) (am_sz MF - am_sz M) (am_u MF - am_u M) (am_A G) := by
  intro p e a1 a2 a3 s m args below b1 b2 b3 b4
  obtain ⟨n, oc, c1, c2, c3, c4⟩ := h.2 p e a1 a2 a3 s m args below b1 b2 b3 b4
  refine ⟨n, oc, c1, c2, c3, ?_⟩
  rcases c4 with c4 | ⟨q, -, E, ce, L, ⟨hx, -⟩, -⟩
  · exact c4
  · cases hx
theorem am_Pc.blind {G : am_G} {As : List Value} {M : am_M} : FrameBlind (am_Pc G As M) := by
  intro a U g mk h
  obtain ⟨h1, h2, h3, h4, h5⟩ := h
  have hW : U.WarmedH (U.calling g mk a).vm := State.WarmedH.refl U
  refine ⟨h1, am_E.warm hW h2, ?_, h4, h5⟩
  exact am_EH.go (locs := []) (Vm.Alike.refl U.vm) va_S.rf h3
theorem am_goodcw (t : Nat) : goodWord (am_cw t) = true := by
  unfold am_cw
  split <;> rfl
section AMC
variable {G : am_G} {d j t : Nat} {o : am_O} {MF : am_M} {pc len : Nat} {L S As : List Value} {M M' : am_M} {v : Option Value}
variable {p : Program} {e : Env} {R : Room} {s : State} {m : MethodId} {args : Array Value} {below : List Frame} {meth : Method} {c : Code} {H : Heap} {locs : List Loc} {ls : Array Slot} {cells slots mc ms : Nat} {Q : State → Prop}
theorem am_wlok (C : am_Cx G d j p R s m args meth c) (ht : t < 302) : ∀ w ∈ am_wl t, ∀ (a' : Array Value) (U : State), s.WarmedH U.vm → w.before a' U = true := by
  intro w hw a' U hW
  have h1 : w ∈ lw_tbl ∧ goodWord w = true := by
    rcases List.mem_cons.mp hw with h | h
    · subst h
      exact ⟨(am_mok t ht).1, am_goodcw t⟩
    · exact ⟨(List.mem_filter.mp h).1, (List.mem_filter.mp h).2⟩
  exact word_at hW (good_of_word h1.2) (C.2.2.2.2.1 w h1.1 h1.2)
theorem am_callB (C : am_Cx G (d + 1) j p R s m args meth c) (ht : t < 302) (hh : am_hh t = []) {idx : Nat} (hl : Cond.methodLink (am_y j).cls idx (am_y t) ∈ lw_tbl) : CallB R s args (am_y j).cls idx (am_y t) (am_cc t) (am_mL t) (am_rt t) (am_wl t) (am_rm d mc ms) mc ms (am_np t) := by
  obtain ⟨h1, h2, h4, h5, h6, h7⟩ := am_mok t ht
  have hc : am_cw t = .code (am_y t) (am_cc t) (am_mL t) (am_rt t) := by unfold am_cw; rw [if_pos hh]
  obtain ⟨-, -, -, -, hts, -, -, -, -, -, -, hf, hlo⟩ := id C
  refine ⟨rfl, rfl, by show d + 6 + 1 ≤ R.frames; omega, am_lolem h7 hlo, am_wlok C ht, by rw [← hc]; exact List.mem_cons_self, by rw [← hc]; exact hts _ h1 (am_goodcw t), hts _ h2 rfl, ⟨h4, h5⟩, fun sig h => ?_, hts _ hl rfl⟩
  rw [h] at h6
  exact (Option.some.inj h6).symm
theorem am_callN (C : am_Cx G (d + 1) j p R s m args meth c) (ht : t < 302) (hh : am_hh t = []) {idx : Nat} {host : String} (hl : Cond.methodLinkNest (am_y j).cls idx (am_y t) host ∈ lw_tbl) : va_CN R s args (am_y j).cls idx (am_y t) host (am_cc t) (am_mL t) (am_rt t) (am_wl t) (am_rm d mc ms) mc ms (am_np t) := by
  obtain ⟨h1, h2, h4, h5, h6, h7⟩ := am_mok t ht
  have hc : am_cw t = .code (am_y t) (am_cc t) (am_mL t) (am_rt t) := by unfold am_cw; rw [if_pos hh]
  obtain ⟨-, -, -, -, hts, -, -, -, hE, -, -, hf, hlo⟩ := id C
  refine ⟨⟨rfl, rfl, by show d + 6 + 1 ≤ R.frames; omega, am_lolem h7 hlo, am_wlok C ht, by rw [← hc]; exact List.mem_cons_self⟩, by rw [← hc]; exact hts _ h1 (am_goodcw t), hts _ h2 rfl, ⟨h4, h5⟩, fun sig h => ?_, va_Nw.use rfl (hE.2.1 _ hl rfl)⟩
  rw [h] at h6
  exact (Option.some.inj h6).symm
theorem am_callH (C : am_Cx G (d + 1) j p R s m args meth c) (ht : t < 302) (hh : ¬ am_hh t = []) {idx : Nat} (hl : Cond.methodLink (am_y j).cls idx (am_y t) ∈ lw_tbl) (hst : Cond.static (am_y t) ∈ lw_tbl) : vx_CSW R s args (am_y j).cls idx (am_y t) (am_cc t) (am_mL t) (am_rt t) (am_hh t) (am_wl t) (am_rm d mc ms) mc ms (am_np t) := by
  obtain ⟨h1, h2, h4, h5, h6, h7⟩ := am_mok t ht
  have hc : am_cw t = .codeWith (am_y t) (am_cc t) (am_mL t) (am_rt t) (am_hh t) := by unfold am_cw; rw [if_neg hh]
  obtain ⟨-, -, -, -, hts, -, -, -, -, -, -, hf, hlo⟩ := id C
  refine ⟨⟨rfl, rfl, by show d + 6 + 1 ≤ R.frames; omega, am_lolem h7 hlo, am_wlok C ht, by rw [← hc]; exact List.mem_cons_self⟩, by rw [← hc]; exact hts _ h1 (am_goodcw t), hts _ h2 rfl, ⟨h4, h5⟩, fun sig h => ?_, hts _ hl rfl, hts _ hst rfl⟩
  rw [h] at h6
  exact (Option.some.inj h6).symm
theorem am_mapA : (As.reverse ++ S).map (am_sv G) = (As.map (am_sv G)).reverse ++ S.map (am_sv G) := by rw [List.map_append, List.map_reverse]
theorem am_catS : ((S.map (am_sv G)).map fun v => v.category).sum = (S.map fun v => v.category).sum := by
  rw [List.map_map]
  congr 1
  apply List.map_congr_left
  intro v _
  exact am_sv_cat v
/-- the start of a callee -/
theorem am_preS (C : am_Cx G d j p R s m args meth c) (hR : am_R G M H) (hS : va_S (am_A G) s.heap H locs) (hz : am_g M = 0 → H.size = am_z G + am_n M) : ∀ U : State, U.heap = H → s.WarmedH U.vm → am_Pc G As M (As.map (am_sv G)).toArray U := by
  intro U hU hW
  refine ⟨rfl, am_E.warm hW C.2.2.2.2.2.2.2.2.1, ?_, by rw [hU]; exact hR, fun hg => by rw [hU]; exact hz hg⟩
  rw [hU]
  exact am_EH.go hW.alike hS C.2.2.2.2.2.2.2.2.2.1
/-- how large the heap is -/
theorem am_exact (hR : am_R G M H) (hEH : am_EH G s s.heap) (hS : va_S (am_A G) s.heap H locs) (hz : am_g M = 0 → s.heap.size + cells = am_z G + am_n M) (hb : H.size ≤ s.heap.size + cells) : am_g M = 0 → H.size = am_z G + am_n M := by
  intro hg
  have h1 := hz hg
  have h2 : am_z G + am_n M ≤ H.size := by
    by_cases hn : am_n M = 0
    · rw [hn]
      exact Nat.le_trans (am_ges hEH) hS.1
    · have h3 := am_ws_get (G := G) (M := M) (a := am_n M) (by omega) (Nat.le_refl _) hR.2.2.2.2.2.2.1
      have h4 : am_ad G (am_n M) < H.size := (hR.1 _ _ h3).lt
      have h5 : am_ad G (am_n M) = am_z G + (am_n M - 1) := by
        unfold am_ad
        rw [if_neg hn, if_pos hR.2.2.2.2.2.2.1]
      omega
  omega
/-- behind a call that returned -/
theorem am_back {st0 : List Value} (hr : ∀ hb : H.size ≤ s.heap.size + cells, va_Run p G.1 e R s m args below meth c H locs cells slots (am_sz M' - am_sz M) (am_u M' - am_u M) (F0 m pc ls st0) (S.map (am_sv G)) (am_Q G (.inl v) M' (As.map (am_sv G)).toArray) (am_A G)) (hv : v.toList.map (am_sv G) = v.toList) (h1 : am_sz M ≤ am_sz M' ∧ am_u M ≤ am_u M' ∧ am_g M ≤ am_g M')
    (C : am_Cx G d j p R s m args meth c) (hS : va_S (am_A G) s.heap H locs) (hl : am_lr G ls (am_mL j) L) (hz : am_g M = 0 → s.heap.size + cells = am_z G + am_n M) (h2 : cells + (am_sz MF - am_sz M) = mc) (h3 : slots + (am_u MF - am_u M) = ms) (h4 : mc ≤ R.cells) (h5 : ms ≤ R.slots) (he : am_end G j o MF p e R s m args below meth c mc ms Q)
    (k : am_W G d j o MF (pc + 3) L (v.toList ++ S) M') : W p G.1 e R s m args below meth c H locs cells slots Q (F0 m pc ls st0) := by
  refine am_bound (fun hb => ?_)
  intro T hT X
  obtain ⟨v', st₀, tt, T', L9, q0, X', hL, e1, e2, ⟨v2, hv1, hv2, hR', hF⟩, stp⟩ := hr hb T hT X
  cases hv1
  cases hv2
  obtain ⟨hz1, hk1⟩ := hF
  rw [q0] at hz1 hk1
  have hS' : va_S (am_A G) s.heap T'.heap (locs ++ L9) := ⟨Nat.le_trans hS.1 (by rw [e1]; exact hz1), fun q g1 g2 => by rw [e1, hk1 q (Nat.lt_of_lt_of_le g1 hS.1) g2]; exact hS.2.1 q g1 g2, fun q hq => by
    rcases List.mem_append.mp hq with h | h
    · exact hS.2.2 q h
    · exact hL q h⟩
  have kk := k.2 (e := e) (below := below) (cells := cells + (am_sz M' - am_sz M)) (slots := slots + (am_u M' - am_u M)) C (by rw [e1]; exact hR') hS' hl (fun hg => by have := hz (by omega); unfold am_sz at *; omega) (by have := k.1; omega) (by have := k.1; omega) h4 h5 he
  obtain ⟨t2, a1, b1⟩ := kk T' rfl X'
  rw [List.map_append, hv] at a1
  exact ⟨t2, stp t2 a1, b1⟩
/-- an instance method is called, and returns -/
theorem am_callV {a c0 : Nat} (ha : am_at j pc = some (.invokevirtual t, len)) (ht : t < 302) (hh : am_hh t = []) (hk : am_k M a = (0, c0)) (hc0 : c0 < 12) (hcn : (am_y t).cls = am_cn c0) (hm : am_Met G d t (.ref a :: As) M (.inl v) M') (hn : As.length = am_np t) (hS : (S.map fun v => v.category).sum ≤ 8) (hv : v.toList.map (am_sv G) = v.toList) (k : am_W G (d + 1) j o MF (pc + 3) L (v.toList ++ S) M') : am_W G (d + 1) j o MF pc L (As.reverse ++ .ref a :: S) M := by
  obtain ⟨hok, hln⟩ := am_at_ok ha
  have hl9 : len = 3 := by simpa [am_ln] using hln
  subst hl9
  obtain ⟨idx, hd, hq⟩ := hok
  have hq : Cond.methodLink (am_y j).cls idx (am_y t) ∈ lw_tbl ∧ Cond.instanceMethod (am_y t) ∈ lw_tbl ∧ Cond.selects (am_y t).cls (am_y t) (am_y t) ∈ lw_tbl := by
    rcases hq with ⟨h, -⟩ | ⟨h, -⟩ | ⟨-, h⟩
    · omega
    · omega
    · exact h
  refine ⟨⟨by have := hm.1; have := k.1; omega, by have := hm.1; have := k.1; omega, by have := hm.1; have := k.1; omega⟩, ?_⟩
  intro p e R s m args below meth c H locs ls cells slots mc ms Q C r f l z h2 h3 h4 h5 he
  refine am_back (As := .ref a :: As) (fun hb => ?_) hv hm.1 C f l z h2 h3 h4 h5 he k
  have hz9 := am_exact r C.2.2.2.2.2.2.2.2.2.1 f z hb
  obtain ⟨g1, g2⟩ := am_rng r.2 (by rw [hk]; exact Nat.zero_le _)
  have hc := am_ws_get (G := G) g1 g2 r.2.2.2.2.2.2.1
  rw [am_cellO hk] at hc
  have hrec := va_recv C.2.2.2.2.2.2.2.2.1.1 r.1 (am_cl _ hc0) hc
  rw [← hcn] at hrec
  have hmc := hm.1
  have hkc := k.1
  refine va_runV (Ts := []) (As := As.map (am_sv G)) (nL := am_mL j) ⟨C.1, C.2.1, C.2.2.1, C.2.2.2.1, fun w hw => absurd hw List.not_mem_nil⟩ hm.ret (⟨am_callB C ht hh hq.1, C.2.2.2.2.1 _ hq.2.1 rfl, C.2.2.2.2.1 _ hq.2.2 rfl⟩) ⟨am_Pc.blind, hrec, am_preS (As := .ref a :: As) C r f hz9⟩ rfl (by rw [List.length_map]; exact hn) l.2.1 ?_ (by rw [am_catS]; show 2 * 0 + _ ≤ 8; omega) hd ⟨by omega, by omega⟩
  show (As.reverse ++ .ref a :: S).map (am_sv G) = _
  rw [am_mapA]
  rfl
/-- a constructor is called -/
theorem am_callI {a : Nat} (ha : am_at j pc = some (.invokespecial t, len)) (ht : t < 302) (hh : am_hh t = []) (hrt : am_rt t = none) (hm : am_Met G d t (.ref a :: As) M (.inl none) M') (hn : As.length = am_np t) (hS : (S.map fun v => v.category).sum ≤ 8) (k : am_W G (d + 1) j o MF (pc + 3) L S M') : am_W G (d + 1) j o MF pc L (As.reverse ++ .ref a :: S) M := by
  obtain ⟨hok, hln⟩ := am_at_ok ha
  have hl9 : len = 3 := by simpa [am_ln] using hln
  subst hl9
  obtain ⟨idx, hd, hq⟩ := hok
  rcases hq with ⟨h, -⟩ | ⟨-, hnm, hin, hq⟩
  · omega
  refine ⟨⟨by have := hm.1; have := k.1; omega, by have := hm.1; have := k.1; omega, by have := hm.1; have := k.1; omega⟩, ?_⟩
  intro p e R s m args below meth c H locs ls cells slots mc ms Q C r f l z h2 h3 h4 h5 he
  refine am_back (v := none) (As := .ref a :: As) (fun hb => ?_) rfl hm.1 C f l z h2 h3 h4 h5 he k
  have hz9 := am_exact r C.2.2.2.2.2.2.2.2.2.1 f z hb
  have hmc := hm.1
  have hkc := k.1
  have hst : (F0 m pc ls ((As.reverse ++ .ref a :: S).map (am_sv G))).stack = (As.map (am_sv G)).reverse ++ .ref (am_ad G a) :: S.map (am_sv G) := by
    show (As.reverse ++ .ref a :: S).map (am_sv G) = _
    rw [am_mapA]
    rfl
  rcases hq with hq | ⟨host, hq⟩
  · have hB := am_callB (mc := am_sz M' - am_sz M) (ms := am_u M' - am_u M) C ht hh hq
    rw [hrt] at hB
    exact va_runI (Ts := []) (As := As.map (am_sv G)) (nL := am_mL j) ⟨C.1, C.2.1, C.2.2.1, C.2.2.2.1, fun w hw => absurd hw List.not_mem_nil⟩ hm.ret ⟨hB, hnm, C.2.2.2.2.1 _ hin rfl⟩ ⟨am_Pc.blind, am_preS (As := .ref a :: As) C r f hz9⟩ rfl (by rw [List.length_map]; exact hn) l.2.1 hst (by rw [am_catS]; show 2 * 0 + _ ≤ 8; omega) hd ⟨by omega, by omega⟩
  · have hB := am_callN (mc := am_sz M' - am_sz M) (ms := am_u M' - am_u M) C ht hh hq
    rw [hrt] at hB
    exact va_runIN (Ts := []) (As := As.map (am_sv G)) (nL := am_mL j) ⟨C.1, C.2.1, C.2.2.1, C.2.2.2.1, fun w hw => absurd hw List.not_mem_nil⟩ hm.ret ⟨hB, hnm, C.2.2.2.2.1 _ hin rfl⟩ ⟨am_Pc.blind, am_preS (As := .ref a :: As) C r f hz9⟩ rfl (by rw [List.length_map]; exact hn) l.2.1 hst (by rw [am_catS]; show 2 * 0 + _ ≤ 8; omega) hd ⟨by omega, by omega⟩
/-- a static method is called, and returns -/
theorem am_callS (ha : am_at j pc = some (.invokestatic t, len)) (ht : t < 302) (hm : am_Met G d t As M (.inl v) M') (hn : As.length = am_np t) (hS : (S.map fun v => v.category).sum ≤ 8) (hv : v.toList.map (am_sv G) = v.toList) (hx : am_hh t = [] ∨ ∀ idx host, ¬ Cond.methodLinkNest (am_y j).cls idx (am_y t) host ∈ lw_tbl) (k : am_W G (d + 1) j o MF (pc + 3) L (v.toList ++ S) M') : am_W G (d + 1) j o MF pc L (As.reverse ++ S) M := by
  obtain ⟨hok, hln⟩ := am_at_ok ha
  have hl9 : len = 3 := by simpa [am_ln] using hln
  subst hl9
  obtain ⟨idx, hd, hq⟩ := hok
  rcases hq with ⟨h, -⟩ | ⟨-, hst, hq⟩
  · omega
  refine ⟨⟨by have := hm.1; have := k.1; omega, by have := hm.1; have := k.1; omega, by have := hm.1; have := k.1; omega⟩, ?_⟩
  intro p e R s m args below meth c H locs ls cells slots mc ms Q C r f l z h2 h3 h4 h5 he
  refine am_back (As := As) (fun hb => ?_) hv hm.1 C f l z h2 h3 h4 h5 he k
  have hz9 := am_exact r C.2.2.2.2.2.2.2.2.2.1 f z hb
  have hmc := hm.1
  have hkc := k.1
  have hstk : (F0 m pc ls ((As.reverse ++ S).map (am_sv G))).stack = (As.map (am_sv G)).reverse ++ S.map (am_sv G) := am_mapA
  rcases hq with hq | ⟨host, hq⟩
  · by_cases hh : am_hh t = []
    · exact va_runS (Ts := []) (As := As.map (am_sv G)) (nL := am_mL j) ⟨C.1, C.2.1, C.2.2.1, C.2.2.2.1, fun w hw => absurd hw List.not_mem_nil⟩ hm.ret ⟨am_callB C ht hh hq, C.2.2.2.2.1 _ hst rfl⟩ ⟨am_Pc.blind, am_preS C r f hz9⟩ rfl (by rw [List.length_map]; exact hn) l.2.1 hstk (by rw [am_catS]; show 2 * 0 + _ ≤ 8; omega) hd ⟨by omega, by omega⟩
    · exact vx_runSW (Ts := []) (As := As.map (am_sv G)) (nL := am_mL j) ⟨C.1, C.2.1, C.2.2.1, C.2.2.2.1, fun w hw => absurd hw List.not_mem_nil⟩ hm.ret (am_callH C ht hh hq hst) ⟨am_Pc.blind, am_preS C r f hz9⟩ rfl (by rw [List.length_map]; exact hn) l.2.1 hstk (by rw [am_catS]; show 2 * 0 + _ ≤ 8; omega) hd ⟨by omega, by omega⟩
  · rcases hx with hh | hx
    · exact va_runSN (Ts := []) (As := As.map (am_sv G)) (nL := am_mL j) ⟨C.1, C.2.1, C.2.2.1, C.2.2.2.1, fun w hw => absurd hw List.not_mem_nil⟩ hm.ret ⟨am_callN C ht hh hq, C.2.2.2.2.1 _ hst rfl, trivial⟩ ⟨am_Pc.blind, am_preS C r f hz9⟩ rfl (by rw [List.length_map]; exact hn) l.2.1 hstk (by rw [am_catS]; show 2 * 0 + _ ≤ 8; omega) hd ⟨by omega, by omega⟩
    · exact absurd hq (hx idx host)
end AMC
