/-! What is thrown: by a method itself, past it, caught by it. -/
def am_gar (M : am_M) : am_M := ((am_n M, am_g M + 1, am_u M + 6), M.2)
theorem am_atx0 : ∀ w ∈ vx_atS RX10 112 am_IAE am_sup, w ∈ lw_tbl ∧ (goodWord w || am_cst w) = true ∧ vx_ot w = true := by decide +kernel
theorem am_atx1 : ∀ w ∈ am_nA.filter vx_no, w ∈ lw_tbl ∧ (goodWord w || am_cst w) = true ∧ vx_ot w = true := by decide +kernel
theorem am_iniE (t : Nat) : Cond.initialized (am_exn t) ∈ lw_tbl := by
  unfold am_exn
  split
  · exact am_mem 118 (by decide +kernel)
  · exact am_mem 126 (by decide +kernel)
theorem am_fitE (t : Nat) : Bundle.fit (am_exn t) = true := by
  unfold am_exn
  split <;> decide +kernel
theorem am_fitS : ∀ n ∈ am_sup, Bundle.fit n = true := by decide +kernel
section AMT
variable {G : am_G} {d j t : Nat} {MF : am_M} {pc len : Nat} {L S As : List Value} {M M' : am_M} {v : Option Value} {E : String}
theorem am_R_gar {H H1 : Heap} (h : am_R G M H) (hk : ∀ q : Nat, q < H.size → H1[q]? = H[q]?) : am_R G (am_gar M) H1 := by
  refine ⟨?_, h.2⟩
  show va_P (am_D G) vwCl (am_ws G M) H1
  exact h.1.kept (fun k x hx => hk x.1 ((h.1 k x hx).lt))
/-- 'throw new E("text")' -/
theorem am_thr (ha : am_at j pc = some (.new t, len)) (ht : 100 ≤ t) (hhj : am_hh j = []) (hS : (S.map fun v => v.category).sum ≤ 8) : am_W G d j (.inr (am_exn t)) (am_gar M) pc L S M := by
  obtain ⟨hok, -⟩ := am_at_ok ha
  rcases hok with ⟨h, -⟩ | ⟨-, hcl, ik, is, ic, k, tx, d0, d3, hstr, hm, hq⟩
  · omega
  refine ⟨⟨by unfold am_sz; show _ ≤ am_n M + (am_g M + 1); omega, by show _ ≤ am_u M + 6; omega, by show _ ≤ am_g M + 1; omega⟩, ?_⟩
  intro p e R s m args below meth c H locs ls cells slots mc ms Q C r f l z h2 h3 h4 h5 he
  have hz2 : cells + 1 = mc := by rw [← h2]; show cells + 1 = cells + (am_n M + (am_g M + 1) - (am_n M + am_g M)); omega
  have hu2 : slots + 6 = ms := by rw [← h3]; show slots + 6 = slots + (am_u M + 6 - am_u M); omega
  have he : Q = vx_MQ below (am_Q G (.inr (am_exn t)) (am_gar M)) (am_X G (.inr (am_exn t)) (am_gar M)) args s mc ms (am_A G) := he
  subst he
  obtain ⟨c1, c2, c3, c4, hts, c6, c7, c8, hE, hEH, htab, hfr, hlo⟩ := C
  have hsv := hE.2.2.1 k is RX10 tx hstr
  have hat : ∀ (w : Cond), w ∈ lw_tbl → (goodWord w || am_cst w) = true → w.before args s = true := by
    intro w hw hg
    by_cases h : goodWord w = true
    · exact hts w hw h
    · have h9 : am_cst w = true := by simpa [h] using hg
      have := hE.2.2.2.2.2.1 w hw h9
      unfold am_cst at h9
      rw [Bool.and_eq_true] at h9
      exact va_tabs h9.2 rfl this
  have hout : ∀ (q : Nat), ∀ x ∈ c.exceptionTable.toList, covers x q = false := by
    intro q x hx
    rw [htab, hhj] at hx
    cases hx
  have hxc : ∀ tt : State, s.vm.Alike tt.vm → H.size ≤ tt.heap.size → (∀ q : Nat, q < H.size → tt.heap[q]? = H[q]?) → am_X G (.inr (am_exn t)) (am_gar M) (am_exn t) s tt := fun tt _ hz9 hk9 => ⟨rfl, am_R_gar r hk9, Nat.le_trans f.1 hz9, fun q g1 g2 => by rw [hk9 q (Nat.lt_of_lt_of_le g1 f.1)]; exact f.2.1 q g1 g2⟩
  have hcS := am_catS (G := G) (S := S)
  rw [hcl] at hm c4
  have hg0 : ∀ (nm : String) (LL : List Cond), (∀ w ∈ LL, vx_ot w = true) → ∀ w ∈ Cond.classLink RX10 ik nm :: Cond.initialized nm :: LL, vx_ot w = true := by
    intro nm LL hLL w hw
    rcases List.mem_cons.mp hw with h | hw
    · subst h; rfl
    · rcases List.mem_cons.mp hw with h | hw
      · subst h; rfl
      · exact hLL w hw
  have hini := hts _ (am_iniE t) rfl
  have hcl2 := hts _ hm rfl
  rcases hq with ⟨hh9, d4, d6, d9⟩ | ⟨hh9, d4, d7, d10⟩
  · rcases hh9 with ⟨rfl, rfl⟩ | ⟨rfl, rfl⟩
    · exact vx_throwS c1 c2 hE.2.2.2.2.2.2.2.2 c4 (am_fitE 100) am_fitS hcl2 hini hsv (fun w hw => hat w (am_atx0 w hw).1 (am_atx0 w hw).2.1) (hg0 _ _ (fun w hw => (am_atx0 w hw).2.2)) hEH.2.1 hEH.2.2.1 f (by rw [c3]; exact l.2.1) d0 d3 d4 d6 d9 (hout _) (by show 2 + 3 < R.frames; omega) (by rw [hcS]; show _ + (13 * (2 + 1) + 43) ≤ R.locals; omega) (by omega) (by omega) c7 hxc f.2.2 (by omega) (by omega)
    · exact am_throwN c1 c2 hE.2.2.2.2.2.2.2.2 c4 hcl2 hini hsv (fun w hw => hat w (am_atx1 w hw).1 (am_atx1 w hw).2.1) (hg0 _ _ (fun w hw => (am_atx1 w hw).2.2)) hEH.2.1 hEH.2.2.1 f (by rw [c3]; exact l.2.1) d0 d3 d4 d6 d9 (hout _) (by omega) (by rw [hcS]; omega) (by omega) (by omega) c7 hxc f.2.2 (by omega) (by omega)
  · rcases hh9 with ⟨rfl, rfl⟩ | ⟨rfl, rfl⟩
    · exact vx_throwSW c1 c2 hE.2.2.2.2.2.2.2.2 c4 (am_fitE 110) am_fitS hcl2 hini hsv (fun w hw => hat w (am_atx0 w hw).1 (am_atx0 w hw).2.1) (hg0 _ _ (fun w hw => (am_atx0 w hw).2.2)) hEH.2.1 hEH.2.2.1 f (by rw [c3]; exact l.2.1) d0 d3 d4 d7 d10 (hout _) (by show 2 + 3 < R.frames; omega) (by rw [hcS]; show _ + (13 * (2 + 1) + 43) ≤ R.locals; omega) (by omega) (by omega) c7 hxc f.2.2 (by omega) (by omega)
    · exact am_throwNW c1 c2 hE.2.2.2.2.2.2.2.2 c4 hcl2 hini hsv (fun w hw => hat w (am_atx1 w hw).1 (am_atx1 w hw).2.1) (hg0 _ _ (fun w hw => (am_atx1 w hw).2.2)) hEH.2.1 hEH.2.2.1 f (by rw [c3]; exact l.2.1) d0 d3 d4 d7 d10 (hout _) (by omega) (by rw [hcS]; omega) (by omega) (by omega) c7 hxc f.2.2 (by omega) (by omega)
/-- a call that threw, past this method -/
theorem am_out {p : Program} {e : Env} {R : Room} {s : State} {m : MethodId} {args : Array Value} {below : List Frame} {meth : Method} {c : Code} {H : Heap} {locs : List Loc} {ls : Array Slot} {cells slots mc ms : Nat} {Q : State → Prop} {st0 : List Value}
    (hr : ∀ hb : H.size ≤ s.heap.size + cells, vx_Run p G.1 e R s m args below meth c H locs cells slots (am_sz M' - am_sz M) (am_u M' - am_u M) (F0 m pc ls st0) (S.map (am_sv G)) (am_Q G (.inr E) M' (As.map (am_sv G)).toArray) (am_X G (.inr E) M') (am_A G)) (hhj : am_hh j = []) (h1 : am_sz M ≤ am_sz M' ∧ am_u M ≤ am_u M' ∧ am_g M ≤ am_g M')
    (C : am_Cx G d j p R s m args meth c) (hS : va_S (am_A G) s.heap H locs) (h2 : cells + (am_sz M' - am_sz M) = mc) (h3 : slots + (am_u M' - am_u M) = ms) (he : am_end G j (.inr E) M' p e R s m args below meth c mc ms Q) : W p G.1 e R s m args below meth c H locs cells slots Q (F0 m pc ls st0) := by
  have he : Q = vx_MQ below (am_Q G (.inr E) M') (am_X G (.inr E) M') args s mc ms (am_A G) := he
  subst he
  refine am_bound (fun hb => ?_)
  intro T hT X
  rcases hr hb T hT X with ⟨v', st₀, tt, T', L9, q0, X', hL, e1, e2, ⟨v2, hv1, -⟩, stp⟩ | ⟨q, st₀, tt, T', L9, E', ce, q0, X', hL, e1, e2, ⟨hE', hR', hF⟩, hce, hcv, hcl, stp⟩
  · cases hv1
  · cases hE'
    obtain ⟨hz1, hk1⟩ := hF
    rw [q0] at hz1 hk1
    have hS' : va_S (am_A G) s.heap T'.heap (locs ++ L9) := ⟨Nat.le_trans hS.1 (by rw [e1]; exact hz1), fun q g1 g2 => by rw [e1, hk1 q (Nat.lt_of_lt_of_le g1 hS.1) g2]; exact hS.2.1 q g1 g2, fun q hq => by
      rcases List.mem_append.mp hq with h | h
      · exact hS.2.2 q h
      · exact hL q h⟩
    obtain ⟨-, -, -, -, -, -, c7, -, -, -, htab, -⟩ := C
    have kk := vx_out (p := p) (l := G.1) (e := e) (R := R) (s := s) (m := m) (args := args) (below := below) (meth := meth) (c := c) (H := T'.heap) (locs := locs ++ L9) (cells := cells + (am_sz M' - am_sz M)) (slots := slots + (am_u M' - am_u M)) (free := am_A G) (ls := ls) (rest := S.map (am_sv G)) (Qc := am_Q G (.inr E) M') (XC := am_X G (.inr E) M') (pc := pc) (E := E) (ce := ce) (q := q) (mc := mc) (ms := ms)
      (fun x hx => by rw [htab, hhj] at hx; cases hx) c7 (by rw [e1]; exact hce) hcv hcl (fun t9 ht9 _ => ⟨rfl, by rw [ht9, e1]; exact hR', by rw [ht9]; exact hS'.1, fun q g1 g2 => by rw [ht9]; exact hS'.2.1 q g1 g2⟩) hS'.2.2 (by omega) (by omega)
    obtain ⟨t2, a1, b1⟩ := kk T' rfl X'
    exact ⟨t2, stp.trans a1, b1⟩
theorem am_callVx {a c0 : Nat} (ha : am_at j pc = some (.invokevirtual t, len)) (ht : t < 302) (hh : am_hh t = []) (hhj : am_hh j = []) (hk : am_k M a = (0, c0)) (hc0 : c0 < 12) (hcn : (am_y t).cls = am_cn c0) (hm : am_Met G d t (.ref a :: As) M (.inr E) M') (hn : As.length = am_np t) (hS : (S.map fun v => v.category).sum ≤ 8) : am_W G (d + 1) j (.inr E) M' pc L (As.reverse ++ .ref a :: S) M := by
  obtain ⟨hok, hln⟩ := am_at_ok ha
  have hl9 : len = 3 := by simpa [am_ln] using hln
  subst hl9
  obtain ⟨idx, hd, hq⟩ := hok
  have hq : Cond.methodLink (am_y j).cls idx (am_y t) ∈ lw_tbl ∧ Cond.instanceMethod (am_y t) ∈ lw_tbl ∧ Cond.selects (am_y t).cls (am_y t) (am_y t) ∈ lw_tbl := by
    rcases hq with ⟨h, -⟩ | ⟨h, -⟩ | ⟨-, h⟩
    · omega
    · omega
    · exact h
  refine ⟨hm.1, ?_⟩
  intro p e R s m args below meth c H locs ls cells slots mc ms Q C r f l z h2 h3 h4 h5 he
  refine am_out (S := S) (As := .ref a :: As) (fun hb => ?_) hhj hm.1 C f h2 h3 he
  have hz9 := am_exact r C.2.2.2.2.2.2.2.2.2.1 f z hb
  obtain ⟨g1, g2⟩ := am_rng r.2 (by rw [hk]; exact Nat.zero_le _)
  have hc := am_ws_get (G := G) g1 g2 r.2.2.2.2.2.2.1
  rw [am_cellO hk] at hc
  have hrec := va_recv C.2.2.2.2.2.2.2.2.1.1 r.1 (am_cl _ hc0) hc
  rw [← hcn] at hrec
  refine vx_runV (Ts := []) (As := As.map (am_sv G)) (nL := am_mL j) ⟨C.1, C.2.1, C.2.2.1, C.2.2.2.1, fun w hw => absurd hw List.not_mem_nil⟩ hm.2 (⟨am_callB C ht hh hq.1, C.2.2.2.2.1 _ hq.2.1 rfl, C.2.2.2.2.1 _ hq.2.2 rfl⟩) ⟨am_Pc.blind, hrec, am_preS (As := .ref a :: As) C r f hz9⟩ rfl (by rw [List.length_map]; exact hn) l.2.1 ?_ (by rw [am_catS]; show 2 * 0 + _ ≤ 8; omega) hd ⟨by omega, by omega⟩
  show (As.reverse ++ .ref a :: S).map (am_sv G) = _
  rw [am_mapA]
  rfl
theorem am_callSx (ha : am_at j pc = some (.invokestatic t, len)) (ht : t < 302) (hh : am_hh t = []) (hhj : am_hh j = []) (hx : ∀ idx host, ¬ Cond.methodLinkNest (am_y j).cls idx (am_y t) host ∈ lw_tbl) (hm : am_Met G d t As M (.inr E) M') (hn : As.length = am_np t) (hS : (S.map fun v => v.category).sum ≤ 8) : am_W G (d + 1) j (.inr E) M' pc L (As.reverse ++ S) M := by
  obtain ⟨hok, hln⟩ := am_at_ok ha
  have hl9 : len = 3 := by simpa [am_ln] using hln
  subst hl9
  obtain ⟨idx, hd, hq⟩ := hok
  rcases hq with ⟨h, -⟩ | ⟨-, hst, hq⟩
  · omega
  rcases hq with hq | ⟨host, hq⟩
  · refine ⟨hm.1, ?_⟩
    intro p e R s m args below meth c H locs ls cells slots mc ms Q C r f l z h2 h3 h4 h5 he
    refine am_out (S := S) (As := As) (fun hb => ?_) hhj hm.1 C f h2 h3 he
    have hz9 := am_exact r C.2.2.2.2.2.2.2.2.2.1 f z hb
    exact vx_runS (Ts := []) (As := As.map (am_sv G)) (nL := am_mL j) ⟨C.1, C.2.1, C.2.2.1, C.2.2.2.1, fun w hw => absurd hw List.not_mem_nil⟩ hm.2 ⟨am_callB C ht hh hq, C.2.2.2.2.1 _ hst rfl⟩ ⟨am_Pc.blind, am_preS C r f hz9⟩ rfl (by rw [List.length_map]; exact hn) l.2.1 am_mapA (by rw [am_catS]; show 2 * 0 + _ ≤ 8; omega) hd ⟨by omega, by omega⟩
  · exact absurd hq (hx idx host)
end AMT
