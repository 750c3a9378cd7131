/-! A call that threw, caught by the caller: the handler stores it, and answers a number. -/
section AMK
variable {G : am_G} {d j t : Nat} {MF : am_M} {pc len : Nat} {L S As : List Value} {M M' : am_M} {E : String}
theorem am_callVc {a c0 hpc s0 e0 ct i l1 : Nat} {kk : Int} {ist : Instr} {pre suf : List (Nat × Nat × Nat × Nat)} (ha : am_at j pc = some (.invokevirtual t, len)) (ht : t < 302) (hh : am_hh t = []) (hk : am_k M a = (0, c0)) (hc0 : c0 < 12) (hcn : (am_y t).cls = am_cn c0) (hm : am_Met G d t (.ref a :: As) M (.inr E) M') (hn : As.length = am_np t) (hS : (S.map fun v => v.category).sum ≤ 8)
    (hsp : am_hh j = pre ++ (s0, e0, hpc, ct) :: suf) (hcov : s0 ≤ pc ∧ pc < e0) (hct : ct ≠ 0) (hlk : Cond.classLink (am_y j).cls ct E ∈ lw_tbl) (hcst : Cond.castable E E ∈ lw_tbl) (hpass : ∀ z ∈ pre, z.2.2.2 ≠ 0 ∧ Cond.classLink (am_y j).cls z.2.2.2 am_NSE ∈ lw_tbl ∧ E = am_IAE)
    (d1 : decode (am_cc j) hpc = .ok (ist, l1)) (hist : (ist = .astore i ∧ l1 = 2) ∨ (∃ q : Fin 4, ist = .astore_n q ∧ q.val = i ∧ l1 = 1)) (hi : i < am_mL j) (d2 : decode (am_cc j) (hpc + l1) = .ok (.iconst kk, 1)) (d3 : decode (am_cc j) (hpc + l1 + 1) = .ok (.ireturn, 1)) (hrt : am_rt j = some .int) : am_W G (d + 1) j (.inl (some (.int (Int32.ofInt kk)))) M' pc L (As.reverse ++ .ref a :: S) M := by
  obtain ⟨hok, hln⟩ := am_at_ok ha
  have hl9 : len = 3 := by simpa [am_ln] using hln
  subst hl9
  obtain ⟨idx, hd, hq⟩ := hok
  have hq : Cond.methodLink (am_y j).cls idx (am_y t) ∈ lw_tbl ∧ Cond.instanceMethod (am_y t) ∈ lw_tbl ∧ Cond.selects (am_y t).cls (am_y t) (am_y t) ∈ lw_tbl := by
    rcases hq with ⟨h, -⟩ | ⟨h, -⟩ | ⟨-, h⟩
    · omega
    · omega
    · exact h
  refine ⟨hm.1, ?_⟩
  intro p e R s m args below meth c H locs ls cells slots mc ms Q C r f l z h2 h3 h4 h5 he
  refine am_bound (fun hb => ?_)
  have hz9 := am_exact r C.2.2.2.2.2.2.2.2.2.1 f z hb
  obtain ⟨g1, g2⟩ := am_rng r.2 (by rw [hk]; exact Nat.zero_le _)
  have hc := am_ws_get (G := G) g1 g2 r.2.2.2.2.2.2.1
  rw [am_cellO hk] at hc
  have hrec := va_recv C.2.2.2.2.2.2.2.2.1.1 r.1 (am_cl _ hc0) hc
  rw [← hcn] at hrec
  have hr := vx_runV (meth := meth) (e := e) (below := below) (H := H) (locs := locs) (cells := cells) (slots := slots) (g := F0 m pc ls ((As.reverse ++ .ref a :: S).map (am_sv G))) (rest := S.map (am_sv G)) (Ts := []) (As := As.map (am_sv G)) (nL := am_mL j) ⟨C.1, C.2.1, C.2.2.1, C.2.2.2.1, fun w hw => absurd hw List.not_mem_nil⟩ hm.2 (⟨am_callB C ht hh hq.1, C.2.2.2.2.1 _ hq.2.1 rfl, C.2.2.2.2.1 _ hq.2.2 rfl⟩) ⟨am_Pc.blind, hrec, am_preS (As := .ref a :: As) C r f hz9⟩ rfl (by rw [List.length_map]; exact hn) l.2.1 (by show (As.reverse ++ .ref a :: S).map (am_sv G) = _; rw [am_mapA]; rfl) (by rw [am_catS]; show 2 * 0 + _ ≤ 8; omega) hd ⟨by omega, by omega⟩
  intro T hT X
  rcases hr T hT X with ⟨v', st₀, tt, T', L9, q0, X', hL, e1, e2, ⟨v2, hv1, -⟩, stp⟩ | ⟨q, st₀, tt, T', L9, E', ce, q0, X', hL, e1, e2, ⟨hE', hR', hF⟩, hce, hcv, hcl, stp⟩
  · cases hv1
  · cases hE'
    obtain ⟨hz1, hk1⟩ := hF
    rw [q0] at hz1 hk1
    have hS' : va_S (am_A G) s.heap T'.heap (locs ++ L9) := ⟨Nat.le_trans f.1 (by rw [e1]; exact hz1), fun q g1 g2 => by rw [e1, hk1 q (Nat.lt_of_lt_of_le g1 f.1) g2]; exact f.2.1 q g1 g2, fun q hq => by
      rcases List.mem_append.mp hq with h | h
      · exact f.2.2 q h
      · exact hL q h⟩
    obtain ⟨c1, c2, c3, c4, hts, c6, c7, c8, hE, hEH, htab, hfr, hlo⟩ := C
    have hcst2 : (Cond.castable E E).before args s = true := va_tabs rfl rfl (hE.2.2.2.2.2.1 _ hcst rfl)
    have hend : ∀ (ls9 : Array Slot), W p G.1 e R s m args below meth c T'.heap (locs ++ L9) (cells + (am_sz M' - am_sz M)) (slots + (am_u M' - am_u M)) Q (F0 m (hpc + l1) ls9 []) := by
      intro ls9
      refine lv_iconst c1 c2 d2 rfl ?_
      have hh9 := he T'.heap (locs ++ L9) (hpc + l1 + 1) ls9 (by rw [e1]; exact hR') hS' ⟨d3, Or.inl hrt⟩
      rw [← h2, ← h3] at hh9
      exact hh9
    have kk := vx_catch (p := p) (l := G.1) (e := e) (R := R) (s := s) (m := m) (args := args) (below := below) (meth := meth) (c := c) (H := T'.heap) (locs := locs ++ L9) (cells := cells + (am_sz M' - am_sz M)) (slots := slots + (am_u M' - am_u M)) (ls := ls) (rest := S.map (am_sv G)) (Q := Q) (pc := pc) (E := E) (ce := ce) (q := q) (name := E) c4 (tableOf pre) ⟨s0, e0, hpc, ct⟩ (tableOf suf) (by rw [htab, hsp]; simp [tableOf])
      (fun zz hzz => by
        obtain ⟨q9, hq9, rfl⟩ := List.mem_map.mp hzz
        obtain ⟨w1, w2, w3⟩ := hpass q9 hq9
        subst w3
        exact Or.inr ⟨w1, am_NSE, hts _ w2 rfl, hE.2.2.2.2.2.2.1⟩) (by show (decide (s0 ≤ pc) && decide (pc < e0)) = true; simp [hcov]) hct (hts _ hlk rfl) hcst2 (by rw [e1]; exact hce) hcv hcl
      (by
        rcases hist with ⟨rfl, rfl⟩ | ⟨q9, rfl, rfl, rfl⟩
        · exact lv_astore c1 c2 d1 l.2 hi rfl (fun ls9 _ => hend ls9)
        · exact lv_astore_n c1 c2 d1 rfl l.2 hi rfl (fun ls9 _ => hend ls9))
    obtain ⟨t2, a1, b1⟩ := kk T' rfl X'
    exact ⟨t2, stp.trans a1, b1⟩
end AMK
