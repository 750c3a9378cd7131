/-! One row for all instructions without calls; several at a time; Object's constructor, arraycopy, int[n][k]. -/
section AMZ
variable {G : am_G} {d j : Nat} {o : am_O} {MF : am_M} {pc pc' len : Nat} {L L' S S' : List Value} {M M' : am_M}
theorem am_mna_cellI {K : Nat} : ∀ c : ClassId, Jvm.Free.Multi.innerC c K (defaultValue .int) = vp_cell c (K, .inl (fun _ => 0)) := fun c => by
  show ({ cls := c, slots := Array.replicate K (.int 0), vm := .none } : Cell) = _
  rw [arrV_new]
  rfl
theorem am_wm_newg {n k : Nat} (h : am_wm G M) (hn : am_n M < 900000) (h1 : n ≤ 10000) (h2 : k ≤ 10000) : am_wm G (am_newg M n k) := by
  obtain ⟨w1, w2, w3, w4, w5, w6, w7, w8⟩ := h
  refine ⟨?_, w2, ?_, ?_, ?_, by show am_n M + 1 + n < 1000000; omega, w7, ?_⟩
  · show (if 0 = am_n M + 1 then (5, n) else if am_n M + 1 < 0 ∧ 0 ≤ am_n M + 1 + n then (1, k) else am_k M 0) = _
    rw [if_neg (by omega), if_neg (by omega)]; exact w1
  · intro a ha
    have ha : am_n M + 1 + n < a := ha
    show (if a = am_n M + 1 then (5, n) else if am_n M + 1 < a ∧ a ≤ am_n M + 1 + n then (1, k) else am_k M a) = _
    rw [if_neg (by omega), if_neg (by omega)]; exact w3 a (by omega)
  · intro a ha q
    have ha : am_n M + 1 + n < a := ha
    obtain ⟨e1, e2, e3⟩ := w4 a (by omega) q
    refine ⟨e1, ?_, e3⟩
    show (if a = am_n M + 1 ∧ q < n then some (am_n M + 2 + q) else am_r M a q) = none
    rw [if_neg (by omega)]; exact e2
  · intro a g1 g2
    have g2 : a ≤ am_n M + 1 + n := g2
    show (if a = am_n M + 1 then (5, n) else if am_n M + 1 < a ∧ a ≤ am_n M + 1 + n then (1, k) else am_k M a).1 ≤ 5
    split
    · exact Nat.le_refl _
    · split
      · show 1 ≤ 5; decide
      · exact w5 a g1 (by omega)
  · intro a g1
    show (if a = am_n M + 1 then (5, n) else if am_n M + 1 < a ∧ a ≤ am_n M + 1 + n then (1, k) else am_k M a).2 < _
    split
    · show n < _; omega
    · split
      · show k < _; omega
      · exact w8 a g1
theorem am_s_multianewarray {x y : Nat} (ha : am_at j pc = some (.multianewarray x y, len)) (hs : am_st (.multianewarray x y) pc len L S M = some (pc', L', S', M')) (k : am_W G d j o MF pc' L' S' M') : am_W G d j o MF pc L S M := by
  obtain ⟨hok, hln⟩ := am_at_ok ha
  have hl9 : len = 4 := by simpa [am_ln] using hln
  subst hl9
  obtain ⟨idx, hd, hm⟩ := hok
  simp only [am_st] at hs
  split at hs
  · split at hs
    · rename_i K N S0 hc
      cases hs
      obtain ⟨hg, hn9, hN0, hN1, hK0, hK1⟩ := hc
      refine am_liftN (M' := am_newg M N.toNatClampNeg K.toNatClampNeg) (cn := 1 + N.toNatClampNeg) (w := N.toNatClampNeg + N.toNatClampNeg * K.toNatClampNeg) hg hg (by show am_n M + 1 + N.toNatClampNeg = _; omega) (by show am_u M + N.toNatClampNeg + _ = _; omega) ?_ k
      intro p e R s m args below meth c H locs ls cells slots Q C r f h z hc1 hs1 k
      refine am_bound (fun hb => ?_)
      have hz9 := am_exact r C.2.2.2.2.2.2.2.2.2.1 f (fun _ => z) hb hg
      intro T hT Xs
      obtain ⟨vm₁, cA, comp, -, fA, fC, hO, -, X', step⟩ := Xs.multianewarray2F C.1 C.2.2.2.1 (ty := .int) (C.2.2.2.2.1 _ hm rfl) (C.2.2.2.2.2.2.2.2.1.2.2.2.2.1) (C.2.2.2.2.1 _ am_acI rfl) (rest := S0.map (am_sv G)) (n := N) (k := K) (g := F0 m pc ls (.int K :: .int N :: S0.map (am_sv G))) rfl (by rw [C.2.1]; exact hd) rfl (am_not0 hN0) (am_not0 hK0) (by omega) (by show _ * 4 ≤ _; omega) (by omega) rfl rfl hc1 hs1
      have hK := C.2.2.2.2.2.2.2.2.1.1
      have ecA : cA = am_cA G 4 := Option.some.inj (fA.symm.trans (hK.2 4 _ rfl).2)
      have ecI : comp = am_cA G 0 := Option.some.inj (fC.symm.trans (hK.2 0 _ rfl).2)
      subst ecA
      subst ecI
      generalize hF : Jvm.Free.Multi.fill (T.setVm vm₁) (am_cA G 4) (am_cA G 0) N.toNatClampNeg K.toNatClampNeg (defaultValue .int) N.toNatClampNeg = F at X' step
      have hTh : (T.setVm vm₁).heap = H := hT
      obtain ⟨f1, f2, -, -⟩ := Jvm.Free.Multi.fill_facts (T.setVm vm₁) (am_cA G 4) (am_cA G 0) N.toNatClampNeg K.toNatClampNeg (defaultValue .int) N.toNatClampNeg
      rw [hF, hTh] at f1 f2
      have hold : ∀ x : Nat, x < H.size → F.heap[x]? = H[x]? := fun x hx => by
        have := Jvm.Free.Multi.fill_old (T.setVm vm₁) (am_cA G 4) (am_cA G 0) N.toNatClampNeg K.toNatClampNeg (defaultValue .int) (a := x) (by rw [hTh]; exact hx) N.toNatClampNeg
        rw [hF, hTh] at this
        exact this
      have hrow : ∀ j : Nat, j < N.toNatClampNeg → F.heap[H.size + 1 + j]? = some (vp_cell (am_cA G 0) (K.toNatClampNeg, .inl (fun _ => 0))) := fun j hj => by
        have := Jvm.Free.Multi.fill_inner (T.setVm vm₁) (am_cA G 4) (am_cA G 0) N.toNatClampNeg K.toNatClampNeg (defaultValue .int) N.toNatClampNeg j hj
        rw [hF, hTh, am_mna_cellI] at this
        exact this
      have hout : Jvm.Free.Multi.outerC (am_cA G 4) N.toNatClampNeg H.size N.toNatClampNeg = vp_cell (am_cA G 4) (N.toNatClampNeg, .inr (.inr (.inr (.inr (fun i => if i < N.toNatClampNeg then some (H.size + 1 + i) else none))))) := by
        rw [vp_cell_q]
        exact vr_outer (am_cA G 4) N.toNatClampNeg H.size N.toNatClampNeg
      rw [hout] at f2
      have hfun : (fun i => (am_r (am_newg M N.toNatClampNeg K.toNatClampNeg) (am_n M + 1) i).map (am_ad G)) = (fun i => if i < N.toNatClampNeg then some (H.size + 1 + i) else none) := by
        funext i
        show (if am_n M + 1 = am_n M + 1 ∧ i < N.toNatClampNeg then some (am_n M + 2 + i) else am_r M (am_n M + 1) i).map (am_ad G) = _
        by_cases hi : i < N.toNatClampNeg
        · rw [if_pos ⟨rfl, hi⟩, if_pos hi, hz9]
          show some (am_ad G (am_n M + 2 + i)) = _
          congr 1
          unfold am_ad
          rw [if_neg (by omega), if_pos (by omega)]
          omega
        · rw [if_neg (fun q => hi q.2), if_neg hi, (r.2.2.2.2.1 (am_n M + 1) (by omega) i).2.1]
          rfl
      have hkind : ∀ a, am_k (am_newg M N.toNatClampNeg K.toNatClampNeg) a = if a = am_n M + 1 then (5, N.toNatClampNeg) else if am_n M + 1 < a ∧ a ≤ am_n M + 1 + N.toNatClampNeg then (1, K.toNatClampNeg) else am_k M a := fun a => rfl
      have hR' : am_R G (am_newg M N.toNatClampNeg K.toNatClampNeg) F.heap := by
        refine ⟨?_, am_wm_newg r.2 hn9 hN1 hK1⟩
        intro i q hq
        have hi : i < am_n M + 1 + N.toNatClampNeg := by
          have := (List.getElem?_eq_some_iff.mp hq).1
          rw [am_ws_len] at this
          exact this
        have hq2 := am_ws_get (G := G) (M := am_newg M N.toNatClampNeg K.toNatClampNeg) (a := i + 1) (by omega) (by show i + 1 ≤ am_n M + 1 + N.toNatClampNeg; omega) (by show am_n M + 1 + N.toNatClampNeg < 1000000; omega)
        rw [Nat.add_sub_cancel, hq] at hq2
        cases hq2
        have had : am_ad G (i + 1) = am_z G + i := by
          unfold am_ad
          rw [if_neg (by omega), if_pos (by omega)]
          omega
        by_cases h1 : i < am_n M
        · have hc9 : am_cell G (am_newg M N.toNatClampNeg K.toNatClampNeg) (i + 1) = am_cell G M (i + 1) := by
            refine am_cell_congr ?_ (fun _ => rfl) (fun q => ?_) (fun _ => rfl)
            · rw [hkind, if_neg (by omega), if_neg (by omega)]
            · show (if i + 1 = am_n M + 1 ∧ q < N.toNatClampNeg then some (am_n M + 2 + q) else am_r M (i + 1) q) = _
              rw [if_neg (by omega)]
          rw [hc9]
          have h9 := am_ws_get (G := G) (M := M) (a := i + 1) (by omega) (by omega) (by omega)
          have h8 := r.1 _ _ h9
          exact h8.kept (hold _ h8.lt)
        · by_cases h2 : i = am_n M
          · subst h2
            rw [am_cellA (t := 4) (n := N.toNatClampNeg) (by rw [hkind, if_pos rfl])]
            show F.heap[am_ad G (am_n M + 1)]? = some (vp_cell (am_cA G 4) (N.toNatClampNeg, .inr (.inr (.inr (.inr (fun i => (am_r (am_newg M N.toNatClampNeg K.toNatClampNeg) (am_n M + 1) i).map (am_ad G)))))))
            rw [hfun, had, ← hz9]
            exact f2
          · rw [am_cellA (t := 0) (n := K.toNatClampNeg) (by rw [hkind, if_neg (by omega), if_pos (by omega)])]
            have hzero : am_i (am_newg M N.toNatClampNeg K.toNatClampNeg) (i + 1) = fun _ => 0 := funext fun q => (r.2.2.2.2.1 (i + 1) (by omega) q).1
            show F.heap[am_ad G (i + 1)]? = some (vp_cell (am_cA G 0) (K.toNatClampNeg, .inl (am_i (am_newg M N.toNatClampNeg K.toNatClampNeg) (i + 1))))
            have h3 := hrow (i - am_n M - 1) (by omega)
            rw [hzero, had, show am_z G + i = H.size + 1 + (i - am_n M - 1) by omega]
            exact h3
      have hS' : va_S (am_A G) s.heap F.heap locs := ⟨Nat.le_trans f.1 (by omega), fun q g1 g2 => by rw [hold q (Nat.lt_of_lt_of_le g1 f.1)]; exact f.2.1 q g1 g2, f.2.2⟩
      have k1 := k F.heap locs hR' hS'
      have X2 : Stand p G.1 e R s m args below meth c F locs (cells + (1 + N.toNatClampNeg)) (slots + (N.toNatClampNeg + N.toNatClampNeg * K.toNatClampNeg)) := by
        rw [show cells + (1 + N.toNatClampNeg) = cells + 1 + N.toNatClampNeg by omega, show slots + (N.toNatClampNeg + N.toNatClampNeg * K.toNatClampNeg) = slots + N.toNatClampNeg + N.toNatClampNeg * K.toNatClampNeg by omega]
        exact X'
      obtain ⟨t2, a1, b1⟩ := k1 F rfl X2
      refine ⟨t2, step t2 ?_, b1⟩
      have e9 : T.heap.size = am_ad G (am_n M + 1) := by rw [am_ad_new hn9, hT, hz9]
      rw [e9]
      exact a1
    · cases hs
  · cases hs
theorem am_step {i : Instr} (ha : am_at j pc = some (i, len)) (hs : am_st i pc len L S M = some (pc', L', S', M')) (k : am_W G d j o MF pc' L' S' M') : am_W G d j o MF pc L S M := by
  cases i with
  | iconst _ => exact am_s_iconst ha hs k
  | bipush _ => exact am_s_bipush ha hs k
  | sipush _ => exact am_s_sipush ha hs k
  | lconst _ => exact am_s_lconst ha hs k
  | ldc_w _ => exact am_s_ldc_w ha hs k
  | ldc2_w _ => exact am_s_ldc2_w ha hs k
  | ldc _ => exact am_s_ldc ha hs k
  | iload _ => exact am_s_iload ha hs k
  | iload_n _ => exact am_s_iload_n ha hs k
  | aload _ => exact am_s_aload ha hs k
  | aload_n _ => exact am_s_aload_n ha hs k
  | lload _ => exact am_s_lload ha hs k
  | lload_n _ => exact am_s_lload_n ha hs k
  | istore _ => exact am_s_istore ha hs k
  | istore_n _ => exact am_s_istore_n ha hs k
  | astore _ => exact am_s_astore ha hs k
  | astore_n _ => exact am_s_astore_n ha hs k
  | lstore _ => exact am_s_lstore ha hs k
  | lstore_n _ => exact am_s_lstore_n ha hs k
  | iinc _ _ => exact am_s_iinc ha hs k
  | iadd => exact am_s_iadd ha hs k
  | isub => exact am_s_isub ha hs k
  | imul => exact am_s_imul ha hs k
  | iand => exact am_s_iand ha hs k
  | ior => exact am_s_ior ha hs k
  | ixor => exact am_s_ixor ha hs k
  | ishl => exact am_s_ishl ha hs k
  | ishr => exact am_s_ishr ha hs k
  | iushr => exact am_s_iushr ha hs k
  | idiv => exact am_s_idiv ha hs k
  | irem => exact am_s_irem ha hs k
  | ineg => exact am_s_ineg ha hs k
  | i2l => exact am_s_i2l ha hs k
  | lshl => exact am_s_lshl ha hs k
  | lor => exact am_s_lor ha hs k
  | lsub => exact am_s_lsub ha hs k
  | lcmp => exact am_s_lcmp ha hs k
  | pop => exact am_s_pop ha hs k
  | dup2 => exact am_s_dup2 ha hs k
  | dup => exact am_s_dup ha hs k
  | goto _ => exact am_s_goto ha hs k
  | tableswitch _ _ _ _ => exact am_s_tableswitch ha hs k
  | getfield _ => exact am_s_getfield ha hs k
  | putfield _ => exact am_s_putfield ha hs k
  | new _ => exact am_s_new ha hs k
  | newarray _ => exact am_s_newarray ha hs k
  | anewarray _ => exact am_s_anewarray ha hs k
  | iaload => exact am_s_iaload ha hs k
  | baload => exact am_s_baload ha hs k
  | laload => exact am_s_laload ha hs k
  | aaload => exact am_s_aaload ha hs k
  | iastore => exact am_s_iastore ha hs k
  | bastore => exact am_s_bastore ha hs k
  | lastore => exact am_s_lastore ha hs k
  | aastore => exact am_s_aastore ha hs k
  | arraylength => exact am_s_arraylength ha hs k
  | multianewarray _ _ => exact am_s_multianewarray ha hs k
  | ifCond c off => cases c <;> first | exact am_s_ifCond_eq ha hs k | exact am_s_ifCond_ne ha hs k | exact am_s_ifCond_lt ha hs k | exact am_s_ifCond_ge ha hs k | exact am_s_ifCond_gt ha hs k | exact am_s_ifCond_le ha hs k
  | if_icmp c off => cases c <;> first | exact am_s_if_icmp_eq ha hs k | exact am_s_if_icmp_ne ha hs k | exact am_s_if_icmp_lt ha hs k | exact am_s_if_icmp_ge ha hs k | exact am_s_if_icmp_gt ha hs k | exact am_s_if_icmp_le ha hs k
  | _ => exact absurd hs (by simp [am_st])
def am_run (j : Nat) : Nat → am_S → Option am_S
  | 0, s => some s
  | n + 1, s => match am_at j s.1 with
    | some (i, len) => (am_st i s.1 len s.2.1 s.2.2.1 s.2.2.2).bind (am_run j n)
    | none => none
theorem am_go : ∀ (n : Nat) {s : am_S} {pc' : Nat} {L' S' : List Value} {M' : am_M}, am_run j n s = some (pc', L', S', M') → am_W G d j o MF pc' L' S' M' → am_W G d j o MF s.1 s.2.1 s.2.2.1 s.2.2.2
  | 0, s, pc', L', S', M', h, k => by
    cases h
    exact k
  | n + 1, s, pc', L', S', M', h, k => by
    simp only [am_run] at h
    split at h
    · rename_i i len ha
      obtain ⟨s1, h1, h2⟩ := Option.bind_eq_some_iff.mp h
      have := am_go n h2 k
      exact am_step ha (by rw [h1]) this
    · cases h
theorem am_obj {a : Nat} (ha : am_at j pc = some (.invokespecial 1000, len)) (hS : (S.map fun v => v.category).sum ≤ 8) (k : am_W G d j o MF (pc + 3) L S M) : am_W G d j o MF pc L (.ref a :: S) M := by
  obtain ⟨hok, hln⟩ := am_at_ok ha
  have hl9 : len = 3 := by simpa [am_ln] using hln
  subst hl9
  obtain ⟨idx, hd, hq⟩ := hok
  rcases hq with ⟨-, hq⟩ | ⟨h, -⟩
  · refine am_lift (fun C r f h k => ?_) k
    exact W.objInit C.1 C.2.1 C.2.2.2.1 (C.2.2.2.2.1 _ hq rfl) (C.2.2.2.2.1 _ (am_mem 134 (by decide +kernel)) rfl) (C.2.2.2.2.1 _ (am_mem 135 (by decide +kernel)) rfl) rfl (by rw [C.2.2.1]; exact h.2.1) rfl hd (by have := C.2.2.2.2.2.2.2.2.2.2.2.1; omega) (by rw [am_catS]; have := C.2.2.2.2.2.2.2.2.2.2.2.2; show 2 * 0 + _ + 12 ≤ _; omega) k
  · omega
set_option maxRecDepth 20000 in
theorem am_cplem {a d r : Nat} (h : a ≤ 8) (hr : 60 * d + 300 ≤ r) : a + (nativeFrameWords "java/lang/System" "arraycopy" 5 + 11) ≤ r := by
  have h9 : nativeFrameWords "java/lang/System" "arraycopy" 5 + 11 ≤ 200 := by decide
  omega
/-- System.arraycopy of ints -/
theorem am_copy {a b na nb : Nat} {sp dp n : Int32} (ha : am_at j pc = some (.invokestatic 1001, len)) (hka : am_k M a = (1, na)) (hkb : am_k M b = (1, nb)) (h1 : 0 ≤ sp) (h2 : 0 ≤ dp) (h3 : 0 ≤ n) (h4 : sp.toNatClampNeg + n.toNatClampNeg ≤ na) (h5 : dp.toNatClampNeg + n.toNatClampNeg ≤ nb) (hS : (S.map fun v => v.category).sum ≤ 8)
    (k : am_W G d j o MF (pc + 3) L S (M.1, M.2.1, am_cpy M.2.2.1 a b sp.toNatClampNeg dp.toNatClampNeg n.toNatClampNeg, M.2.2.2)) : am_W G d j o MF pc L (.int n :: .int dp :: .ref b :: .int sp :: .ref a :: S) M := by
  obtain ⟨hok, hln⟩ := am_at_ok ha
  have hl9 : len = 3 := by simpa [am_ln] using hln
  subst hl9
  obtain ⟨idx, hd, hq⟩ := hok
  rcases hq with ⟨-, hq⟩ | ⟨h, -⟩
  · refine am_liftM (M' := (M.1, M.2.1, am_cpy M.2.2.1 a b sp.toNatClampNeg dp.toNatClampNeg n.toNatClampNeg, M.2.2.2)) rfl (fun C r f h k => ?_) k
    obtain ⟨a1, a2⟩ := am_rng r.2 (a := a) (by rw [hka]; show 1 ≤ 5; decide)
    obtain ⟨b1, b2⟩ := am_rng r.2 (a := b) (by rw [hkb]; show 1 ≤ 5; decide)
    have hea := am_ws_get (G := G) a1 a2 r.2.2.2.2.2.2.1
    have heb := am_ws_get (G := G) b1 b2 r.2.2.2.2.2.2.1
    rw [am_cellA (t := 0) hka] at hea
    rw [am_cellA (t := 0) hkb] at heb
    refine va_copyi C.1 C.2.1 (by rw [C.2.2.1]; exact h.2.1.symm) C.2.2.2.1 (C.2.2.2.2.1 _ hq rfl) (C.2.2.2.2.1 _ (am_mem 540 (by decide +kernel)) rfl) (C.2.2.2.2.1 _ (am_mem 539 (by decide +kernel)) rfl) (C.2.2.2.2.1 _ (am_mem 123 (by decide +kernel)) rfl) C.2.2.2.2.2.2.2.2.1.1 r.1 am_wsD f (a - 1) (b - 1) 0 0 hea heb rfl rfl rfl (am_not0 h1) (am_not0 h2) (am_not0 h3) h4 h5 (fun _ _ => rfl) (by have := C.2.2.2.2.2.2.2.2.2.2.2.1; omega) (am_cplem (by rw [am_catS]; exact hS) C.2.2.2.2.2.2.2.2.2.2.2.2) hd (fun H1 locs1 p1 _ s1 => k H1 locs1 (am_arrset (M' := (M.1, M.2.1, am_cpy M.2.2.1 a b sp.toNatClampNeg dp.toNatClampNeg n.toNatClampNeg, M.2.2.2)) (t := 0) r.2 rfl rfl hkb (by decide) (fun y hy k => if_neg hy) (fun _ _ _ => rfl) (fun _ _ _ => rfl) ?_ p1) s1)
    show Sum.inl (_, _, Sum.inl (am_cpy M.2.2.1 a b _ _ _ b)) = _
    rw [show am_cpy M.2.2.1 a b sp.toNatClampNeg dp.toNatClampNeg n.toNatClampNeg b = va_cpy (am_i M a) (am_i M b) sp.toNatClampNeg dp.toNatClampNeg n.toNatClampNeg from funext fun y => if_pos rfl]
  · omega
end AMZ
