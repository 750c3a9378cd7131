/-! Arrays and new cells, as rows of the walk. -/
theorem am_not0 {n : Int32} (h : 0 ≤ n) : ¬ n < 0 := Int32.not_lt.mpr h
theorem am_bound {p : Program} {l : Launch} {e : Env} {R : Room} {s : State} {m : MethodId} {args : Array Value} {below : List Frame} {meth : Method} {c : Code} {H : Heap} {locs : List Loc} {cells slots : Nat} {Q : State → Prop} {g : JFrame} (h : H.size ≤ s.heap.size + cells → W p l e R s m args below meth c H locs cells slots Q g) : W p l e R s m args below meth c H locs cells slots Q g := fun T hT X => h (by rw [← hT]; exact X.heapSize) T hT X
theorem am_fresh {G : am_G} {M : am_M} {q : Nat} {E : va_E} (hD : va_D (am_A G) (am_ws G M ++ [(q, E)])) (hq : q < am_z G + am_n M + 1) : q = am_z G + am_n M := by
  have hl := am_ws_len (G := G) (M := M)
  have h0 : (am_ws G M ++ [(q, E)])[am_n M]? = some (q, E) := by
    rw [List.getElem?_append_right (by omega), hl, Nat.sub_self]; rfl
  have h1 : am_z G ≤ q := hD.2 _ _ h0
  by_cases hne : q = am_z G + am_n M
  · exact hne
  · have hi : q - am_z G < am_n M := by omega
    have h2 : (am_ws G M ++ [(q, E)])[q - am_z G]? = some (q, am_cell G M (q - am_z G + 1)) := by
      rw [List.getElem?_append_left (by omega)]
      unfold am_ws
      rw [List.getElem?_map, List.getElem?_range hi]
      have : am_z G + (q - am_z G) = q := by omega
      simp [this]
    have := hD.1 _ _ _ _ h2 h0 rfl
    omega
theorem am_ad_new {G : am_G} {n : Nat} (h : n < 900000) : am_ad G (n + 1) = am_z G + n := by
  unfold am_ad
  rw [if_neg (by omega), if_pos (by omega)]
  omega
theorem am_wm_new {G : am_G} {M : am_M} {q : Nat × Nat} {w : Nat} (h : am_wm G M) (hn : am_n M < 900000) (hq : q.1 ≤ 5) (hq2 : q.2 < 2 ^ 31) : am_wm G (am_new M q w) := by
  obtain ⟨w1, w2, w3, w4, w5, w6, w7, w8⟩ := h
  refine ⟨?_, w2, ?_, ?_, ?_, by show am_n M + 1 < 1000000; omega, w7, ?_⟩
  · show (if 0 = am_n M + 1 then q else am_k M 0) = _
    rw [if_neg (by omega)]; exact w1
  · intro a ha
    have ha : am_n M + 1 < a := ha
    show (if a = am_n M + 1 then q else am_k M a) = _
    rw [if_neg (by omega)]; exact w3 a (by omega)
  · intro a ha
    have ha : am_n M + 1 < a := ha
    exact w4 a (by omega)
  · intro a h1 h2
    have h2 : a ≤ am_n M + 1 := h2
    show (if a = am_n M + 1 then q else am_k M a).1 ≤ 5
    split
    · exact hq
    · exact w5 a h1 (by omega)
  · intro a h1
    show (if a = am_n M + 1 then q else am_k M a).2 < _
    split
    · exact hq2
    · exact w8 a h1
theorem am_ws_new {G : am_G} {M : am_M} {q : Nat × Nat} {w : Nat} : am_ws G (am_new M q w) = am_ws G M ++ [(am_z G + am_n M, am_cell G (am_new M q w) (am_n M + 1))] := by
  refine am_ws_push (M := M) rfl (fun x hx => am_cell_congr ?_ (fun _ => rfl) (fun _ => rfl) (fun _ => rfl))
  show (if x = am_n M + 1 then q else am_k M x) = _
  rw [if_neg (by omega)]
theorem am_k_new {M : am_M} {q : Nat × Nat} {w : Nat} : am_k (am_new M q w) (am_n M + 1) = q := if_pos rfl
theorem am_ty5 : ∀ c, c < 12 → ∀ k, k < am_nf c → (match am_ty c k with | .int => true | .boolean => true | .long => true | .object _ => true | .array _ => true | _ => false) = true := by decide +kernel
section AMN
variable {G : am_G} {d j : Nat} {o : am_O} {MF : am_M} {pc pc' len : Nat} {L L' S S' : List Value} {M M' : am_M}
theorem am_ges {s : State} {H : Heap} (h : am_EH G s H) : am_z G ≤ H.size := h.2.2.2.2.2.1
theorem am_s_new {t : Nat} (ha : am_at j pc = some (.new t, len)) (hs : am_st (.new t) pc len L S M = some (pc', L', S', M')) (k : am_W G d j o MF pc' L' S' M') : am_W G d j o MF pc L S M := by
  obtain ⟨hok, hln⟩ := am_at_ok ha
  have hl9 : len = 3 := by simpa [am_ln] using hln
  subst hl9
  simp only [am_st] at hs
  split at hs
  · rename_i hc
    cases hs
    rcases hok with ⟨-, idx, hd, hm⟩ | ⟨h100, -⟩
    · refine am_liftN (M' := am_new M (0, t) (am_nf t)) (cn := 1) (w := am_nf t) hc.2.1 hc.2.1 rfl rfl (fun C r f h z hc1 hs1 k => ?_) k
      have hfs : ∀ x, x < am_nf t → defaultValue (am_ty t x) = vp_V (am_fs G (am_new M (0, t) (am_nf t)) (am_n M + 1) t) x := by
        intro x hx
        unfold vp_V
        rw [List.getD_eq_getElem?_getD, am_fs_get hx]
        have e1 : am_i (am_new M (0, t) (am_nf t)) (am_n M + 1) x = 0 := (r.2.2.2.2.1 (am_n M + 1) (by omega) x).1
        have e2 : am_r (am_new M (0, t) (am_nf t)) (am_n M + 1) x = none := (r.2.2.2.2.1 (am_n M + 1) (by omega) x).2.1
        have e3 : am_j (am_new M (0, t) (am_nf t)) (am_n M + 1) x = 0 := (r.2.2.2.2.1 (am_n M + 1) (by omega) x).2.2
        have h5 := am_ty5 t hc.1 x hx
        show _ = am_fv G _ _ _ _
        unfold am_fv
        rw [e1, e2, e3]
        split at h5 <;> simp_all [defaultValue, va_rf]
      refine va_new (Ts := u_ws (am_cn t) (am_T t) (am_nf t)) C.1 C.2.1 (fun w hw => C.2.2.2.2.1 w (am_wf _ hc.1 w hw) (am_ulay w hw)) (fun _ h => h) (am_ty t) (am_tyok _ hc.1) C.2.2.2.1 (C.2.2.2.2.1 _ hm rfl) (C.2.2.2.2.1 _ (am_in _ hc.1) rfl) (C.2.2.2.2.1 _ (am_ini _ hc.1) rfl) C.2.2.2.2.2.2.2.2.1.1 r.1 am_wsD f (fun q hq => Nat.le_trans (am_ges C.2.2.2.2.2.2.2.2.2.1) hq) (am_cl _ hc.1) hfs hc1 hs1 hd (fun q H1 p1 d1 s1 => ?_)
      refine am_bound (fun hz => ?_)
      have hq : q < H1.size := (p1 (am_ws G M).length (q, _) (by rw [List.getElem?_append_right (by omega), Nat.sub_self]; rfl)).lt
      have hq := am_fresh d1 (by omega)
      subst hq
      have k1 := k H1 _ ⟨by rw [am_ws_new, am_cellO am_k_new]; exact p1, am_wm_new r.2 hc.2.2 (by show 0 ≤ 5; decide) (by show t < _; omega)⟩ s1
      rw [show List.map (am_sv G) (Value.ref (am_n M + 1) :: S) = .ref (am_ad G (am_n M + 1)) :: S.map (am_sv G) from rfl, am_ad_new hc.2.2] at k1
      exact k1
    · omega
  · cases hs
theorem am_arrcls {s : State} {tys : List (ClassId × FieldType)} {ty : FieldType} {cA cB : ClassId} {D : va_G} {cl : List vw_C} {t0 : Nat} (hK : va_K D cl tys s) (h0 : tys[t0]? = some (cA, ty)) (hK' : va_K D cl (tys ++ [(cB, ty)]) s) : cB = cA := by
  have h1 := (hK.2 t0 _ h0).2
  have h2 := (hK'.2 tys.length (cB, ty) (by rw [List.getElem?_append_right (Nat.le_refl _), Nat.sub_self]; rfl)).2
  unfold va_RA at h1 h2
  cases ty with
  | object C =>
    obtain ⟨_, _, -, -, -, e1⟩ := h1
    obtain ⟨_, _, -, -, -, e2⟩ := h2
    exact Option.some.inj (e2.symm.trans e1)
  | _ => exact Option.some.inj (h2.symm.trans h1)
theorem am_acI : Cond.arrayClass .int ∈ lw_tbl := am_mem 174 (by decide +kernel)
theorem am_acZ : Cond.arrayClass .boolean ∈ lw_tbl := am_mem 392 (by decide +kernel)
theorem am_acJ : Cond.arrayClass .long ∈ lw_tbl := am_mem 2027 (by decide +kernel)
theorem am_newa {n : Int32} {t : Nat} {at_ : ArrayType} {ty : FieldType} (a0 : Nat → vp_A) (hd : decode (am_cc j) pc = .ok (.newarray at_, 2)) (hw : Cond.arrayClass ty ∈ lw_tbl) (hty : newarray.typeOf at_ = ty) (htys : (am_tys G)[t]? = some (am_cA G t, ty)) (ht : t < 3) (hg : am_g M = 0) (hn9 : am_n M < 900000) (hn : 0 ≤ n) (hn2 : n.toNatClampNeg ≤ 10000) (hcb : componentBytes ty ≤ 8) (hcell : ∀ (cA : ClassId) (N : Nat), vp_cell cA (a0 N) = arrV cA N (fun _ => defaultValue ty))
    (harr : ∀ (M' : am_M) (a N : Nat), (∀ k, am_i M' a k = 0 ∧ am_r M' a k = none ∧ am_j M' a k = 0) → am_arr G M' a (t + 1) N = .inl (am_cA G t, a0 N)) (k : am_W G d j o MF (pc + 2) L (.ref (am_n M + 1) :: S) (am_new M (t + 1, n.toNatClampNeg) n.toNatClampNeg)) : am_W G d j o MF pc L (.int n :: S) M := by
  refine am_liftN (M' := am_new M (t + 1, n.toNatClampNeg) n.toNatClampNeg) (cn := 1) (w := n.toNatClampNeg) hg hg rfl rfl (fun C r f h z hc1 hs1 k => ?_) k
  refine va_newa (a0 := a0 n.toNatClampNeg) C.1 C.2.1 (by rw [hty]; exact C.2.2.2.2.1 _ hw rfl) hty C.2.2.2.2.2.2.2.2.1.1 r.1 am_wsD f (fun q hq => Nat.le_trans (am_ges C.2.2.2.2.2.2.2.2.2.1) hq) (fun cA => hcell cA _) (am_not0 hn) rfl (Nat.le_trans (Nat.mul_le_mul hn2 hcb) (by decide)) hc1 hs1 hd (fun q cA H1 k1 p1 d1 s1 => ?_)
  refine am_bound (fun hz => ?_)
  have e1 := am_arrcls C.2.2.2.2.2.2.2.2.1.1 htys k1
  subst e1
  have hq : q < H1.size := (p1 (am_ws G M).length (q, _) (by rw [List.getElem?_append_right (by omega), Nat.sub_self]; rfl)).lt
  have hq := am_fresh d1 (by omega)
  subst hq
  have k1 := k H1 _ ⟨by rw [am_ws_new, am_cellA am_k_new, harr (am_new M (t + 1, n.toNatClampNeg) n.toNatClampNeg) _ _ (fun k => r.2.2.2.2.1 (am_n M + 1) (by omega) k)]; exact p1, am_wm_new r.2 hn9 (by show t + 1 ≤ 5; omega) (by show n.toNatClampNeg < _; omega)⟩ s1
  rw [show List.map (am_sv G) (Value.ref (am_n M + 1) :: S) = .ref (am_ad G (am_n M + 1)) :: S.map (am_sv G) from rfl, am_ad_new hn9] at k1
  exact k1
theorem am_s_newarray {t : ArrayType} (ha : am_at j pc = some (.newarray t, len)) (hs : am_st (.newarray t) pc len L S M = some (pc', L', S', M')) (k : am_W G d j o MF pc' L' S' M') : am_W G d j o MF pc L S M := by
  obtain ⟨hok, hln⟩ := am_at_ok ha
  have hl9 : len = 2 := by simpa [am_ln] using hln
  subst hl9
  have hd := am_okp' (i := .newarray t) rfl hok
  simp only [am_st] at hs
  split at hs
  · split at hs
    · rename_i hc
      split at hs
      · cases hs
        exact am_newa (t := 0) (fun N => (N, .inl (fun _ => 0))) hd am_acI rfl rfl (by decide) hc.1 hc.2.1 hc.2.2.1 hc.2.2.2 (by decide) (fun _ _ => rfl) (fun M' a N h => by show Sum.inl (_, N, Sum.inl (am_i M' a)) = _; rw [show am_i M' a = fun _ => 0 from funext fun k => (h k).1]) k
      · cases hs
        exact am_newa (t := 1) (fun N => (N, .inl (fun _ => 0))) hd am_acZ rfl rfl (by decide) hc.1 hc.2.1 hc.2.2.1 hc.2.2.2 (by decide) (fun _ _ => rfl) (fun M' a N h => by show Sum.inl (_, N, Sum.inl (am_i M' a)) = _; rw [show am_i M' a = fun _ => 0 from funext fun k => (h k).1]) k
      · cases hs
        exact am_newa (t := 2) (fun N => (N, .inr (.inl (fun _ => 0)))) hd am_acJ rfl rfl (by decide) hc.1 hc.2.1 hc.2.2.1 hc.2.2.2 (by decide) (fun _ _ => rfl) (fun M' a N h => by show Sum.inl (_, N, Sum.inr (Sum.inl (am_j M' a))) = _; rw [show am_j M' a = fun _ => 0 from funext fun k => (h k).2.2]) k
      · cases hs
    · cases hs
  · cases hs
theorem am_s_anewarray {t : Nat} (ha : am_at j pc = some (.anewarray t, len)) (hs : am_st (.anewarray t) pc len L S M = some (pc', L', S', M')) (k : am_W G d j o MF pc' L' S' M') : am_W G d j o MF pc L S M := by
  obtain ⟨hok, hln⟩ := am_at_ok ha
  have hl9 : len = 3 := by simpa [am_ln] using hln
  subst hl9
  obtain ⟨rfl, idx, hd, hm⟩ := hok
  simp only [am_st] at hs
  split at hs
  · split at hs
    · rename_i n S0 hc
      cases hs
      refine am_liftN (M' := am_new M (4, n.toNatClampNeg) n.toNatClampNeg) (cn := 1) (w := n.toNatClampNeg) hc.1 hc.1 rfl rfl (fun C r f h z hc1 hs1 k => ?_) k
      refine va_newq (C := "SaltMinds$Minds") C.1 C.2.1 C.2.2.2.1 (C.2.2.2.2.1 _ hm rfl) C.2.2.2.2.2.2.2.2.1.2.2.2.1 C.2.2.2.2.2.2.2.2.1.1 r.1 am_wsD f (fun q hq => Nat.le_trans (am_ges C.2.2.2.2.2.2.2.2.2.1) hq) (am_not0 hc.2.2.1) rfl (by have := hc.2.2.2; omega) hc1 hs1 hd (fun q cA H1 k1 p1 d1 s1 => ?_)
      refine am_bound (fun hz => ?_)
      have e1 := am_arrcls (t0 := 3) C.2.2.2.2.2.2.2.2.1.1 rfl k1
      subst e1
      have hq : q < H1.size := (p1 (am_ws G M).length (q, _) (by rw [List.getElem?_append_right (by omega), Nat.sub_self]; rfl)).lt
      have hq := am_fresh d1 (by omega)
      subst hq
      have he : am_arr G (am_new M (4, n.toNatClampNeg) n.toNatClampNeg) (am_n M + 1) (3 + 1) n.toNatClampNeg = .inl (am_cA G 3, n.toNatClampNeg, .inr (.inr (.inr (.inr (fun _ => none))))) := by
        show Sum.inl (_, _, Sum.inr (Sum.inr (Sum.inr (Sum.inr (fun i => (am_r M (am_n M + 1) i).map (am_ad G)))))) = _
        rw [show (fun i => (am_r M (am_n M + 1) i).map (am_ad G)) = fun _ => none from funext fun k => by rw [(r.2.2.2.2.1 (am_n M + 1) (by omega) k).2.1]; rfl]
      have k1 := k H1 _ ⟨by rw [am_ws_new, am_cellA (t := 3) am_k_new, he]; exact p1, am_wm_new r.2 hc.2.1 (by show 4 ≤ 5; decide) (by show n.toNatClampNeg < _; have := hc.2.2.2; omega)⟩ s1
      rw [show List.map (am_sv G) (Value.ref (am_n M + 1) :: S0) = .ref (am_ad G (am_n M + 1)) :: S0.map (am_sv G) from rfl, am_ad_new hc.2.1] at k1
      exact k1
    · cases hs
  · cases hs
end AMN
section AMR
variable {G : am_G} {d j : Nat} {o : am_O} {MF : am_M} {pc pc' len : Nat} {L L' S S' : List Value} {M M' : am_M}
theorem am_s_iaload (ha : am_at j pc = some (.iaload, len)) (hs : am_st .iaload pc len L S M = some (pc', L', S', M')) (k : am_W G d j o MF pc' L' S' M') : am_W G d j o MF pc L S M := by
  obtain ⟨hok, hln⟩ := am_at_ok ha
  have hl9 : len = 1 := by simpa [am_ln] using hln
  subst hl9
  have hd := am_okp' (i := .iaload) rfl hok
  simp only [am_st] at hs
  split at hs
  · split at hs
    · rename_i hc
      rename_i i a S0
      obtain ⟨hk, hi⟩ := hc
      cases hs
      rcases hk with hk | hk
      · skip
        have hk' : am_k M a = (0 + 1, (am_k M a).2) := Prod.ext hk rfl
        refine am_lift (fun C r f h k => ?_) k
        obtain ⟨g1, g2⟩ := am_rng r.2 (by rw [hk]; decide)
        have he := am_ws_get (G := G) g1 g2 r.2.2.2.2.2.2.1
        rw [am_cellA hk'] at he
        exact va_iald C.1 C.2.1 C.2.2.2.2.2.2.2.2.1.1 r.1 (a - 1) 0 he rfl (am_ixin hi) hd k
      · have h0 : a = 0 ∨ ¬ a = 0 := Decidable.em _
        refine am_lift (fun C r f h k => ?_) k
        rcases h0 with h0 | h0
        · subst h0
          have hk2 := r.2.1
          rw [hk2] at hi
          have hlt : i.toNatClampNeg < am_L G := by unfold am_ix at hi; simp only [Bool.and_eq_true, decide_eq_true_eq] at hi; exact hi.2
          obtain ⟨-, -, -, hX, hb, hz, -⟩ := C.2.2.2.2.2.2.2.2.2.1
          rw [r.2.2.1 _ hlt] at k
          exact va_sld C.1 C.2.1 hX (Nat.lt_of_lt_of_le hb hz) (Nat.not_le.mpr hb) f (am_ixin hi) hd k
        · by_cases hn : a ≤ am_n M
          · have := r.2.2.2.2.2.1 a (Nat.pos_of_ne_zero h0) hn
            omega
          · rw [r.2.2.2.1 a (Nat.lt_of_not_le hn)] at hk
            exact absurd hk (by decide)
    · cases hs
  · cases hs
theorem am_s_baload (ha : am_at j pc = some (.baload, len)) (hs : am_st .baload pc len L S M = some (pc', L', S', M')) (k : am_W G d j o MF pc' L' S' M') : am_W G d j o MF pc L S M := by
  obtain ⟨hok, hln⟩ := am_at_ok ha
  have hl9 : len = 1 := by simpa [am_ln] using hln
  subst hl9
  have hd := am_okp' (i := .baload) rfl hok
  simp only [am_st] at hs
  split at hs
  · split at hs
    · rename_i hc
      rename_i i a S0
      obtain ⟨hk, hi⟩ := hc
      cases hs
      have hk' : am_k M a = (1 + 1, (am_k M a).2) := Prod.ext hk rfl
      refine am_lift (fun C r f h k => ?_) k
      obtain ⟨g1, g2⟩ := am_rng r.2 (by rw [hk]; decide)
      have he := am_ws_get (G := G) g1 g2 r.2.2.2.2.2.2.1
      rw [am_cellA hk'] at he
      exact va_zald C.1 C.2.1 C.2.2.2.2.2.2.2.2.1.1 r.1 (a - 1) 1 he rfl (am_ixin hi) hd k
    · cases hs
  · cases hs
theorem am_s_laload (ha : am_at j pc = some (.laload, len)) (hs : am_st .laload pc len L S M = some (pc', L', S', M')) (k : am_W G d j o MF pc' L' S' M') : am_W G d j o MF pc L S M := by
  obtain ⟨hok, hln⟩ := am_at_ok ha
  have hl9 : len = 1 := by simpa [am_ln] using hln
  subst hl9
  have hd := am_okp' (i := .laload) rfl hok
  simp only [am_st] at hs
  split at hs
  · split at hs
    · rename_i hc
      rename_i i a S0
      obtain ⟨hk, hi⟩ := hc
      cases hs
      have hk' : am_k M a = (2 + 1, (am_k M a).2) := Prod.ext hk rfl
      refine am_lift (fun C r f h k => ?_) k
      obtain ⟨g1, g2⟩ := am_rng r.2 (by rw [hk]; decide)
      have he := am_ws_get (G := G) g1 g2 r.2.2.2.2.2.2.1
      rw [am_cellA hk'] at he
      exact va_lald C.1 C.2.1 C.2.2.2.2.2.2.2.2.1.1 r.1 (a - 1) 2 he rfl (am_ixin hi) hd k
    · cases hs
  · cases hs
theorem am_s_aaload (ha : am_at j pc = some (.aaload, len)) (hs : am_st .aaload pc len L S M = some (pc', L', S', M')) (k : am_W G d j o MF pc' L' S' M') : am_W G d j o MF pc L S M := by
  obtain ⟨hok, hln⟩ := am_at_ok ha
  have hl9 : len = 1 := by simpa [am_ln] using hln
  subst hl9
  have hd := am_okp' (i := .aaload) rfl hok
  simp only [am_st] at hs
  split at hs
  · split at hs
    · rename_i hc
      rename_i i a S0
      obtain ⟨hk, hi⟩ := hc
      obtain ⟨b, hb, h2⟩ := Option.bind_eq_some_iff.mp hs
      cases h2
      rcases hk with hk | hk
      · have hk' : am_k M a = (3 + 1, (am_k M a).2) := Prod.ext hk rfl
        refine am_lift (fun C r f h k => ?_) k
        obtain ⟨g1, g2⟩ := am_rng r.2 (by rw [hk]; decide)
        have he := am_ws_get (G := G) g1 g2 r.2.2.2.2.2.2.1
        rw [am_cellA hk'] at he
        refine va_aldq (C := "SaltMinds$Minds") C.1 C.2.1 C.2.2.2.2.2.2.2.2.1.1 r.1 (a - 1) 3 he rfl (am_ixin hi) hd ?_
        rw [hb]
        exact k
      · have hk' : am_k M a = (4 + 1, (am_k M a).2) := Prod.ext hk rfl
        refine am_lift (fun C r f h k => ?_) k
        obtain ⟨g1, g2⟩ := am_rng r.2 (by rw [hk]; decide)
        have he := am_ws_get (G := G) g1 g2 r.2.2.2.2.2.2.1
        rw [am_cellA hk'] at he
        have hin := am_ixin hi
        have hlt : i.toNatClampNeg < (am_k M a).2 := Nat.not_le.mp fun q => hin (Or.inr q)
        refine W.aald (v := va_rf ((am_r M a i.toNatClampNeg).map (am_ad G))) (ty := .array .int) C.1 C.2.1 (r.1 (a - 1) _ he) ((C.2.2.2.2.2.2.2.2.1.1.2 4 _ rfl).1 (am_k M a).2 (fun j => va_rf ((am_r M a j).map (am_ad G)))) rfl (fun q => by cases q) (by show ¬ (i < 0 ∨ (arrV _ _ _).slots.size ≤ _); rw [arrV_size]; exact hin) (by show (arrV _ _ _).slots[_]? = _; rw [arrV_read _ _ hlt]) rfl rfl hd ?_
        rw [hb]
        exact k
    · cases hs
  · cases hs
theorem am_s_iastore (ha : am_at j pc = some (.iastore, len)) (hs : am_st .iastore pc len L S M = some (pc', L', S', M')) (k : am_W G d j o MF pc' L' S' M') : am_W G d j o MF pc L S M := by
  obtain ⟨hok, hln⟩ := am_at_ok ha
  have hl9 : len = 1 := by simpa [am_ln] using hln
  subst hl9
  have hd := am_okp' (i := .iastore) rfl hok
  simp only [am_st] at hs
  split at hs
  · split at hs
    · rename_i hc
      rename_i x i a S0
      obtain ⟨hk, hi⟩ := hc
      cases hs
      have hk' : am_k M a = (0 + 1, (am_k M a).2) := Prod.ext hk rfl
      refine am_liftM (M' := am_si M a i.toNatClampNeg x) rfl (fun C r f h k => ?_) k
      obtain ⟨g1, g2⟩ := am_rng r.2 (by rw [hk]; decide)
      have he := am_ws_get (G := G) g1 g2 r.2.2.2.2.2.2.1
      rw [am_cellA hk'] at he
      refine va_iast C.1 C.2.1 C.2.2.2.2.2.2.2.2.1.1 r.1 am_wsD f (a - 1) 0 he rfl (am_ixin hi) hd (fun H1 locs1 p1 _ s1 => k H1 locs1 (am_arrset (M' := am_si M a i.toNatClampNeg x) r.2 rfl rfl hk' (by decide) (fun y hy k => am_up_ne hy) (fun _ _ _ => rfl) (fun _ _ _ => rfl) ?_ p1) s1)
      have hfun : am_i (am_si M a i.toNatClampNeg x) a = upd (am_i M a) i.toNatClampNeg x := by
        funext y
        show am_up (am_i M) a i.toNatClampNeg x a y = _
        by_cases hy : y = i.toNatClampNeg <;> simp [am_up, upd, hy]
      show Sum.inl (_, _, Sum.inl (am_i (am_si M a i.toNatClampNeg x) a)) = _
      rw [hfun]
    · cases hs
  · cases hs
theorem am_s_bastore (ha : am_at j pc = some (.bastore, len)) (hs : am_st .bastore pc len L S M = some (pc', L', S', M')) (k : am_W G d j o MF pc' L' S' M') : am_W G d j o MF pc L S M := by
  obtain ⟨hok, hln⟩ := am_at_ok ha
  have hl9 : len = 1 := by simpa [am_ln] using hln
  subst hl9
  have hd := am_okp' (i := .bastore) rfl hok
  simp only [am_st] at hs
  split at hs
  · split at hs
    · rename_i hc
      rename_i x i a S0
      obtain ⟨hk, hi, hx⟩ := hc
      cases hs
      have hnx : vp_nar .boolean x = x := by rcases hx with h | h <;> subst h <;> decide
      have hk' : am_k M a = (1 + 1, (am_k M a).2) := Prod.ext hk rfl
      refine am_liftM (M' := am_si M a i.toNatClampNeg x) rfl (fun C r f h k => ?_) k
      obtain ⟨g1, g2⟩ := am_rng r.2 (by rw [hk]; decide)
      have he := am_ws_get (G := G) g1 g2 r.2.2.2.2.2.2.1
      rw [am_cellA hk'] at he
      refine va_zast C.1 C.2.1 C.2.2.2.2.2.2.2.2.1.1 r.1 am_wsD f (a - 1) 1 he rfl (am_ixin hi) hd (fun H1 locs1 p1 _ s1 => k H1 locs1 (am_arrset (M' := am_si M a i.toNatClampNeg x) r.2 rfl rfl hk' (by decide) (fun y hy k => am_up_ne hy) (fun _ _ _ => rfl) (fun _ _ _ => rfl) ?_ p1) s1)
      rw [hnx]
      have hfun : am_i (am_si M a i.toNatClampNeg x) a = upd (am_i M a) i.toNatClampNeg x := by
        funext y
        show am_up (am_i M) a i.toNatClampNeg x a y = _
        by_cases hy : y = i.toNatClampNeg <;> simp [am_up, upd, hy]
      show Sum.inl (_, _, Sum.inl (am_i (am_si M a i.toNatClampNeg x) a)) = _
      rw [hfun]
    · cases hs
  · cases hs
theorem am_s_lastore (ha : am_at j pc = some (.lastore, len)) (hs : am_st .lastore pc len L S M = some (pc', L', S', M')) (k : am_W G d j o MF pc' L' S' M') : am_W G d j o MF pc L S M := by
  obtain ⟨hok, hln⟩ := am_at_ok ha
  have hl9 : len = 1 := by simpa [am_ln] using hln
  subst hl9
  have hd := am_okp' (i := .lastore) rfl hok
  simp only [am_st] at hs
  split at hs
  · split at hs
    · rename_i hc
      rename_i x i a S0
      obtain ⟨hk, hi⟩ := hc
      cases hs
      have hk' : am_k M a = (2 + 1, (am_k M a).2) := Prod.ext hk rfl
      refine am_liftM (M' := am_sj M a i.toNatClampNeg x) rfl (fun C r f h k => ?_) k
      obtain ⟨g1, g2⟩ := am_rng r.2 (by rw [hk]; decide)
      have he := am_ws_get (G := G) g1 g2 r.2.2.2.2.2.2.1
      rw [am_cellA hk'] at he
      refine va_last C.1 C.2.1 C.2.2.2.2.2.2.2.2.1.1 r.1 am_wsD f (a - 1) 2 he rfl (am_ixin hi) hd (fun H1 locs1 p1 _ s1 => k H1 locs1 (am_arrset (M' := am_sj M a i.toNatClampNeg x) r.2 rfl rfl hk' (by decide) (fun _ _ _ => rfl) (fun _ _ _ => rfl) (fun y hy k => am_up_ne hy) ?_ p1) s1)
      have hfun : am_j (am_sj M a i.toNatClampNeg x) a = vp_updL (am_j M a) i.toNatClampNeg x := by
        funext y
        show am_up (am_j M) a i.toNatClampNeg x a y = _
        by_cases hy : y = i.toNatClampNeg <;> simp [am_up, vp_updL, hy]
      show Sum.inl (_, _, Sum.inr (Sum.inl (am_j (am_sj M a i.toNatClampNeg x) a))) = _
      rw [hfun]
    · cases hs
  · cases hs
theorem am_s_aastore (ha : am_at j pc = some (.aastore, len)) (hs : am_st .aastore pc len L S M = some (pc', L', S', M')) (k : am_W G d j o MF pc' L' S' M') : am_W G d j o MF pc L S M := by
  obtain ⟨hok, hln⟩ := am_at_ok ha
  have hl9 : len = 1 := by simpa [am_ln] using hln
  subst hl9
  have hd := am_okp' (i := .aastore) rfl hok
  simp only [am_st] at hs
  split at hs
  · split at hs
    · rename_i hc
      rename_i x i a S0
      obtain ⟨hk, hi, hx⟩ := hc
      cases hs
      have hk' : am_k M a = (3 + 1, (am_k M a).2) := Prod.ext hk rfl
      refine am_liftM (M' := am_sr M a i.toNatClampNeg (some x)) rfl (fun C r f h k => ?_) k
      obtain ⟨g1, g2⟩ := am_rng r.2 (by rw [hk]; decide)
      have he := am_ws_get (G := G) g1 g2 r.2.2.2.2.2.2.1
      rw [am_cellA hk'] at he
      obtain ⟨f1, f2⟩ := am_rng r.2 (a := x) (by rw [hx]; decide)
      have hx2 := am_ws_get (G := G) f1 f2 r.2.2.2.2.2.2.1
      rw [am_cellO hx] at hx2
      refine va_astq (r := (RX4, TX4, 7)) C.1 C.2.1 C.2.2.2.2.2.2.2.2.1.1 r.1 am_wsD f (a - 1) 3 (x - 1) 4 he rfl hx2 rfl (am_ixin hi) hd (fun H1 locs1 p1 _ s1 => k H1 locs1 (am_arrset (M' := am_sr M a i.toNatClampNeg (some x)) r.2 rfl rfl hk' (by decide) (fun _ _ _ => rfl) (fun y hy k => am_up_ne hy) (fun _ _ _ => rfl) ?_ p1) s1)
      have hfun : (fun y => (am_r (am_sr M a i.toNatClampNeg (some x)) a y).map (am_ad G)) = va_up (fun y => (am_r M a y).map (am_ad G)) i.toNatClampNeg (some (am_ad G x)) := by
        funext y
        show (am_up (am_r M) a i.toNatClampNeg (some x) a y).map (am_ad G) = _
        by_cases hy : y = i.toNatClampNeg <;> simp [am_up, va_up, hy]
      show Sum.inl (_, _, Sum.inr (Sum.inr (Sum.inr (Sum.inr (fun y => (am_r (am_sr M a i.toNatClampNeg (some x)) a y).map (am_ad G)))))) = _
      rw [hfun]
    · cases hs
  · cases hs
theorem am_s_arraylength (ha : am_at j pc = some (.arraylength, len)) (hs : am_st .arraylength pc len L S M = some (pc', L', S', M')) (k : am_W G d j o MF pc' L' S' M') : am_W G d j o MF pc L S M := by
  obtain ⟨hok, hln⟩ := am_at_ok ha
  have hl9 : len = 1 := by simpa [am_ln] using hln
  subst hl9
  have hd := am_okp' (i := .arraylength) rfl hok
  simp only [am_st] at hs
  split at hs
  · split at hs
    · rename_i hc
      rename_i a S0
      cases hs
      by_cases h7 : (am_k M a).1 = 7
      · have h0 : a = 0 ∨ ¬ a = 0 := Decidable.em _
        refine am_lift (fun C r f h k => ?_) k
        rcases h0 with h0 | h0
        · subst h0
          obtain ⟨-, -, -, hX, hb, hz, -⟩ := C.2.2.2.2.2.2.2.2.2.1
          rw [r.2.1] at k
          exact va_slen C.1 C.2.1 hX (Nat.lt_of_lt_of_le hb hz) (Nat.not_le.mpr hb) f hd k
        · by_cases hn : a ≤ am_n M
          · have := r.2.2.2.2.2.1 a (Nat.pos_of_ne_zero h0) hn
            omega
          · rw [r.2.2.2.1 a (Nat.lt_of_not_le hn)] at h7
            exact absurd h7 (by decide)
      · refine am_lift (fun C r f h k => ?_) k
        by_cases h5 : (am_k M a).1 ≤ 5
        · obtain ⟨g1, g2⟩ := am_rng r.2 h5
          have he := am_ws_get (G := G) g1 g2 r.2.2.2.2.2.2.1
          have hk' : am_k M a = ((am_k M a).1 - 1 + 1, (am_k M a).2) := Prod.ext (by show _ = (am_k M a).1 - 1 + 1; omega) rfl
          rw [am_cellA hk'] at he
          generalize hq : (am_k M a).1 - 1 = q at he hk'
          have hq5 : q < 5 := by omega
          match q, hq5 with
          | 0, _ => exact va_alen C.1 C.2.1 C.2.2.2.2.2.2.2.2.1.1 r.1 (a - 1) 0 he rfl rfl hd k
          | 1, _ => exact va_alen C.1 C.2.1 C.2.2.2.2.2.2.2.2.1.1 r.1 (a - 1) 1 he rfl rfl hd k
          | 2, _ => exact va_alen C.1 C.2.1 C.2.2.2.2.2.2.2.2.1.1 r.1 (a - 1) 2 he rfl rfl hd k
          | 3, _ => exact va_alen C.1 C.2.1 C.2.2.2.2.2.2.2.2.1.1 r.1 (a - 1) 3 he rfl rfl hd k
          | 4, _ => exact va_alen C.1 C.2.1 C.2.2.2.2.2.2.2.2.1.1 r.1 (a - 1) 4 he rfl rfl hd k
        · by_cases h0 : a = 0
          · subst h0
            exact absurd (by rw [r.2.1]) h7
          · by_cases hn : a ≤ am_n M
            · have := r.2.2.2.2.2.1 a (Nat.pos_of_ne_zero h0) hn
              omega
            · have := r.2.2.2.1 a (Nat.lt_of_not_le hn)
              rw [this] at hc
              exact absurd hc (by decide)
    · cases hs
  · cases hs
end AMR
