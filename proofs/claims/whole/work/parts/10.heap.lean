/-! Fields and arrays, as rows of the walk. -/
theorem am_finall : (List.range 303).all (fun j => (am_tab j).all (fun q => match q.2.1 with
  | .putfield f => !(am_T (f / 10000) (f % 10000 / 10)).2.2.2 || (decide ((am_y j).name = "<init>") && decide ((am_T (f / 10000) (f % 10000 / 10)).1 = (am_y j).cls))
  | _ => true)) = true := by decide +kernel
theorem am_fin {j pc f len : Nat} (h : am_at j pc = some (.putfield f, len)) (hf : (am_T (f / 10000) (f % 10000 / 10)).2.2.2 = true) : (am_y j).name = "<init>" ∧ (am_T (f / 10000) (f % 10000 / 10)).1 = (am_y j).cls := by
  unfold am_at at h
  obtain ⟨q, hq, he⟩ := Option.map_eq_some_iff.mp h
  have hm := List.mem_of_find?_eq_some hq
  have e1 : q.2 = (.putfield f, len) := he
  have hj : j < 303 := by
    by_cases hj : j < 303
    · exact hj
    · have hN : am_tb.length = 303 := by decide +kernel
      have : am_tab j = [] := by
        unfold am_tab
        rw [List.getD_eq_getElem?_getD, List.getElem?_eq_none (by omega)]; rfl
      rw [this] at hm
      exact absurd hm List.not_mem_nil
  have h3 := List.all_eq_true.mp (List.all_eq_true.mp am_finall j (List.mem_range.mpr hj)) q hm
  rw [e1] at h3
  simp only [hf, Bool.not_true, Bool.false_or, Bool.and_eq_true, decide_eq_true_eq] at h3
  exact h3
theorem am_fok_c {q : Nat} (h : am_fok q = true) : q / 10000 < 12 ∧ q % 10000 / 10 < am_nf (q / 10000) := by
  unfold am_fok at h
  simp only [Bool.and_eq_true, decide_eq_true_eq] at h
  exact h.1
theorem am_rng {G : am_G} {M : am_M} {a : Nat} (h : am_wm G M) (hk : (am_k M a).1 ≤ 5) : 1 ≤ a ∧ a ≤ am_n M := by
  obtain ⟨h0, -, h2, -⟩ := h
  constructor
  · by_cases ha : a = 0
    · subst ha
      rw [h0] at hk
      exact absurd hk (by show ¬ 7 ≤ 5; decide)
    · omega
  · by_cases ha : a ≤ am_n M
    · exact ha
    · rw [h2 a (by omega)] at hk
      exact absurd hk (by show ¬ 99 ≤ 5; decide)
theorem am_ulay {C : String} {T : u_T} {N : Nat} : ∀ w ∈ u_ws C T N, goodWord w = true := by
  intro w hw
  unfold u_ws at hw
  obtain ⟨k, -, rfl⟩ := List.mem_map.mp hw
  unfold u_lay
  split <;> rfl
theorem am_fs_get {G : am_G} {M : am_M} {a c k : Nat} (hk : k < am_nf c) : (am_fs G M a c)[k]? = some (am_fv G M a (am_ty c k) k) := by
  unfold am_fs
  rw [List.getElem?_map, List.getElem?_range hk]
  rfl
theorem am_fs_set {G : am_G} {M M' : am_M} {a c k : Nat} {w : Value} (hk : k < am_nf c) (h1 : ∀ x, x ≠ k → am_fv G M' a (am_ty c x) x = am_fv G M a (am_ty c x) x) (h2 : am_fv G M' a (am_ty c k) k = w) : am_fs G M' a c = (am_fs G M a c).set k w := by
  apply List.ext_getElem?
  intro x
  by_cases hx : x < am_nf c
  · rw [am_fs_get hx]
    by_cases hxk : x = k
    · subst hxk
      rw [List.getElem?_set_self (by simp [am_fs]; exact hx), h2]
    · rw [List.getElem?_set_ne (by omega), am_fs_get hx, h1 x hxk]
  · rw [List.getElem?_eq_none (by simp [am_fs]; omega), List.getElem?_eq_none (by simp [am_fs]; omega)]
theorem am_cellO {G : am_G} {M : am_M} {a c : Nat} (h : am_k M a = (0, c)) : am_cell G M a = .inr (c, am_fs G M a c) := by
  unfold am_cell
  rw [h, if_pos rfl]
theorem am_cellA {G : am_G} {M : am_M} {a t n : Nat} (h : am_k M a = (t + 1, n)) : am_cell G M a = am_arr G M a (t + 1) n := by
  unfold am_cell
  rw [h, if_neg (by show ¬ t + 1 = 0; omega)]
theorem am_ixin {i : Int32} {n : Nat} (h : am_ix i n = true) : vp_in i n := by
  unfold am_ix at h
  simp only [Bool.and_eq_true, decide_eq_true_eq] at h
  rintro (q | q)
  · exact absurd h.1 (Int32.not_le.mpr q)
  · omega
theorem am_wm_si {G : am_G} {M M' : am_M} (h : am_wm G M) (h1 : M'.1 = M.1) (h2 : am_k M' = am_k M) {a : Nat} (ha : 1 ≤ a ∧ a ≤ am_n M) (hi : ∀ x, x ≠ a → ∀ k, am_i M' x k = am_i M x k) (hr : ∀ x, x ≠ a → ∀ k, am_r M' x k = am_r M x k) (hj : ∀ x, x ≠ a → ∀ k, am_j M' x k = am_j M x k) : am_wm G M' := by
  obtain ⟨w1, w2, w3, w4, w5, w6, w7⟩ := h
  have hn : am_n M' = am_n M := by show M'.1.1 = M.1.1; rw [h1]
  refine ⟨by rw [h2]; exact w1, fun i hh => by rw [hi 0 (by omega)]; exact w2 i hh, fun x hx => by rw [h2]; exact w3 x (by omega), fun x hx k => ?_, fun x hx hx2 => by rw [h2]; exact w5 x hx (by omega), by omega, by rw [h2]; exact w7⟩
  rw [hi x (by omega), hr x (by omega), hj x (by omega)]
  exact w4 x (by omega) k
section AMH
variable {G : am_G} {d j : Nat} {o : am_O} {MF : am_M} {pc pc' len : Nat} {L L' S S' : List Value} {M M' : am_M}
theorem am_getf {q a : Nat} {v : Value} (hok : am_ok j pc (.getfield q) 3) (hf : am_fok q = true) (hk : am_k M a = (0, q / 10000)) (hv : am_fv G M a (am_ty (q / 10000) (q % 10000 / 10)) (q % 10000 / 10) = am_sv G v) (k : am_W G d j o MF (pc + 3) L (v :: S) M) : am_W G d j o MF pc L (.ref a :: S) M := by
  obtain ⟨idx, hd, hm⟩ := hok
  obtain ⟨hc, hn⟩ := am_fok_c hf
  refine am_lift (fun C r f h k => ?_) k
  obtain ⟨rP, rw_⟩ := r
  obtain ⟨h1, h2⟩ := am_rng rw_ (by rw [hk]; exact Nat.zero_le _)
  have he := am_ws_get (G := G) h1 h2 rw_.2.2.2.2.2.1
  rw [am_cellO hk] at he
  exact va_get (Ts := u_ws (am_cn (q / 10000)) (am_T (q / 10000)) (am_nf (q / 10000))) C.1 C.2.1 (fun w hw => C.2.2.2.2.1 w (am_wf _ hc w hw) (am_ulay w hw)) (fun _ h => h) C.2.2.2.1 C.2.2.2.2.2.2.2.2.1.1 rP (a - 1) he (am_cl _ hc) (q % 10000 / 10) hn (C.2.2.2.2.1 _ hm rfl) (fun _ h => h) (by rw [am_fs_get hn, hv]) hd k

theorem am_putf {q a : Nat} {v : Value} (ha : am_at j pc = some (.putfield q, 3)) (hf : am_fok q = true) (hk : am_k M a = (0, q / 10000)) (h1 : M'.1 = M.1) (h2 : am_k M' = am_k M) (hi : ∀ x, x ≠ a → ∀ k, am_i M' x k = am_i M x k) (hr : ∀ x, x ≠ a → ∀ k, am_r M' x k = am_r M x k) (hj : ∀ x, x ≠ a → ∀ k, am_j M' x k = am_j M x k)
    (hfs : am_fs G M' a (q / 10000) = (am_fs G M a (q / 10000)).set (q % 10000 / 10) (am_sv G v)) (hn : narrow (am_ty (q / 10000) (q % 10000 / 10)) (am_sv G v) = am_sv G v) (hft : fits (am_ty (q / 10000) (q % 10000 / 10)) (am_sv G v) = true) (k : am_W G d j o MF (pc + 3) L S M') : am_W G d j o MF pc L (v :: .ref a :: S) M := by
  obtain ⟨idx, hd, hm⟩ := (am_at_ok ha).1
  obtain ⟨hc, hn0⟩ := am_fok_c hf
  refine am_liftM h1 (fun C r f h k => ?_) k
  obtain ⟨rP, rw_⟩ := r
  obtain ⟨g1, g2⟩ := am_rng rw_ (by rw [hk]; exact Nat.zero_le _)
  have he := am_ws_get (G := G) g1 g2 rw_.2.2.2.2.2.1
  rw [am_cellO hk] at he
  have hw' : am_wm G M' := am_wm_si rw_ h1 h2 ⟨g1, g2⟩ hi hr hj
  have hws : (am_ws G M).set (a - 1) (am_ad G a, .inr (q / 10000, (am_fs G M a (q / 10000)).set (q % 10000 / 10) (am_sv G v))) = am_ws G M' := by
    have hn' : am_n M' = am_n M := by show M'.1.1 = M.1.1; rw [h1]
    rw [← hfs, ← am_cellO (G := G) (M := M') (a := a) (by rw [h2]; exact hk)]
    exact am_ws_set g1 hn' rw_.2.2.2.2.2.1 (fun x hx => am_cell_congr (by rw [h2]) (hi x hx) (hr x hx) (hj x hx))
  have hlen : q % 10000 / 10 < (am_fs G M a (q / 10000)).length := by simp [am_fs]; exact hn0
  by_cases hfin : (am_T (q / 10000) (q % 10000 / 10)).2.2.2 = true
  · obtain ⟨hin, hdc⟩ := am_fin ha hfin
    refine va_putF (Ts := u_ws (am_cn (q / 10000)) (am_T (q / 10000)) (am_nf (q / 10000))) C.1 C.2.1 (fun w hw => C.2.2.2.2.1 w (am_wf _ hc w hw) (am_ulay w hw)) (fun _ h => h) (am_ty (q / 10000)) (am_tyok _ hc) (am_nm _ hc) C.2.2.2.1 C.2.2.2.2.2.2.2.2.1.1 rP am_wsD f (a - 1) he (am_cl _ hc) (q % 10000 / 10) hn0 (C.2.2.2.2.1 _ hm rfl) (fun _ h => h) hfin (C.2.2.2.2.2.2.2.1.trans hin) hdc (am_tyok _ hc _ hn0) hn hft hlen hd (fun H1 locs1 p1 _ s1 => k H1 locs1 ⟨by rw [← hws]; exact p1, hw'⟩ s1)
  · refine va_put (Ts := u_ws (am_cn (q / 10000)) (am_T (q / 10000)) (am_nf (q / 10000))) C.1 C.2.1 (fun w hw => C.2.2.2.2.1 w (am_wf _ hc w hw) (am_ulay w hw)) (fun _ h => h) (am_ty (q / 10000)) (am_tyok _ hc) (am_nm _ hc) C.2.2.2.1 C.2.2.2.2.2.2.2.2.1.1 rP am_wsD f (a - 1) he (am_cl _ hc) (q % 10000 / 10) hn0 (C.2.2.2.2.1 _ hm rfl) (fun _ h => h) (by simpa using hfin) (am_tyok _ hc _ hn0) hn hft hlen hd (fun H1 locs1 p1 _ s1 => k H1 locs1 ⟨by rw [← hws]; exact p1, hw'⟩ s1)
/-- a cell of an array is written: what came of it is the new memory's -/
theorem am_arrset {a t n : Nat} {E : va_E} {H1 : Heap} (hw : am_wm G M) (h1 : M'.1 = M.1) (h2 : am_k M' = am_k M) (hk : am_k M a = (t + 1, n)) (ht : t < 5) (hi : ∀ x, x ≠ a → ∀ k, am_i M' x k = am_i M x k) (hr : ∀ x, x ≠ a → ∀ k, am_r M' x k = am_r M x k) (hj : ∀ x, x ≠ a → ∀ k, am_j M' x k = am_j M x k) (hE : am_arr G M' a (t + 1) n = E) (hP : va_P (am_D G) vwCl ((am_ws G M).set (a - 1) (am_ad G a, E)) H1) : am_R G M' H1 := by
  obtain ⟨g1, g2⟩ := am_rng hw (by rw [hk]; show t + 1 ≤ 5; omega)
  refine ⟨?_, am_wm_si hw h1 h2 ⟨g1, g2⟩ hi hr hj⟩
  have hn' : am_n M' = am_n M := by show M'.1.1 = M.1.1; rw [h1]
  rw [← am_ws_set (G := G) (M := M) (a := a) g1 hn' hw.2.2.2.2.2.1 (fun x hx => am_cell_congr (by rw [h2]) (hi x hx) (hr x hx) (hj x hx)), am_cellA (G := G) (M := M') (by rw [h2]; exact hk), hE]
  exact hP
theorem am_s_getfield {q : Nat} (ha : am_at j pc = some (.getfield q, len)) (hs : am_st (.getfield q) pc len L S M = some (pc', L', S', M')) (k : am_W G d j o MF pc' L' S' M') : am_W G d j o MF pc L S M := by
  obtain ⟨hok, hln⟩ := am_at_ok ha
  have hl9 : am_fok q = true ∧ len = 3 := by simpa [am_ln] using hln
  obtain ⟨hf, rfl⟩ := hl9
  simp only [am_st] at hs
  split at hs
  · split at hs
    · rename_i a S0 hk
      have hty := hf
      unfold am_fok at hty
      simp only [Bool.and_eq_true, decide_eq_true_eq] at hty
      obtain ⟨-, hty⟩ := hty
      split at hs
      · rename_i hq
        obtain ⟨b, hb, h2⟩ := Option.bind_eq_some_iff.mp hs
        cases h2
        refine am_getf hok hf hk ?_ k
        unfold am_fv
        split at hty <;> simp_all [am_sv, va_rf]
      · rename_i hq
        cases hs
        refine am_getf hok hf hk ?_ k
        unfold am_fv
        split at hty <;> simp_all [am_sv]
      · rename_i hq1 hq2
        cases hs
        refine am_getf hok hf hk ?_ k
        unfold am_fv
        split at hty <;> simp_all [am_sv]
    · cases hs
  · cases hs
theorem am_s_putfield {q : Nat} (ha : am_at j pc = some (.putfield q, len)) (hs : am_st (.putfield q) pc len L S M = some (pc', L', S', M')) (k : am_W G d j o MF pc' L' S' M') : am_W G d j o MF pc L S M := by
  obtain ⟨hok, hln⟩ := am_at_ok ha
  have hl9 : am_fok q = true ∧ len = 3 := by simpa [am_ln] using hln
  obtain ⟨hf, rfl⟩ := hl9
  obtain ⟨hc, hn0⟩ := am_fok_c hf
  have hty := hf
  unfold am_fok at hty
  simp only [Bool.and_eq_true, decide_eq_true_eq] at hty
  obtain ⟨-, hty⟩ := hty
  simp only [am_st] at hs
  split at hs
  · split at hs
    · rename_i x a S0 hk
      obtain ⟨hk, hx⟩ := hk
      cases hs
      refine am_putf (M' := am_si M a (q % 10000 / 10) x) ha hf hk rfl rfl (fun y hy k => am_up_ne hy) (fun _ _ _ => rfl) (fun _ _ _ => rfl) ?_ ?_ ?_ k
      · refine am_fs_set hn0 (fun y hy => ?_) ?_
        · simp [am_fv, am_i, am_r, am_j, am_up, hy]
        · unfold am_fv
          split at hty <;> simp_all [am_sv, am_up, am_i]
      · split at hty <;> simp_all [am_sv, narrow]
        all_goals (rcases hx with h | h <;> subst h <;> decide)
      · split at hty <;> simp_all [am_sv, fits]
        all_goals (rcases hx with h | h <;> subst h <;> decide)
    · cases hs
  · split at hs
    · rename_i x a S0 hk
      obtain ⟨hk, hx⟩ := hk
      cases hs
      refine am_putf (M' := am_sr M a (q % 10000 / 10) (some x)) ha hf hk rfl rfl (fun _ _ _ => rfl) (fun y hy k => am_up_ne hy) (fun _ _ _ => rfl) ?_ ?_ ?_ k
      · refine am_fs_set hn0 (fun y hy => ?_) ?_
        · simp [am_fv, am_i, am_r, am_j, am_up, hy]
        · unfold am_fv
          split at hty <;> simp_all [am_sv, am_up, am_r, va_rf]
      · split at hty <;> simp_all [am_sv, narrow]
      · split at hty <;> simp_all [am_sv, fits]
    · cases hs
  · split at hs
    · rename_i x a S0 hk
      obtain ⟨hk, hx⟩ := hk
      cases hs
      refine am_putf (M' := am_sj M a (q % 10000 / 10) x) ha hf hk rfl rfl (fun _ _ _ => rfl) (fun _ _ _ => rfl) (fun y hy k => am_up_ne hy) ?_ ?_ ?_ k
      · refine am_fs_set hn0 (fun y hy => ?_) ?_
        · simp [am_fv, am_i, am_r, am_j, am_up, hy]
        · unfold am_fv
          split at hty <;> simp_all [am_sv, am_up, am_j]
      · split at hty <;> simp_all [am_sv, narrow]
      · split at hty <;> simp_all [am_sv, fits]
    · cases hs
  · cases hs
end AMH
