/-! A rule's text: the machine of steps that wait, and what holds in it. -/
section FE
variable {n : Nat} {B : Nat → Nat} {s i j f d r k : Nat} {H : List Nat}
abbrev Cd := Nat × (Nat → Int32)
abbrev Ft := Nat × Nat
def ap (c : Cd) (v : Int32) : Cd := (c.1 + 1, fun i => if i = c.1 then v else c.2 i)
def sg (a : Nat) : Nat := if a = 9 then 1 else if a = 10 then 2 else if a = 8 then 3 else if a = 11 ∨ a = 12 then 4 else if a = 13 ∨ a = 14 then 5 else if a = 15 ∨ a = 16 then 6 else 0
def tp (H : List Nat) : Nat := match H with
  | [] => 0
  | a :: _ => sg a
def stl (k : Nat) : List Nat → Cd → List Nat × Cd
  | [], c => ([], c)
  | a :: H, c => if k ≤ sg a then stl k H (ap c (am_c (-(a : Int)))) else (a :: H, c)
def jt (n : Nat) (B : Nat → Nat) (s : Nat) : Nat := if kw n B s = 14 then 9 else if kw n B s = 13 then 10 else if isS n B s 60 = true then 11 else if isS n B s 61 = true then 12 else if isS n B s 43 = true then 13 else if isS n B s 45 = true then 14 else if isS n B s 42 = true then 15 else if isS n B s 47 = true then 16 else 0
/-- where a part must stand -/
def xP (n : Nat) (B : Nat → Nat) (X : Nat → Bool → Bool → Nat → Nat → List Nat → Cd → Ft ⊕ (Nat × Cd)) (s : Nat) (mn : Bool) (dp nt : Nat) (H : List Nat) (c : Cd) : Ft ⊕ (Nat × Cd) :=
  if ¬ (kd n B s = 2 ∨ kd n B s = 1 ∨ isS n B s 40 = true) then .inl (1, s)
  else if 6 ≤ dp then .inl (2, s)
  else if mn = true ∧ kw n B s = 15 then (if 6 ≤ nt then .inl (2, s) else X (nxp n B s) true mn dp (nt + 1) (8 :: H) c)
  else if isS n B s 40 = true then X (nxp n B s) true true (dp + 1) 0 (17 :: H) c
  else if kd n B s = 2 then (if 4 < lg n B s then .inl (2, s) else X (nxp n B s) false mn dp nt H (ap c (nI (vlp n B s))))
  else if kw n B s < 7 then X (nxp n B s) false mn dp nt H (ap c (am_c (-((kw n B s + 1 : Nat) : Int))))
  else .inl (3, s)
/-- where a part has stood -/
def xJ (n : Nat) (B : Nat → Nat) (X : Nat → Bool → Bool → Nat → Nat → List Nat → Cd → Ft ⊕ (Nat × Cd)) (s : Nat) (mn : Bool) (dp nt : Nat) (H : List Nat) (c : Cd) : Ft ⊕ (Nat × Cd) :=
  if dp = 0 ∧ isS n B s 59 = true then .inr (s, (stl 1 H c).2)
  else if jt n B s = 0 then (if dp = 0 ∨ ¬ isS n B s 41 = true then .inl (1, s) else X (nxp n B s) false mn (dp - 1) nt (stl 1 H c).1.tail (stl 1 H c).2)
  else if sg (jt n B s) = 4 then (if tp (stl 5 H c).1 = 4 then .inl (1, s) else X (nxp n B s) true false dp 0 (jt n B s :: (stl 5 H c).1) (stl 5 H c).2)
  else X (nxp n B s) true (decide (sg (jt n B s) < 4)) dp 0 (jt n B s :: (stl (sg (jt n B s)) H c).1) (stl (sg (jt n B s)) H c).2
def xr (n : Nat) (B : Nat → Nat) : Nat → Nat → Bool → Bool → Nat → Nat → List Nat → Cd → Ft ⊕ (Nat × Cd)
  | 0, s, _, _, _, _, H, c => .inr (s, (stl 1 H c).2)
  | f + 1, s, w, mn, dp, nt, H, c => if w = true then xP n B (xr n B f) s mn dp nt H c else xJ n B (xr n B f) s mn dp nt H c
/-- ranks within a pair of parentheses -/
def rk (r a : Nat) : Prop := (r = 1 ∧ a = 9) ∨ (r = 2 ∧ a = 10) ∨ (3 ≤ r ∧ r ≤ 8 ∧ a = 8) ∨ (r = 9 ∧ (a = 11 ∨ a = 12)) ∨ (r = 10 ∧ (a = 13 ∨ a = 14)) ∨ (r = 11 ∧ (a = 15 ∨ a = 16))
def hk : List Nat → Nat → Nat → Prop
  | [], d, r => d = 0 ∧ r = 0
  | a :: H, d, r => (a = 17 ∧ r = 0 ∧ 1 ≤ d ∧ ∃ r', hk H (d - 1) r') ∨ (¬ a = 17 ∧ rk r a ∧ ∃ r', r' < r ∧ hk H d r')
def nb : List Nat → Nat
  | [] => 0
  | a :: H => (if 9 ≤ a ∧ a ≤ 16 then 1 else 0) + nb H
def bn (r : Nat) : Nat := if r ≤ 2 then r else if r ≤ 8 then 2 else r - 6
def op : List Nat → Nat
  | [] => 0
  | a :: H => (if a = 17 then 1 else 0) + op H
def tf : List Nat → Nat → Bool
  | [], _ => false
  | a :: H, j => if a = 17 then (if j = op H + 1 then false else tf H j) else if a = 11 ∨ a = 12 then (if j = op H then true else tf H j) else tf H j
theorem hk_r : ∀ (H : List Nat) d r, hk H d r → r ≤ 11 := by
  intro H
  cases H with
  | nil => intro d r h; have := h.2; omega
  | cons a H =>
    intro d r h
    rcases h with ⟨_, h, _⟩ | ⟨_, h, _⟩
    · omega
    · unfold rk at h; omega
theorem hk_len : ∀ (H : List Nat) d r, hk H d r → H.length ≤ 12 * d + r := by
  intro H
  induction H with
  | nil => intro d r h; exact Nat.zero_le _
  | cons a H ih =>
    intro d r h
    rw [List.length_cons]
    rcases h with ⟨_, h, h1, r', h2⟩ | ⟨_, h, r', h1, h2⟩
    · have := ih _ _ h2; have := hk_r _ _ _ h2; omega
    · have := ih _ _ h2; omega
theorem hk_op : ∀ (H : List Nat) d r, hk H d r → op H = d := by
  intro H
  induction H with
  | nil => intro d r h; exact h.1.symm
  | cons a H ih =>
    intro d r h
    rw [op]
    rcases h with ⟨ha, h, h1, r', h2⟩ | ⟨ha, h, r', h1, h2⟩
    · have := ih _ _ h2; rw [if_pos ha]; omega
    · have := ih _ _ h2; rw [if_neg ha]; omega
theorem bn_le (h : r ≤ 11) : bn r ≤ 5 := by
  unfold bn
  repeat' split
  all_goals omega
theorem hk_nb : ∀ (H : List Nat) d r, hk H d r → nb H ≤ 5 * d + bn r := by
  intro H
  induction H with
  | nil => intro d r h; exact Nat.zero_le _
  | cons a H ih =>
    intro d r h
    rw [nb]
    rcases h with ⟨ha, h, h1, r', h2⟩ | ⟨ha, h, r', h1, h2⟩
    · have := ih _ _ h2; have := bn_le (hk_r _ _ _ h2)
      rw [if_neg (by omega)]
      omega
    · have := ih _ _ h2
      have h3 := hk_r _ _ _ h2
      unfold rk at h
      unfold bn at *
      rcases h with h | h | h | h | h | h
      all_goals (repeat' split at this)
      all_goals (repeat' split)
      all_goals omega
theorem tf_lo : ∀ (H : List Nat) d r, hk H d r → r ≤ 8 → tf H d = false := by
  intro H
  induction H with
  | nil => intro d r h _; rfl
  | cons a H ih =>
    intro d r h h8
    rw [tf]
    rcases h with ⟨ha, h, h1, r', h2⟩ | ⟨ha, h, r', h1, h2⟩
    · have := hk_op _ _ _ h2
      rw [if_pos ha, if_pos (by omega)]
    · unfold rk at h
      rw [if_neg ha, if_neg (by omega)]
      exact ih _ _ h2 (by omega)
theorem tf_9 (h : hk H d 9) : tf H d = true := by
  cases H with
  | nil => exact absurd h.2 (by decide)
  | cons a H =>
    rw [tf]
    rcases h with ⟨ha, h, _⟩ | ⟨ha, h, r', h1, h2⟩
    · omega
    · unfold rk at h
      have := hk_op _ _ _ h2
      rw [if_neg ha, if_pos (by omega), if_pos this.symm]
/-- only open parentheses and the present pair's tests count -/
theorem tf_cn {a : Nat} (ha : ¬ a = 17) (h : ¬ (a = 11 ∨ a = 12) ∨ ¬ j = op H) : tf (a :: H) j = tf H j := by
  rw [tf, if_neg ha]
  split
  · rename_i q
    rcases h with h | h
    · exact absurd q h
    · rw [if_neg h]
  · rfl
/-- code -/
def okC (c : Cd) (h : Nat) : Prop := (∀ i, i < c.1 → okS (c.2 i) (ht c.2 i)) ∧ ht c.2 c.1 = h
theorem ht_cg {g g' : Nat → Int32} : ∀ m, (∀ i, i < m → g i = g' i) → ht g m = ht g' m := by
  intro m
  induction m with
  | zero => intro _; rfl
  | succ m ih => intro h; rw [ht, ht, ih (fun i hi => h i (by omega)), h m (by omega)]
theorem ps_cg {g g' : Nat → Int32} : ∀ m, (∀ i, i < m → g i = g' i) → ps g m = ps g' m := by
  intro m
  induction m with
  | zero => intro _; rfl
  | succ m ih => intro h; rw [ps, ps, ih (fun i hi => h i (by omega)), h m (by omega)]
theorem ap_lt {c : Cd} {v : Int32} (h : i < c.1) : (ap c v).2 i = c.2 i := by unfold ap; exact if_neg (by omega)
theorem ap_at {c : Cd} {v : Int32} : (ap c v).2 c.1 = v := by unfold ap; exact if_pos rfl
theorem okC_ap {c : Cd} {h : Nat} {v : Int32} (hc : okC c h) (hv : okS v h) : okC (ap c v) (hs v h) := by
  have e : ∀ m, m ≤ c.1 → ht (ap c v).2 m = ht c.2 m := fun m hm => ht_cg m (fun i hi => ap_lt (by omega))
  constructor
  · intro i hi
    have hi' : i < c.1 + 1 := hi
    rw [e i (by omega)]
    by_cases q : i = c.1
    · rw [q, ap_at, hc.2]; exact hv
    · rw [ap_lt (by omega)]; exact hc.1 i (by omega)
  · show ht (ap c v).2 (c.1 + 1) = _
    rw [ht, ap_at, e _ (Nat.le_refl _), hc.2]
theorem ng_a {a : Nat} (h : 8 ≤ a ∧ a ≤ 17) : ¬ am_c (-7) ≤ am_c (-(a : Int)) := by
  rw [t_le, t_c (by omega), t_c (by omega)]; omega
theorem okS_a {a h : Nat} (ha : 8 ≤ a ∧ a ≤ 16) (hh : 1 + (if 9 ≤ a then 1 else 0) ≤ h) : okS (am_c (-(a : Int))) h ∧ hs (am_c (-(a : Int))) h = h - (if 9 ≤ a then 1 else 0) := by
  have hj : a = 8 ∨ a = 9 ∨ a = 10 ∨ a = 11 ∨ a = 12 ∨ a = 13 ∨ a = 14 ∨ a = 15 ∨ a = 16 := by omega
  have hg := ng_a (a := a) (by omega)
  unfold hs
  rw [if_neg hg]
  by_cases h8 : a = 8
  · subst h8
    rw [if_neg (show ¬ 9 ≤ 8 by omega)] at hh ⊢
    rw [if_pos (by decide)]
    exact ⟨Or.inr (Or.inr (Or.inl ⟨by decide, by omega⟩)), rfl⟩
  · rw [if_pos (show 9 ≤ a by omega)] at hh ⊢
    refine ⟨Or.inr (Or.inr (Or.inr ⟨?_, by omega⟩)), ?_⟩
    · unfold isJ
      rcases hj with q | q | q | q | q | q | q | q | q <;> subst q <;> first | omega | decide
    · rw [if_neg]
      rcases hj with q | q | q | q | q | q | q | q | q <;> subst q <;> first | omega | decide
theorem hk_tl {a : Nat} {H : List Nat} (h : hk (a :: H) d r) (ha : 1 ≤ sg a) : ∃ r', r' < r ∧ hk H d r' ∧ 8 ≤ a ∧ a ≤ 16 := by
  rcases h with ⟨h1, _⟩ | ⟨h1, h2, r', h3, h4⟩
  · rw [h1] at ha; exact absurd ha (by decide)
  · refine ⟨r', h3, h4, ?_⟩
    unfold rk at h2
    omega
/-- what is settled -/
theorem stl_ok (hk1 : 1 ≤ k) : ∀ (H : List Nat) (c : Cd) d r, hk H d r → okC c (nb H + 1) → ∃ r', r' ≤ r ∧ hk (stl k H c).1 d r' ∧ okC (stl k H c).2 (nb (stl k H c).1 + 1) ∧ (stl k H c).2.1 + (stl k H c).1.length = c.1 + H.length ∧ tp (stl k H c).1 < k ∧ (∀ j, ¬ j = d → tf (stl k H c).1 j = tf H j) ∧ (5 ≤ k → tf (stl k H c).1 d = tf H d) := by
  intro H
  induction H with
  | nil => intro c d r h hc; exact ⟨r, Nat.le_refl _, h, hc, rfl, hk1, fun _ _ => rfl, fun _ => rfl⟩
  | cons a H ih =>
    intro c d r h hc
    rw [stl]
    split
    · rename_i hs
      obtain ⟨r1, h1, h2, h3, h4⟩ := hk_tl h (by omega)
      rw [nb] at hc
      have hcond : (if 9 ≤ a ∧ a ≤ 16 then 1 else 0) = (if 9 ≤ a then 1 else 0) := by
        by_cases q : 9 ≤ a
        · rw [if_pos q, if_pos ⟨q, h4⟩]
        · rw [if_neg q, if_neg (fun q2 => q q2.1)]
      rw [hcond] at hc
      have hok := okS_a (a := a) (h := (if 9 ≤ a then 1 else 0) + nb H + 1) ⟨h3, h4⟩ (by omega)
      have hc' := okC_ap hc hok.1
      rw [hok.2, show (if 9 ≤ a then 1 else 0) + nb H + 1 - (if 9 ≤ a then 1 else 0) = nb H + 1 by omega] at hc'
      obtain ⟨r2, g1, g2, g3, g4, g5, g6, g7⟩ := ih _ d r1 h2 hc'
      have hop := hk_op _ _ _ h2
      refine ⟨r2, by omega, g2, g3, ?_, g5, fun j hj => ?_, fun q => ?_⟩
      · rw [g4, List.length_cons]; show c.1 + 1 + _ = _; omega
      · rw [g6 j hj, tf_cn (by omega) (Or.inr (by omega))]
      · rw [g7 q, tf_cn (by omega) (Or.inl ?_)]
        unfold sg at hs
        intro q2
        rw [if_neg (by omega), if_neg (by omega), if_neg (by omega), if_pos q2] at hs
        omega
    · rename_i hs
      exact ⟨r, Nat.le_refl _, h, hc, rfl, by show sg a < k; omega, fun _ _ => rfl, fun _ => rfl⟩
/-- the rank of what is left -/
theorem tp_r : ∀ (H : List Nat) d r, hk H d r → (tp H < 1 → r = 0) ∧ (tp H < 2 → r ≤ 1) ∧ (tp H < 5 → r ≤ 9) ∧ (tp H < 6 → r ≤ 10) ∧ (tp H < 5 → ¬ tp H = 4 → r ≤ 8) ∧ (tp H = 4 → r = 9) := by
  intro H d r h
  cases H with
  | nil =>
    have h2 : r = 0 := h.2
    have h3 : tp [] = 0 := rfl
    omega
  | cons a H =>
    have h3 : tp (a :: H) = sg a := rfl
    rw [h3]
    rcases h with ⟨h1, h2, _⟩ | ⟨h1, h2, _⟩
    · rw [h1]
      have : sg 17 = 0 := by decide
      omega
    · unfold rk at h2
      unfold sg
      rcases h2 with h2 | h2 | h2 | h2 | h2 | h2
      all_goals (repeat' split)
      all_goals omega
def xI (s : Nat) (w mn : Bool) (dp nt : Nat) (H : List Nat) (c : Cd) : Prop := ∃ r, hk H dp r ∧ okC c (nb H + if w = true then 0 else 1) ∧ c.1 + H.length ≤ s ∧ dp ≤ 6 ∧ (w = true → mn = true → r ≤ 2 + nt) ∧ (dp = 6 → r = 0 ∧ w = true) ∧ (w = true → nt ≤ 6)
theorem xI_0 : xI s true true 0 0 [] (0, fun _ => nI 0) := ⟨0, ⟨rfl, rfl⟩, ⟨fun i hi => absurd hi (Nat.not_lt_zero _), rfl⟩, Nat.zero_le _, by omega, fun _ _ => by omega, fun h => by omega, fun _ => by omega⟩
theorem xI_len {w mn : Bool} {dp nt : Nat} {c : Cd} (h : xI s w mn dp nt H c) : H.length ≤ 72 ∧ c.1 + H.length ≤ s := by
  obtain ⟨r, h1, -, h2, h3, -, h4, -⟩ := h
  have := hk_len _ _ _ h1
  have := hk_r _ _ _ h1
  refine ⟨?_, h2⟩
  by_cases q : dp = 6
  · have := (h4 q).1; omega
  · omega
theorem xI_not {dp nt : Nat} {c : Cd} {s' : Nat} (h : xI s true true dp nt H c) (hd : dp < 6) (hn : nt < 6) (hs : s < s') : xI s' true true dp (nt + 1) (8 :: H) c := by
  obtain ⟨r, h1, h2, h3, h4, h5, h6, h7⟩ := h
  refine ⟨3 + nt, Or.inr ⟨by omega, ?_, r, ?_, h1⟩, ?_, ?_, h4, fun _ _ => by omega, fun q => by omega, fun _ => by omega⟩
  · unfold rk; omega
  · have := h5 rfl rfl; omega
  · rw [nb, if_neg (by omega), Nat.zero_add]; exact h2
  · rw [List.length_cons]; omega
theorem xI_opn {mn : Bool} {dp nt : Nat} {c : Cd} {s' : Nat} (h : xI s true mn dp nt H c) (hd : dp < 6) (hs : s < s') : xI s' true true (dp + 1) 0 (17 :: H) c := by
  obtain ⟨r, h1, h2, h3, h4, h5, h6, h7⟩ := h
  refine ⟨0, Or.inl ⟨rfl, rfl, by omega, r, h1⟩, ?_, ?_, by omega, fun _ _ => by omega, fun q => ⟨rfl, rfl⟩, fun _ => by omega⟩
  · rw [nb, if_neg (by omega), Nat.zero_add]; exact h2
  · rw [List.length_cons]; omega
theorem xI_leaf {mn : Bool} {dp nt : Nat} {c : Cd} {s' : Nat} {v : Int32} (h : xI s true mn dp nt H c) (hd : dp < 6) (hs' : s < s') (hv : (∃ x : Nat, x ≤ 9999 ∧ v = nI x) ∨ ∃ k : Nat, 1 ≤ k ∧ k ≤ 7 ∧ v = am_c (-(k : Int))) : xI s' false mn dp nt H (ap c v) := by
  obtain ⟨r, h1, h2, h3, h4, h5, h6, h7⟩ := h
  have hb := hk_nb _ _ _ h1
  have hr := hk_r _ _ _ h1
  have hbn : bn r ≤ 5 := by unfold bn; repeat' split
                            all_goals omega
  have h8 : am_c (-7) ≤ v := by
    rcases hv with ⟨x, hx, rfl⟩ | ⟨k, hk1, hk2, rfl⟩
    · rw [t_le, t_nI (by omega), t_c (by omega)]; omega
    · rw [t_le, t_c (by omega), t_c (by omega)]; omega
  have h40 : nb H + 0 < 40 := by omega
  refine ⟨r, h1, ?_, ?_, h4, fun q => Bool.noConfusion q, fun q => by omega, fun q => Bool.noConfusion q⟩
  · have h9 := okC_ap h2 (v := v) (by
      rcases hv with hv | hv
      · exact Or.inl ⟨hv, h40⟩
      · exact Or.inr (Or.inl ⟨hv, h40⟩))
    unfold hs at h9
    rw [if_pos h8] at h9
    exact h9
  · show c.1 + 1 + H.length ≤ s'
    omega
theorem xI_stl {mn : Bool} {dp nt : Nat} {c : Cd} (h : xI s false mn dp nt H c) (hk1 : 1 ≤ k) : ∃ r', hk (stl k H c).1 dp r' ∧ okC (stl k H c).2 (nb (stl k H c).1 + 1) ∧ (stl k H c).2.1 + (stl k H c).1.length ≤ s ∧ tp (stl k H c).1 < k ∧ dp < 6 ∧ (∀ j, ¬ j = dp → tf (stl k H c).1 j = tf H j) ∧ (5 ≤ k → tf (stl k H c).1 dp = tf H dp) := by
  obtain ⟨r, h1, h2, h3, h4, h5, h6, h7⟩ := h
  obtain ⟨r', g1, g2, g3, g4, g5, g6, g7⟩ := stl_ok hk1 H c dp r h1 h2
  refine ⟨r', g2, g3, by omega, g5, ?_, g6, g7⟩
  by_cases q : dp = 6
  · exact Bool.noConfusion (h6 q).2
  · omega
theorem xI_jn {mn : Bool} {dp nt a : Nat} {c : Cd} {s' : Nat} (h : xI s false mn dp nt H c) (ha : 9 ≤ a ∧ a ≤ 16) (h4 : ¬ sg a = 4) (hs : s < s') : xI s' true (decide (sg a < 4)) dp 0 (a :: (stl (sg a) H c).1) (stl (sg a) H c).2 ∧ tp (stl (sg a) H c).1 < sg a := by
  have hsg : 1 ≤ sg a := by
    unfold sg
    repeat' split
    all_goals omega
  obtain ⟨r', g1, g2, g3, g4, g5, -, -⟩ := xI_stl h hsg
  have g6 := tp_r _ _ _ g1
  have key : ∃ R, rk R a ∧ r' < R ∧ (sg a < 4 → R ≤ 2) := by
    have e : a = 9 ∨ a = 10 ∨ a = 11 ∨ a = 12 ∨ a = 13 ∨ a = 14 ∨ a = 15 ∨ a = 16 := by omega
    have e9 : sg 9 = 1 := by decide
    have e10 : sg 10 = 2 := by decide
    have e11 : sg 11 = 4 := by decide
    have e12 : sg 12 = 4 := by decide
    have e13 : sg 13 = 5 := by decide
    have e14 : sg 14 = 5 := by decide
    have e15 : sg 15 = 6 := by decide
    have e16 : sg 16 = 6 := by decide
    unfold rk
    rcases e with q | q | q | q | q | q | q | q <;> subst q
    · exact ⟨1, by omega, by omega, by omega⟩
    · exact ⟨2, by omega, by omega, by omega⟩
    · omega
    · omega
    · exact ⟨10, by omega, by omega, by omega⟩
    · exact ⟨10, by omega, by omega, by omega⟩
    · exact ⟨11, by omega, by omega, by omega⟩
    · exact ⟨11, by omega, by omega, by omega⟩
  obtain ⟨R, k1, k2, k3⟩ := key
  refine ⟨⟨R, Or.inr ⟨by omega, k1, r', k2, g1⟩, ?_, ?_, by omega, fun _ q => ?_, fun q => by omega, fun _ => by omega⟩, g4⟩
  · rw [nb, if_pos ha, Nat.add_comm 1]; exact g2
  · rw [List.length_cons]; omega
  · have := k3 (of_decide_eq_true q); omega
theorem xI_ts {mn : Bool} {dp nt a : Nat} {c : Cd} {s' : Nat} (h : xI s false mn dp nt H c) (ha : a = 11 ∨ a = 12) (h4 : ¬ tp (stl 5 H c).1 = 4) (hs : s < s') : xI s' true false dp 0 (a :: (stl 5 H c).1) (stl 5 H c).2 := by
  obtain ⟨r', g1, g2, g3, g4, g5, -, -⟩ := xI_stl h (k := 5) (by omega)
  have g6 := (tp_r _ _ _ g1).2.2.2.2.1 g4 h4
  refine ⟨9, Or.inr ⟨by omega, by unfold rk; omega, r', by omega, g1⟩, ?_, ?_, by omega, fun _ q => Bool.noConfusion q, fun q => by omega, fun _ => by omega⟩
  · rw [nb, if_pos (by omega), Nat.add_comm 1]; exact g2
  · rw [List.length_cons]; omega
/-- a closing parenthesis: the top is the open one -/
theorem xI_cl {mn : Bool} {dp nt : Nat} {c : Cd} {s' : Nat} (h : xI s false mn dp nt H c) (hd : ¬ dp = 0) (hs : s < s') : (∃ H', (stl 1 H c).1 = 17 :: H') ∧ xI s' false mn (dp - 1) nt (stl 1 H c).1.tail (stl 1 H c).2 := by
  obtain ⟨r', g1, g2, g3, g4, g5, -, -⟩ := xI_stl h (k := 1) (by omega)
  have g6 := (tp_r _ _ _ g1).1 g4
  subst g6
  generalize (stl 1 H c).1 = K at g1 g2 g3 ⊢
  generalize (stl 1 H c).2 = c' at g2 g3 ⊢
  cases K with
  | nil => exact absurd g1.1 hd
  | cons a K =>
    rcases g1 with ⟨k1, k2, k3, R, k4⟩ | ⟨k1, k2, R, k3, k4⟩
    · subst k1
      refine ⟨⟨K, rfl⟩, R, k4, ?_, ?_, by omega, fun q => Bool.noConfusion q, fun q => by omega, fun q => Bool.noConfusion q⟩
      · rw [nb, if_neg (by omega), Nat.zero_add] at g2; exact g2
      · rw [List.length_cons] at g3; show c'.1 + K.length ≤ s'; omega
    · exact absurd k3 (by omega)
/-- the end: nothing waits -/
theorem xI_end {mn : Bool} {nt : Nat} {c : Cd} (h : xI s false mn 0 nt H c) : (stl 1 H c).1 = [] ∧ okC (stl 1 H c).2 1 ∧ (stl 1 H c).2.1 ≤ s := by
  obtain ⟨r', g1, g2, g3, g4, g5, -, -⟩ := xI_stl h (k := 1) (by omega)
  have g6 := (tp_r _ _ _ g1).1 g4
  subst g6
  generalize (stl 1 H c).1 = K at g1 g2 g3 ⊢
  generalize (stl 1 H c).2 = c' at g2 g3 ⊢
  cases K with
  | nil => exact ⟨rfl, g2, by omega⟩
  | cons a K =>
    rcases g1 with ⟨k1, k2, k3, R, k4⟩ | ⟨k1, k2, R, k3, k4⟩
    · omega
    · exact absurd k3 (by omega)
end FE
