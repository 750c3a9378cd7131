/-! THE TIE between abstract memory and the machine's heap. G: the launch; the numbers of the own kinds and their slots; the numbers of the array kinds (int[], boolean[], long[], Minds[], int[][]); where the run's cells begin, where the script lies, where the strings lie; the script. -/
abbrev am_G : Type := Launch × va_G × (Nat → ClassId) × (Nat × Nat × (Nat → Nat)) × (Nat × (Nat → Int32))
abbrev am_D (G : am_G) : va_G := G.2.1
abbrev am_cA (G : am_G) : Nat → ClassId := G.2.2.1
abbrev am_z (G : am_G) : Nat := G.2.2.2.1.1
abbrev am_b (G : am_G) : Nat := G.2.2.2.1.2.1
abbrev am_sk (G : am_G) : Nat → Nat := G.2.2.2.1.2.2
abbrev am_L (G : am_G) : Nat := G.2.2.2.2.1
abbrev am_xs (G : am_G) : Nat → Int32 := G.2.2.2.2.2
def am_ad (G : am_G) (a : Nat) : Nat := if a = 0 then am_b G else if a < 1000000 then am_z G + (a - 1) else am_sk G (a - 1000000)
def am_sv (G : am_G) : Value → Value
  | .ref a => .ref (am_ad G a)
  | v => v
def am_fv (G : am_G) (M : am_M) (a : Nat) (ty : FieldType) (k : Nat) : Value := match ty with
  | .int => .int (am_i M a k)
  | .boolean => .int (am_i M a k)
  | .long => .long (am_j M a k)
  | _ => va_rf ((am_r M a k).map (am_ad G))
def am_fs (G : am_G) (M : am_M) (a c : Nat) : List Value := (List.range (am_nf c)).map (fun k => am_fv G M a (am_ty c k) k)
def am_arr (G : am_G) (M : am_M) (a t n : Nat) : va_E := match t with
  | 1 => .inl (am_cA G 0, n, .inl (am_i M a))
  | 2 => .inl (am_cA G 1, n, .inl (am_i M a))
  | 3 => .inl (am_cA G 2, n, .inr (.inl (am_j M a)))
  | 4 => .inl (am_cA G 3, n, .inr (.inr (.inr (.inr (fun i => (am_r M a i).map (am_ad G))))))
  | _ => .inl (am_cA G 4, n, .inr (.inr (.inr (.inr (fun i => (am_r M a i).map (am_ad G))))))
def am_cell (G : am_G) (M : am_M) (a : Nat) : va_E := if (am_k M a).1 = 0 then .inr ((am_k M a).2, am_fs G M a (am_k M a).2) else am_arr G M a (am_k M a).1 (am_k M a).2
def am_ws (G : am_G) (M : am_M) : va_W := (List.range (am_n M)).map (fun k => (am_z G + k, am_cell G M (k + 1)))
def am_A (G : am_G) : Nat → Prop := fun q => am_z G ≤ q
def am_tys (G : am_G) : List (ClassId × FieldType) := [(am_cA G 0, .int), (am_cA G 1, .boolean), (am_cA G 2, .long), (am_cA G 3, .object "SaltMinds$Minds"), (am_cA G 4, .array .int)]
def am_wm (G : am_G) (M : am_M) : Prop :=
  am_k M 0 = (7, am_L G) ∧ (∀ i, i < am_L G → am_i M 0 i = am_xs G i) ∧ (∀ a, am_n M < a → am_k M a = (99, 0)) ∧ (∀ a, am_n M < a → ∀ k, am_i M a k = 0 ∧ am_r M a k = none ∧ am_j M a k = 0) ∧ (∀ a, 1 ≤ a → a ≤ am_n M → (am_k M a).1 ≤ 5) ∧ am_n M < 1000000 ∧ am_L G < 2 ^ 31 ∧ ∀ a, 1 ≤ a → (am_k M a).2 < 2 ^ 31
def am_R (G : am_G) (M : am_M) (H : Heap) : Prop := va_P (am_D G) vwCl (am_ws G M) H ∧ am_wm G M
/-- words that the tables keep, and that are not among the good ones: of links within the nest -/
def am_nst : Cond → Bool
  | .methodLinkNest _ _ _ _ => true
  | _ => false
def am_cst (w : Cond) : Bool := w.faceAtom && w.onTables
/-- what holds of the tables all along -/
def am_E (G : am_G) (U : State) : Prop :=
  va_K (am_D G) vwCl (am_tys G) U ∧ (∀ w ∈ lw_tbl, am_nst w = true → va_Nw w U) ∧ (∀ (k i : Nat) (o t : String), am_str[k]? = some (o, i, t) → vk_R o i t (am_sk G k) U) ∧ va_AO "SaltMinds$Minds" U ∧ (Cond.arrayOver (.array .int)).before #[] U = true ∧ (∀ w ∈ lw_tbl, am_cst w = true → va_Nw w U) ∧ va_Nc am_IAE am_NSE U ∧ va_Nc am_NSE am_IAE U ∧ G.1.stackTraces = false
def am_len : List Nat := am_str.map (fun q => q.2.2.length)
def am_byt : List (List Int32) := am_str.map (fun q => q.2.2.toList.map (fun c => Int32.ofNat c.toNat))
/-- what holds of the cells that were there before -/
def am_EH (G : am_G) (U : State) (H : Heap) : Prop :=
  (∃ adV : Nat → Nat, vk_S am_str.length am_len am_byt (am_sk G) adV (am_A G) U H) ∧ vx_Zq Bundle.tN "UNASSIGNED_STACK" Bundle.steD (am_A G) U H ∧ vx_Zq Bundle.tN "SUPPRESSED_SENTINEL" Bundle.listD (am_A G) U H ∧ va_X (am_b G) (am_L G) (am_xs G) U H ∧ am_b G < am_z G ∧ am_z G ≤ H.size ∧ va_Z "java/lang/String" "COMPACT_STRINGS" "Z" (.int 1) (am_A G) U H ∧ va_Zq "jdk/internal/util/Preconditions" "SIOOBE_FORMATTER" "Ljava/util/function/BiFunction;" (am_A G) U H
theorem am_ws_get {G : am_G} {M : am_M} {a : Nat} (h1 : 1 ≤ a) (h2 : a ≤ am_n M) (h3 : am_n M < 1000000) : (am_ws G M)[a - 1]? = some (am_ad G a, am_cell G M a) := by
  unfold am_ws
  rw [List.getElem?_map, List.getElem?_range (by omega)]
  have h4 : a - 1 + 1 = a := by omega
  have h5 : am_ad G a = am_z G + (a - 1) := by
    unfold am_ad
    rw [if_neg (by omega), if_pos (by omega)]
  simp [h4, h5]
theorem am_ws_len {G : am_G} {M : am_M} : (am_ws G M).length = am_n M := by simp [am_ws]
theorem am_wsD {G : am_G} {M : am_M} : va_D (am_A G) (am_ws G M) := by
  refine ⟨?_, ?_⟩
  · intro i j p q hi hj hpq
    unfold am_ws at hi hj
    rw [List.getElem?_map] at hi hj
    obtain ⟨x, hx, rfl⟩ := Option.map_eq_some_iff.mp hi
    obtain ⟨y, hy, rfl⟩ := Option.map_eq_some_iff.mp hj
    have e1 := (List.getElem?_eq_some_iff.mp hx)
    have e2 := (List.getElem?_eq_some_iff.mp hy)
    obtain ⟨l1, e1⟩ := e1
    obtain ⟨l2, e2⟩ := e2
    rw [List.getElem_range] at e1 e2
    have h : am_z G + x = am_z G + y := hpq
    omega
  · intro k q hk
    unfold am_ws at hk
    rw [List.getElem?_map] at hk
    obtain ⟨x, hx, rfl⟩ := Option.map_eq_some_iff.mp hk
    exact Nat.le_add_right _ _
/-- one cell changes -/
theorem am_ws_set {G : am_G} {M M' : am_M} {a : Nat} (h1 : 1 ≤ a) (hn : am_n M' = am_n M) (hl : am_n M < 1000000) (h : ∀ x, x ≠ a → am_cell G M' x = am_cell G M x) : (am_ws G M).set (a - 1) (am_ad G a, am_cell G M' a) = am_ws G M' := by
  apply List.ext_getElem?
  intro k
  by_cases hk : k < am_n M
  · have e2 : (am_ws G M')[k]? = some (am_ad G (k + 1), am_cell G M' (k + 1)) := am_ws_get (a := k + 1) (by omega) (by omega) (by omega)
    by_cases hka : k = a - 1
    · subst hka
      rw [List.getElem?_set_self (by rw [am_ws_len]; exact hk), e2]
      have : a - 1 + 1 = a := by omega
      rw [this]
    · rw [List.getElem?_set_ne (by omega)]
      have e1 : (am_ws G M)[k]? = some (am_ad G (k + 1), am_cell G M (k + 1)) := am_ws_get (a := k + 1) (by omega) (by omega) (by omega)
      rw [e1, e2, h (k + 1) (by omega)]
  · rw [List.getElem?_eq_none (by rw [List.length_set, am_ws_len]; omega), List.getElem?_eq_none (by rw [am_ws_len]; omega)]
/-- one cell more -/
theorem am_ws_push {G : am_G} {M M' : am_M} (hn : am_n M' = am_n M + 1) (h : ∀ x, x ≤ am_n M → am_cell G M' x = am_cell G M x) : am_ws G M' = am_ws G M ++ [(am_z G + am_n M, am_cell G M' (am_n M + 1))] := by
  unfold am_ws
  rw [hn, List.range_succ, List.map_append]
  congr 1
  apply List.map_congr_left
  intro k hk
  rw [h (k + 1) (by have := List.mem_range.mp hk; omega)]
theorem am_up_ne {α : Type} {f : Nat → Nat → α} {a k x y : Nat} {v : α} (h : x ≠ a) : am_up f a k v x y = f x y := if_neg (fun q => h q.1)
theorem am_up_row {α : Type} {f : Nat → Nat → α} {a k x : Nat} {v : α} (h : x ≠ a) : am_up f a k v x = f x := funext fun _ => am_up_ne h
theorem am_cell_congr {G : am_G} {M M' : am_M} {x : Nat} (hk : am_k M' x = am_k M x) (hi : ∀ k, am_i M' x k = am_i M x k) (hr : ∀ k, am_r M' x k = am_r M x k) (hj : ∀ k, am_j M' x k = am_j M x k) : am_cell G M' x = am_cell G M x := by
  have e1 : am_i M' x = am_i M x := funext hi
  have e2 : am_r M' x = am_r M x := funext hr
  have e3 : am_j M' x = am_j M x := funext hj
  have e4 : ∀ c, am_fs G M' x c = am_fs G M x c := by
    intro c
    unfold am_fs
    apply List.map_congr_left
    intro k _
    unfold am_fv
    rw [hi, hr, hj]
  unfold am_cell am_arr
  rw [hk, e1, e2, e3, e4]
