/-! The strings at the entry. -/
section GV
variable {args : Array Value} {s : State} {A : Nat → Prop}
def gN : List Cond := flatC (Jvm.Cond.and given_1 narrow_1)
def stT (q : String × Nat × String) : Term := .string q.1 q.2.1
def stV (q : String × Nat × String) : Term := .field (stT q) "java/lang/String" "value" "[B"
def stB (q : String × Nat × String) : List Int32 := q.2.2.toList.map (fun c => Int32.ofNat c.toNat)
def stA (q : String × Nat × String) : List Cond := Cond.exactly (stT q) "java/lang/String" :: Cond.eq (.field (stT q) "java/lang/String" "coder" "B") (.int 0) :: Cond.arrayOf (stV q) .byte :: Cond.eq (.length (stV q)) (.int (Int32.ofNat q.2.2.length)) :: (List.range q.2.2.length).map (fun j => Cond.eq (.elem (stV q) (.int (Int32.ofNat j))) (.int ((stB q).getD j 0)))
theorem stA_all : gN.drop 37 = am_str.flatMap stA := by decide +kernel
theorem st_mem {q : String × Nat × String} (hq : q ∈ am_str) {c : Cond} (hc : c ∈ stA q) : c ∈ gN := by
  have h : c ∈ am_str.flatMap stA := List.mem_flatMap.mpr ⟨q, hq, hc⟩
  rw [← stA_all] at h
  exact List.mem_of_mem_drop h
theorem st_31 : am_str.length = 31 := rfl
theorem st_one (hgv : ∀ c ∈ gN, c.before args s = true) (hA : ∀ a : Nat, a < s.heap.size → ¬ A a) {k : Nat} {q : String × Nat × String} (hk : am_str[k]? = some q) : ∃ z : Nat × Nat, (stT q).eval args s none [] s = some (.ref z.1) ∧ va_O "java/lang/String" z.1 A s s.heap ∧ va_OF "java/lang/String" "coder" "B" (.int 0) z.1 A s s.heap ∧ va_OF "java/lang/String" "value" "[B" (.ref z.2) z.1 A s s.heap ∧ va_T .byte z.2 (am_len.getD k 0) (fun j => .int ((am_byt.getD k []).getD j 0)) A s s.heap := by
  have hq : q ∈ am_str := List.mem_of_getElem? hk
  have hk31 : k < 31 := (List.getElem?_eq_some_iff.mp hk).1
  have el : am_len.getD k 0 = q.2.2.length := by unfold am_len; rw [List.getD_eq_getElem?_getD, List.getElem?_map, hk]; rfl
  have eb : am_byt.getD k [] = stB q := by unfold am_byt; rw [List.getD_eq_getElem?_getD, List.getElem?_map, hk]; rfl
  have hl31 : q.2.2.length < 2 ^ 31 := by rw [← el]; exact am_lens k hk31
  have hin : ∀ c ∈ stA q, c.before args s = true := fun c hc => hgv c (st_mem hq hc)
  obtain ⟨adK, adV, hS, he⟩ := vk_Sof (args := args) (s := s) (N := 1) (tm := fun _ => stT q) (len := [q.2.2.length]) (byt := [stB q]) (A := A)
    (fun i hi => by obtain rfl : i = 0 := by omega
                    exact hl31)
    (fun i hi => hin _ List.mem_cons_self)
    (fun i hi => hin _ (List.mem_cons_of_mem _ List.mem_cons_self))
    (fun i hi => hin _ (List.mem_cons_of_mem _ (List.mem_cons_of_mem _ List.mem_cons_self)))
    (fun i hi => by obtain rfl : i = 0 := by omega
                    exact hin _ (List.mem_cons_of_mem _ (List.mem_cons_of_mem _ (List.mem_cons_of_mem _ List.mem_cons_self))))
    (fun i hi j hj => by obtain rfl : i = 0 := by omega
                         exact hin _ (List.mem_cons_of_mem _ (List.mem_cons_of_mem _ (List.mem_cons_of_mem _ (List.mem_cons_of_mem _ (List.mem_map.mpr ⟨j, List.mem_range.mpr hj, rfl⟩))))))
    (fun i j hi hj hij => absurd (show i = j by omega) hij) hA
  refine ⟨(adK 0, adV 0), he 0 (by omega), (hS.1 0 (by omega)).1, (hS.1 0 (by omega)).2.1, (hS.1 0 (by omega)).2.2.1, ?_⟩
  rw [el, eb]
  exact (hS.1 0 (by omega)).2.2.2
theorem st_apart : ∀ i, i < 31 → ∀ j, j < 31 → i ≠ j → ¬ Int32.ofNat (am_len.getD i 0) = Int32.ofNat (am_len.getD j 0) ∨ (List.range (am_len.getD i 0)).any (fun p => decide (p < am_len.getD j 0) && decide (¬ (am_byt.getD i []).getD p 0 = (am_byt.getD j []).getD p 0)) = true := by decide +kernel
theorem st_all (hgv : ∀ c ∈ gN, c.before args s = true) (hA : ∀ a : Nat, a < s.heap.size → ¬ A a) : ∃ adK adV : Nat → Nat, vk_S am_str.length am_len am_byt adK adV A s s.heap ∧ ∀ (k : Nat) (q : String × Nat × String), am_str[k]? = some q → (stT q).eval args s none [] s = some (.ref (adK k)) := by
  have h0 : ∀ k : Nat, ∃ z : Nat × Nat, ∀ q : String × Nat × String, am_str[k]? = some q → (stT q).eval args s none [] s = some (.ref z.1) ∧ va_O "java/lang/String" z.1 A s s.heap ∧ va_OF "java/lang/String" "coder" "B" (.int 0) z.1 A s s.heap ∧ va_OF "java/lang/String" "value" "[B" (.ref z.2) z.1 A s s.heap ∧ va_T .byte z.2 (am_len.getD k 0) (fun j => .int ((am_byt.getD k []).getD j 0)) A s s.heap := by
    intro k
    cases hk : am_str[k]? with
    | none => exact ⟨(0, 0), fun q h => by cases h⟩
    | some q =>
      obtain ⟨z, hz⟩ := st_one hgv hA hk
      exact ⟨z, fun q' h => by cases h; exact hz⟩
  have h1 : ∀ i : Nat, i < 31 → va_O "java/lang/String" (Classical.choose (h0 i)).1 A s s.heap ∧ va_OF "java/lang/String" "coder" "B" (.int 0) (Classical.choose (h0 i)).1 A s s.heap ∧ va_OF "java/lang/String" "value" "[B" (.ref (Classical.choose (h0 i)).2) (Classical.choose (h0 i)).1 A s s.heap ∧ va_T .byte (Classical.choose (h0 i)).2 (am_len.getD i 0) (fun j => .int ((am_byt.getD i []).getD j 0)) A s s.heap := by
    intro i hi
    obtain ⟨q, hq⟩ : ∃ q, am_str[i]? = some q := ⟨_, List.getElem?_eq_getElem (show i < am_str.length from hi)⟩
    exact (Classical.choose_spec (h0 i) q hq).2
  refine ⟨fun k => (Classical.choose (h0 k)).1, fun k => (Classical.choose (h0 k)).2, ⟨fun i hi => h1 i hi, fun i j hi hj e => ?_⟩, fun k q hk => (Classical.choose_spec (h0 k) q hk).1⟩
  have e : (Classical.choose (h0 i)).1 = (Classical.choose (h0 j)).1 := e
  by_cases hij : i = j
  · exact hij
  · exfalso
    obtain ⟨-, -, o1, t1⟩ := h1 i hi
    obtain ⟨-, -, o2, t2⟩ := h1 j hj
    rw [e] at o1
    obtain ⟨cf, kc, fi, f, cell, a1, -, a3, -, a5, -⟩ := o1
    obtain ⟨cf', kc', fi', f', cell', b1, -, b3, -, b5, -⟩ := o2
    have e1 := Option.some.inj (a1.symm.trans b1)
    simp only [Prod.mk.injEq] at e1
    obtain ⟨-, -, -, rfl⟩ := e1
    obtain rfl := Option.some.inj (a3.symm.trans b3)
    have e2 : (Classical.choose (h0 i)).2 = (Classical.choose (h0 j)).2 := by
      have := Option.some.inj (a5.symm.trans b5)
      exact Value.ref.inj this
    rw [e2] at t1
    obtain ⟨c1, p1, -, -, p4, p5, p6, -⟩ := t1
    obtain ⟨c2, q1, -, -, q4, q5, q6, -⟩ := t2
    obtain rfl := Option.some.inj (p1.symm.trans q1)
    rcases st_apart i hi j hj hij with h | h
    · exact h (p5.symm.trans q5)
    · obtain ⟨p, hp, hpp⟩ := List.any_eq_true.mp h
      rw [Bool.and_eq_true, decide_eq_true_eq, decide_eq_true_eq] at hpp
      have := Option.some.inj ((p6 p (List.mem_range.mp hp)).symm.trans (q6 p hpp.1))
      exact hpp.2 (Value.int.inj this)
end GV
