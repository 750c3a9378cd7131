/-! What holds at the entry: tables, strings, statics. -/
section GW
variable {args : Array Value} {s : State}
def sr_ix : List Nat := [747, 814, 884, 897, 898, 907, 916, 929, 949, 951, 952, 953, 954, 955, 956, 968, 969, 1023, 1041, 1042, 1054, 1059, 1104, 1116, 1140, 1162, 1174, 1216, 1251, 1299, 1307]
theorem sr_all : ∀ k : Fin 31, (am_str[k.val]?).map (fun q => Cond.stringRef q.1 q.2.1 q.2.2) = lw_tbl[sr_ix.getD k.val 0]? := by decide +kernel
theorem sr_mem {k i : Nat} {o t : String} (h : am_str[k]? = some (o, i, t)) : Cond.stringRef o i t ∈ lw_tbl := by
  have hk : k < 31 := (List.getElem?_eq_some_iff.mp h).1
  have := sr_all ⟨k, hk⟩
  dsimp only at this
  rw [h, Option.map_some] at this
  exact List.mem_of_getElem? this.symm
theorem aoM : Cond.arrayOver (.object "SaltMinds$Minds") ∈ lw_tbl := am_mem 400 (by decide +kernel)
theorem aoI : Cond.arrayOver (.array .int) ∈ lw_tbl := am_mem 427 (by decide +kernel)
theorem lyU : Cond.laysStatic Bundle.tN "UNASSIGNED_STACK" Bundle.steD ∈ lw_tbl := am_mem 734 (by decide +kernel)
theorem lyS : Cond.laysStatic Bundle.tN "SUPPRESSED_SENTINEL" Bundle.listD ∈ lw_tbl := am_mem 736 (by decide +kernel)
theorem lyC : Cond.laysStatic "java/lang/String" "COMPACT_STRINGS" "Z" ∈ lw_tbl := am_mem 828 (by decide +kernel)
theorem lyP : Cond.laysStatic "jdk/internal/util/Preconditions" "SIOOBE_FORMATTER" "Ljava/util/function/BiFunction;" ∈ lw_tbl := am_mem 844 (by decide +kernel)
theorem inT : Cond.initialized Bundle.tN ∈ lw_tbl := am_mem 115 (by decide +kernel)
theorem inS : Cond.initialized "java/lang/String" ∈ lw_tbl := am_mem 119 (by decide +kernel)
theorem inP : Cond.initialized "jdk/internal/util/Preconditions" ∈ lw_tbl := am_mem 121 (by decide +kernel)
theorem gN_m {c : Cond} (i : Nat) (h : gN[i]? = some c) : c ∈ gN := List.mem_of_getElem? h
theorem gn_U : Cond.isRef (.static Bundle.tN "UNASSIGNED_STACK" Bundle.steD) ∈ gN := gN_m 4 (by decide +kernel)
theorem gn_S : Cond.isRef (.static Bundle.tN "SUPPRESSED_SENTINEL" Bundle.listD) ∈ gN := gN_m 5 (by decide +kernel)
theorem gn_C : Cond.eq (.static "java/lang/String" "COMPACT_STRINGS" "Z") (.int 1) ∈ gN := gN_m 6 (by decide +kernel)
theorem gn_P : Cond.isRef (.static "jdk/internal/util/Preconditions" "SIOOBE_FORMATTER" "Ljava/util/function/BiFunction;") ∈ gN := gN_m 7 (by decide +kernel)
theorem gn_N : Cond.not (.castable am_NSE am_IAE) ∈ gN := gN_m 23 (by decide +kernel)
theorem gn_I : Cond.not (.castable am_IAE am_NSE) ∈ gN := gN_m 36 (by decide +kernel)
theorem ent_D (hts : ∀ w ∈ lw_tbl, w.before args s = true) : ∃ D : va_G, ∀ (c : Nat) (q : vw_C), vwCl[c]? = some q → u_Kn s q.1 q.2.1 q.2.2 (D.1 c) (D.2 c) := by
  have h0 : ∀ c : Nat, ∃ z : ClassId × (Nat → Nat), c < 12 → u_Kn s (am_cn c) (am_T c) (am_nf c) z.1 z.2 := by
    intro c
    by_cases hc : c < 12
    · obtain ⟨cC, iS, h⟩ := u_known (C := am_cn c) (T := am_T c) (N := am_nf c) (n := am_nf c) hts (am_wf c hc) (hts _ (am_in c hc))
      exact ⟨(cC, iS), fun _ => h⟩
    · exact ⟨(0, fun _ => 0), fun h => absurd h hc⟩
  refine ⟨(fun c => (Classical.choose (h0 c)).1, fun c => (Classical.choose (h0 c)).2), fun c q hq => ?_⟩
  have hc : c < 12 := (List.getElem?_eq_some_iff.mp hq).1
  rw [am_cl c hc] at hq
  cases hq
  exact Classical.choose_spec (h0 c) hc
theorem ent_A {ty : FieldType} (hne : ∀ C, ty ≠ .object C) (h : (Cond.arrayClass ty).before args s = true) : ∃ cA : ClassId, ArrOfT s cA ty ∧ va_RA s cA ty := by
  obtain ⟨cA, kA, comp, f1, f2, f3⟩ := Cond.arrayClass_spec h
  refine ⟨cA, fun n z => ⟨fun k h => (by cases h), kA, f2, comp, f3⟩, ?_⟩
  cases ty with
  | object C => exact absurd rfl (hne C)
  | _ => exact f1
theorem ent_M (h : (Cond.arrayOver (.object "SaltMinds$Minds")).before args s = true) : ∃ cA : ClassId, ArrOfT s cA (.object "SaltMinds$Minds") ∧ va_RA s cA (.object "SaltMinds$Minds") := by
  obtain ⟨comp, cA, kA, f1, -, f3, f4, f5⟩ := Cond.arrayOver_spec h
  exact ⟨cA, fun n z => ⟨fun k h => (by cases h), kA, f3, comp, f4⟩, kA, comp, f3, f4, f1, f5⟩
theorem ent_G (h : (Cond.arrayOver (.array .int)).before args s = true) : ∃ cA : ClassId, ArrOfT s cA (.array .int) ∧ va_RA s cA (.array .int) := by
  simp only [Cond.before, Cond.holds, Cond.value, beq_iff_eq] at h
  obtain ⟨cm, h0, h1⟩ := Option.bind_eq_some_iff.mp h
  obtain ⟨cA, h2, h3⟩ := Option.bind_eq_some_iff.mp h1
  obtain ⟨kA, hk, hb⟩ := Option.map_eq_some_iff.mp h3
  cases hq : kA.kind with
  | array co ty =>
    rw [hq] at hb
    simp only [Bool.and_eq_true, decide_eq_true_eq] at hb
    exact ⟨cA, fun n z => ⟨fun k h => (by cases h), kA, hk, co, by rw [hq, hb.1]⟩, hb.2⟩
  | _ => rw [hq] at hb; simp at hb
theorem entry {l : Launch} {b L : Nat} {xs : Nat → Int32} (hst : l.stackTraces = false) (hts : ∀ w ∈ lw_tbl, w.before args s = true) (hgv : ∀ c ∈ gN, c.before args s = true) (hX : va_X b L xs s s.heap) (hbl : b < s.heap.size) : ∃ G : am_G, G.1 = l ∧ am_z G = s.heap.size ∧ am_b G = b ∧ am_L G = L ∧ am_xs G = xs ∧ am_E G s ∧ am_EH G s s.heap := by
  have hA : ∀ a : Nat, a < s.heap.size → ¬ (fun q : Nat => s.heap.size ≤ q) a := fun a h q => absurd h (Nat.not_lt.mpr q)
  obtain ⟨adK, adV, hS, hT⟩ := st_all (A := fun q => s.heap.size ≤ q) hgv hA
  obtain ⟨D, hD⟩ := ent_D hts
  obtain ⟨c0, i0, r0⟩ := ent_A (ty := .int) (fun C h => by cases h) (hts _ am_acI)
  obtain ⟨c1, i1, r1⟩ := ent_A (ty := .boolean) (fun C h => by cases h) (hts _ am_acZ)
  obtain ⟨c2, i2, r2⟩ := ent_A (ty := .long) (fun C h => by cases h) (hts _ am_acJ)
  obtain ⟨c3, i3, r3⟩ := ent_M (hts _ aoM)
  obtain ⟨c4, i4, r4⟩ := ent_G (hts _ aoI)
  refine ⟨(l, D, (fun k => match k with | 0 => c0 | 1 => c1 | 2 => c2 | 3 => c3 | _ => c4), (s.heap.size, b, adK), (L, xs)), rfl, rfl, rfl, rfl, rfl, ⟨⟨hD, fun k q hq => ?_⟩, fun w hw hn => ?_, fun k i o t hk => ?_, va_AO.of (hts _ aoM), hts _ aoI, fun w hw hn => ?_, va_Nc.of (hgv _ gn_I), va_Nc.of (hgv _ gn_N), hst⟩, ⟨⟨adV, hS⟩, vx_Zqof (hts _ lyU) (hts _ inT) (hgv _ gn_U) hA, vx_Zqof (hts _ lyS) (hts _ inT) (hgv _ gn_S) hA, hX, hbl, Nat.le_refl _, va_Zof (hts _ lyC) (hts _ inS) (va_eqt (hgv _ gn_C)) hA, va_Zqof (hts _ lyP) (hts _ inP) (hgv _ gn_P) hA⟩⟩
  · match k, hq with
    | 0, hq => cases hq; exact ⟨i0, r0⟩
    | 1, hq => cases hq; exact ⟨i1, r1⟩
    | 2, hq => cases hq; exact ⟨i2, r2⟩
    | 3, hq => cases hq; exact ⟨i3, r3⟩
    | 4, hq => cases hq; exact ⟨i4, r4⟩
    | k + 5, hq => simp [am_tys] at hq
  · cases w <;> simp [am_nst] at hn
    exact va_Nw.of rfl (hts _ hw)
  · exact vk_R.of (hts _ (sr_mem hk)) (hT k _ hk)
  · unfold am_cst at hn
    rw [Bool.and_eq_true] at hn
    exact va_Nw.of hn.2 (hts _ hw)
end GW
