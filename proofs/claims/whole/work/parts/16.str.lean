/-! String constants: length and charAt of them. -/
theorem am_sy_len : am_strLen = (⟨"java/lang/String", "length", "()I"⟩ : MethodName) := rfl
def am_sn_len : MethodName := ⟨"java/lang/String", "length", "()I"⟩
abbrev am_sc_len : ByteArray := prog_22_method_54_code
theorem am_sw_len : Cond.code am_sn_len am_sc_len 1 (some (.int)) ∈ lw_tbl := am_mem 822 (by decide +kernel)
theorem am_si_len : Cond.initialized am_sn_len.cls ∈ lw_tbl := am_mem 119 (by decide +kernel)
theorem am_sy_at : am_strAt = (⟨"java/lang/String", "charAt", "(I)C"⟩ : MethodName) := rfl
def am_sn_at : MethodName := ⟨"java/lang/String", "charAt", "(I)C"⟩
abbrev am_sc_at : ByteArray := prog_22_method_56_code
theorem am_sw_at : Cond.code am_sn_at am_sc_at 2 (some (.char)) ∈ lw_tbl := am_mem 832 (by decide +kernel)
theorem am_si_at : Cond.initialized am_sn_at.cls ∈ lw_tbl := am_mem 119 (by decide +kernel)
def am_sn_cod : MethodName := ⟨"java/lang/String", "coder", "()B"⟩
abbrev am_sc_cod : ByteArray := prog_22_method_152_code
theorem am_sw_cod : Cond.code am_sn_cod am_sc_cod 1 (some (.byte)) ∈ lw_tbl := am_mem 826 (by decide +kernel)
theorem am_si_cod : Cond.initialized am_sn_cod.cls ∈ lw_tbl := am_mem 119 (by decide +kernel)
def am_sn_lat : MethodName := ⟨"java/lang/String", "isLatin1", "()Z"⟩
abbrev am_sc_lat : ByteArray := prog_22_method_154_code
theorem am_sw_lat : Cond.code am_sn_lat am_sc_lat 1 (some (.boolean)) ∈ lw_tbl := am_mem 836 (by decide +kernel)
theorem am_si_lat : Cond.initialized am_sn_lat.cls ∈ lw_tbl := am_mem 119 (by decide +kernel)
def am_sn_lch : MethodName := ⟨"java/lang/StringLatin1", "charAt", "([BI)C"⟩
abbrev am_sc_lch : ByteArray := prog_23_method_2_code
theorem am_sw_lch : Cond.code am_sn_lch am_sc_lch 2 (some (.char)) ∈ lw_tbl := am_mem 839 (by decide +kernel)
theorem am_si_lch : Cond.initialized am_sn_lch.cls ∈ lw_tbl := am_mem 120 (by decide +kernel)
def am_sn_chk : MethodName := ⟨"java/lang/String", "checkIndex", "(II)V"⟩
abbrev am_sc_chk : ByteArray := prog_22_method_155_code
theorem am_sw_chk : Cond.code am_sn_chk am_sc_chk 2 (none) ∈ lw_tbl := am_mem 842 (by decide +kernel)
theorem am_si_chk : Cond.initialized am_sn_chk.cls ∈ lw_tbl := am_mem 119 (by decide +kernel)
def am_sn_pre : MethodName := ⟨"jdk/internal/util/Preconditions", "checkIndex", "(IILjava/util/function/BiFunction;)I"⟩
abbrev am_sc_pre : ByteArray := prog_31_method_11_code
theorem am_sw_pre : Cond.code am_sn_pre am_sc_pre 3 (some (.int)) ∈ lw_tbl := am_mem 847 (by decide +kernel)
theorem am_si_pre : Cond.initialized am_sn_pre.cls ∈ lw_tbl := am_mem 121 (by decide +kernel)
theorem am_sl_cod : Cond.methodLink "java/lang/String" 335 am_sn_cod ∈ lw_tbl := am_mem 823 (by decide +kernel)
theorem am_sl_lat : Cond.methodLink "java/lang/String" 492 am_sn_lat ∈ lw_tbl := am_mem 833 (by decide +kernel)
theorem am_sl_lch : Cond.methodLink "java/lang/String" 495 am_sn_lch ∈ lw_tbl := am_mem 837 (by decide +kernel)
theorem am_sl_chk : Cond.methodLink "java/lang/StringLatin1" 9 am_sn_chk ∈ lw_tbl := am_mem 840 (by decide +kernel)
theorem am_sl_pre : Cond.methodLink "java/lang/String" 1059 am_sn_pre ∈ lw_tbl := am_mem 845 (by decide +kernel)
theorem am_sm_len : Cond.instanceMethod am_sn_len ∈ lw_tbl := am_mem 820 (by decide +kernel)
theorem am_ss_len : Cond.selects "java/lang/String" am_sn_len am_sn_len ∈ lw_tbl := am_mem 821 (by decide +kernel)
theorem am_sm_at : Cond.instanceMethod am_sn_at ∈ lw_tbl := am_mem 830 (by decide +kernel)
theorem am_ss_at : Cond.selects "java/lang/String" am_sn_at am_sn_at ∈ lw_tbl := am_mem 831 (by decide +kernel)
theorem am_sm_cod : Cond.instanceMethod am_sn_cod ∈ lw_tbl := am_mem 824 (by decide +kernel)
theorem am_ss_cod : Cond.selects "java/lang/String" am_sn_cod am_sn_cod ∈ lw_tbl := am_mem 825 (by decide +kernel)
theorem am_sm_lat : Cond.instanceMethod am_sn_lat ∈ lw_tbl := am_mem 834 (by decide +kernel)
theorem am_ss_lat : Cond.selects "java/lang/String" am_sn_lat am_sn_lat ∈ lw_tbl := am_mem 835 (by decide +kernel)
theorem am_st_lch : Cond.static am_sn_lch ∈ lw_tbl := am_mem 838 (by decide +kernel)
theorem am_st_chk : Cond.static am_sn_chk ∈ lw_tbl := am_mem 841 (by decide +kernel)
theorem am_st_pre : Cond.static am_sn_pre ∈ lw_tbl := am_mem 846 (by decide +kernel)
theorem am_sf_cmp : Cond.fieldLink "java/lang/String" 38 "java/lang/String" "COMPACT_STRINGS" "Z" ∈ lw_tbl := am_mem 827 (by decide +kernel)
theorem am_sf_val : Cond.fieldLink "java/lang/String" 9 "java/lang/String" "value" "[B" ∈ lw_tbl := am_mem 2045 (by decide +kernel)
theorem am_sf_cod : Cond.fieldLink "java/lang/String" 15 "java/lang/String" "coder" "B" ∈ lw_tbl := am_mem 2046 (by decide +kernel)
theorem am_sf_fmt : Cond.fieldLink "java/lang/String" 1053 "jdk/internal/util/Preconditions" "SIOOBE_FORMATTER" "Ljava/util/function/BiFunction;" ∈ lw_tbl := am_mem 843 (by decide +kernel)
theorem am_sd_len_0 : decode am_sc_len 0 = .ok (.aload_n 0, 1) := by decide +kernel
theorem am_sd_len_1 : decode am_sc_len 1 = .ok (.getfield 9, 3) := by decide +kernel
theorem am_sd_len_4 : decode am_sc_len 4 = .ok (.arraylength, 1) := by decide +kernel
theorem am_sd_len_5 : decode am_sc_len 5 = .ok (.aload_n 0, 1) := by decide +kernel
theorem am_sd_len_6 : decode am_sc_len 6 = .ok (.invokevirtual 335, 3) := by decide +kernel
theorem am_sd_len_9 : decode am_sc_len 9 = .ok (.ishr, 1) := by decide +kernel
theorem am_sd_len_10 : decode am_sc_len 10 = .ok (.ireturn, 1) := by decide +kernel
theorem am_sd_at_0 : decode am_sc_at 0 = .ok (.aload_n 0, 1) := by decide +kernel
theorem am_sd_at_1 : decode am_sc_at 1 = .ok (.invokevirtual 492, 3) := by decide +kernel
theorem am_sd_at_4 : decode am_sc_at 4 = .ok (.ifCond .eq 12, 3) := by decide +kernel
theorem am_sd_at_7 : decode am_sc_at 7 = .ok (.aload_n 0, 1) := by decide +kernel
theorem am_sd_at_8 : decode am_sc_at 8 = .ok (.getfield 9, 3) := by decide +kernel
theorem am_sd_at_11 : decode am_sc_at 11 = .ok (.iload_n 1, 1) := by decide +kernel
theorem am_sd_at_12 : decode am_sc_at 12 = .ok (.invokestatic 495, 3) := by decide +kernel
theorem am_sd_at_15 : decode am_sc_at 15 = .ok (.ireturn, 1) := by decide +kernel
theorem am_sd_at_16 : decode am_sc_at 16 = .ok (.aload_n 0, 1) := by decide +kernel
theorem am_sd_at_17 : decode am_sc_at 17 = .ok (.getfield 9, 3) := by decide +kernel
theorem am_sd_at_20 : decode am_sc_at 20 = .ok (.iload_n 1, 1) := by decide +kernel
theorem am_sd_at_21 : decode am_sc_at 21 = .ok (.invokestatic 498, 3) := by decide +kernel
theorem am_sd_at_24 : decode am_sc_at 24 = .ok (.ireturn, 1) := by decide +kernel
theorem am_sd_cod_0 : decode am_sc_cod 0 = .ok (.getstatic 38, 3) := by decide +kernel
theorem am_sd_cod_3 : decode am_sc_cod 3 = .ok (.ifCond .eq 10, 3) := by decide +kernel
theorem am_sd_cod_6 : decode am_sc_cod 6 = .ok (.aload_n 0, 1) := by decide +kernel
theorem am_sd_cod_7 : decode am_sc_cod 7 = .ok (.getfield 15, 3) := by decide +kernel
theorem am_sd_cod_10 : decode am_sc_cod 10 = .ok (.goto 4, 3) := by decide +kernel
theorem am_sd_cod_13 : decode am_sc_cod 13 = .ok (.iconst 1, 1) := by decide +kernel
theorem am_sd_cod_14 : decode am_sc_cod 14 = .ok (.ireturn, 1) := by decide +kernel
theorem am_sd_lat_0 : decode am_sc_lat 0 = .ok (.getstatic 38, 3) := by decide +kernel
theorem am_sd_lat_3 : decode am_sc_lat 3 = .ok (.ifCond .eq 14, 3) := by decide +kernel
theorem am_sd_lat_6 : decode am_sc_lat 6 = .ok (.aload_n 0, 1) := by decide +kernel
theorem am_sd_lat_7 : decode am_sc_lat 7 = .ok (.getfield 15, 3) := by decide +kernel
theorem am_sd_lat_10 : decode am_sc_lat 10 = .ok (.ifCond .ne 7, 3) := by decide +kernel
theorem am_sd_lat_13 : decode am_sc_lat 13 = .ok (.iconst 1, 1) := by decide +kernel
theorem am_sd_lat_14 : decode am_sc_lat 14 = .ok (.goto 4, 3) := by decide +kernel
theorem am_sd_lat_17 : decode am_sc_lat 17 = .ok (.iconst 0, 1) := by decide +kernel
theorem am_sd_lat_18 : decode am_sc_lat 18 = .ok (.ireturn, 1) := by decide +kernel
theorem am_sd_lch_0 : decode am_sc_lch 0 = .ok (.iload_n 1, 1) := by decide +kernel
theorem am_sd_lch_1 : decode am_sc_lch 1 = .ok (.aload_n 0, 1) := by decide +kernel
theorem am_sd_lch_2 : decode am_sc_lch 2 = .ok (.arraylength, 1) := by decide +kernel
theorem am_sd_lch_3 : decode am_sc_lch 3 = .ok (.invokestatic 9, 3) := by decide +kernel
theorem am_sd_lch_6 : decode am_sc_lch 6 = .ok (.aload_n 0, 1) := by decide +kernel
theorem am_sd_lch_7 : decode am_sc_lch 7 = .ok (.iload_n 1, 1) := by decide +kernel
theorem am_sd_lch_8 : decode am_sc_lch 8 = .ok (.baload, 1) := by decide +kernel
theorem am_sd_lch_9 : decode am_sc_lch 9 = .ok (.sipush 255, 3) := by decide +kernel
theorem am_sd_lch_12 : decode am_sc_lch 12 = .ok (.iand, 1) := by decide +kernel
theorem am_sd_lch_13 : decode am_sc_lch 13 = .ok (.i2c, 1) := by decide +kernel
theorem am_sd_lch_14 : decode am_sc_lch 14 = .ok (.ireturn, 1) := by decide +kernel
theorem am_sd_chk_0 : decode am_sc_chk 0 = .ok (.iload_n 0, 1) := by decide +kernel
theorem am_sd_chk_1 : decode am_sc_chk 1 = .ok (.iload_n 1, 1) := by decide +kernel
theorem am_sd_chk_2 : decode am_sc_chk 2 = .ok (.getstatic 1053, 3) := by decide +kernel
theorem am_sd_chk_5 : decode am_sc_chk 5 = .ok (.invokestatic 1059, 3) := by decide +kernel
theorem am_sd_chk_8 : decode am_sc_chk 8 = .ok (.pop, 1) := by decide +kernel
theorem am_sd_chk_9 : decode am_sc_chk 9 = .ok (.return_, 1) := by decide +kernel
theorem am_sd_pre_0 : decode am_sc_pre 0 = .ok (.iload_n 0, 1) := by decide +kernel
theorem am_sd_pre_1 : decode am_sc_pre 1 = .ok (.ifCond .lt 8, 3) := by decide +kernel
theorem am_sd_pre_4 : decode am_sc_pre 4 = .ok (.iload_n 0, 1) := by decide +kernel
theorem am_sd_pre_5 : decode am_sc_pre 5 = .ok (.iload_n 1, 1) := by decide +kernel
theorem am_sd_pre_6 : decode am_sc_pre 6 = .ok (.if_icmp .lt 10, 3) := by decide +kernel
theorem am_sd_pre_9 : decode am_sc_pre 9 = .ok (.aload_n 2, 1) := by decide +kernel
theorem am_sd_pre_10 : decode am_sc_pre 10 = .ok (.iload_n 0, 1) := by decide +kernel
theorem am_sd_pre_11 : decode am_sc_pre 11 = .ok (.iload_n 1, 1) := by decide +kernel
theorem am_sd_pre_12 : decode am_sc_pre 12 = .ok (.invokestatic 95, 3) := by decide +kernel
theorem am_sd_pre_15 : decode am_sc_pre 15 = .ok (.athrow, 1) := by decide +kernel
theorem am_sd_pre_16 : decode am_sc_pre 16 = .ok (.iload_n 0, 1) := by decide +kernel
theorem am_sd_pre_17 : decode am_sc_pre 17 = .ok (.ireturn, 1) := by decide +kernel
def am_xw (y : MethodName) (cc : ByteArray) (mL : Nat) (rt : Option FieldType) : List Cond := Cond.code y cc mL rt :: lw_tbl.filter goodWord
def am_Px (G : am_G) (av : List Value) (M : am_M) (X : State → Prop) : Array Value → State → Prop := va_Pc av (fun U => am_E G U ∧ am_EH G U U.heap ∧ am_R G M U.heap ∧ X U)
/-- what a body of these knows -/
def am_Cy (G : am_G) (d : Nat) (M : am_M) (X : State → Prop) (y : MethodName) (cc : ByteArray) (mL : Nat) (rt : Option FieldType) (av : List Value) (p : Program) (R : Room) (s : State) (m : MethodId) (meth : Method) (c : Code) (ls : Array Slot) : Prop :=
  p.tables.exec = Jvm.exec ∧ c.code = cc ∧ c.maxLocals = mL ∧ s.vm.findClass y.cls = some m.cls ∧ (∀ w ∈ lw_tbl, goodWord w = true → w.before av.toArray s = true) ∧ meth.sig.returnType = rt ∧ meth.locks = false ∧ am_E G s ∧ am_EH G s s.heap ∧ am_R G M s.heap ∧ X s ∧ d + 6 ≤ R.frames ∧ 60 * d + 300 ≤ R.locals ∧ lv_has ls mL (lv_args 0 av)
theorem am_xmet {G : am_G} {d : Nat} {y : MethodName} {cc : ByteArray} {mL : Nat} {rt : Option FieldType} {av : List Value} {M : am_M} {v : Option Value} {X : State → Prop} (hp : plainName y.cls = true) (hl : (lg_sl av).length ≤ mL)
    (body : ∀ {p : Program} {e : Env} {s : State} {m : MethodId} {below : List Frame} {meth : Method} {c : Code} {ls : Array Slot}, am_Cy G d M X y cc mL rt av p (am_rm d 0 0) s m meth c ls → W p G.1 e (am_rm d 0 0) s m av.toArray below meth c s.heap [] 0 0 (MQ below (am_Q G (.inl v) M) av.toArray s 0 0 (am_A G)) (F0 m 0 ls [])) : Met G.1 y (am_xw y cc mL rt) (am_rm d 0 0) (am_Px G av M X) (am_Q G (.inl v) M) 0 0 (am_A G) := by
  refine Met.ofW (cc := cc) (maxL := mL) (ret := rt) hp rfl ?_
  intro p e s m args below meth c s₁ B hml hv
  obtain ⟨rfl, hE, hEH, hR, hX⟩ := hv
  have hts := atoms_spec (ws := am_xw y cc mL rt) B.pre
  rw [lg_entry_eq]
  exact body ⟨B.exec, B.bytes, hml, findClass_of_methodNamed B.named, fun w hw hg => hts w (List.mem_cons_of_mem _ (List.mem_filter.mpr ⟨hw, hg⟩)), B.returns, B.notSynchronized, hE, hEH, hR, hX, Nat.le_refl _, Nat.le_refl _, lv_entry av hl⟩
theorem am_Px.blind {G : am_G} {av : List Value} {M : am_M} {X : State → Prop} (hX : ∀ (U : State) (g : JFrame) (mk : MethodId) (a : Array Value), X U → X (U.calling g mk a)) : FrameBlind (am_Px G av M X) := by
  intro a U g mk h
  obtain ⟨h1, h2, h3, h4, h5⟩ := h
  have hW : U.WarmedH (U.calling g mk a).vm := State.WarmedH.refl U
  exact ⟨h1, am_E.warm hW h2, am_EH.go (locs := []) (Vm.Alike.refl U.vm) va_S.rf h3, h4, hX U g mk a h5⟩
section AMX
variable {G : am_G} {d mL : Nat} {M : am_M} {y : MethodName} {cc : ByteArray} {rt : Option FieldType} {av : List Value} {X : State → Prop}
variable {p : Program} {e : Env} {R : Room} {s : State} {m : MethodId} {args : Array Value} {below : List Frame} {meth : Method} {c : Code} {H : Heap} {locs : List Loc} {ls : Array Slot} {cells slots : Nat} {Q : State → Prop}
theorem am_xwok (hts : ∀ w ∈ lw_tbl, goodWord w = true → w.before args s = true) (hc : Cond.code y cc mL rt ∈ lw_tbl) : ∀ w ∈ am_xw y cc mL rt, ∀ (a' : Array Value) (U : State), s.WarmedH U.vm → w.before a' U = true := by
  intro w hw a' U hW
  have h1 : w ∈ lw_tbl ∧ goodWord w = true := by
    rcases List.mem_cons.mp hw with h | h
    · subst h
      exact ⟨hc, rfl⟩
    · exact ⟨(List.mem_filter.mp h).1, (List.mem_filter.mp h).2⟩
  exact word_at hW (good_of_word h1.2) (hts w h1.1 h1.2)
theorem am_xB {own : String} {idx n : Nat} (hts : ∀ w ∈ lw_tbl, goodWord w = true → w.before args s = true) (hf : d + 7 ≤ R.frames) (hlo : 60 * d + 360 ≤ R.locals) (hc : Cond.code y cc mL rt ∈ lw_tbl) (hm : mL ≤ 40) (hi : Cond.initialized y.cls ∈ lw_tbl) (hl : Cond.methodLink own idx y ∈ lw_tbl) (h4 : y.cls ≠ "java/lang/invoke/MethodHandle" ∧ y.cls ≠ "java/lang/invoke/VarHandle") (h6 : (parseMethodDescriptor y.desc).map (fun d => d.parameters.length) = some n) : CallB R s args own idx y cc mL rt (am_xw y cc mL rt) (am_rm d 0 0) 0 0 n := by
  refine ⟨rfl, rfl, by show d + 6 + 1 ≤ R.frames; omega, by show 8 + (mL + 11) + (60 * d + 300) ≤ R.locals; omega, am_xwok hts hc, List.mem_cons_self, hts _ hc rfl, hts _ hi rfl, h4, fun sig h => ?_, hts _ hl rfl⟩
  rw [h] at h6
  exact (Option.some.inj h6).symm
theorem am_xback {st0 rest : List Value} {pc : Nat} {v : Option Value} (hr : va_Run p G.1 e R s m args below meth c H locs cells slots 0 0 (F0 m pc ls st0) rest (am_Q G (.inl v) M av.toArray) (am_A G)) (hS : va_S (am_A G) s.heap H locs)
    (k : ∀ (H1 : Heap) (locs1 : List Loc), am_R G M H1 → va_S (am_A G) s.heap H1 locs1 → W p G.1 e R s m args below meth c H1 locs1 cells slots Q (F0 m (pc + 3) ls (v.toList ++ rest))) : W p G.1 e R s m args below meth c H locs cells slots Q (F0 m pc ls st0) := by
  intro T hT X
  obtain ⟨v', st₀, tt, T', L9, q0, X', hL, e1, e2, ⟨v2, hv1, hv2, hR', hF⟩, stp⟩ := hr T hT X
  cases hv1
  cases hv2
  obtain ⟨hz1, hk1⟩ := hF
  rw [q0] at hz1 hk1
  have hS' : va_S (am_A G) s.heap T'.heap (locs ++ L9) := ⟨Nat.le_trans hS.1 (by rw [e1]; exact hz1), fun q g1 g2 => by rw [e1, hk1 q (Nat.lt_of_lt_of_le g1 hS.1) g2]; exact hS.2.1 q g1 g2, fun q hq => by
    rcases List.mem_append.mp hq with h | h
    · exact hS.2.2 q h
    · exact hL q h⟩
  obtain ⟨t2, a1, b1⟩ := k T'.heap (locs ++ L9) (by rw [e1]; exact hR') hS' T' rfl X'
  exact ⟨t2, stp t2 a1, b1⟩
theorem am_xpre {av2 : List Value} (hE : am_E G s) (hEH : am_EH G s s.heap) (hR : am_R G M H) (hS : va_S (am_A G) s.heap H locs) (hX : ∀ U : State, U.heap = H → s.WarmedH U.vm → X U) : ∀ U : State, U.heap = H → s.WarmedH U.vm → am_Px G av2 M X av2.toArray U := by
  intro U hU hW
  refine ⟨rfl, am_E.warm hW hE, ?_, by rw [hU]; exact hR, hX U hU hW⟩
  rw [hU]
  exact am_EH.go hW.alike hS hEH
end AMX
theorem am_t2 {X : State → Prop} (h : ∀ U, X U) : ∀ (U : State) (g : JFrame) (mk : MethodId) (a : Array Value), X U → X (U.calling g mk a) := fun U g mk a _ => h _
section AMY
variable {G : am_G} {M : am_M}
/-- coder(): 0 -/
theorem am_cod {k d : Nat} (hk : k < 31) : Met G.1 am_sn_cod (am_xw am_sn_cod am_sc_cod 1 (some (.byte))) (am_rm d 0 0) (am_Px G [.ref (am_sk G k)] M (fun _ => True)) (am_Q G (.inl (some (.int 0))) M) 0 0 (am_A G) := by
  refine am_xmet (by decide) (by decide) (fun C => ?_)
  obtain ⟨hx, hb, hml, hown, hts, hr, hlk, hE, hEH, hR, -, hf, hlo, hl⟩ := C
  have hS : va_S (am_A G) _ _ [] := va_S.rf (A := am_A G)
  obtain ⟨⟨adV, hstr⟩, -, -, -, -, -, hcmp, -⟩ := id hEH
  obtain ⟨-, hco, -, -⟩ := hstr.1 k hk
  refine va_gets hx hb hcmp hS hown (hts _ am_sf_cmp rfl) (fun _ h => h) am_sd_cod_0 ?_
  refine lv_if_eq (tgt := 13) hx hb am_sd_cod_3 (by decide) (fun h => absurd h (by decide)) (fun _ => ?_)
  refine lv_aload_n hx hb am_sd_cod_6 rfl (lv_at hl 0 rfl) ?_
  refine vk_getf hx hb hco hS hown (hts _ am_sf_cod rfl) (fun _ h => h) am_sd_cod_7 ?_
  refine lv_goto (tgt := 14) hx hb am_sd_cod_10 (by decide) ?_
  exact W.zret hx hb hr rfl (fun t ht hW => ⟨_, rfl, rfl, by rw [ht]; exact hR, hS.F ht⟩) hS.2.2 am_sd_cod_14
/-- isLatin1(): 1 -/
theorem am_lat {k d : Nat} (hk : k < 31) : Met G.1 am_sn_lat (am_xw am_sn_lat am_sc_lat 1 (some (.boolean))) (am_rm d 0 0) (am_Px G [.ref (am_sk G k)] M (fun _ => True)) (am_Q G (.inl (some (.int 1))) M) 0 0 (am_A G) := by
  refine am_xmet (by decide) (by decide) (fun C => ?_)
  obtain ⟨hx, hb, hml, hown, hts, hr, hlk, hE, hEH, hR, -, hf, hlo, hl⟩ := C
  have hS : va_S (am_A G) _ _ [] := va_S.rf (A := am_A G)
  obtain ⟨⟨adV, hstr⟩, -, -, -, -, -, hcmp, -⟩ := id hEH
  obtain ⟨-, hco, -, -⟩ := hstr.1 k hk
  refine va_gets hx hb hcmp hS hown (hts _ am_sf_cmp rfl) (fun _ h => h) am_sd_lat_0 ?_
  refine lv_if_eq (tgt := 17) hx hb am_sd_lat_3 (by decide) (fun h => absurd h (by decide)) (fun _ => ?_)
  refine lv_aload_n hx hb am_sd_lat_6 rfl (lv_at hl 0 rfl) ?_
  refine vk_getf hx hb hco hS hown (hts _ am_sf_cod rfl) (fun _ h => h) am_sd_lat_7 ?_
  refine lv_if_ne (tgt := 17) hx hb am_sd_lat_10 (by decide) (fun h => absurd rfl h) (fun _ => ?_)
  refine lv_iconst hx hb am_sd_lat_13 rfl ?_
  refine lv_goto (tgt := 18) hx hb am_sd_lat_14 (by decide) ?_
  exact W.zret hx hb hr rfl (fun t ht hW => ⟨_, rfl, rfl, by rw [ht]; exact hR, hS.F ht⟩) hS.2.2 am_sd_lat_18
/-- Preconditions.checkIndex(i, n, f): i -/
theorem am_pre {i n : Int32} {f : Value} {d : Nat} (hfv : f.category = 1) (h0 : ¬ i < 0) (h1 : i < n) : Met G.1 am_sn_pre (am_xw am_sn_pre am_sc_pre 3 (some (.int))) (am_rm d 0 0) (am_Px G [.int i, .int n, f] M (fun _ => True)) (am_Q G (.inl (some (.int i))) M) 0 0 (am_A G) := by
  refine am_xmet (by decide) (by simp [lg_sl, hfv, Value.category]) (fun C => ?_)
  obtain ⟨hx, hb, hml, hown, hts, hr, hlk, hE, hEH, hR, -, hf, hlo, hl⟩ := C
  have hS : va_S (am_A G) _ _ [] := va_S.rf (A := am_A G)
  sorry
end AMY

