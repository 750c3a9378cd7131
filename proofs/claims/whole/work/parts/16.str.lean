/-! String constants: length and charAt of them. -/
/-- no word of a link within the nest names a method of another place -/
def am_nn (y : MethodName) : Bool := lw_tbl.all (fun w => match w with | .methodLinkNest _ _ x _ => decide (x ≠ y) | _ => true)
theorem am_nn_ok {y : MethodName} (h : am_nn y = true) (own : String) (idx : Nat) (host : String) : ¬ Cond.methodLinkNest own idx y host ∈ lw_tbl := by
  intro hm
  have := List.all_eq_true.mp h _ hm
  simp at this
theorem am_nonest269 (own : String) (idx : Nat) (host : String) : ¬ Cond.methodLinkNest own idx (am_y 269) host ∈ lw_tbl := am_nn_ok (by decide +kernel) own idx host
theorem am_nonest270 (own : String) (idx : Nat) (host : String) : ¬ Cond.methodLinkNest own idx (am_y 270) host ∈ lw_tbl := am_nn_ok (by decide +kernel) own idx host

theorem am_sy_len : am_strLen = (⟨"java/lang/String", "length", "()I"⟩ : MethodName) := rfl
def am_sn_len : MethodName := ⟨"java/lang/String", "length", "()I"⟩
abbrev am_sc_len : ByteArray := prog_22_method_54_code
theorem am_sw_len : Cond.code am_sn_len am_sc_len 1 (some (.int)) ∈ lw_tbl := am_mem 822 (by decide +kernel)
theorem am_sp_len : (parseMethodDescriptor am_sn_len.desc).map (fun d => d.parameters.length) = some 0 := by decide +kernel
theorem am_si_len : Cond.initialized am_sn_len.cls ∈ lw_tbl := am_mem 119 (by decide +kernel)
theorem am_sy_at : am_strAt = (⟨"java/lang/String", "charAt", "(I)C"⟩ : MethodName) := rfl
def am_sn_at : MethodName := ⟨"java/lang/String", "charAt", "(I)C"⟩
abbrev am_sc_at : ByteArray := prog_22_method_56_code
theorem am_sw_at : Cond.code am_sn_at am_sc_at 2 (some (.char)) ∈ lw_tbl := am_mem 832 (by decide +kernel)
theorem am_sp_at : (parseMethodDescriptor am_sn_at.desc).map (fun d => d.parameters.length) = some 1 := by decide +kernel
theorem am_si_at : Cond.initialized am_sn_at.cls ∈ lw_tbl := am_mem 119 (by decide +kernel)
def am_sn_cod : MethodName := ⟨"java/lang/String", "coder", "()B"⟩
abbrev am_sc_cod : ByteArray := prog_22_method_152_code
theorem am_sw_cod : Cond.code am_sn_cod am_sc_cod 1 (some (.byte)) ∈ lw_tbl := am_mem 826 (by decide +kernel)
theorem am_sp_cod : (parseMethodDescriptor am_sn_cod.desc).map (fun d => d.parameters.length) = some 0 := by decide +kernel
theorem am_si_cod : Cond.initialized am_sn_cod.cls ∈ lw_tbl := am_mem 119 (by decide +kernel)
def am_sn_lat : MethodName := ⟨"java/lang/String", "isLatin1", "()Z"⟩
abbrev am_sc_lat : ByteArray := prog_22_method_154_code
theorem am_sw_lat : Cond.code am_sn_lat am_sc_lat 1 (some (.boolean)) ∈ lw_tbl := am_mem 836 (by decide +kernel)
theorem am_sp_lat : (parseMethodDescriptor am_sn_lat.desc).map (fun d => d.parameters.length) = some 0 := by decide +kernel
theorem am_si_lat : Cond.initialized am_sn_lat.cls ∈ lw_tbl := am_mem 119 (by decide +kernel)
def am_sn_lch : MethodName := ⟨"java/lang/StringLatin1", "charAt", "([BI)C"⟩
abbrev am_sc_lch : ByteArray := prog_23_method_2_code
theorem am_sw_lch : Cond.code am_sn_lch am_sc_lch 2 (some (.char)) ∈ lw_tbl := am_mem 839 (by decide +kernel)
theorem am_sp_lch : (parseMethodDescriptor am_sn_lch.desc).map (fun d => d.parameters.length) = some 2 := by decide +kernel
theorem am_si_lch : Cond.initialized am_sn_lch.cls ∈ lw_tbl := am_mem 120 (by decide +kernel)
def am_sn_chk : MethodName := ⟨"java/lang/String", "checkIndex", "(II)V"⟩
abbrev am_sc_chk : ByteArray := prog_22_method_155_code
theorem am_sw_chk : Cond.code am_sn_chk am_sc_chk 2 (none) ∈ lw_tbl := am_mem 842 (by decide +kernel)
theorem am_sp_chk : (parseMethodDescriptor am_sn_chk.desc).map (fun d => d.parameters.length) = some 2 := by decide +kernel
theorem am_si_chk : Cond.initialized am_sn_chk.cls ∈ lw_tbl := am_mem 119 (by decide +kernel)
def am_sn_pre : MethodName := ⟨"jdk/internal/util/Preconditions", "checkIndex", "(IILjava/util/function/BiFunction;)I"⟩
abbrev am_sc_pre : ByteArray := prog_31_method_11_code
theorem am_sw_pre : Cond.code am_sn_pre am_sc_pre 3 (some (.int)) ∈ lw_tbl := am_mem 847 (by decide +kernel)
theorem am_sp_pre : (parseMethodDescriptor am_sn_pre.desc).map (fun d => d.parameters.length) = some 3 := by decide +kernel
theorem am_si_pre : Cond.initialized am_sn_pre.cls ∈ lw_tbl := am_mem 121 (by decide +kernel)
theorem am_sl_cod : Cond.methodLink "java/lang/String" 335 am_sn_cod ∈ lw_tbl := am_mem 823 (by decide +kernel)
theorem am_sl_lat : Cond.methodLink "java/lang/String" 492 am_sn_lat ∈ lw_tbl := am_mem 833 (by decide +kernel)
theorem am_sl_lch : Cond.methodLink "java/lang/String" 495 am_sn_lch ∈ lw_tbl := am_mem 837 (by decide +kernel)
theorem am_sl_chk : Cond.methodLink "java/lang/StringLatin1" 9 am_sn_chk ∈ lw_tbl := am_mem 840 (by decide +kernel)
theorem am_sl_pre : Cond.methodLink "java/lang/String" 1059 am_sn_pre ∈ lw_tbl := am_mem 845 (by decide +kernel)
theorem am_sm_len : Cond.instanceMethod am_sn_len ∈ lw_tbl := am_mem 820 (by decide +kernel)
theorem am_ss_len : Cond.selects "java/lang/String" am_sn_len am_sn_len ∈ lw_tbl := am_mem 821 (by decide +kernel)
theorem am_sm_at : Cond.instanceMethod am_sn_at ∈ lw_tbl := am_mem 830 (by decide +kernel)
theorem am_ss_at : Cond.selects "java/lang/String" am_sn_at am_sn_at ∈ lw_tbl := am_mem 831 (by decide +kernel)
theorem am_sm_cod : Cond.instanceMethod am_sn_cod ∈ lw_tbl := am_mem 824 (by decide +kernel)
theorem am_ss_cod : Cond.selects "java/lang/String" am_sn_cod am_sn_cod ∈ lw_tbl := am_mem 825 (by decide +kernel)
theorem am_sm_lat : Cond.instanceMethod am_sn_lat ∈ lw_tbl := am_mem 834 (by decide +kernel)
theorem am_ss_lat : Cond.selects "java/lang/String" am_sn_lat am_sn_lat ∈ lw_tbl := am_mem 835 (by decide +kernel)
theorem am_st_lch : Cond.static am_sn_lch ∈ lw_tbl := am_mem 838 (by decide +kernel)
theorem am_st_chk : Cond.static am_sn_chk ∈ lw_tbl := am_mem 841 (by decide +kernel)
theorem am_st_pre : Cond.static am_sn_pre ∈ lw_tbl := am_mem 846 (by decide +kernel)
theorem am_sf_cmp : Cond.fieldLink "java/lang/String" 38 "java/lang/String" "COMPACT_STRINGS" "Z" ∈ lw_tbl := am_mem 827 (by decide +kernel)
theorem am_sf_val : Cond.fieldLink "java/lang/String" 9 "java/lang/String" "value" "[B" ∈ lw_tbl := am_mem 2045 (by decide +kernel)
theorem am_sf_cod : Cond.fieldLink "java/lang/String" 15 "java/lang/String" "coder" "B" ∈ lw_tbl := am_mem 2046 (by decide +kernel)
theorem am_sf_fmt : Cond.fieldLink "java/lang/String" 1053 "jdk/internal/util/Preconditions" "SIOOBE_FORMATTER" "Ljava/util/function/BiFunction;" ∈ lw_tbl := am_mem 843 (by decide +kernel)
theorem am_sd_len_0 : decode am_sc_len 0 = .ok (.aload_n 0, 1) := by decide +kernel
theorem am_sd_len_1 : decode am_sc_len 1 = .ok (.getfield 9, 3) := by decide +kernel
theorem am_sd_len_4 : decode am_sc_len 4 = .ok (.arraylength, 1) := by decide +kernel
theorem am_sd_len_5 : decode am_sc_len 5 = .ok (.aload_n 0, 1) := by decide +kernel
theorem am_sd_len_6 : decode am_sc_len 6 = .ok (.invokevirtual 335, 3) := by decide +kernel
theorem am_sd_len_9 : decode am_sc_len 9 = .ok (.ishr, 1) := by decide +kernel
theorem am_sd_len_10 : decode am_sc_len 10 = .ok (.ireturn, 1) := by decide +kernel
theorem am_sd_at_0 : decode am_sc_at 0 = .ok (.aload_n 0, 1) := by decide +kernel
theorem am_sd_at_1 : decode am_sc_at 1 = .ok (.invokevirtual 492, 3) := by decide +kernel
theorem am_sd_at_4 : decode am_sc_at 4 = .ok (.ifCond .eq 12, 3) := by decide +kernel
theorem am_sd_at_7 : decode am_sc_at 7 = .ok (.aload_n 0, 1) := by decide +kernel
theorem am_sd_at_8 : decode am_sc_at 8 = .ok (.getfield 9, 3) := by decide +kernel
theorem am_sd_at_11 : decode am_sc_at 11 = .ok (.iload_n 1, 1) := by decide +kernel
theorem am_sd_at_12 : decode am_sc_at 12 = .ok (.invokestatic 495, 3) := by decide +kernel
theorem am_sd_at_15 : decode am_sc_at 15 = .ok (.ireturn, 1) := by decide +kernel
theorem am_sd_at_16 : decode am_sc_at 16 = .ok (.aload_n 0, 1) := by decide +kernel
theorem am_sd_at_17 : decode am_sc_at 17 = .ok (.getfield 9, 3) := by decide +kernel
theorem am_sd_at_20 : decode am_sc_at 20 = .ok (.iload_n 1, 1) := by decide +kernel
theorem am_sd_at_21 : decode am_sc_at 21 = .ok (.invokestatic 498, 3) := by decide +kernel
theorem am_sd_at_24 : decode am_sc_at 24 = .ok (.ireturn, 1) := by decide +kernel
theorem am_sd_cod_0 : decode am_sc_cod 0 = .ok (.getstatic 38, 3) := by decide +kernel
theorem am_sd_cod_3 : decode am_sc_cod 3 = .ok (.ifCond .eq 10, 3) := by decide +kernel
theorem am_sd_cod_6 : decode am_sc_cod 6 = .ok (.aload_n 0, 1) := by decide +kernel
theorem am_sd_cod_7 : decode am_sc_cod 7 = .ok (.getfield 15, 3) := by decide +kernel
theorem am_sd_cod_10 : decode am_sc_cod 10 = .ok (.goto 4, 3) := by decide +kernel
theorem am_sd_cod_13 : decode am_sc_cod 13 = .ok (.iconst 1, 1) := by decide +kernel
theorem am_sd_cod_14 : decode am_sc_cod 14 = .ok (.ireturn, 1) := by decide +kernel
theorem am_sd_lat_0 : decode am_sc_lat 0 = .ok (.getstatic 38, 3) := by decide +kernel
theorem am_sd_lat_3 : decode am_sc_lat 3 = .ok (.ifCond .eq 14, 3) := by decide +kernel
theorem am_sd_lat_6 : decode am_sc_lat 6 = .ok (.aload_n 0, 1) := by decide +kernel
theorem am_sd_lat_7 : decode am_sc_lat 7 = .ok (.getfield 15, 3) := by decide +kernel
theorem am_sd_lat_10 : decode am_sc_lat 10 = .ok (.ifCond .ne 7, 3) := by decide +kernel
theorem am_sd_lat_13 : decode am_sc_lat 13 = .ok (.iconst 1, 1) := by decide +kernel
theorem am_sd_lat_14 : decode am_sc_lat 14 = .ok (.goto 4, 3) := by decide +kernel
theorem am_sd_lat_17 : decode am_sc_lat 17 = .ok (.iconst 0, 1) := by decide +kernel
theorem am_sd_lat_18 : decode am_sc_lat 18 = .ok (.ireturn, 1) := by decide +kernel
theorem am_sd_lch_0 : decode am_sc_lch 0 = .ok (.iload_n 1, 1) := by decide +kernel
theorem am_sd_lch_1 : decode am_sc_lch 1 = .ok (.aload_n 0, 1) := by decide +kernel
theorem am_sd_lch_2 : decode am_sc_lch 2 = .ok (.arraylength, 1) := by decide +kernel
theorem am_sd_lch_3 : decode am_sc_lch 3 = .ok (.invokestatic 9, 3) := by decide +kernel
theorem am_sd_lch_6 : decode am_sc_lch 6 = .ok (.aload_n 0, 1) := by decide +kernel
theorem am_sd_lch_7 : decode am_sc_lch 7 = .ok (.iload_n 1, 1) := by decide +kernel
theorem am_sd_lch_8 : decode am_sc_lch 8 = .ok (.baload, 1) := by decide +kernel
theorem am_sd_lch_9 : decode am_sc_lch 9 = .ok (.sipush 255, 3) := by decide +kernel
theorem am_sd_lch_12 : decode am_sc_lch 12 = .ok (.iand, 1) := by decide +kernel
theorem am_sd_lch_13 : decode am_sc_lch 13 = .ok (.i2c, 1) := by decide +kernel
theorem am_sd_lch_14 : decode am_sc_lch 14 = .ok (.ireturn, 1) := by decide +kernel
theorem am_sd_chk_0 : decode am_sc_chk 0 = .ok (.iload_n 0, 1) := by decide +kernel
theorem am_sd_chk_1 : decode am_sc_chk 1 = .ok (.iload_n 1, 1) := by decide +kernel
theorem am_sd_chk_2 : decode am_sc_chk 2 = .ok (.getstatic 1053, 3) := by decide +kernel
theorem am_sd_chk_5 : decode am_sc_chk 5 = .ok (.invokestatic 1059, 3) := by decide +kernel
theorem am_sd_chk_8 : decode am_sc_chk 8 = .ok (.pop, 1) := by decide +kernel
theorem am_sd_chk_9 : decode am_sc_chk 9 = .ok (.return_, 1) := by decide +kernel
theorem am_sd_pre_0 : decode am_sc_pre 0 = .ok (.iload_n 0, 1) := by decide +kernel
theorem am_sd_pre_1 : decode am_sc_pre 1 = .ok (.ifCond .lt 8, 3) := by decide +kernel
theorem am_sd_pre_4 : decode am_sc_pre 4 = .ok (.iload_n 0, 1) := by decide +kernel
theorem am_sd_pre_5 : decode am_sc_pre 5 = .ok (.iload_n 1, 1) := by decide +kernel
theorem am_sd_pre_6 : decode am_sc_pre 6 = .ok (.if_icmp .lt 10, 3) := by decide +kernel
theorem am_sd_pre_9 : decode am_sc_pre 9 = .ok (.aload_n 2, 1) := by decide +kernel
theorem am_sd_pre_10 : decode am_sc_pre 10 = .ok (.iload_n 0, 1) := by decide +kernel
theorem am_sd_pre_11 : decode am_sc_pre 11 = .ok (.iload_n 1, 1) := by decide +kernel
theorem am_sd_pre_12 : decode am_sc_pre 12 = .ok (.invokestatic 95, 3) := by decide +kernel
theorem am_sd_pre_15 : decode am_sc_pre 15 = .ok (.athrow, 1) := by decide +kernel
theorem am_sd_pre_16 : decode am_sc_pre 16 = .ok (.iload_n 0, 1) := by decide +kernel
theorem am_sd_pre_17 : decode am_sc_pre 17 = .ok (.ireturn, 1) := by decide +kernel
def am_xw (y : MethodName) (cc : ByteArray) (mL : Nat) (rt : Option FieldType) : List Cond := Cond.code y cc mL rt :: lw_tbl.filter goodWord
def am_Px (G : am_G) (av : List Value) (M : am_M) (X : State → Prop) : Array Value → State → Prop := va_Pc av (fun U => am_E G U ∧ am_EH G U U.heap ∧ am_R G M U.heap ∧ X U)
/-- what a body of these knows -/
def am_Cy (G : am_G) (d : Nat) (M : am_M) (X : State → Prop) (y : MethodName) (cc : ByteArray) (mL : Nat) (rt : Option FieldType) (av : List Value) (p : Program) (R : Room) (s : State) (m : MethodId) (meth : Method) (c : Code) (ls : Array Slot) : Prop :=
  p.tables.exec = Jvm.exec ∧ c.code = cc ∧ c.maxLocals = mL ∧ s.vm.findClass y.cls = some m.cls ∧ (∀ w ∈ lw_tbl, goodWord w = true → w.before av.toArray s = true) ∧ meth.sig.returnType = rt ∧ meth.locks = false ∧ am_E G s ∧ am_EH G s s.heap ∧ am_R G M s.heap ∧ X s ∧ d + 6 ≤ R.frames ∧ 60 * d + 300 ≤ R.locals ∧ lv_has ls mL (lv_args 0 av)
theorem am_xmet {G : am_G} {d : Nat} {y : MethodName} {cc : ByteArray} {mL : Nat} {rt : Option FieldType} {av : List Value} {M : am_M} {v : Option Value} {X : State → Prop} (hp : plainName y.cls = true) (hl : (lg_sl av).length ≤ mL)
    (body : ∀ {p : Program} {e : Env} {s : State} {m : MethodId} {below : List Frame} {meth : Method} {c : Code} {ls : Array Slot}, am_Cy G d M X y cc mL rt av p (am_rm d 0 0) s m meth c ls → W p G.1 e (am_rm d 0 0) s m av.toArray below meth c s.heap [] 0 0 (MQ below (am_Q G (.inl v) M) av.toArray s 0 0 (am_A G)) (F0 m 0 ls [])) : Met G.1 y (am_xw y cc mL rt) (am_rm d 0 0) (am_Px G av M X) (am_Q G (.inl v) M) 0 0 (am_A G) := by
  refine Met.ofW (cc := cc) (maxL := mL) (ret := rt) hp rfl ?_
  intro p e s m args below meth c s₁ B hml hv
  obtain ⟨rfl, hE, hEH, hR, hX⟩ := hv
  have hts := atoms_spec (ws := am_xw y cc mL rt) B.pre
  rw [lg_entry_eq]
  exact body ⟨B.exec, B.bytes, hml, findClass_of_methodNamed B.named, fun w hw hg => hts w (List.mem_cons_of_mem _ (List.mem_filter.mpr ⟨hw, hg⟩)), B.returns, B.notSynchronized, hE, hEH, hR, hX, Nat.le_refl _, Nat.le_refl _, lv_entry av hl⟩
theorem am_Px.blind {G : am_G} {av : List Value} {M : am_M} {X : State → Prop} (hX : ∀ (U : State) (g : JFrame) (mk : MethodId) (a : Array Value), X U → X (U.calling g mk a)) : FrameBlind (am_Px G av M X) := by
  intro a U g mk h
  obtain ⟨h1, h2, h3, h4, h5⟩ := h
  have hW : U.WarmedH (U.calling g mk a).vm := State.WarmedH.refl U
  exact ⟨h1, am_E.warm hW h2, am_EH.go (locs := []) (Vm.Alike.refl U.vm) va_S.rf h3, h4, hX U g mk a h5⟩
section AMX
variable {G : am_G} {d mL : Nat} {M : am_M} {y : MethodName} {cc : ByteArray} {rt : Option FieldType} {av : List Value} {X : State → Prop}
variable {p : Program} {e : Env} {R : Room} {s : State} {m : MethodId} {args : Array Value} {below : List Frame} {meth : Method} {c : Code} {H : Heap} {locs : List Loc} {ls : Array Slot} {cells slots : Nat} {Q : State → Prop}
theorem am_xwok (hts : ∀ w ∈ lw_tbl, goodWord w = true → w.before args s = true) (hc : Cond.code y cc mL rt ∈ lw_tbl) : ∀ w ∈ am_xw y cc mL rt, ∀ (a' : Array Value) (U : State), s.WarmedH U.vm → w.before a' U = true := by
  intro w hw a' U hW
  have h1 : w ∈ lw_tbl ∧ goodWord w = true := by
    rcases List.mem_cons.mp hw with h | h
    · subst h
      exact ⟨hc, rfl⟩
    · exact ⟨(List.mem_filter.mp h).1, (List.mem_filter.mp h).2⟩
  exact word_at hW (good_of_word h1.2) (hts w h1.1 h1.2)
set_option maxRecDepth 20000 in
theorem am_lolem2 {a d r : Nat} (h7 : a ≤ 40) (hlo : 60 * d + 360 ≤ r) : 8 + (a + 11) + (60 * d + 300) ≤ r := by omega
theorem am_xB {own : String} {idx n : Nat} (hts : ∀ w ∈ lw_tbl, goodWord w = true → w.before args s = true) (hf : d + 7 ≤ R.frames) (hlo : 60 * d + 360 ≤ R.locals) (hc : Cond.code y cc mL rt ∈ lw_tbl) (hm : mL ≤ 40) (hi : Cond.initialized y.cls ∈ lw_tbl) (hl : Cond.methodLink own idx y ∈ lw_tbl) (h4 : y.cls ≠ "java/lang/invoke/MethodHandle" ∧ y.cls ≠ "java/lang/invoke/VarHandle") (h6 : (parseMethodDescriptor y.desc).map (fun d => d.parameters.length) = some n) : CallB R s args own idx y cc mL rt (am_xw y cc mL rt) (am_rm d 0 0) 0 0 n := by
  refine ⟨rfl, rfl, by show d + 6 + 1 ≤ R.frames; omega, am_lolem2 hm hlo, am_xwok hts hc, List.mem_cons_self, hts _ hc rfl, hts _ hi rfl, h4, fun sig h => ?_, hts _ hl rfl⟩
  rw [h] at h6
  exact (Option.some.inj h6).symm
theorem am_xback {st0 rest : List Value} {pc : Nat} {v : Option Value} (hr : va_Run p G.1 e R s m args below meth c H locs cells slots 0 0 (F0 m pc ls st0) rest (am_Q G (.inl v) M av.toArray) (am_A G)) (hS : va_S (am_A G) s.heap H locs)
    (k : ∀ (H1 : Heap) (locs1 : List Loc), am_R G M H1 → va_S (am_A G) s.heap H1 locs1 → W p G.1 e R s m args below meth c H1 locs1 cells slots Q (F0 m (pc + 3) ls (v.toList ++ rest))) : W p G.1 e R s m args below meth c H locs cells slots Q (F0 m pc ls st0) := by
  intro T hT X
  obtain ⟨v', st₀, tt, T', L9, q0, X', hL, e1, e2, ⟨v2, hv1, hv2, hR', hF⟩, stp⟩ := hr T hT X
  cases hv1
  cases hv2
  obtain ⟨hz1, hk1⟩ := hF
  rw [q0] at hz1 hk1
  have hS' : va_S (am_A G) s.heap T'.heap (locs ++ L9) := ⟨Nat.le_trans hS.1 (by rw [e1]; exact hz1), fun q g1 g2 => by rw [e1, hk1 q (Nat.lt_of_lt_of_le g1 hS.1) g2]; exact hS.2.1 q g1 g2, fun q hq => by
    rcases List.mem_append.mp hq with h | h
    · exact hS.2.2 q h
    · exact hL q h⟩
  obtain ⟨t2, a1, b1⟩ := k T'.heap (locs ++ L9) (by rw [e1]; exact hR') hS' T' rfl X'
  exact ⟨t2, stp t2 a1, b1⟩
theorem am_xpre {av2 : List Value} (hE : am_E G s) (hEH : am_EH G s s.heap) (hR : am_R G M H) (hS : va_S (am_A G) s.heap H locs) (hX : ∀ U : State, U.heap = H → s.WarmedH U.vm → X U) : ∀ U : State, U.heap = H → s.WarmedH U.vm → am_Px G av2 M X av2.toArray U := by
  intro U hU hW
  refine ⟨rfl, am_E.warm hW hE, ?_, by rw [hU]; exact hR, hX U hU hW⟩
  rw [hU]
  exact am_EH.go hW.alike hS hEH
end AMX
theorem am_blt {X : State → Prop} (h : ∀ U, X U) : ∀ (U : State) (g : JFrame) (mk : MethodId) (a : Array Value), X U → X (U.calling g mk a) := fun U g mk a _ => h _
section AMY
variable {G : am_G} {M : am_M}
/-- coder(): 0 -/
theorem am_cod {k d : Nat} (hk : k < 31) : Met G.1 am_sn_cod (am_xw am_sn_cod am_sc_cod 1 (some (.byte))) (am_rm d 0 0) (am_Px G [.ref (am_sk G k)] M (fun _ => True)) (am_Q G (.inl (some (.int 0))) M) 0 0 (am_A G) := by
  refine am_xmet (by decide) (Nat.le_of_ble_eq_true rfl) (fun {p e s m below meth c ls} C => ?_)
  obtain ⟨hx, hb, hml, hown, hts, hr, hlk, hE, hEH, hR, -, hf, hlo, hl⟩ := C
  have hS : va_S (am_A G) s.heap s.heap [] := va_S.rf
  obtain ⟨⟨adV, hstr⟩, -, -, -, -, -, hcmp, -⟩ := id hEH
  obtain ⟨-, hco, -, -⟩ := hstr.1 k hk
  refine va_gets hx hb hcmp hS hown (hts _ am_sf_cmp rfl) (fun _ h => h) am_sd_cod_0 ?_
  refine lv_if_eq (tgt := 13) hx hb am_sd_cod_3 (by decide) (fun h => absurd h (by decide)) (fun _ => ?_)
  refine lv_aload_n hx hb am_sd_cod_6 rfl (lv_at hl 0 rfl) ?_
  refine vk_getf hx hb hco hS hown (hts _ am_sf_cod rfl) (fun _ h => h) am_sd_cod_7 ?_
  refine lv_goto (tgt := 14) hx hb am_sd_cod_10 (by decide) ?_
  exact W.zret hx hb hr rfl (fun t ht hW => ⟨_, rfl, rfl, by rw [ht]; exact hR, hS.F ht⟩) hS.2.2 am_sd_cod_14
/-- isLatin1(): 1 -/
theorem am_lat {k d : Nat} (hk : k < 31) : Met G.1 am_sn_lat (am_xw am_sn_lat am_sc_lat 1 (some (.boolean))) (am_rm d 0 0) (am_Px G [.ref (am_sk G k)] M (fun _ => True)) (am_Q G (.inl (some (.int 1))) M) 0 0 (am_A G) := by
  refine am_xmet (by decide) (Nat.le_of_ble_eq_true rfl) (fun {p e s m below meth c ls} C => ?_)
  obtain ⟨hx, hb, hml, hown, hts, hr, hlk, hE, hEH, hR, -, hf, hlo, hl⟩ := C
  have hS : va_S (am_A G) s.heap s.heap [] := va_S.rf
  obtain ⟨⟨adV, hstr⟩, -, -, -, -, -, hcmp, -⟩ := id hEH
  obtain ⟨-, hco, -, -⟩ := hstr.1 k hk
  refine va_gets hx hb hcmp hS hown (hts _ am_sf_cmp rfl) (fun _ h => h) am_sd_lat_0 ?_
  refine lv_if_eq (tgt := 17) hx hb am_sd_lat_3 (by decide) (fun h => absurd h (by decide)) (fun _ => ?_)
  refine lv_aload_n hx hb am_sd_lat_6 rfl (lv_at hl 0 rfl) ?_
  refine vk_getf hx hb hco hS hown (hts _ am_sf_cod rfl) (fun _ h => h) am_sd_lat_7 ?_
  refine lv_if_ne (tgt := 17) hx hb am_sd_lat_10 (by decide) (fun h => absurd rfl h) (fun _ => ?_)
  refine lv_iconst hx hb am_sd_lat_13 rfl ?_
  refine lv_goto (tgt := 18) hx hb am_sd_lat_14 (by decide) ?_
  exact W.zret hx hb hr rfl (fun t ht hW => ⟨_, rfl, rfl, by rw [ht]; exact hR, hS.F ht⟩) hS.2.2 am_sd_lat_18
/-- Preconditions.checkIndex(i, n, f): i -/
theorem am_pre {i n : Int32} {f : Value} {d : Nat} (hfv : f.category = 1) (h0 : ¬ i < 0) (h1 : i < n) : Met G.1 am_sn_pre (am_xw am_sn_pre am_sc_pre 3 (some (.int))) (am_rm d 0 0) (am_Px G [.int i, .int n, f] M (fun _ => True)) (am_Q G (.inl (some (.int i))) M) 0 0 (am_A G) := by
  refine am_xmet (by decide) (by simp only [lg_sl, List.flatMap_cons, List.flatMap_nil, if_neg (show ¬ f.category = 2 by rw [hfv]; decide)]; exact Nat.le_refl 3) (fun {p e s m below meth c ls} C => ?_)
  obtain ⟨hx, hb, hml, hown, hts, hr, hlk, hE, hEH, hR, -, hf, hlo, hl⟩ := C
  have hS : va_S (am_A G) s.heap s.heap [] := va_S.rf
  refine lv_iload_n hx hb am_sd_pre_0 rfl (lv_at hl 0 rfl) ?_
  refine lv_if_lt (tgt := 9) hx hb am_sd_pre_1 (by decide) (fun h => absurd h h0) (fun _ => ?_)
  refine lv_iload_n hx hb am_sd_pre_4 rfl (lv_at hl 0 rfl) ?_
  refine lv_iload_n hx hb am_sd_pre_5 rfl (lv_at hl 1 rfl) ?_
  refine lv_icmp_lt (tgt := 16) hx hb am_sd_pre_6 (by decide) (fun _ => ?_) (fun h => absurd h1 h)
  refine lv_iload_n hx hb am_sd_pre_16 rfl (lv_at hl 0 rfl) ?_
  exact W.iret hx hb hr (fun t ht hW => ⟨_, rfl, rfl, by rw [ht]; exact hR, hS.F ht⟩) hS.2.2 am_sd_pre_17
/-- String.checkIndex(i, n) -/
theorem am_chk {i n : Int32} {d : Nat} (h0 : ¬ i < 0) (h1 : i < n) : Met G.1 am_sn_chk (am_xw am_sn_chk am_sc_chk 2 none) (am_rm (d + 1) 0 0) (am_Px G [.int i, .int n] M (fun _ => True)) (am_Q G (.inl none) M) 0 0 (am_A G) := by
  refine am_xmet (by decide) (Nat.le_of_ble_eq_true rfl) (fun {p e s m below meth c ls} C => ?_)
  obtain ⟨hx, hb, hml, hown, hts, hr, hlk, hE, hEH, hR, -, hf, hlo, hl⟩ := C
  have hS : va_S (am_A G) s.heap s.heap [] := va_S.rf
  refine lv_iload_n hx hb am_sd_chk_0 rfl (lv_at hl 0 rfl) ?_
  refine lv_iload_n hx hb am_sd_chk_1 rfl (lv_at hl 1 rfl) ?_
  have key : ∀ (f : Value), f.category = 1 → W p G.1 e (am_rm (d + 1) 0 0) s m [Value.int i, .int n].toArray below meth c s.heap [] 0 0 (MQ below (am_Q G (.inl none) M) [Value.int i, .int n].toArray s 0 0 (am_A G)) (F0 m (2 + 3) ls [f, .int n, .int i]) := by
    intro f hf9
    refine am_xback (av := [.int i, .int n, f]) (va_runS (Ts := []) (nL := 2) (As := [.int i, .int n, f]) (rest := []) ⟨hx, hb, hml, hown, fun w hw => absurd hw List.not_mem_nil⟩ (am_pre (G := G) (M := M) (d := d) hf9 h0 h1) ⟨am_xB hts (by show d + 7 ≤ d + 1 + 6; omega) (by show 60 * d + 360 ≤ 60 * (d + 1) + 300; omega) am_sw_pre (by decide) am_si_pre am_sl_pre (by decide) am_sp_pre, hts _ am_st_pre rfl⟩ ⟨am_Px.blind (am_blt (fun _ => trivial)), am_xpre hE hEH hR hS (fun _ _ _ => trivial)⟩ rfl rfl hl.1 rfl (by show 2 * 0 + 0 ≤ 8; omega) am_sd_chk_5 ⟨Nat.zero_le _, Nat.zero_le _⟩) hS (fun H1 locs1 hR1 hS1 => ?_)
    refine lv_pop hx hb am_sd_chk_8 rfl ?_
    exact W.vret hx hb hr (fun t ht hW => ⟨_, rfl, rfl, by rw [ht]; exact hR1, hS1.F ht⟩) hS1.2.2 am_sd_chk_9
  obtain ⟨-, -, -, -, -, -, -, hfm⟩ := id hEH
  rcases hfm with hfm | ⟨t9, hfm⟩
  · exact va_gets hx hb hfm hS hown (hts _ am_sf_fmt rfl) (fun _ h => h) am_sd_chk_2 (key _ rfl)
  · exact va_gets hx hb hfm hS hown (hts _ am_sf_fmt rfl) (fun _ h => h) am_sd_chk_2 (key _ rfl)
/-- StringLatin1.charAt(bytes, i) -/
theorem am_lch {b0 n0 : Nat} {f : Nat → Int32} {i : Int32} {d : Nat} (h0 : ¬ i < 0) (h1 : i < Int32.ofNat n0) (hin : vp_in i n0) (hnc : narrow .char (.int (((f i.toNatClampNeg) &&& 255).toUInt32 % 65536).toInt32) = .int (((f i.toNatClampNeg) &&& 255).toUInt32 % 65536).toInt32) : Met G.1 am_sn_lch (am_xw am_sn_lch am_sc_lch 2 (some (.char))) (am_rm (d + 2) 0 0) (am_Px G [.ref b0, .int i] M (fun U => va_T .byte b0 n0 (fun j => .int (f j)) (am_A G) U U.heap)) (am_Q G (.inl (some (.int (((f i.toNatClampNeg) &&& 255).toUInt32 % 65536).toInt32))) M) 0 0 (am_A G) := by
  refine am_xmet (by decide) (Nat.le_of_ble_eq_true rfl) (fun {p e s m below meth c ls} C => ?_)
  obtain ⟨hx, hb, hml, hown, hts, hr, hlk, hE, hEH, hR, hT9, hf, hlo, hl⟩ := C
  have hS : va_S (am_A G) s.heap s.heap [] := va_S.rf
  refine lv_iload_n hx hb am_sd_lch_0 rfl (lv_at hl 1 rfl) ?_
  refine lv_aload_n hx hb am_sd_lch_1 rfl (lv_at hl 0 rfl) ?_
  refine va_tlen hx hb hT9 hS rfl am_sd_lch_2 ?_
  refine am_xback (av := [.int i, .int (Int32.ofNat n0)]) (va_runS (Ts := []) (nL := 2) (As := [.int i, .int (Int32.ofNat n0)]) (rest := []) ⟨hx, hb, hml, hown, fun w hw => absurd hw List.not_mem_nil⟩ (am_chk (G := G) (M := M) (d := d) h0 h1) ⟨am_xB hts (by show d + 1 + 7 ≤ d + 2 + 6; omega) (by show 60 * (d + 1) + 360 ≤ 60 * (d + 2) + 300; omega) am_sw_chk (by decide) am_si_chk am_sl_chk (by decide) am_sp_chk, hts _ am_st_chk rfl⟩ ⟨am_Px.blind (am_blt (fun _ => trivial)), am_xpre hE hEH hR hS (fun _ _ _ => trivial)⟩ rfl rfl hl.1 rfl (by show 2 * 0 + 0 ≤ 8; omega) am_sd_lch_3 ⟨Nat.zero_le _, Nat.zero_le _⟩) hS (fun H1 locs1 hR1 hS1 => ?_)
  refine lv_aload_n hx hb am_sd_lch_6 rfl (lv_at hl 0 rfl) ?_
  refine lv_iload_n hx hb am_sd_lch_7 rfl (lv_at hl 1 rfl) ?_
  refine va_tb hx hb hT9 hS1 hin rfl am_sd_lch_8 ?_
  refine lv_sipush hx hb am_sd_lch_9 rfl ?_
  refine lv_iand hx hb am_sd_lch_12 ?_
  refine lv_i2c hx hb am_sd_lch_13 rfl ?_
  exact W.zret hx hb hr hnc (fun t ht hW => ⟨_, rfl, rfl, by rw [ht]; exact hR1, hS1.F ht⟩) hS1.2.2 am_sd_lch_14
def am_chr (k : Nat) (i : Int32) : Int32 := (((am_byt.getD k []).getD i.toNatClampNeg 0 &&& 255).toUInt32 % 65536).toInt32
/-- charAt(i) of the k-th text -/
theorem am_sat {k d : Nat} {i : Int32} (hk : k < 31) (hi : am_ix i (am_len.getD k 0) = true) (hl9 : am_len.getD k 0 < 2 ^ 31) (hnc : narrow .char (.int (am_chr k i)) = .int (am_chr k i)) : Met G.1 am_sn_at (am_xw am_sn_at am_sc_at 2 (some (.char))) (am_rm (d + 3) 0 0) (am_Px G [.ref (am_sk G k), .int i] M (fun _ => True)) (am_Q G (.inl (some (.int (am_chr k i)))) M) 0 0 (am_A G) := by
  refine am_xmet (by decide) (Nat.le_of_ble_eq_true rfl) (fun {p e s m below meth c ls} C => ?_)
  obtain ⟨hx, hb, hml, hown, hts, hr, hlk, hE, hEH, hR, -, hf, hlo, hl⟩ := C
  have hS : va_S (am_A G) s.heap s.heap [] := va_S.rf
  obtain ⟨⟨adV, hstr⟩, -⟩ := id hEH
  have hin := am_ixin hi
  have h0 : ¬ i < 0 := fun q => hin (Or.inl q)
  have h1 : i < Int32.ofNat (am_len.getD k 0) := by
    obtain ⟨q, hq1, hq2⟩ := vp_in_of hin hl9
    rw [hq2]
    exact nI_lt hq1 hl9
  obtain ⟨-, hco, hva, hTb⟩ := hstr.1 k hk
  refine lv_aload_n hx hb am_sd_at_0 rfl (lv_at hl 0 rfl) ?_
  refine am_xback (av := [.ref (am_sk G k)]) (va_runV (C := "java/lang/String") (Ts := []) (nL := 2) (As := []) (rest := []) ⟨hx, hb, hml, hown, fun w hw => absurd hw List.not_mem_nil⟩ (am_lat (G := G) (M := M) (d := d + 2) hk) ⟨am_xB hts (by show d + 2 + 7 ≤ d + 3 + 6; omega) (by show 60 * (d + 2) + 360 ≤ 60 * (d + 3) + 300; omega) am_sw_lat (by decide) am_si_lat am_sl_lat (by decide) am_sp_lat, hts _ am_sm_lat rfl, hts _ am_ss_lat rfl⟩ ⟨am_Px.blind (am_blt (fun _ => trivial)), vk_recv hstr hk hS, am_xpre hE hEH hR hS (fun _ _ _ => trivial)⟩ rfl rfl hl.1 rfl (by show 2 * 0 + 0 ≤ 8; omega) am_sd_at_1 ⟨Nat.zero_le _, Nat.zero_le _⟩) hS (fun H1 locs1 hR1 hS1 => ?_)
  refine lv_if_eq (tgt := 16) hx hb am_sd_at_4 (by decide) (fun h => absurd h (by decide)) (fun _ => ?_)
  refine lv_aload_n hx hb am_sd_at_7 rfl (lv_at hl 0 rfl) ?_
  refine vk_getf hx hb hva hS1 hown (hts _ am_sf_val rfl) (fun _ h => h) am_sd_at_8 ?_
  refine lv_iload_n hx hb am_sd_at_11 rfl (lv_at hl 1 rfl) ?_
  refine am_xback (av := [.ref (adV k), .int i]) (va_runS (Ts := []) (nL := 2) (As := [.ref (adV k), .int i]) (rest := []) ⟨hx, hb, hml, hown, fun w hw => absurd hw List.not_mem_nil⟩ (am_lch (G := G) (M := M) (d := d) (f := fun j => (am_byt.getD k []).getD j 0) h0 h1 hin hnc) ⟨am_xB hts (by show d + 2 + 7 ≤ d + 3 + 6; omega) (by show 60 * (d + 2) + 360 ≤ 60 * (d + 3) + 300; omega) am_sw_lch (by decide) am_si_lch am_sl_lch (by decide) am_sp_lch, hts _ am_st_lch rfl⟩ ⟨am_Px.blind (fun U g mk a h => va_T.moved (Vm.Alike.refl U.vm) h), am_xpre hE hEH hR1 hS1 (fun U hU hW => by rw [hU]; exact va_T.moved hW.alike (hTb.kept hS1.2.1))⟩ rfl rfl hl.1 rfl (by show 2 * 0 + 0 ≤ 8; omega) am_sd_at_12 ⟨Nat.zero_le _, Nat.zero_le _⟩) hS1 (fun H2 locs2 hR2 hS2 => ?_)
  exact W.zret hx hb hr hnc (fun t ht hW => ⟨_, rfl, rfl, by rw [ht]; exact hR2, hS2.F ht⟩) hS2.2.2 am_sd_at_15
/-- length() of the k-th text -/
theorem am_slen {k d : Nat} (hk : k < 31) (hl9 : am_len.getD k 0 < 2 ^ 31) : Met G.1 am_sn_len (am_xw am_sn_len am_sc_len 1 (some (.int))) (am_rm (d + 1) 0 0) (am_Px G [.ref (am_sk G k)] M (fun _ => True)) (am_Q G (.inl (some (.int (Int32.ofNat (am_len.getD k 0))))) M) 0 0 (am_A G) := by
  refine am_xmet (by decide) (Nat.le_of_ble_eq_true rfl) (fun {p e s m below meth c ls} C => ?_)
  obtain ⟨hx, hb, hml, hown, hts, hr, hlk, hE, hEH, hR, -, hf, hlo, hl⟩ := C
  have hS : va_S (am_A G) s.heap s.heap [] := va_S.rf
  obtain ⟨⟨adV, hstr⟩, -⟩ := id hEH
  obtain ⟨-, hco, hva, hTb⟩ := hstr.1 k hk
  refine lv_aload_n hx hb am_sd_len_0 rfl (lv_at hl 0 rfl) ?_
  refine vk_getf hx hb hva hS hown (hts _ am_sf_val rfl) (fun _ h => h) am_sd_len_1 ?_
  refine va_tlen hx hb hTb hS rfl am_sd_len_4 ?_
  refine lv_aload_n hx hb am_sd_len_5 rfl (lv_at hl 0 rfl) ?_
  refine am_xback (av := [.ref (am_sk G k)]) (va_runV (C := "java/lang/String") (Ts := []) (nL := 1) (As := []) (rest := [.int (Int32.ofNat (am_len.getD k 0))]) ⟨hx, hb, hml, hown, fun w hw => absurd hw List.not_mem_nil⟩ (am_cod (G := G) (M := M) (d := d) hk) ⟨am_xB hts (by show d + 7 ≤ d + 1 + 6; omega) (by show 60 * d + 360 ≤ 60 * (d + 1) + 300; omega) am_sw_cod (by decide) am_si_cod am_sl_cod (by decide) am_sp_cod, hts _ am_sm_cod rfl, hts _ am_ss_cod rfl⟩ ⟨am_Px.blind (am_blt (fun _ => trivial)), vk_recv hstr hk hS, am_xpre hE hEH hR hS (fun _ _ _ => trivial)⟩ rfl rfl hl.1 rfl (by show 2 * 0 + 1 ≤ 8; omega) am_sd_len_6 ⟨Nat.zero_le _, Nat.zero_le _⟩) hS (fun H1 locs1 hR1 hS1 => ?_)
  refine lv_ishr hx hb am_sd_len_9 ?_
  rw [show Int32.ofNat (am_len.getD k 0) >>> ((0 : Int32) &&& 31) = Int32.ofNat (am_len.getD k 0) from sc_shr0 hl9]
  exact W.iret hx hb hr (fun t ht hW => ⟨_, rfl, rfl, by rw [ht]; exact hR1, hS1.F ht⟩) hS1.2.2 am_sd_len_10
variable {d j : Nat} {o : am_O} {MF : am_M} {pc len : Nat} {L S : List Value}
theorem am_strk {k : Nat} (hk : k < 31) : am_ad G (1000000 + k) = am_sk G k := by
  unfold am_ad
  rw [if_neg (by omega), if_neg (by omega), Nat.add_sub_cancel_left]
theorem am_lens : ∀ k, k < 31 → am_len.getD k 0 < 2 ^ 31 := by decide +kernel
/-- length() is called -/
theorem am_callLen {k : Nat} (ha : am_at j pc = some (.invokevirtual 1002, len)) (hk : k < 31) (hS : (S.map fun v => v.category).sum ≤ 8) (kk : am_W G (d + 2) j o MF (pc + 3) L (.int (Int32.ofNat (am_len.getD k 0)) :: S) M) : am_W G (d + 2) j o MF pc L (.ref (1000000 + k) :: S) M := by
  obtain ⟨hok, hln⟩ := am_at_ok ha
  have hl9 : len = 3 := by simpa [am_ln] using hln
  subst hl9
  obtain ⟨idx, hd, hq⟩ := hok
  have hq : Cond.methodLink (am_y j).cls idx am_sn_len ∈ lw_tbl := by
    rcases hq with ⟨-, h⟩ | ⟨h, -⟩ | ⟨h, -⟩
    · exact h
    · omega
    · omega
  refine ⟨kk.1, ?_⟩
  intro p e R s m args below meth c H locs ls cells slots mc ms Q C r f l z h2 h3 h4 h5 he
  obtain ⟨⟨adV, hstr⟩, -⟩ := id C.2.2.2.2.2.2.2.2.2.1
  have hmp : (Value.ref (1000000 + k) :: S).map (am_sv G) = .ref (am_sk G k) :: S.map (am_sv G) := by
    rw [← am_strk (G := G) hk]; rfl
  rw [hmp]
  exact am_xback (av := [.ref (am_sk G k)]) (va_runV (C := "java/lang/String") (Ts := []) (nL := am_mL j) (As := []) (rest := S.map (am_sv G)) ⟨C.1, C.2.1, C.2.2.1, C.2.2.2.1, fun w hw => absurd hw List.not_mem_nil⟩ (am_slen (G := G) (M := M) (d := d) hk (am_lens k hk)) ⟨am_xB C.2.2.2.2.1 (by have := C.2.2.2.2.2.2.2.2.2.2.2.1; omega) (by have := C.2.2.2.2.2.2.2.2.2.2.2.2; omega) am_sw_len (by decide) am_si_len hq (by decide) am_sp_len, C.2.2.2.2.1 _ am_sm_len rfl, C.2.2.2.2.1 _ am_ss_len rfl⟩ ⟨am_Px.blind (am_blt (fun _ => trivial)), vk_recv hstr hk f, am_xpre C.2.2.2.2.2.2.2.2.1 C.2.2.2.2.2.2.2.2.2.1 r f (fun _ _ _ => trivial)⟩ rfl rfl l.2.1 rfl (by rw [am_catS]; show 2 * 0 + _ ≤ 8; omega) hd ⟨by omega, by omega⟩) f (fun H1 locs1 hR1 hS1 => kk.2 C hR1 hS1 l z h2 h3 h4 h5 he)
/-- charAt(i) is called -/
theorem am_callAt {k : Nat} {i : Int32} (ha : am_at j pc = some (.invokevirtual 1003, len)) (hk : k < 31) (hi : am_ix i (am_len.getD k 0) = true) (hnc : narrow .char (.int (am_chr k i)) = .int (am_chr k i)) (hS : (S.map fun v => v.category).sum ≤ 8) (kk : am_W G (d + 4) j o MF (pc + 3) L (.int (am_chr k i) :: S) M) : am_W G (d + 4) j o MF pc L (.int i :: .ref (1000000 + k) :: S) M := by
  obtain ⟨hok, hln⟩ := am_at_ok ha
  have hl9 : len = 3 := by simpa [am_ln] using hln
  subst hl9
  obtain ⟨idx, hd, hq⟩ := hok
  have hq : Cond.methodLink (am_y j).cls idx am_sn_at ∈ lw_tbl := by
    rcases hq with ⟨h, -⟩ | ⟨-, h⟩ | ⟨h, -⟩
    · omega
    · exact h
    · omega
  refine ⟨kk.1, ?_⟩
  intro p e R s m args below meth c H locs ls cells slots mc ms Q C r f l z h2 h3 h4 h5 he
  obtain ⟨⟨adV, hstr⟩, -⟩ := id C.2.2.2.2.2.2.2.2.2.1
  have hmp : (Value.int i :: .ref (1000000 + k) :: S).map (am_sv G) = .int i :: .ref (am_sk G k) :: S.map (am_sv G) := by
    rw [← am_strk (G := G) hk]; rfl
  rw [hmp]
  exact am_xback (av := [.ref (am_sk G k), .int i]) (va_runV (C := "java/lang/String") (Ts := []) (nL := am_mL j) (As := [.int i]) (rest := S.map (am_sv G)) ⟨C.1, C.2.1, C.2.2.1, C.2.2.2.1, fun w hw => absurd hw List.not_mem_nil⟩ (am_sat (G := G) (M := M) (d := d) hk hi (am_lens k hk) hnc) ⟨am_xB C.2.2.2.2.1 (by have := C.2.2.2.2.2.2.2.2.2.2.2.1; omega) (by have := C.2.2.2.2.2.2.2.2.2.2.2.2; omega) am_sw_at (by decide) am_si_at hq (by decide) am_sp_at, C.2.2.2.2.1 _ am_sm_at rfl, C.2.2.2.2.1 _ am_ss_at rfl⟩ ⟨am_Px.blind (am_blt (fun _ => trivial)), vk_recv hstr hk f, am_xpre C.2.2.2.2.2.2.2.2.1 C.2.2.2.2.2.2.2.2.2.1 r f (fun _ _ _ => trivial)⟩ rfl rfl l.2.1 rfl (by rw [am_catS]; show 2 * 0 + _ ≤ 8; omega) hd ⟨by omega, by omega⟩) f (fun H1 locs1 hR1 hS1 => kk.2 C hR1 hS1 l z h2 h3 h4 h5 he)
/-- Math.max, Math.min -/
theorem am_callMax {x y : Int32} (ha : am_at j pc = some (.invokestatic 269, len)) (hS : (S.map fun v => v.category).sum ≤ 8) (kk : am_W G d j o MF (pc + 3) L (.int (if x < y then y else x) :: S) M) : am_W G d j o MF pc L (.int y :: .int x :: S) M := by
  obtain ⟨hok, hln⟩ := am_at_ok ha
  have hl9 : len = 3 := by simpa [am_ln] using hln
  subst hl9
  obtain ⟨idx, hd, hq⟩ := hok
  rcases hq with ⟨h, -⟩ | ⟨-, hst, hq⟩
  · omega
  rcases hq with hq | ⟨host, hq⟩
  · refine ⟨kk.1, ?_⟩
    intro p e R s m args below meth c H locs ls cells slots mc ms Q C r f l z h2 h3 h4 h5 he
    exact va_mmax C.1 C.2.1 (by rw [C.2.2.1]; exact l.2.1.symm) C.2.2.2.1 (C.2.2.2.2.1 _ hq rfl) (C.2.2.2.2.1 _ hst rfl) (C.2.2.2.2.1 _ (am_mok 269 (by decide)).2.1 rfl) (C.2.2.2.2.1 _ (am_mem 620 (by decide +kernel)) rfl) (by have := C.2.2.2.2.2.2.2.2.2.2.2.1; omega) (by rw [am_catS]; have := C.2.2.2.2.2.2.2.2.2.2.2.2; omega) (by omega) (by omega) hd (kk.2 C r f l z h2 h3 h4 h5 he)
  · exact absurd hq (am_nonest269 _ _ _)
theorem am_callMin {x y : Int32} (ha : am_at j pc = some (.invokestatic 270, len)) (hS : (S.map fun v => v.category).sum ≤ 8) (kk : am_W G d j o MF (pc + 3) L (.int (if y < x then y else x) :: S) M) : am_W G d j o MF pc L (.int y :: .int x :: S) M := by
  obtain ⟨hok, hln⟩ := am_at_ok ha
  have hl9 : len = 3 := by simpa [am_ln] using hln
  subst hl9
  obtain ⟨idx, hd, hq⟩ := hok
  rcases hq with ⟨h, -⟩ | ⟨-, hst, hq⟩
  · omega
  rcases hq with hq | ⟨host, hq⟩
  · refine ⟨kk.1, ?_⟩
    intro p e R s m args below meth c H locs ls cells slots mc ms Q C r f l z h2 h3 h4 h5 he
    exact va_mmin C.1 C.2.1 (by rw [C.2.2.1]; exact l.2.1.symm) C.2.2.2.1 (C.2.2.2.2.1 _ hq rfl) (C.2.2.2.2.1 _ hst rfl) (C.2.2.2.2.1 _ (am_mok 270 (by decide)).2.1 rfl) (C.2.2.2.2.1 _ (am_mem 563 (by decide +kernel)) rfl) (by have := C.2.2.2.2.2.2.2.2.2.2.2.1; omega) (by rw [am_catS]; have := C.2.2.2.2.2.2.2.2.2.2.2.2; omega) (by omega) (by omega) hd (kk.2 C r f l z h2 h3 h4 h5 he)
  · exact absurd hq (am_nonest270 _ _ _)
end AMY

