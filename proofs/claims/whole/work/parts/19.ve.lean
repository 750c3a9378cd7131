/-! One instruction: the condition is enough. -/
section WPY
variable {G : am_G} {d j pc len : Nat} {P : am_K} {J : Nat → List Value → List Value → am_M → Prop} {K : List Value → List Value → am_M → Prop} {L S : List Value} {M : am_M} {i : Instr} {cs : List Nat}
set_option maxHeartbeats 2000000 in
theorem am_wi_ok (ha : am_at j pc = some (i, len)) (hJ : ∀ pc L S M, J pc L S M → am_V G d j pc L S M P) (hK : ∀ L S M, K L S M → am_V G d j (pc + len) L S M P) (h : am_wi G d j P J K (am_nrm pc i) pc len L S M) : am_V G d j pc L S M P := by
  cases i
  case iload i =>
    have hl : len = 2 := am_len_of ha (fun _ => rfl)
    subst hl
    exact am_ldok ha rfl hK h
  case iload_n k =>
    have hl : len = 1 := am_len_of ha (fun _ => rfl)
    subst hl
    exact am_ldok ha rfl hK h
  case aload i =>
    have hl : len = 2 := am_len_of ha (fun _ => rfl)
    subst hl
    exact am_ldok ha rfl hK h
  case aload_n k =>
    have hl : len = 1 := am_len_of ha (fun _ => rfl)
    subst hl
    exact am_ldok ha rfl hK h
  case lload i =>
    have hl : len = 2 := am_len_of ha (fun _ => rfl)
    subst hl
    exact am_ldok ha rfl hK h
  case lload_n k =>
    have hl : len = 1 := am_len_of ha (fun _ => rfl)
    subst hl
    exact am_ldok ha rfl hK h
  case istore i =>
    have hl : len = 2 := am_len_of ha (fun _ => rfl)
    subst hl
    simp only [am_nrm, am_wi] at h
    split at h
    · rename_i x S
      refine v_st ha (pc' := pc + 2) (L' := L.set i (.int x)) (S' := S) (M' := M) ?_ (hK _ _ _ h.2)
      simp only [am_st]
      simp [am_sto, h.1]
    · exact absurd h id
  case istore_n i =>
    have hl : len = 1 := am_len_of ha (fun _ => rfl)
    subst hl
    simp only [am_nrm, am_wi] at h
    split at h
    · rename_i x S
      refine v_st ha (pc' := pc + 1) (L' := L.set i.val (.int x)) (S' := S) (M' := M) ?_ (hK _ _ _ h.2)
      simp only [am_st]
      simp [am_sto, h.1]
    · exact absurd h id
  case astore i =>
    have hl : len = 2 := am_len_of ha (fun _ => rfl)
    subst hl
    simp only [am_nrm, am_wi] at h
    split at h
    · rename_i x S
      refine v_st ha (pc' := pc + 2) (L' := L.set i (.ref x)) (S' := S) (M' := M) ?_ (hK _ _ _ h.2)
      simp only [am_st]
      simp [am_sto, h.1]
    · exact absurd h id
  case astore_n i =>
    have hl : len = 1 := am_len_of ha (fun _ => rfl)
    subst hl
    simp only [am_nrm, am_wi] at h
    split at h
    · rename_i x S
      refine v_st ha (pc' := pc + 1) (L' := L.set i.val (.ref x)) (S' := S) (M' := M) ?_ (hK _ _ _ h.2)
      simp only [am_st]
      simp [am_sto, h.1]
    · exact absurd h id
  case lstore i =>
    have hl : len = 2 := am_len_of ha (fun _ => rfl)
    subst hl
    simp only [am_nrm, am_wi] at h
    split at h
    · rename_i x S
      refine v_st ha (pc' := pc + 2) (L' := (L.set i (.long x)).set (i + 1) am_junk) (S' := S) (M' := M) ?_ (hK _ _ _ h.2.2)
      simp only [am_st]
      simp [am_sto, h.1, h.2.1]
    · exact absurd h id
  case lstore_n i =>
    have hl : len = 1 := am_len_of ha (fun _ => rfl)
    subst hl
    simp only [am_nrm, am_wi] at h
    split at h
    · rename_i x S
      refine v_st ha (pc' := pc + 1) (L' := (L.set i.val (.long x)).set (i.val + 1) am_junk) (S' := S) (M' := M) ?_ (hK _ _ _ h.2.2)
      simp only [am_st]
      simp [am_sto, h.1, h.2.1]
    · exact absurd h id
  case iconst v =>
    have hl : len = 1 := am_len_of ha (fun _ => rfl)
    subst hl
    by_cases hv : 0 ≤ v
    · simp only [am_nrm, hv, if_true, am_wi] at h
      refine v_st ha (pc' := pc + 1) (L' := L) (S' := .int (nI v.toNat) :: S) (M' := M) ?_ (hK _ _ _ h)
      show some (pc + 1, L, .int (Int32.ofInt v) :: S, M) = _
      rw [am_ofI hv]
    · simp only [am_nrm, hv, if_false, am_wi] at h
      exact v_st ha (pc' := pc + 1) (L' := L) (S' := .int (am_c v) :: S) (M' := M) rfl (hK _ _ _ h)
  case bipush v =>
    have hl : len = 2 := am_len_of ha (fun _ => rfl)
    subst hl
    by_cases hv : 0 ≤ v ∧ v < 128
    · simp only [am_nrm, if_pos hv, am_wi] at h
      refine v_st ha (pc' := pc + 2) (L' := L) (S' := .int (nI v.toNat) :: S) (M' := M) ?_ (hK _ _ _ h)
      simp only [am_st]
      rw [am_of8 ⟨by omega, by omega⟩, am_ofI hv.1]
    · by_cases hv2 : -128 ≤ v ∧ v < 0
      · simp only [am_nrm, if_neg hv, if_pos hv2, am_wi] at h
        refine v_st ha (pc' := pc + 2) (L' := L) (S' := .int (am_c v) :: S) (M' := M) ?_ (hK _ _ _ h)
        simp only [am_st]
        rw [am_of8 ⟨by omega, by omega⟩]
        rfl
      · simp only [am_nrm, if_neg hv, if_neg hv2] at h
        exact am_dflt ha hK h
  case sipush v =>
    have hl : len = 3 := am_len_of ha (fun _ => rfl)
    subst hl
    by_cases hv : 0 ≤ v ∧ v < 32768
    · simp only [am_nrm, if_pos hv, am_wi] at h
      refine v_st ha (pc' := pc + 3) (L' := L) (S' := .int (nI v.toNat) :: S) (M' := M) ?_ (hK _ _ _ h)
      simp only [am_st]
      rw [am_of16 ⟨by omega, by omega⟩, am_ofI hv.1]
    · by_cases hv2 : -32768 ≤ v ∧ v < 0
      · simp only [am_nrm, if_neg hv, if_pos hv2, am_wi] at h
        refine v_st ha (pc' := pc + 3) (L' := L) (S' := .int (am_c v) :: S) (M' := M) ?_ (hK _ _ _ h)
        simp only [am_st]
        rw [am_of16 ⟨by omega, by omega⟩]
        rfl
      · simp only [am_nrm, if_neg hv, if_neg hv2] at h
        exact am_dflt ha hK h
  case ldc_w v =>
    have hl : len = 3 := am_len_of ha (fun _ => rfl)
    subst hl
    exact v_st ha (pc' := pc + 3) (L' := L) (S' := .int (nI v) :: S) (M' := M) rfl (hK _ _ _ h)
  case ldc2_w v =>
    have hl : len = 3 := am_len_of ha (fun _ => rfl)
    subst hl
    exact v_st ha (pc' := pc + 3) (L' := L) (S' := .long (Int64.ofNat v) :: S) (M' := M) rfl (hK _ _ _ h)
  case lconst v =>
    have hl : len = 1 := am_len_of ha (fun _ => rfl)
    subst hl
    exact v_st ha (pc' := pc + 1) (L' := L) (S' := .long (Int64.ofNat v) :: S) (M' := M) rfl (hK _ _ _ h)
  case ldc v =>
    have hl : len = 2 := am_len_of ha (fun _ => rfl)
    subst hl
    exact v_st ha (pc' := pc + 2) (L' := L) (S' := .ref (1000000 + v) :: S) (M' := M) rfl (hK _ _ _ h)
  case iinc i v =>
    have hl : len = 3 := am_len_of ha (fun _ => rfl)
    subst hl
    simp only [am_nrm, am_wi] at h
    obtain ⟨x, h1, h2, h⟩ := h
    refine v_st ha (pc' := pc + 3) (L' := L.set i (.int (am_inc x v))) (S' := S) (M' := M) ?_ (hK _ _ _ h)
    simp only [am_st, am_gv_get _ _ _ h1 (by simp [am_junk]), h2, if_true]
    unfold am_inc
    split
    · rename_i hv
      rw [am_ofI hv]
    · rfl
  case iadd =>
    have hl : len = 1 := am_len_of ha (fun _ => rfl)
    subst hl
    simp only [am_nrm, am_wi] at h
    split at h
    · exact v_st ha (pc' := pc + 1) (L' := L) (M' := M) rfl (hK _ _ _ h)
    · exact absurd h id
  case isub =>
    have hl : len = 1 := am_len_of ha (fun _ => rfl)
    subst hl
    simp only [am_nrm, am_wi] at h
    split at h
    · exact v_st ha (pc' := pc + 1) (L' := L) (M' := M) rfl (hK _ _ _ h)
    · exact absurd h id
  case imul =>
    have hl : len = 1 := am_len_of ha (fun _ => rfl)
    subst hl
    simp only [am_nrm, am_wi] at h
    split at h
    · exact v_st ha (pc' := pc + 1) (L' := L) (M' := M) rfl (hK _ _ _ h)
    · exact absurd h id
  case iand =>
    have hl : len = 1 := am_len_of ha (fun _ => rfl)
    subst hl
    simp only [am_nrm, am_wi] at h
    split at h
    · exact v_st ha (pc' := pc + 1) (L' := L) (M' := M) rfl (hK _ _ _ h)
    · exact absurd h id
  case ior =>
    have hl : len = 1 := am_len_of ha (fun _ => rfl)
    subst hl
    simp only [am_nrm, am_wi] at h
    split at h
    · exact v_st ha (pc' := pc + 1) (L' := L) (M' := M) rfl (hK _ _ _ h)
    · exact absurd h id
  case ixor =>
    have hl : len = 1 := am_len_of ha (fun _ => rfl)
    subst hl
    simp only [am_nrm, am_wi] at h
    split at h
    · exact v_st ha (pc' := pc + 1) (L' := L) (M' := M) rfl (hK _ _ _ h)
    · exact absurd h id
  case ishl =>
    have hl : len = 1 := am_len_of ha (fun _ => rfl)
    subst hl
    simp only [am_nrm, am_wi] at h
    split at h
    · exact v_st ha (pc' := pc + 1) (L' := L) (M' := M) rfl (hK _ _ _ h)
    · exact absurd h id
  case ishr =>
    have hl : len = 1 := am_len_of ha (fun _ => rfl)
    subst hl
    simp only [am_nrm, am_wi] at h
    split at h
    · exact v_st ha (pc' := pc + 1) (L' := L) (M' := M) rfl (hK _ _ _ h)
    · exact absurd h id
  case iushr =>
    have hl : len = 1 := am_len_of ha (fun _ => rfl)
    subst hl
    simp only [am_nrm, am_wi] at h
    split at h
    · exact v_st ha (pc' := pc + 1) (L' := L) (M' := M) rfl (hK _ _ _ h)
    · exact absurd h id
  case idiv =>
    have hl : len = 1 := am_len_of ha (fun _ => rfl)
    subst hl
    simp only [am_nrm, am_wi] at h
    split at h
    · rename_i y x S
      have hy : ¬ y = 0 := by rw [← nI_0]; exact h.1
      refine v_st ha (pc' := pc + 1) (L' := L) (M' := M) ?_ (hK _ _ _ h.2)
      simp only [am_st, hy, if_false]
      try rfl
    · exact absurd h id
  case irem =>
    have hl : len = 1 := am_len_of ha (fun _ => rfl)
    subst hl
    simp only [am_nrm, am_wi] at h
    split at h
    · rename_i y x S
      have hy : ¬ y = 0 := by rw [← nI_0]; exact h.1
      refine v_st ha (pc' := pc + 1) (L' := L) (M' := M) ?_ (hK _ _ _ h.2)
      simp only [am_st, hy, if_false]
      try rfl
    · exact absurd h id
  case ineg =>
    have hl : len = 1 := am_len_of ha (fun _ => rfl)
    subst hl
    simp only [am_nrm, am_wi] at h
    split at h
    · exact v_st ha (pc' := pc + 1) (L' := L) (M' := M) rfl (hK _ _ _ h)
    · exact absurd h id
  case i2l =>
    have hl : len = 1 := am_len_of ha (fun _ => rfl)
    subst hl
    simp only [am_nrm, am_wi] at h
    split at h
    · exact v_st ha (pc' := pc + 1) (L' := L) (M' := M) rfl (hK _ _ _ h)
    · exact absurd h id
  case lshl =>
    have hl : len = 1 := am_len_of ha (fun _ => rfl)
    subst hl
    simp only [am_nrm, am_wi] at h
    split at h
    · exact v_st ha (pc' := pc + 1) (L' := L) (M' := M) rfl (hK _ _ _ h)
    · exact absurd h id
  case lor =>
    have hl : len = 1 := am_len_of ha (fun _ => rfl)
    subst hl
    simp only [am_nrm, am_wi] at h
    split at h
    · exact v_st ha (pc' := pc + 1) (L' := L) (M' := M) rfl (hK _ _ _ h)
    · exact absurd h id
  case lsub =>
    have hl : len = 1 := am_len_of ha (fun _ => rfl)
    subst hl
    simp only [am_nrm, am_wi] at h
    split at h
    · exact v_st ha (pc' := pc + 1) (L' := L) (M' := M) rfl (hK _ _ _ h)
    · exact absurd h id
  case lcmp =>
    have hl : len = 1 := am_len_of ha (fun _ => rfl)
    subst hl
    simp only [am_nrm, am_wi] at h
    split at h
    · exact v_st ha (pc' := pc + 1) (L' := L) (M' := M) rfl (hK _ _ _ h)
    · exact absurd h id
  case pop =>
    have hl : len = 1 := am_len_of ha (fun _ => rfl)
    subst hl
    simp only [am_nrm, am_wi] at h
    split at h
    · exact v_st ha (pc' := pc + 1) (L' := L) (M' := M) rfl (hK _ _ _ h)
    · exact absurd h id
  case dup2 =>
    have hl : len = 1 := am_len_of ha (fun _ => rfl)
    subst hl
    simp only [am_nrm, am_wi] at h
    split at h
    · exact v_st ha (pc' := pc + 1) (L' := L) (M' := M) rfl (hK _ _ _ h)
    · exact absurd h id
  case dup =>
    have hl : len = 1 := am_len_of ha (fun _ => rfl)
    subst hl
    simp only [am_nrm, am_wi] at h
    split at h
    · exact v_st ha (pc' := pc + 1) (L' := L) (M' := M) rfl (hK _ _ _ h)
    · exact v_st ha (pc' := pc + 1) (L' := L) (M' := M) rfl (hK _ _ _ h)
    · exact absurd h id
  case ifCond c off =>
    have hl : len = 3 := am_len_of ha (fun _ => rfl)
    subst hl
    simp only [am_nrm, am_wi] at h
    split at h
    · rename_i x S
      obtain ⟨h0, h1, h2⟩ := h
      rcases am_cq_p (c := c) (x := x) (y := nI 0) with hc | hc
      · refine v_st ha (pc' := ((pc : Int) + off).toNat) (L' := L) (S' := S) (M' := M) ?_ (hJ _ _ _ _ (h1 hc))
        rw [am_cp_c, am_cc2_z] at hc
        simp only [am_st, am_tgp h0, Option.bind_some, hc, if_true]
      · refine v_st ha (pc' := pc + 3) (L' := L) (S' := S) (M' := M) ?_ (hK _ _ _ (h2 hc))
        rw [am_cq_c, am_cc2_z] at hc
        simp only [am_st, am_tgp h0, Option.bind_some, hc]
        rfl
    · exact absurd h id
  case if_icmp c off =>
    have hl : len = 3 := am_len_of ha (fun _ => rfl)
    subst hl
    simp only [am_nrm, am_wi] at h
    split at h
    · rename_i y x S
      obtain ⟨h0, h1, h2⟩ := h
      rcases am_cq_p (c := c) (x := x) (y := y) with hc | hc
      · refine v_st ha (pc' := ((pc : Int) + off).toNat) (L' := L) (S' := S) (M' := M) ?_ (hJ _ _ _ _ (h1 hc))
        rw [am_cp_c] at hc
        simp only [am_st, am_tgp h0, Option.bind_some, hc, if_true]
      · refine v_st ha (pc' := pc + 3) (L' := L) (S' := S) (M' := M) ?_ (hK _ _ _ (h2 hc))
        rw [am_cq_c] at hc
        simp only [am_st, am_tgp h0, Option.bind_some, hc]
        rfl
    · exact absurd h id
  case goto off =>
    have hl : len = 3 := am_len_of ha (fun _ => rfl)
    subst hl
    simp only [am_nrm, am_wi] at h
    refine v_st ha (pc' := ((pc : Int) + off).toNat) (L' := L) (S' := S) (M' := M) ?_ (hJ _ _ _ _ h.2)
    simp only [am_st, am_tgp h.1, Option.bind_some]
  case tableswitch dd lo hi offs =>
    simp only [am_nrm, am_wi] at h
    split at h
    · rename_i x S
      obtain ⟨h0, h1, h2⟩ := h
      by_cases hc : x.toInt < lo ∨ hi < x.toInt
      · obtain ⟨h3, h4⟩ := h1 hc
        refine v_st ha (pc' := ((pc : Int) + dd).toNat) (L' := L) (S' := S) (M' := M) ?_ (hJ _ _ _ _ h4)
        simp only [am_st, if_pos hc, am_tgp h3, Option.bind_some]
      · have key : ∀ (ts : List Int) (l0 : Int), am_tsw J x L S M l0 (ts.map (fun o => (pc : Int) + o)) → l0 ≤ x.toInt → x.toInt < l0 + ts.length → ∃ o, ts[(x.toInt - l0).toNat]? = some o ∧ 0 ≤ (pc : Int) + o ∧ J ((pc : Int) + o).toNat L S M := by
          intro ts
          induction ts with
          | nil => intro l0 _ g1 g2; simp at g2; omega
          | cons o ts ih =>
            intro l0 hs g1 g2
            rw [List.map_cons, am_tsw] at hs
            by_cases he : x.toInt = l0
            · obtain ⟨g3, g4⟩ := hs.1 he
              exact ⟨o, by rw [he]; simp, g3, g4⟩
            · obtain ⟨o', g3, g4⟩ := ih (l0 + 1) hs.2 (by omega) (by rw [List.length_cons] at g2; push_cast at g2; omega)
              refine ⟨o', ?_, g4⟩
              rw [show (x.toInt - l0).toNat = (x.toInt - (l0 + 1)).toNat + 1 by omega, List.getElem?_cons_succ]
              exact g3
        simp only [Array.size_map] at h0
        obtain ⟨o, g1, g2, g3⟩ := key offs.toList lo (by simpa using h2) (by omega) (by rw [Array.length_toList]; omega)
        refine v_st ha (pc' := ((pc : Int) + o).toNat) (L' := L) (S' := S) (M' := M) ?_ (hJ _ _ _ _ g3)
        rw [Array.getElem?_toList] at g1
        simp only [am_st, if_neg hc, g1, am_tgp g2, Option.bind_some]
    · exact absurd h id
  case getfield q =>
    have hl : len = 3 := by
      have := (am_at_ok ha).2
      simp only [am_ln, Bool.and_eq_true, beq_iff_eq] at this
      exact this.2
    subst hl
    simp only [am_nrm, am_wi] at h
    split at h
    · rename_i a S
      obtain ⟨h0, h⟩ := h
      have h0 : am_k M a = (0, q / 10000) := h0
      by_cases q2 : q % 10 = 2
      · rw [if_pos q2] at h
        obtain ⟨b, h1, h⟩ := h
        have h1 : am_r M a (q % 10000 / 10) = some b := h1
        refine v_st ha (pc' := pc + 3) (L' := L) (S' := .ref b :: S) (M' := M) ?_ (hK _ _ _ h)
        simp only [am_st, h0, if_true, q2, h1]
        rfl
      · rw [if_neg q2] at h
        by_cases q3 : q % 10 = 3
        · rw [if_pos q3] at h
          refine v_st ha (pc' := pc + 3) (L' := L) (M' := M) ?_ (hK _ _ _ h)
          simp only [am_st, h0, if_true, q3]
          rfl
        · rw [if_neg q3] at h
          refine v_st ha (pc' := pc + 3) (L' := L) (M' := M) ?_ (hK _ _ _ h)
          simp only [am_st, h0, if_true]
          rfl
    · exact absurd h id
  case putfield q =>
    have hl : len = 3 := by
      have := (am_at_ok ha).2
      simp only [am_ln, Bool.and_eq_true, beq_iff_eq] at this
      exact this.2
    subst hl
    simp only [am_nrm, am_wi] at h
    split at h
    · rename_i x a S
      obtain ⟨h0, h1, h⟩ := h
      have h0 : am_k M a = (0, q / 10000) := h0
      rw [nI_0, show nI 1 = 1 from rfl] at h1
      refine v_st ha (pc' := pc + 3) (L' := L) (S' := S) ?_ (hK _ _ _ h)
      simp only [am_st]
      rw [if_pos ⟨h0, h1⟩]
      rfl
    · rename_i x a S
      obtain ⟨h0, h1, h⟩ := h
      have h0 : am_k M a = (0, q / 10000) := h0
      refine v_st ha (pc' := pc + 3) (L' := L) (S' := S) ?_ (hK _ _ _ h)
      simp only [am_st]
      rw [if_pos ⟨h0, h1⟩]
      rfl
    · rename_i x a S
      obtain ⟨h0, h1, h⟩ := h
      have h0 : am_k M a = (0, q / 10000) := h0
      refine v_st ha (pc' := pc + 3) (L' := L) (S' := S) ?_ (hK _ _ _ h)
      simp only [am_st]
      rw [if_pos ⟨h0, h1⟩]
      rfl
    · exact absurd h id
  case iaload =>
    have hl : len = 1 := am_len_of ha (fun _ => rfl)
    subst hl
    simp only [am_nrm, am_wi] at h
    split at h
    · rename_i i a S
      obtain ⟨h0, ⟨h1, h2, h3⟩, h⟩ := h
      have e1 := am_ixc h1 h2
      refine v_st ha (pc' := pc + 1) (L' := L) (M' := M) ?_ (hK _ _ _ h)
      simp only [am_st]
      rw [if_pos ⟨h0, e1⟩]
      rfl
    · exact absurd h id
  case baload =>
    have hl : len = 1 := am_len_of ha (fun _ => rfl)
    subst hl
    simp only [am_nrm, am_wi] at h
    split at h
    · rename_i i a S
      obtain ⟨h0, ⟨h1, h2, h3⟩, h⟩ := h
      have e1 := am_ixc h1 h2
      refine v_st ha (pc' := pc + 1) (L' := L) (M' := M) ?_ (hK _ _ _ h)
      simp only [am_st]
      rw [if_pos ⟨h0, e1⟩]
      rfl
    · exact absurd h id
  case laload =>
    have hl : len = 1 := am_len_of ha (fun _ => rfl)
    subst hl
    simp only [am_nrm, am_wi] at h
    split at h
    · rename_i i a S
      obtain ⟨h0, ⟨h1, h2, h3⟩, h⟩ := h
      have e1 := am_ixc h1 h2
      refine v_st ha (pc' := pc + 1) (L' := L) (M' := M) ?_ (hK _ _ _ h)
      simp only [am_st]
      rw [if_pos ⟨h0, e1⟩]
      rfl
    · exact absurd h id
  case aaload =>
    have hl : len = 1 := am_len_of ha (fun _ => rfl)
    subst hl
    simp only [am_nrm, am_wi] at h
    split at h
    · rename_i i a S
      obtain ⟨h0, ⟨h1, h2, h3⟩, b, h4, h⟩ := h
      have e1 := am_ixc h1 h2
      have h4 : am_r M a i.toNatClampNeg = some b := h4
      refine v_st ha (pc' := pc + 1) (L' := L) (M' := M) ?_ (hK _ _ _ h)
      simp only [am_st]
      rw [if_pos ⟨h0, e1⟩, h4]
      rfl
    · exact absurd h id
  case iastore =>
    have hl : len = 1 := am_len_of ha (fun _ => rfl)
    subst hl
    simp only [am_nrm, am_wi] at h
    split at h
    · rename_i x i a S
      obtain ⟨h0, ⟨h1, h2, h3⟩, h⟩ := h
      have e1 := am_ixc h1 h2
      refine v_st ha (pc' := pc + 1) (L' := L) (S' := S) ?_ (hK _ _ _ h)
      simp only [am_st]
      rw [if_pos ⟨h0, e1⟩]
      rfl
    · exact absurd h id
  case lastore =>
    have hl : len = 1 := am_len_of ha (fun _ => rfl)
    subst hl
    simp only [am_nrm, am_wi] at h
    split at h
    · rename_i x i a S
      obtain ⟨h0, ⟨h1, h2, h3⟩, h⟩ := h
      have e1 := am_ixc h1 h2
      refine v_st ha (pc' := pc + 1) (L' := L) (S' := S) ?_ (hK _ _ _ h)
      simp only [am_st]
      rw [if_pos ⟨h0, e1⟩]
      rfl
    · exact absurd h id
  case bastore =>
    have hl : len = 1 := am_len_of ha (fun _ => rfl)
    subst hl
    simp only [am_nrm, am_wi] at h
    split at h
    · rename_i x i a S
      obtain ⟨h0, hx, ⟨h1, h2, h3⟩, h⟩ := h
      have e1 := am_ixc h1 h2
      rw [nI_0, show nI 1 = 1 from rfl] at hx
      refine v_st ha (pc' := pc + 1) (L' := L) (S' := S) ?_ (hK _ _ _ h)
      simp only [am_st]
      rw [if_pos ⟨h0, e1, hx⟩]
      rfl
    · exact absurd h id
  case aastore =>
    have hl : len = 1 := am_len_of ha (fun _ => rfl)
    subst hl
    simp only [am_nrm, am_wi] at h
    split at h
    · rename_i x i a S
      obtain ⟨h0, hx, ⟨h1, h2, h3⟩, h⟩ := h
      have e1 := am_ixc h1 h2
      refine v_st ha (pc' := pc + 1) (L' := L) (S' := S) ?_ (hK _ _ _ h)
      simp only [am_st]
      rw [if_pos ⟨h0, e1, hx⟩]
      rfl
    · exact absurd h id
  case arraylength =>
    have hl : len = 1 := am_len_of ha (fun _ => rfl)
    subst hl
    simp only [am_nrm, am_wi] at h
    split at h
    · rename_i a S
      refine v_st ha (pc' := pc + 1) (L' := L) (M' := M) ?_ (hK _ _ _ h.2)
      simp only [am_st]
      have h1 : 1 ≤ (am_k M a).1 ∧ (am_k M a).1 ≤ 7 := h.1
      rw [if_pos h1]
      rfl
    · exact absurd h id
  case ireturn =>
    simp only [am_nrm, am_wi] at h
    split at h
    · rcases h.1 with hr | ⟨hr, hx⟩
      · exact v_ri ha hr h.2
      · exact v_rz ha hr hx h.2
    · exact absurd h id
  case lreturn =>
    simp only [am_nrm, am_wi] at h
    split at h
    · exact v_rj ha h.1 h.2
    · exact absurd h id
  case return_ =>
    simp only [am_nrm, am_wi] at h
    split at h
    · exact v_rv ha h.1 h.2
    · exact absurd h id
  case new t =>
    simp only [am_nrm, am_wi] at h
    split at h
    · rename_i ht
      exact v_thr ha ht h.1 (am_few h.2.1) h.2.2
    · exact am_dflt ha hK h
  case invokevirtual t =>
    have hl : len = 3 := am_len_of ha (fun _ => rfl)
    subst hl
    simp only [am_nrm, am_wi] at h
    split at h
    · rename_i ht
      subst ht
      split at h
      · rename_i r S
        obtain ⟨h1, h2, h3, h4, h⟩ := h
        obtain ⟨k, rfl⟩ : ∃ k, r = 1000000 + k := ⟨r - 1000000, (Nat.add_sub_cancel' h3).symm⟩
        obtain ⟨d, rfl⟩ : ∃ d', d = d' + 2 := ⟨d - 2, by omega⟩
        rw [Nat.add_sub_cancel_left] at h h4
        exact am_V.lift (fun _ _ q => am_callLen ha h4 (am_few h2) q) (hK _ _ _ h)
      · exact absurd h id
    · split at h
      · rename_i ht
        subst ht
        split at h
        · rename_i i r S
          obtain ⟨h1, h2, h3, h4, h5, h6, h⟩ := h
          obtain ⟨k, rfl⟩ : ∃ k, r = 1000000 + k := ⟨r - 1000000, (Nat.add_sub_cancel' h3).symm⟩
          obtain ⟨d, rfl⟩ : ∃ d', d = d' + 4 := ⟨d - 4, by omega⟩
          rw [Nat.add_sub_cancel_left] at h h4 h5 h6
          exact am_V.lift (fun _ _ q => am_callAt ha h4 h5 h6 (am_few h2) q) (hK _ _ _ h)
        · exact absurd h id
      · split at h
        · rename_i As a S' hsp
          obtain ⟨h1, ⟨c1, c2, c3, c4, c5⟩, h2, h3, h⟩ := h
          obtain ⟨d, rfl⟩ : ∃ d', d = d' + 1 := ⟨d - 1, by omega⟩
          rw [Nat.add_sub_cancel] at h
          rw [← am_spl_0 hsp]
          have hk : am_k M a = (0, (kk M a).2) := by rw [← c3]; rfl
          obtain ⟨o, M', hp, hm⟩ := h
          match o, hp, hm with
          | .inl none, hp, hm => exact v_cv _ ha c1 c2 hk c4 c5 h2 (am_few h3) ⟨_, M', ⟨none, rfl, rfl, hK _ _ _ hp⟩, hm⟩
          | .inl (some (.int x)), hp, hm => exact v_cv _ ha c1 c2 hk c4 c5 h2 (am_few h3) ⟨_, M', ⟨some (.int x), rfl, rfl, hK _ _ _ hp⟩, hm⟩
          | .inl (some (.long x)), hp, hm => exact v_cv _ ha c1 c2 hk c4 c5 h2 (am_few h3) ⟨_, M', ⟨some (.long x), rfl, rfl, hK _ _ _ hp⟩, hm⟩
          | .inr E, hp, hm => exact v_cvx _ ha c1 c2 hp.1 hk c4 c5 h2 (am_few h3) ⟨_, M', ⟨rfl, hp.2⟩, hm⟩
        · exact absurd h id
  case invokestatic t =>
    have hl : len = 3 := am_len_of ha (fun _ => rfl)
    subst hl
    simp only [am_nrm, am_wi] at h
    split at h
    · rename_i ht
      subst ht
      split at h
      · rename_i n dp b sp a S
        obtain ⟨h1, h2, h3, h4, h5, ⟨g1, g2, g3⟩, h6, h7, h⟩ := h
        rw [nI_0] at g1 g2 g3
        refine v_copy ha (na := (kk M a).2) (nb := (kk M b).2) (by rw [← h1]; rfl) (by rw [← h2]; rfl) g3 g2 g1 h6 h7 (am_few h5) ?_
        exact hK _ _ _ h
      · exact absurd h id
    · split at h
      · rename_i ht
        subst ht
        split at h
        · exact v_max ha (am_few h.1) (hK _ _ _ h.2)
        · exact absurd h id
      · split at h
        · rename_i ht
          subst ht
          split at h
          · exact v_min ha (am_few h.1) (hK _ _ _ h.2)
          · exact absurd h id
        · generalize hsp : am_spl (am_np t) S [] = sp at h
          obtain ⟨As, S'⟩ := sp
          obtain ⟨h1, ⟨c1, c2⟩, h2, h3, h⟩ := h
          obtain ⟨d, rfl⟩ : ∃ d', d = d' + 1 := ⟨d - 1, by omega⟩
          rw [Nat.add_sub_cancel] at h
          rw [← am_spl_0 hsp]
          obtain ⟨o, M', hp, hm⟩ := h
          match o, hp, hm with
          | .inl none, hp, hm => exact v_cs ha c1 c2 h2 (am_few h3) ⟨_, M', ⟨none, rfl, rfl, hK _ _ _ hp⟩, hm⟩
          | .inl (some (.int x)), hp, hm => exact v_cs ha c1 c2 h2 (am_few h3) ⟨_, M', ⟨some (.int x), rfl, rfl, hK _ _ _ hp⟩, hm⟩
          | .inl (some (.long x)), hp, hm => exact v_cs ha c1 c2 h2 (am_few h3) ⟨_, M', ⟨some (.long x), rfl, rfl, hK _ _ _ hp⟩, hm⟩
          | .inr E, hp, hm => exact v_csx ha c1 hp.1 hp.2.2.1 hp.2.1 h2 (am_few h3) ⟨_, M', ⟨rfl, hp.2.2.2⟩, hm⟩
  case invokespecial t =>
    have hl : len = 3 := am_len_of ha (fun _ => rfl)
    subst hl
    simp only [am_nrm, am_wi] at h
    split at h
    · rename_i ht
      subst ht
      split at h
      · exact v_obj ha (am_few h.1) (hK _ _ _ h.2)
      · exact absurd h id
    · split at h
      · rename_i As a S' hsp
        obtain ⟨h1, ⟨c1, c2, c3⟩, h2, h3, h⟩ := h
        obtain ⟨d, rfl⟩ : ∃ d', d = d' + 1 := ⟨d - 1, by omega⟩
        rw [Nat.add_sub_cancel] at h
        rw [← am_spl_0 hsp]
        exact v_ci ha c1 c2 c3 h2 (am_few h3) (h.mono (fun o M' q => ⟨q.1, hK _ _ _ q.2⟩))
      · exact absurd h id
  all_goals exact am_dflt ha hK h
theorem am_lw_ok (hJ : ∀ pc L S M, J pc L S M → am_V G d j pc L S M P) : ∀ (n pc : Nat) (L S : List Value) (M : am_M), am_lw G d j P cs J (am_sf j n pc) pc L S M → am_V G d j pc L S M P := by
  intro n
  induction n with
  | zero => intro pc L S M h; exact h
  | succ n ih =>
    intro pc L S M h
    rw [am_sf] at h
    split at h
    · exact h
    · rename_i i len ha
      rw [am_lw] at h
      refine am_wi_ok ha hJ (fun L S M hk => ?_) h
      split at hk
      · exact hk
      · split at hk
        · exact hk
        · exact ih _ _ _ _ hk
theorem am_jw_ok : ∀ (n pc : Nat) (L S : List Value) (M : am_M), am_jw G d j P cs n pc L S M → am_V G d j pc L S M P := by
  intro n
  induction n with
  | zero => intro pc L S M h; exact h
  | succ n ih =>
    intro pc L S M h
    rw [am_jw] at h
    split at h
    · exact h
    · exact am_lw_ok ih _ _ _ _ _ h
/-- the way in -/
theorem am_run9 {is : List (Instr × Nat)} (n : Nat) (cs : List Nat) (hs : am_suf j pc = is) (h : am_lw G d j P cs (am_jw G d j P cs n) is pc L S M) : am_V G d j pc L S M P := by
  subst hs
  exact am_lw_ok (am_jw_ok n) _ _ _ _ _ h
end WPY
