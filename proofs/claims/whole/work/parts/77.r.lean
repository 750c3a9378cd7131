/-! The law's loop. -/
section DR
variable {G : am_G} {d : Nat} {e e' : Nat × Nat × Bool} {F F' F'' F1 F2 : Nat → Nat → Int32} {l : Nat → Nat → Int64} {P : am_K} {N : Nat}
/-- a case of the law goes on at the loop's end -/
def cas (pc : Nat) : Prop := ∀ (G : am_G) (d : Nat) (P : am_K) (e : Nat × Nat × Bool) (F : Mu) (l : Nat → Nat → Int64) (i N : Nat) (v5 v6 : Value), INV e F N → N + 100 ≤ 900000 → i + 6 ≤ e.1 → e.1 ≤ 4000 → 12 ≤ d → lawN G d P e F i (N + 100) → am_V G d 302 pc [.ref 0, .ref 1, .ref 142, .ref 176, .int (nI i), v5, v6] [] (mm e F l) P
theorem lawN.down {i : Nat} (h : lawN G d P e F i (N + 100)) (hN : N + 100 ≤ 900000) : lawN G d P e F i N := fun e' F' l' v5 v6 q1 q2 q3 => h e' F' l' v5 v6 (q1.mono (by omega) hN) q2 q3
theorem cas_3 : cas 350 := fun G d P e F l i N v5 v6 h1 h2 h3 h4 h5 h6 => lq_3 h1 h3 h4 h5 (h6.down h2)
theorem cas_4 : cas 406 := fun G d P e F l i N v5 v6 h1 h2 h3 h4 h5 h6 => lq_4 h1 h3 h4 h5 (h6.down h2)
theorem cas_5 : cas 474 := fun G d P e F l i N v5 v6 h1 h2 h3 h4 h5 h6 => lq_5 h1 h3 h4 h5 (h6.down h2)
theorem cas_6 : cas 542 := fun G d P e F l i N v5 v6 h1 h2 h3 h4 h5 h6 => lq_6 h1 h3 h4 h5 (h6.down h2)
theorem cas_12 : cas 871 := fun G d P e F l i N v5 v6 h1 h2 h3 h4 h5 h6 => lq_12 h1 h3 h4 h5 (h6.down h2)
theorem cas_13 : cas 939 := fun G d P e F l i N v5 v6 h1 h2 h3 h4 h5 h6 => lq_13 h1 h3 h4 h5 (h6.down h2)
theorem cas_14 : cas 1007 := fun G d P e F l i N v5 v6 h1 h2 h3 h4 h5 h6 => lq_14 h1 h3 h4 h5 (h6.down h2)
theorem cas_16 : cas 1167 := fun G d P e F l i N v5 v6 h1 h2 h3 h4 h5 h6 => lq_16 h1 h3 h4 h5 (h6.down h2)
theorem cas_17 : cas 1223 := fun G d P e F l i N v5 v6 h1 h2 h3 h4 h5 h6 => lq_17 h1 h3 h4 h5 (h6.down h2)
theorem cas_19 : cas 1371 := fun G d P e F l i N v5 v6 h1 h2 h3 h4 h5 h6 => lq_19 h1 h3 h4 h5 (h6.down h2)
theorem cas_22 : cas 1551 := fun G d P e F l i N v5 v6 h1 h2 h3 h4 h5 h6 => lq_22 h1 h3 h4 h5 (h6.down h2)
theorem cas_23 : cas 1607 := fun G d P e F l i N v5 v6 h1 h2 h3 h4 h5 h6 => lq_23 h1 h3 h4 h5 (h6.down h2)
theorem cas_24 : cas 1670 := fun G d P e F l i N v5 v6 h1 h2 h3 h4 h5 h6 => lq_24 h1 h3 h4 h5 (h6.down h2)
theorem cas_25 : cas 1726 := fun G d P e F l i N v5 v6 h1 h2 h3 h4 h5 h6 => lq_25 h1 h3 h4 h5 (h6.down h2)
theorem cas_30 : cas 1970 := fun G d P e F l i N v5 v6 h1 h2 h3 h4 h5 h6 => lq_30 h1 h3 h4 h5 (h6.down h2)
theorem cas_31 : cas 2026 := fun G d P e F l i N v5 v6 h1 h2 h3 h4 h5 h6 => lq_31 h1 h3 h4 h5 (h6.down h2)
theorem cas_32 : cas 2082 := fun G d P e F l i N v5 v6 h1 h2 h3 h4 h5 h6 => lq_32 h1 h3 h4 h5 (h6.down h2)
theorem cas_33 : cas 2162 := fun G d P e F l i N v5 v6 h1 h2 h3 h4 h5 h6 => lq_33 h1 h3 h4 h5 (h6.down h2)
theorem cas_34 : cas 2218 := fun G d P e F l i N v5 v6 h1 h2 h3 h4 h5 h6 => lq_34 h1 h3 h4 h5 (h6.down h2)
theorem cas_35 : cas 2286 := fun G d P e F l i N v5 v6 h1 h2 h3 h4 h5 h6 => lq_35 h1 h3 h4 h5 (h6.down h2)
theorem cas_7 : cas 610 := fun G d P e F l i N v5 v6 h1 h2 h3 h4 h5 h6 => la_7 h1 h2 h3 h4 h5 h6
theorem cas_8 : cas 678 := fun G d P e F l i N v5 v6 h1 h2 h3 h4 h5 h6 => la_8 h1 h2 h3 h4 h5 h6
theorem cas_9 : cas 746 := fun G d P e F l i N v5 v6 h1 h2 h3 h4 h5 h6 => la_9 h1 h2 h3 h4 h5 h6
theorem cas_10 : cas 833 := fun G d P e F l i N v5 v6 h1 h2 h3 h4 h5 h6 => la_10 h1 h2 h3 h4 h5 h6
theorem cas_11 : cas 858 := fun G d P e F l i N v5 v6 h1 h2 h3 h4 h5 h6 => lb_11 h1 h4 h5 (h6.down h2)
theorem cas_27 : cas 1878 := fun G d P e F l i N v5 v6 h1 h2 h3 h4 h5 h6 => lb_27 h1 h4 h5 (h6.down h2)
theorem cas_2 : cas 337 := fun G d P e F l i N v5 v6 h1 h2 h3 h4 h5 h6 => lb_2 h1 h4 h5 (h6.down h2)
theorem cas_36 : cas 2342 := fun G d P e F l i N v5 v6 h1 h2 h3 h4 h5 h6 => lb_36 h1 h4 h5 (h6.down h2)
theorem cas_37 : cas 2353 := fun G d P e F l i N v5 v6 h1 h2 h3 h4 h5 h6 => lb_37 h1 h4 h5 (h6.down h2)
theorem cas_0 : cas 208 := fun G d P e F l i N v5 v6 h1 h2 h3 h4 h5 h6 => lb_0 h1 h3 h4 h5 (h6.down h2)
theorem cas_26 : cas 1782 := fun G d P e F l i N v5 v6 h1 h2 h3 h4 h5 h6 => lb_26 h1 h3 h4 h5 (h6.down h2)
theorem and_63 (v : Int32) : ∃ y : Nat, y < 64 ∧ v &&& nI 63 = nI y := by
  refine ⟨(v.toBitVec &&& BitVec.ofNat 32 63).toNat, ?_, ?_⟩
  · rw [BitVec.toNat_and]
    exact Nat.and_lt_two_pow _ (n := 6) (by decide)
  · apply Int32.toBitVec_inj.mp
    show v.toBitVec &&& BitVec.ofNat 32 63 = BitVec.ofNat 32 _
    rw [BitVec.ofNat_toNat, BitVec.setWidth_eq]
end DR
