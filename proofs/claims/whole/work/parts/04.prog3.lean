/-! The resolved instructions of the methods, by program, and that they stand there. -/
def am_p216_0 : List (Nat × Instr × Nat) := [(0, .aload_n 0, 1), (1, .aload_n 1, 1), (5, .aload_n 1, 1), (6, .iconst 0, 1), (7, .dup2, 1), (8, .iaload, 1), (9, .iconst 1, 1), (10, .iadd, 1), (11, .iastore, 1), (12, .iconst 0, 1), (13, .istore_n 2, 1), (14, .iconst 0, 1), (15, .istore_n 3, 1), (16, .iload_n 3, 1), (17, .aload_n 0, 1), (21, .if_icmp .ge 18, 3), (24, .iload_n 2, 1), (25, .aload_n 0, 1), (26, .aload_n 1, 1), (27, .iload_n 3, 1), (31, .iadd, 1), (32, .istore_n 2, 1), (33, .iinc 3 1, 3), (36, .goto (-20), 3), (39, .iload_n 2, 1), (40, .ireturn, 1)]
theorem am_op216_0 : ∀ q ∈ am_p216_0, am_ok 216 q.1 q.2.1 q.2.2 := am_okps (by decide +kernel)
def am_l216_0 : List (Nat × Instr × Nat) := [(2, .invokevirtual 215, 3), (18, .getfield 110010, 3), (28, .invokevirtual 214, 3)]
theorem am_ol216_0 : ∀ q ∈ am_l216_0, am_ok 216 q.1 q.2.1 q.2.2 := show ∀ q ∈ ([(2, .invokevirtual 215, 3), (18, .getfield 110010, 3), (28, .invokevirtual 214, 3)] : List (Nat × Instr × Nat)), am_ok 216 q.1 q.2.1 q.2.2 from
  am_fc (am_okv 368 (by decide +kernel) (by decide) (am_mem 1823 (by decide +kernel)) (am_mem 1825 (by decide +kernel)) (am_mem 78 (by decide +kernel))) (
  am_fc (am_okgf 289 (by decide +kernel) (am_mem 1395 (by decide +kernel))) (
  am_fc (am_okv 372 (by decide +kernel) (by decide) (am_mem 1842 (by decide +kernel)) (am_mem 1844 (by decide +kernel)) (am_mem 82 (by decide +kernel))) (
  am_fn)))
def am_t216 : List (Nat × Instr × Nat) := am_p216_0 ++ (am_l216_0)
theorem am_ot216 : ∀ q ∈ am_t216, am_ok 216 q.1 q.2.1 q.2.2 := List.forall_mem_append.mpr ⟨am_op216_0, am_ol216_0⟩
def am_p217_0 : List (Nat × Instr × Nat) := [(0, .aload_n 0, 1), (1, .aload_n 1, 1), (2, .iload_n 2, 1), (3, .iload_n 3, 1), (4, .iconst 1, 1), (8, .aload_n 1, 1), (9, .iconst 0, 1), (10, .dup2, 1), (11, .iaload, 1), (12, .iconst 1, 1), (13, .iadd, 1), (14, .iastore, 1), (15, .aload_n 0, 1), (16, .aload_n 1, 1), (17, .iload_n 2, 1), (21, .pop, 1), (22, .return_, 1)]
theorem am_op217_0 : ∀ q ∈ am_p217_0, am_ok 217 q.1 q.2.1 q.2.2 := am_okps (by decide +kernel)
def am_l217_0 : List (Nat × Instr × Nat) := [(5, .invokevirtual 213, 3), (18, .invokevirtual 214, 3)]
theorem am_ol217_0 : ∀ q ∈ am_l217_0, am_ok 217 q.1 q.2.1 q.2.2 := show ∀ q ∈ ([(5, .invokevirtual 213, 3), (18, .invokevirtual 214, 3)] : List (Nat × Instr × Nat)), am_ok 217 q.1 q.2.1 q.2.2 from
  am_fc (am_okv 364 (by decide +kernel) (by decide) (am_mem 1827 (by decide +kernel)) (am_mem 1829 (by decide +kernel)) (am_mem 79 (by decide +kernel))) (
  am_fc (am_okv 372 (by decide +kernel) (by decide) (am_mem 1842 (by decide +kernel)) (am_mem 1844 (by decide +kernel)) (am_mem 82 (by decide +kernel))) (
  am_fn))
def am_t217 : List (Nat × Instr × Nat) := am_p217_0 ++ (am_l217_0)
theorem am_ot217 : ∀ q ∈ am_t217, am_ok 217 q.1 q.2.1 q.2.2 := List.forall_mem_append.mpr ⟨am_op217_0, am_ol217_0⟩
def am_p218_0 : List (Nat × Instr × Nat) := [(0, .aload_n 1, 1), (1, .bipush 19, 2), (3, .bipush 10, 2), (5, .iload_n 3, 1), (6, .imul, 1), (7, .iadd, 1), (8, .iload_n 2, 1), (9, .iadd, 1), (10, .aload_n 1, 1), (11, .iconst 0, 1), (12, .iaload, 1), (13, .iastore, 1), (14, .aload_n 1, 1), (15, .bipush 79, 2), (17, .bipush 10, 2), (19, .iload_n 3, 1), (20, .imul, 1), (21, .iadd, 1), (22, .iload_n 2, 1), (23, .iadd, 1), (24, .iconst 1, 1), (25, .iastore, 1), (26, .return_, 1)]
theorem am_op218_0 : ∀ q ∈ am_p218_0, am_ok 218 q.1 q.2.1 q.2.2 := am_okps (by decide +kernel)
def am_t218 : List (Nat × Instr × Nat) := am_p218_0
theorem am_ot218 : ∀ q ∈ am_t218, am_ok 218 q.1 q.2.1 q.2.2 := am_op218_0
def am_p219_0 : List (Nat × Instr × Nat) := [(0, .aload_n 0, 1), (1, .iconst 0, 1), (5, .aload_n 0, 1), (6, .iload_n 1, 1), (10, .ifCond .ne 5, 3), (13, .iconst 0, 1), (14, .ireturn, 1), (15, .iload_n 2, 1), (16, .iconst 0, 1), (17, .bipush 20, 2), (22, .ifCond .ne 9, 3), (25, .aload_n 0, 1), (26, .iconst 1, 1), (30, .ireturn, 1), (31, .aload_n 0, 1), (35, .aload_n 0, 1), (39, .bipush 13, 2), (41, .iload_n 1, 1), (42, .iadd, 1), (43, .iaload, 1), (44, .istore_n 3, 1), (45, .aload_n 0, 1), (49, .bipush 13, 2), (51, .iload_n 1, 1), (52, .iadd, 1), (53, .iload_n 2, 1), (54, .iastore, 1), (55, .iload_n 3, 1), (56, .ireturn, 1)]
theorem am_op219_0 : ∀ q ∈ am_p219_0, am_ok 219 q.1 q.2.1 q.2.2 := am_okps (by decide +kernel)
def am_l219_0 : List (Nat × Instr × Nat) := [(2, .putfield 110000, 3), (7, .invokevirtual 204, 3), (19, .invokestatic 159, 3), (27, .invokevirtual 196, 3), (32, .invokevirtual 195, 3), (36, .getfield 110412, 3), (46, .getfield 110412, 3)]
theorem am_ol219_0 : ∀ q ∈ am_l219_0, am_ok 219 q.1 q.2.1 q.2.2 := show ∀ q ∈ ([(2, .putfield 110000, 3), (7, .invokevirtual 204, 3), (19, .invokestatic 159, 3), (27, .invokevirtual 196, 3), (32, .invokevirtual 195, 3), (36, .getfield 110412, 3), (46, .getfield 110412, 3)] : List (Nat × Instr × Nat)), am_ok 219 q.1 q.2.1 q.2.2 from
  am_fc (am_okpf 129 (by decide +kernel) (am_mem 1394 (by decide +kernel))) (
  am_fc (am_okv 340 (by decide +kernel) (by decide) (am_mem 1767 (by decide +kernel)) (am_mem 1769 (by decide +kernel)) (am_mem 70 (by decide +kernel))) (
  am_fc (am_oks 329 (by decide +kernel) (by decide) (am_mem 1743 (by decide +kernel)) (Or.inl (am_mem 1742 (by decide +kernel)))) (
  am_fc (am_okv 375 (by decide +kernel) (by decide) (am_mem 1795 (by decide +kernel)) (am_mem 1797 (by decide +kernel)) (am_mem 74 (by decide +kernel))) (
  am_fc (am_okv 378 (by decide +kernel) (by decide) (am_mem 1799 (by decide +kernel)) (am_mem 1801 (by decide +kernel)) (am_mem 75 (by decide +kernel))) (
  am_fc (am_okgf 66 (by decide +kernel) (am_mem 1435 (by decide +kernel))) (
  am_fc (am_okgf 66 (by decide +kernel) (am_mem 1435 (by decide +kernel))) (
  am_fn)))))))
def am_t219 : List (Nat × Instr × Nat) := am_p219_0 ++ (am_l219_0)
theorem am_ot219 : ∀ q ∈ am_t219, am_ok 219 q.1 q.2.1 q.2.2 := List.forall_mem_append.mpr ⟨am_op219_0, am_ol219_0⟩
def am_p220_0 : List (Nat × Instr × Nat) := [(0, .aload_n 0, 1), (1, .iconst 0, 1), (5, .aload_n 0, 1), (6, .iload_n 1, 1), (10, .ifCond .ne 5, 3), (13, .iconst 0, 1), (14, .ireturn, 1), (15, .iload_n 2, 1), (16, .iconst 0, 1), (17, .iconst 3, 1), (21, .ifCond .ne 9, 3), (24, .aload_n 0, 1), (25, .iconst 1, 1), (29, .ireturn, 1), (30, .aload_n 0, 1), (34, .aload_n 0, 1), (38, .bipush 7, 2), (40, .iload_n 1, 1), (41, .iadd, 1), (42, .iaload, 1), (43, .istore_n 3, 1), (44, .aload_n 0, 1), (48, .bipush 7, 2), (50, .iload_n 1, 1), (51, .iadd, 1), (52, .iload_n 2, 1), (53, .iastore, 1), (54, .iload_n 3, 1), (55, .ireturn, 1)]
theorem am_op220_0 : ∀ q ∈ am_p220_0, am_ok 220 q.1 q.2.1 q.2.2 := am_okps (by decide +kernel)
def am_l220_0 : List (Nat × Instr × Nat) := [(2, .putfield 110000, 3), (7, .invokevirtual 204, 3), (18, .invokestatic 159, 3), (26, .invokevirtual 196, 3), (31, .invokevirtual 195, 3), (35, .getfield 110412, 3), (45, .getfield 110412, 3)]
theorem am_ol220_0 : ∀ q ∈ am_l220_0, am_ok 220 q.1 q.2.1 q.2.2 := show ∀ q ∈ ([(2, .putfield 110000, 3), (7, .invokevirtual 204, 3), (18, .invokestatic 159, 3), (26, .invokevirtual 196, 3), (31, .invokevirtual 195, 3), (35, .getfield 110412, 3), (45, .getfield 110412, 3)] : List (Nat × Instr × Nat)), am_ok 220 q.1 q.2.1 q.2.2 from
  am_fc (am_okpf 129 (by decide +kernel) (am_mem 1394 (by decide +kernel))) (
  am_fc (am_okv 340 (by decide +kernel) (by decide) (am_mem 1767 (by decide +kernel)) (am_mem 1769 (by decide +kernel)) (am_mem 70 (by decide +kernel))) (
  am_fc (am_oks 329 (by decide +kernel) (by decide) (am_mem 1743 (by decide +kernel)) (Or.inl (am_mem 1742 (by decide +kernel)))) (
  am_fc (am_okv 375 (by decide +kernel) (by decide) (am_mem 1795 (by decide +kernel)) (am_mem 1797 (by decide +kernel)) (am_mem 74 (by decide +kernel))) (
  am_fc (am_okv 378 (by decide +kernel) (by decide) (am_mem 1799 (by decide +kernel)) (am_mem 1801 (by decide +kernel)) (am_mem 75 (by decide +kernel))) (
  am_fc (am_okgf 66 (by decide +kernel) (am_mem 1435 (by decide +kernel))) (
  am_fc (am_okgf 66 (by decide +kernel) (am_mem 1435 (by decide +kernel))) (
  am_fn)))))))
def am_t220 : List (Nat × Instr × Nat) := am_p220_0 ++ (am_l220_0)
theorem am_ot220 : ∀ q ∈ am_t220, am_ok 220 q.1 q.2.1 q.2.2 := List.forall_mem_append.mpr ⟨am_op220_0, am_ol220_0⟩
def am_p221_0 : List (Nat × Instr × Nat) := [(0, .aload_n 0, 1), (1, .iconst 0, 1), (5, .aload_n 0, 1), (6, .iload_n 1, 1), (10, .ifCond .eq 19, 3), (13, .aload_n 0, 1), (14, .iload_n 2, 1), (18, .ifCond .eq 11, 3), (21, .aload_n 0, 1), (22, .iload_n 3, 1), (26, .ifCond .ne 5, 3), (29, .iconst 0, 1), (30, .ireturn, 1), (31, .aload_n 0, 1), (35, .iload_n 2, 1), (36, .iload_n 1, 1), (40, .ifCond .eq 15, 3), (43, .aload_n 0, 1), (47, .iload_n 3, 1), (48, .iload_n 1, 1), (52, .ifCond .eq 17, 3), (55, .aload_n 0, 1), (56, .iconst 1, 1), (60, .ifCond .le 7, 3), (63, .iconst 1, 1), (64, .goto 4, 3), (67, .iconst 0, 1), (68, .ireturn, 1), (69, .aload_n 0, 1), (73, .aload_n 0, 1), (74, .aload_n 0, 1), (78, .iload_n 1, 1), (79, .iload_n 3, 1), (83, .iconst 1, 1), (84, .ireturn, 1)]
theorem am_op221_0 : ∀ q ∈ am_p221_0, am_ok 221 q.1 q.2.1 q.2.2 := am_okps (by decide +kernel)
def am_l221_0 : List (Nat × Instr × Nat) := [(2, .putfield 110000, 3), (7, .invokevirtual 205, 3), (15, .invokevirtual 204, 3), (23, .invokevirtual 204, 3), (32, .getfield 110412, 3), (37, .invokestatic 199, 3), (44, .getfield 110412, 3), (49, .invokestatic 199, 3), (57, .invokevirtual 196, 3), (70, .invokevirtual 195, 3), (75, .getfield 110412, 3), (80, .invokevirtual 218, 3)]
theorem am_ol221_0 : ∀ q ∈ am_l221_0, am_ok 221 q.1 q.2.1 q.2.2 := show ∀ q ∈ ([(2, .putfield 110000, 3), (7, .invokevirtual 205, 3), (15, .invokevirtual 204, 3), (23, .invokevirtual 204, 3), (32, .getfield 110412, 3), (37, .invokestatic 199, 3), (44, .getfield 110412, 3), (49, .invokestatic 199, 3), (57, .invokevirtual 196, 3), (70, .invokevirtual 195, 3), (75, .getfield 110412, 3), (80, .invokevirtual 218, 3)] : List (Nat × Instr × Nat)), am_ok 221 q.1 q.2.1 q.2.2 from
  am_fc (am_okpf 129 (by decide +kernel) (am_mem 1394 (by decide +kernel))) (
  am_fc (am_okv 347 (by decide +kernel) (by decide) (am_mem 1779 (by decide +kernel)) (am_mem 1781 (by decide +kernel)) (am_mem 72 (by decide +kernel))) (
  am_fc (am_okv 340 (by decide +kernel) (by decide) (am_mem 1767 (by decide +kernel)) (am_mem 1769 (by decide +kernel)) (am_mem 70 (by decide +kernel))) (
  am_fc (am_okv 340 (by decide +kernel) (by decide) (am_mem 1767 (by decide +kernel)) (am_mem 1769 (by decide +kernel)) (am_mem 70 (by decide +kernel))) (
  am_fc (am_okgf 66 (by decide +kernel) (am_mem 1435 (by decide +kernel))) (
  am_fc (am_oks 318 (by decide +kernel) (by decide) (am_mem 1758 (by decide +kernel)) (Or.inl (am_mem 1757 (by decide +kernel)))) (
  am_fc (am_okgf 66 (by decide +kernel) (am_mem 1435 (by decide +kernel))) (
  am_fc (am_oks 318 (by decide +kernel) (by decide) (am_mem 1758 (by decide +kernel)) (Or.inl (am_mem 1757 (by decide +kernel)))) (
  am_fc (am_okv 375 (by decide +kernel) (by decide) (am_mem 1795 (by decide +kernel)) (am_mem 1797 (by decide +kernel)) (am_mem 74 (by decide +kernel))) (
  am_fc (am_okv 378 (by decide +kernel) (by decide) (am_mem 1799 (by decide +kernel)) (am_mem 1801 (by decide +kernel)) (am_mem 75 (by decide +kernel))) (
  am_fc (am_okgf 66 (by decide +kernel) (am_mem 1435 (by decide +kernel))) (
  am_fc (am_okv 381 (by decide +kernel) (by decide) (am_mem 1811 (by decide +kernel)) (am_mem 1813 (by decide +kernel)) (am_mem 76 (by decide +kernel))) (
  am_fn))))))))))))
def am_t221 : List (Nat × Instr × Nat) := am_p221_0 ++ (am_l221_0)
theorem am_ot221 : ∀ q ∈ am_t221, am_ok 221 q.1 q.2.1 q.2.2 := List.forall_mem_append.mpr ⟨am_op221_0, am_ol221_0⟩
def am_p222_0 : List (Nat × Instr × Nat) := [(0, .aload_n 0, 1), (1, .iconst 0, 1), (5, .iload_n 1, 1), (6, .iconst 1, 1), (7, .bipush 100, 2), (12, .ifCond .ne 9, 3), (15, .aload_n 0, 1), (16, .iconst 1, 1), (20, .ireturn, 1), (21, .aload_n 0, 1), (25, .iconst 0, 1), (26, .istore_n 2, 1), (27, .iconst 0, 1), (28, .istore_n 3, 1), (29, .iload_n 3, 1), (30, .iload_n 1, 1), (31, .if_icmp .ge 20, 3), (34, .iload_n 2, 1), (35, .aload_n 0, 1), (36, .aload_n 0, 1), (43, .iadd, 1), (44, .istore_n 2, 1), (45, .iinc 3 1, 3), (48, .goto (-19), 3), (51, .iload_n 2, 1), (52, .ireturn, 1)]
theorem am_op222_0 : ∀ q ∈ am_p222_0, am_ok 222 q.1 q.2.1 q.2.2 := am_okps (by decide +kernel)
def am_l222_0 : List (Nat × Instr × Nat) := [(2, .putfield 110000, 3), (9, .invokestatic 159, 3), (17, .invokevirtual 196, 3), (22, .invokevirtual 195, 3), (37, .getfield 110412, 3), (40, .invokevirtual 216, 3)]
theorem am_ol222_0 : ∀ q ∈ am_l222_0, am_ok 222 q.1 q.2.1 q.2.2 := show ∀ q ∈ ([(2, .putfield 110000, 3), (9, .invokestatic 159, 3), (17, .invokevirtual 196, 3), (22, .invokevirtual 195, 3), (37, .getfield 110412, 3), (40, .invokevirtual 216, 3)] : List (Nat × Instr × Nat)), am_ok 222 q.1 q.2.1 q.2.2 from
  am_fc (am_okpf 129 (by decide +kernel) (am_mem 1394 (by decide +kernel))) (
  am_fc (am_oks 329 (by decide +kernel) (by decide) (am_mem 1743 (by decide +kernel)) (Or.inl (am_mem 1742 (by decide +kernel)))) (
  am_fc (am_okv 375 (by decide +kernel) (by decide) (am_mem 1795 (by decide +kernel)) (am_mem 1797 (by decide +kernel)) (am_mem 74 (by decide +kernel))) (
  am_fc (am_okv 378 (by decide +kernel) (by decide) (am_mem 1799 (by decide +kernel)) (am_mem 1801 (by decide +kernel)) (am_mem 75 (by decide +kernel))) (
  am_fc (am_okgf 66 (by decide +kernel) (am_mem 1435 (by decide +kernel))) (
  am_fc (am_okv 385 (by decide +kernel) (by decide) (am_mem 1819 (by decide +kernel)) (am_mem 1821 (by decide +kernel)) (am_mem 77 (by decide +kernel))) (
  am_fn))))))
def am_t222 : List (Nat × Instr × Nat) := am_p222_0 ++ (am_l222_0)
theorem am_ot222 : ∀ q ∈ am_t222, am_ok 222 q.1 q.2.1 q.2.2 := List.forall_mem_append.mpr ⟨am_op222_0, am_ol222_0⟩
def am_p223_0 : List (Nat × Instr × Nat) := [(0, .aload_n 0, 1), (1, .iload_n 1, 1), (2, .iload_n 2, 1), (3, .bipush 100, 2), (8, .iload_n 3, 1), (12, .ireturn, 1)]
theorem am_op223_0 : ∀ q ∈ am_p223_0, am_ok 223 q.1 q.2.1 q.2.2 := am_okps (by decide +kernel)
def am_l223_0 : List (Nat × Instr × Nat) := [(5, .invokestatic 159, 3), (9, .invokevirtual 158, 3)]
theorem am_ol223_0 : ∀ q ∈ am_l223_0, am_ok 223 q.1 q.2.1 q.2.2 := show ∀ q ∈ ([(5, .invokestatic 159, 3), (9, .invokevirtual 158, 3)] : List (Nat × Instr × Nat)), am_ok 223 q.1 q.2.1 q.2.2 from
  am_fc (am_oks 329 (by decide +kernel) (by decide) (am_mem 1743 (by decide +kernel)) (Or.inl (am_mem 1742 (by decide +kernel)))) (
  am_fc (am_okv 282 (by decide +kernel) (by decide) (am_mem 1615 (by decide +kernel)) (am_mem 1617 (by decide +kernel)) (am_mem 43 (by decide +kernel))) (
  am_fn))
def am_t223 : List (Nat × Instr × Nat) := am_p223_0 ++ (am_l223_0)
theorem am_ot223 : ∀ q ∈ am_t223, am_ok 223 q.1 q.2.1 q.2.2 := List.forall_mem_append.mpr ⟨am_op223_0, am_ol223_0⟩
def am_p224_0 : List (Nat × Instr × Nat) := [(0, .aload_n 0, 1), (1, .aload_n 0, 1), (5, .aload_n 0, 1), (12, .return_, 1)]
theorem am_op224_0 : ∀ q ∈ am_p224_0, am_ok 224 q.1 q.2.1 q.2.2 := am_okps (by decide +kernel)
def am_l224_0 : List (Nat × Instr × Nat) := [(2, .getfield 110412, 3), (6, .getfield 110422, 3), (9, .invokevirtual 160, 3)]
theorem am_ol224_0 : ∀ q ∈ am_l224_0, am_ok 224 q.1 q.2.1 q.2.2 := show ∀ q ∈ ([(2, .getfield 110412, 3), (6, .getfield 110422, 3), (9, .invokevirtual 160, 3)] : List (Nat × Instr × Nat)), am_ok 224 q.1 q.2.1 q.2.2 from
  am_fc (am_okgf 66 (by decide +kernel) (am_mem 1435 (by decide +kernel))) (
  am_fc (am_okgf 69 (by decide +kernel) (am_mem 1436 (by decide +kernel))) (
  am_fc (am_okv 301 (by decide +kernel) (by decide) (am_mem 1726 (by decide +kernel)) (am_mem 1728 (by decide +kernel)) (am_mem 66 (by decide +kernel))) (
  am_fn)))
def am_t224 : List (Nat × Instr × Nat) := am_p224_0 ++ (am_l224_0)
theorem am_ot224 : ∀ q ∈ am_t224, am_ok 224 q.1 q.2.1 q.2.2 := List.forall_mem_append.mpr ⟨am_op224_0, am_ol224_0⟩
def am_p225_0 : List (Nat × Instr × Nat) := [(0, .aload_n 0, 1), (1, .iconst 0, 1), (5, .aload_n 0, 1), (6, .iload_n 1, 1), (10, .ifCond .eq 13, 3), (13, .aload_n 0, 1), (14, .iload_n 2, 1), (15, .iconst 0, 1), (16, .iconst 2, 1), (20, .ifCond .ne 5, 3), (23, .iconst 0, 1), (24, .ireturn, 1), (25, .aload_n 0, 1), (29, .iconst 0, 1), (30, .istore_n 3, 1), (31, .iload_n 3, 1), (32, .iload_n 2, 1), (33, .if_icmp .ge 18, 3), (36, .aload_n 0, 1), (37, .aload_n 0, 1), (44, .pop, 1), (45, .iinc 3 1, 3), (48, .goto (-17), 3), (51, .aload_n 0, 1), (52, .aload_n 0, 1), (56, .iload_n 1, 1), (60, .ireturn, 1)]
theorem am_op225_0 : ∀ q ∈ am_p225_0, am_ok 225 q.1 q.2.1 q.2.2 := am_okps (by decide +kernel)
def am_l225_0 : List (Nat × Instr × Nat) := [(2, .putfield 110000, 3), (7, .invokevirtual 205, 3), (17, .invokevirtual 223, 3), (26, .invokevirtual 224, 3), (38, .getfield 110422, 3), (41, .invokevirtual 216, 3), (53, .getfield 110422, 3), (57, .invokevirtual 201, 3)]
theorem am_ol225_0 : ∀ q ∈ am_l225_0, am_ok 225 q.1 q.2.1 q.2.2 := show ∀ q ∈ ([(2, .putfield 110000, 3), (7, .invokevirtual 205, 3), (17, .invokevirtual 223, 3), (26, .invokevirtual 224, 3), (38, .getfield 110422, 3), (41, .invokevirtual 216, 3), (53, .getfield 110422, 3), (57, .invokevirtual 201, 3)] : List (Nat × Instr × Nat)), am_ok 225 q.1 q.2.1 q.2.2 from
  am_fc (am_okpf 129 (by decide +kernel) (am_mem 1394 (by decide +kernel))) (
  am_fc (am_okv 347 (by decide +kernel) (by decide) (am_mem 1779 (by decide +kernel)) (am_mem 1781 (by decide +kernel)) (am_mem 72 (by decide +kernel))) (
  am_fc (am_okv 388 (by decide +kernel) (by decide) (am_mem 1850 (by decide +kernel)) (am_mem 1852 (by decide +kernel)) (am_mem 83 (by decide +kernel))) (
  am_fc (am_okv 391 (by decide +kernel) (by decide) (am_mem 1854 (by decide +kernel)) (am_mem 1856 (by decide +kernel)) (am_mem 84 (by decide +kernel))) (
  am_fc (am_okgf 69 (by decide +kernel) (am_mem 1436 (by decide +kernel))) (
  am_fc (am_okv 385 (by decide +kernel) (by decide) (am_mem 1819 (by decide +kernel)) (am_mem 1821 (by decide +kernel)) (am_mem 77 (by decide +kernel))) (
  am_fc (am_okgf 69 (by decide +kernel) (am_mem 1436 (by decide +kernel))) (
  am_fc (am_okv 350 (by decide +kernel) (by decide) (am_mem 1783 (by decide +kernel)) (am_mem 1785 (by decide +kernel)) (am_mem 73 (by decide +kernel))) (
  am_fn))))))))
def am_t225 : List (Nat × Instr × Nat) := am_p225_0 ++ (am_l225_0)
theorem am_ot225 : ∀ q ∈ am_t225, am_ok 225 q.1 q.2.1 q.2.2 := List.forall_mem_append.mpr ⟨am_op225_0, am_ol225_0⟩
def am_p226_0 : List (Nat × Instr × Nat) := [(0, .iconst 0, 1), (1, .istore_n 2, 1), (2, .iconst 0, 1), (3, .istore_n 3, 1), (4, .iload_n 3, 1), (5, .aload_n 0, 1), (9, .if_icmp .ge 18, 3), (12, .iload_n 2, 1), (13, .aload_n 0, 1), (14, .aload_n 1, 1), (15, .iload_n 3, 1), (19, .ior, 1), (20, .istore_n 2, 1), (21, .iinc 3 1, 3), (24, .goto (-20), 3), (27, .iload_n 2, 1), (28, .ireturn, 1)]
theorem am_op226_0 : ∀ q ∈ am_p226_0, am_ok 226 q.1 q.2.1 q.2.2 := am_okps (by decide +kernel)
def am_l226_0 : List (Nat × Instr × Nat) := [(6, .getfield 110010, 3), (16, .invokevirtual 200, 3)]
theorem am_ol226_0 : ∀ q ∈ am_l226_0, am_ok 226 q.1 q.2.1 q.2.2 := show ∀ q ∈ ([(6, .getfield 110010, 3), (16, .invokevirtual 200, 3)] : List (Nat × Instr × Nat)), am_ok 226 q.1 q.2.1 q.2.2 from
  am_fc (am_okgf 289 (by decide +kernel) (am_mem 1395 (by decide +kernel))) (
  am_fc (am_okv 322 (by decide +kernel) (by decide) (am_mem 1753 (by decide +kernel)) (am_mem 1755 (by decide +kernel)) (am_mem 69 (by decide +kernel))) (
  am_fn))
def am_t226 : List (Nat × Instr × Nat) := am_p226_0 ++ (am_l226_0)
theorem am_ot226 : ∀ q ∈ am_t226, am_ok 226 q.1 q.2.1 q.2.2 := List.forall_mem_append.mpr ⟨am_op226_0, am_ol226_0⟩
def am_p227_0 : List (Nat × Instr × Nat) := [(0, .aload_n 0, 1), (1, .iconst 0, 1), (5, .aload_n 0, 1), (6, .iload_n 2, 1), (7, .iconst 1, 1), (11, .ifCond .eq 13, 3), (14, .aload_n 0, 1), (15, .iload_n 1, 1), (16, .iconst 0, 1), (17, .iconst 2, 1), (21, .ifCond .ne 5, 3), (24, .iconst 0, 1), (25, .ireturn, 1), (26, .aload_n 0, 1), (30, .aload_n 0, 1), (31, .aload_n 0, 1), (38, .istore_n 3, 1), (39, .iconst 1, 1), (40, .istore 4, 2), (42, .iload 4, 2), (44, .iload_n 1, 1), (45, .if_icmp .gt 77, 3), (48, .aload_n 0, 1), (49, .aload_n 0, 1), (56, .pop, 1), (57, .aload_n 0, 1), (58, .aload_n 0, 1), (65, .istore 5, 2), (67, .iload_n 3, 1), (68, .iload 5, 2), (70, .iconst (-1), 1), (71, .ixor, 1), (72, .iand, 1), (73, .istore 6, 2), (75, .iload 6, 2), (77, .ifCond .eq 34, 3), (80, .iconst 0, 1), (81, .istore 7, 2), (83, .iload 6, 2), (85, .iload 7, 2), (87, .ishr, 1), (88, .iconst 1, 1), (89, .iand, 1), (90, .ifCond .ne 9, 3), (93, .iinc 7 1, 3), (96, .goto (-13), 3), (99, .iload_n 2, 1), (100, .ifCond .ne 8, 3), (103, .iload 4, 2), (105, .goto 5, 3), (108, .iload 7, 2), (110, .ireturn, 1), (111, .iload_n 3, 1), (112, .iload 5, 2), (114, .ior, 1), (115, .istore_n 3, 1), (116, .iinc 4 1, 3), (119, .goto (-77), 3), (122, .iconst (-1), 1), (123, .ireturn, 1)]
theorem am_op227_0 : ∀ q ∈ am_p227_0, am_ok 227 q.1 q.2.1 q.2.2 := am_okps (by decide +kernel)
def am_l227_0 : List (Nat × Instr × Nat) := [(2, .putfield 110000, 3), (8, .invokevirtual 206, 3), (18, .invokevirtual 223, 3), (27, .invokevirtual 224, 3), (32, .getfield 110422, 3), (35, .invokevirtual 226, 3), (50, .getfield 110422, 3), (53, .invokevirtual 216, 3), (59, .getfield 110422, 3), (62, .invokevirtual 226, 3)]
theorem am_ol227_0 : ∀ q ∈ am_l227_0, am_ok 227 q.1 q.2.1 q.2.2 := show ∀ q ∈ ([(2, .putfield 110000, 3), (8, .invokevirtual 206, 3), (18, .invokevirtual 223, 3), (27, .invokevirtual 224, 3), (32, .getfield 110422, 3), (35, .invokevirtual 226, 3), (50, .getfield 110422, 3), (53, .invokevirtual 216, 3), (59, .getfield 110422, 3), (62, .invokevirtual 226, 3)] : List (Nat × Instr × Nat)), am_ok 227 q.1 q.2.1 q.2.2 from
  am_fc (am_okpf 129 (by decide +kernel) (am_mem 1394 (by decide +kernel))) (
  am_fc (am_okv 343 (by decide +kernel) (by decide) (am_mem 1771 (by decide +kernel)) (am_mem 1773 (by decide +kernel)) (am_mem 71 (by decide +kernel))) (
  am_fc (am_okv 388 (by decide +kernel) (by decide) (am_mem 1850 (by decide +kernel)) (am_mem 1852 (by decide +kernel)) (am_mem 83 (by decide +kernel))) (
  am_fc (am_okv 391 (by decide +kernel) (by decide) (am_mem 1854 (by decide +kernel)) (am_mem 1856 (by decide +kernel)) (am_mem 84 (by decide +kernel))) (
  am_fc (am_okgf 69 (by decide +kernel) (am_mem 1436 (by decide +kernel))) (
  am_fc (am_okv 394 (by decide +kernel) (by decide) (am_mem 1862 (by decide +kernel)) (am_mem 1864 (by decide +kernel)) (am_mem 85 (by decide +kernel))) (
  am_fc (am_okgf 69 (by decide +kernel) (am_mem 1436 (by decide +kernel))) (
  am_fc (am_okv 385 (by decide +kernel) (by decide) (am_mem 1819 (by decide +kernel)) (am_mem 1821 (by decide +kernel)) (am_mem 77 (by decide +kernel))) (
  am_fc (am_okgf 69 (by decide +kernel) (am_mem 1436 (by decide +kernel))) (
  am_fc (am_okv 394 (by decide +kernel) (by decide) (am_mem 1862 (by decide +kernel)) (am_mem 1864 (by decide +kernel)) (am_mem 85 (by decide +kernel))) (
  am_fn))))))))))
def am_t227 : List (Nat × Instr × Nat) := am_p227_0 ++ (am_l227_0)
theorem am_ot227 : ∀ q ∈ am_t227, am_ok 227 q.1 q.2.1 q.2.2 := List.forall_mem_append.mpr ⟨am_op227_0, am_ol227_0⟩
def am_p228_0 : List (Nat × Instr × Nat) := [(0, .aload_n 0, 1), (1, .iconst 0, 1), (5, .aload_n 0, 1), (6, .iload_n 1, 1), (7, .iconst 0, 1), (8, .bipush 120, 2), (13, .iconst 1, 1), (17, .ifCond .ne 5, 3), (20, .iconst 0, 1), (21, .ireturn, 1), (22, .aload_n 0, 1), (26, .aload_n 0, 1), (27, .iload_n 1, 1), (31, .aload_n 0, 1), (32, .aload_n 0, 1), (39, .pop, 1), (40, .aload_n 0, 1), (41, .iconst (-1), 1), (45, .aload_n 0, 1), (46, .aload_n 0, 1), (53, .ireturn, 1)]
theorem am_op228_0 : ∀ q ∈ am_p228_0, am_ok 228 q.1 q.2.1 q.2.2 := am_okps (by decide +kernel)
def am_l228_0 : List (Nat × Instr × Nat) := [(2, .putfield 110000, 3), (10, .invokestatic 159, 3), (14, .invokevirtual 158, 3), (23, .invokevirtual 224, 3), (28, .putfield 110500, 3), (33, .getfield 110422, 3), (36, .invokevirtual 216, 3), (42, .putfield 110500, 3), (47, .getfield 110422, 3), (50, .invokevirtual 202, 3)]
theorem am_ol228_0 : ∀ q ∈ am_l228_0, am_ok 228 q.1 q.2.1 q.2.2 := show ∀ q ∈ ([(2, .putfield 110000, 3), (10, .invokestatic 159, 3), (14, .invokevirtual 158, 3), (23, .invokevirtual 224, 3), (28, .putfield 110500, 3), (33, .getfield 110422, 3), (36, .invokevirtual 216, 3), (42, .putfield 110500, 3), (47, .getfield 110422, 3), (50, .invokevirtual 202, 3)] : List (Nat × Instr × Nat)), am_ok 228 q.1 q.2.1 q.2.2 from
  am_fc (am_okpf 129 (by decide +kernel) (am_mem 1394 (by decide +kernel))) (
  am_fc (am_oks 329 (by decide +kernel) (by decide) (am_mem 1743 (by decide +kernel)) (Or.inl (am_mem 1742 (by decide +kernel)))) (
  am_fc (am_okv 282 (by decide +kernel) (by decide) (am_mem 1615 (by decide +kernel)) (am_mem 1617 (by decide +kernel)) (am_mem 43 (by decide +kernel))) (
  am_fc (am_okv 391 (by decide +kernel) (by decide) (am_mem 1854 (by decide +kernel)) (am_mem 1856 (by decide +kernel)) (am_mem 84 (by decide +kernel))) (
  am_fc (am_okpf 90 (by decide +kernel) (am_mem 1444 (by decide +kernel))) (
  am_fc (am_okgf 69 (by decide +kernel) (am_mem 1436 (by decide +kernel))) (
  am_fc (am_okv 385 (by decide +kernel) (by decide) (am_mem 1819 (by decide +kernel)) (am_mem 1821 (by decide +kernel)) (am_mem 77 (by decide +kernel))) (
  am_fc (am_okpf 90 (by decide +kernel) (am_mem 1444 (by decide +kernel))) (
  am_fc (am_okgf 69 (by decide +kernel) (am_mem 1436 (by decide +kernel))) (
  am_fc (am_okv 336 (by decide +kernel) (by decide) (am_mem 1749 (by decide +kernel)) (am_mem 1751 (by decide +kernel)) (am_mem 68 (by decide +kernel))) (
  am_fn))))))))))
def am_t228 : List (Nat × Instr × Nat) := am_p228_0 ++ (am_l228_0)
theorem am_ot228 : ∀ q ∈ am_t228, am_ok 228 q.1 q.2.1 q.2.2 := List.forall_mem_append.mpr ⟨am_op228_0, am_ol228_0⟩
def am_p229_0 : List (Nat × Instr × Nat) := [(0, .aload_n 0, 1), (4, .iconst 0, 1), (5, .istore_n 3, 1), (6, .iload_n 3, 1), (7, .iload_n 2, 1), (8, .if_icmp .ge 18, 3), (11, .aload_n 0, 1), (12, .aload_n 0, 1), (19, .pop, 1), (20, .iinc 3 1, 3), (23, .goto (-17), 3), (26, .aload_n 0, 1), (27, .aload_n 0, 1), (31, .iload_n 1, 1), (38, .ireturn, 1)]
theorem am_op229_0 : ∀ q ∈ am_p229_0, am_ok 229 q.1 q.2.1 q.2.2 := am_okps (by decide +kernel)
def am_l229_0 : List (Nat × Instr × Nat) := [(1, .invokevirtual 224, 3), (13, .getfield 110422, 3), (16, .invokevirtual 216, 3), (28, .getfield 110422, 3), (32, .invokevirtual 200, 3), (35, .invokestatic 161, 3)]
theorem am_ol229_0 : ∀ q ∈ am_l229_0, am_ok 229 q.1 q.2.1 q.2.2 := show ∀ q ∈ ([(1, .invokevirtual 224, 3), (13, .getfield 110422, 3), (16, .invokevirtual 216, 3), (28, .getfield 110422, 3), (32, .invokevirtual 200, 3), (35, .invokestatic 161, 3)] : List (Nat × Instr × Nat)), am_ok 229 q.1 q.2.1 q.2.2 from
  am_fc (am_okv 391 (by decide +kernel) (by decide) (am_mem 1854 (by decide +kernel)) (am_mem 1856 (by decide +kernel)) (am_mem 84 (by decide +kernel))) (
  am_fc (am_okgf 69 (by decide +kernel) (am_mem 1436 (by decide +kernel))) (
  am_fc (am_okv 385 (by decide +kernel) (by decide) (am_mem 1819 (by decide +kernel)) (am_mem 1821 (by decide +kernel)) (am_mem 77 (by decide +kernel))) (
  am_fc (am_okgf 69 (by decide +kernel) (am_mem 1436 (by decide +kernel))) (
  am_fc (am_okv 322 (by decide +kernel) (by decide) (am_mem 1753 (by decide +kernel)) (am_mem 1755 (by decide +kernel)) (am_mem 69 (by decide +kernel))) (
  am_fc (am_oks 326 (by decide +kernel) (by decide) (am_mem 1761 (by decide +kernel)) (Or.inl (am_mem 1760 (by decide +kernel)))) (
  am_fn))))))
def am_t229 : List (Nat × Instr × Nat) := am_p229_0 ++ (am_l229_0)
theorem am_ot229 : ∀ q ∈ am_t229, am_ok 229 q.1 q.2.1 q.2.2 := List.forall_mem_append.mpr ⟨am_op229_0, am_ol229_0⟩
def am_p230_0 : List (Nat × Instr × Nat) := [(0, .aload_n 0, 1), (1, .iconst 0, 1), (5, .aload_n 0, 1), (6, .iload_n 1, 1), (10, .ifCond .eq 13, 3), (13, .aload_n 0, 1), (14, .iload_n 2, 1), (15, .iconst 1, 1), (16, .iconst 2, 1), (20, .ifCond .ne 5, 3), (23, .iconst 0, 1), (24, .ireturn, 1), (25, .aload_n 0, 1), (26, .iload_n 1, 1), (27, .iload_n 2, 1), (31, .istore_n 3, 1), (32, .aload_n 0, 1), (33, .iload_n 1, 1), (37, .aload_n 0, 1), (38, .iload_n 1, 1), (39, .iload_n 2, 1), (43, .istore 4, 2), (45, .aload_n 0, 1), (46, .iconst (-1), 1), (50, .iload_n 3, 1), (51, .iload 4, 2), (53, .isub, 1), (54, .ireturn, 1)]
theorem am_op230_0 : ∀ q ∈ am_p230_0, am_ok 230 q.1 q.2.1 q.2.2 := am_okps (by decide +kernel)
def am_l230_0 : List (Nat × Instr × Nat) := [(2, .putfield 110000, 3), (7, .invokevirtual 204, 3), (17, .invokevirtual 223, 3), (28, .invokevirtual 229, 3), (34, .putfield 110490, 3), (40, .invokevirtual 229, 3), (47, .putfield 110490, 3)]
theorem am_ol230_0 : ∀ q ∈ am_l230_0, am_ok 230 q.1 q.2.1 q.2.2 := show ∀ q ∈ ([(2, .putfield 110000, 3), (7, .invokevirtual 204, 3), (17, .invokevirtual 223, 3), (28, .invokevirtual 229, 3), (34, .putfield 110490, 3), (40, .invokevirtual 229, 3), (47, .putfield 110490, 3)] : List (Nat × Instr × Nat)), am_ok 230 q.1 q.2.1 q.2.2 from
  am_fc (am_okpf 129 (by decide +kernel) (am_mem 1394 (by decide +kernel))) (
  am_fc (am_okv 340 (by decide +kernel) (by decide) (am_mem 1767 (by decide +kernel)) (am_mem 1769 (by decide +kernel)) (am_mem 70 (by decide +kernel))) (
  am_fc (am_okv 388 (by decide +kernel) (by decide) (am_mem 1850 (by decide +kernel)) (am_mem 1852 (by decide +kernel)) (am_mem 83 (by decide +kernel))) (
  am_fc (am_okv 397 (by decide +kernel) (by decide) (am_mem 1874 (by decide +kernel)) (am_mem 1876 (by decide +kernel)) (am_mem 86 (by decide +kernel))) (
  am_fc (am_okpf 87 (by decide +kernel) (am_mem 1443 (by decide +kernel))) (
  am_fc (am_okv 397 (by decide +kernel) (by decide) (am_mem 1874 (by decide +kernel)) (am_mem 1876 (by decide +kernel)) (am_mem 86 (by decide +kernel))) (
  am_fc (am_okpf 87 (by decide +kernel) (am_mem 1443 (by decide +kernel))) (
  am_fn)))))))
def am_t230 : List (Nat × Instr × Nat) := am_p230_0 ++ (am_l230_0)
theorem am_ot230 : ∀ q ∈ am_t230, am_ok 230 q.1 q.2.1 q.2.2 := List.forall_mem_append.mpr ⟨am_op230_0, am_ol230_0⟩
def am_p231_0 : List (Nat × Instr × Nat) := [(0, .iconst 0, 1), (1, .istore_n 2, 1), (2, .iconst 0, 1), (3, .istore_n 3, 1), (4, .iload_n 3, 1), (5, .aload_n 0, 1), (9, .if_icmp .ge 17, 3), (12, .iload_n 2, 1), (13, .aload_n 1, 1), (14, .iconst 1, 1), (15, .iload_n 3, 1), (16, .iadd, 1), (17, .iaload, 1), (18, .iadd, 1), (19, .istore_n 2, 1), (20, .iinc 3 1, 3), (23, .goto (-19), 3), (26, .iload_n 2, 1), (27, .ireturn, 1)]
theorem am_op231_0 : ∀ q ∈ am_p231_0, am_ok 231 q.1 q.2.1 q.2.2 := am_okps (by decide +kernel)
def am_l231_0 : List (Nat × Instr × Nat) := [(6, .getfield 110010, 3)]
theorem am_ol231_0 : ∀ q ∈ am_l231_0, am_ok 231 q.1 q.2.1 q.2.2 := show ∀ q ∈ ([(6, .getfield 110010, 3)] : List (Nat × Instr × Nat)), am_ok 231 q.1 q.2.1 q.2.2 from
  am_fc (am_okgf 289 (by decide +kernel) (am_mem 1395 (by decide +kernel))) (
  am_fn)
def am_t231 : List (Nat × Instr × Nat) := am_p231_0 ++ (am_l231_0)
theorem am_ot231 : ∀ q ∈ am_t231, am_ok 231 q.1 q.2.1 q.2.2 := List.forall_mem_append.mpr ⟨am_op231_0, am_ol231_0⟩
def am_p232_0 : List (Nat × Instr × Nat) := [(0, .aload_n 0, 1), (1, .iconst 0, 1), (5, .aload_n 0, 1), (6, .iload_n 1, 1), (7, .iconst 0, 1), (8, .iconst 1, 1), (12, .ifCond .ne 5, 3), (15, .iconst 0, 1), (16, .ireturn, 1), (17, .aload_n 0, 1), (21, .iconst 0, 1), (22, .istore_n 2, 1), (23, .iload_n 2, 1), (24, .iload_n 1, 1), (25, .if_icmp .ge 18, 3), (28, .aload_n 0, 1), (29, .aload_n 0, 1), (36, .pop, 1), (37, .iinc 2 1, 3), (40, .goto (-17), 3), (43, .aload_n 0, 1), (44, .aload_n 0, 1), (51, .aload_n 0, 1), (52, .aload_n 0, 1), (59, .isub, 1), (60, .ireturn, 1)]
theorem am_op232_0 : ∀ q ∈ am_p232_0, am_ok 232 q.1 q.2.1 q.2.2 := am_okps (by decide +kernel)
def am_l232_0 : List (Nat × Instr × Nat) := [(2, .putfield 110000, 3), (9, .invokevirtual 223, 3), (18, .invokevirtual 224, 3), (30, .getfield 110422, 3), (33, .invokevirtual 216, 3), (45, .getfield 110412, 3), (48, .invokevirtual 231, 3), (53, .getfield 110422, 3), (56, .invokevirtual 231, 3)]
theorem am_ol232_0 : ∀ q ∈ am_l232_0, am_ok 232 q.1 q.2.1 q.2.2 := show ∀ q ∈ ([(2, .putfield 110000, 3), (9, .invokevirtual 223, 3), (18, .invokevirtual 224, 3), (30, .getfield 110422, 3), (33, .invokevirtual 216, 3), (45, .getfield 110412, 3), (48, .invokevirtual 231, 3), (53, .getfield 110422, 3), (56, .invokevirtual 231, 3)] : List (Nat × Instr × Nat)), am_ok 232 q.1 q.2.1 q.2.2 from
  am_fc (am_okpf 129 (by decide +kernel) (am_mem 1394 (by decide +kernel))) (
  am_fc (am_okv 388 (by decide +kernel) (by decide) (am_mem 1850 (by decide +kernel)) (am_mem 1852 (by decide +kernel)) (am_mem 83 (by decide +kernel))) (
  am_fc (am_okv 391 (by decide +kernel) (by decide) (am_mem 1854 (by decide +kernel)) (am_mem 1856 (by decide +kernel)) (am_mem 84 (by decide +kernel))) (
  am_fc (am_okgf 69 (by decide +kernel) (am_mem 1436 (by decide +kernel))) (
  am_fc (am_okv 385 (by decide +kernel) (by decide) (am_mem 1819 (by decide +kernel)) (am_mem 1821 (by decide +kernel)) (am_mem 77 (by decide +kernel))) (
  am_fc (am_okgf 66 (by decide +kernel) (am_mem 1435 (by decide +kernel))) (
  am_fc (am_okv 400 (by decide +kernel) (by decide) (am_mem 1882 (by decide +kernel)) (am_mem 1884 (by decide +kernel)) (am_mem 87 (by decide +kernel))) (
  am_fc (am_okgf 69 (by decide +kernel) (am_mem 1436 (by decide +kernel))) (
  am_fc (am_okv 400 (by decide +kernel) (by decide) (am_mem 1882 (by decide +kernel)) (am_mem 1884 (by decide +kernel)) (am_mem 87 (by decide +kernel))) (
  am_fn)))))))))
def am_t232 : List (Nat × Instr × Nat) := am_p232_0 ++ (am_l232_0)
theorem am_ot232 : ∀ q ∈ am_t232, am_ok 232 q.1 q.2.1 q.2.2 := List.forall_mem_append.mpr ⟨am_op232_0, am_ol232_0⟩
def am_p233_0 : List (Nat × Instr × Nat) := [(0, .aload_n 0, 1), (4, .iconst 0, 1), (5, .istore 4, 2), (7, .iload 4, 2), (9, .iload_n 3, 1), (10, .if_icmp .ge 28, 3), (13, .aload_n 0, 1), (14, .aload_n 0, 1), (18, .iload_n 1, 1), (19, .iload 4, 2), (21, .ifCond .ne 7, 3), (24, .iload_n 2, 1), (25, .goto 4, 3), (28, .iconst 0, 1), (32, .iinc 4 1, 3), (35, .goto (-28), 3), (38, .aload_n 0, 1), (39, .aload_n 0, 1), (43, .iload_n 1, 1), (47, .ireturn, 1)]
theorem am_op233_0 : ∀ q ∈ am_p233_0, am_ok 233 q.1 q.2.1 q.2.2 := am_okps (by decide +kernel)
def am_l233_0 : List (Nat × Instr × Nat) := [(1, .invokevirtual 224, 3), (15, .getfield 110422, 3), (29, .invokevirtual 217, 3), (40, .getfield 110422, 3), (44, .invokevirtual 200, 3)]
theorem am_ol233_0 : ∀ q ∈ am_l233_0, am_ok 233 q.1 q.2.1 q.2.2 := show ∀ q ∈ ([(1, .invokevirtual 224, 3), (15, .getfield 110422, 3), (29, .invokevirtual 217, 3), (40, .getfield 110422, 3), (44, .invokevirtual 200, 3)] : List (Nat × Instr × Nat)), am_ok 233 q.1 q.2.1 q.2.2 from
  am_fc (am_okv 391 (by decide +kernel) (by decide) (am_mem 1854 (by decide +kernel)) (am_mem 1856 (by decide +kernel)) (am_mem 84 (by decide +kernel))) (
  am_fc (am_okgf 69 (by decide +kernel) (am_mem 1436 (by decide +kernel))) (
  am_fc (am_okv 403 (by decide +kernel) (by decide) (am_mem 1894 (by decide +kernel)) (am_mem 1896 (by decide +kernel)) (am_mem 89 (by decide +kernel))) (
  am_fc (am_okgf 69 (by decide +kernel) (am_mem 1436 (by decide +kernel))) (
  am_fc (am_okv 322 (by decide +kernel) (by decide) (am_mem 1753 (by decide +kernel)) (am_mem 1755 (by decide +kernel)) (am_mem 69 (by decide +kernel))) (
  am_fn)))))
def am_t233 : List (Nat × Instr × Nat) := am_p233_0 ++ (am_l233_0)
theorem am_ot233 : ∀ q ∈ am_t233, am_ok 233 q.1 q.2.1 q.2.2 := List.forall_mem_append.mpr ⟨am_op233_0, am_ol233_0⟩
def am_p234_0 : List (Nat × Instr × Nat) := [(0, .aload_n 0, 1), (1, .iconst 0, 1), (5, .aload_n 0, 1), (6, .iload_n 1, 1), (10, .ifCond .eq 21, 3), (13, .aload_n 0, 1), (14, .iload_n 2, 1), (18, .ifCond .eq 13, 3), (21, .aload_n 0, 1), (22, .iload_n 3, 1), (23, .iconst 1, 1), (24, .iconst 2, 1), (28, .ifCond .ne 5, 3), (31, .iconst 0, 1), (32, .ireturn, 1), (33, .iconst 0, 1), (34, .istore 4, 2), (36, .iload 4, 2), (38, .bipush 20, 2), (40, .if_icmp .gt 28, 3), (43, .aload_n 0, 1), (44, .iload_n 1, 1), (45, .iload 4, 2), (47, .iload_n 3, 1), (51, .iload_n 2, 1), (52, .ishr, 1), (53, .iconst 1, 1), (54, .iand, 1), (55, .iconst 1, 1), (56, .if_icmp .ne 6, 3), (59, .iload 4, 2), (61, .ireturn, 1), (62, .iinc 4 1, 3), (65, .goto (-29), 3), (68, .iconst (-1), 1), (69, .ireturn, 1)]
theorem am_op234_0 : ∀ q ∈ am_p234_0, am_ok 234 q.1 q.2.1 q.2.2 := am_okps (by decide +kernel)
def am_l234_0 : List (Nat × Instr × Nat) := [(2, .putfield 110000, 3), (7, .invokevirtual 204, 3), (15, .invokevirtual 205, 3), (25, .invokevirtual 223, 3), (48, .invokevirtual 233, 3)]
theorem am_ol234_0 : ∀ q ∈ am_l234_0, am_ok 234 q.1 q.2.1 q.2.2 := show ∀ q ∈ ([(2, .putfield 110000, 3), (7, .invokevirtual 204, 3), (15, .invokevirtual 205, 3), (25, .invokevirtual 223, 3), (48, .invokevirtual 233, 3)] : List (Nat × Instr × Nat)), am_ok 234 q.1 q.2.1 q.2.2 from
  am_fc (am_okpf 129 (by decide +kernel) (am_mem 1394 (by decide +kernel))) (
  am_fc (am_okv 340 (by decide +kernel) (by decide) (am_mem 1767 (by decide +kernel)) (am_mem 1769 (by decide +kernel)) (am_mem 70 (by decide +kernel))) (
  am_fc (am_okv 347 (by decide +kernel) (by decide) (am_mem 1779 (by decide +kernel)) (am_mem 1781 (by decide +kernel)) (am_mem 72 (by decide +kernel))) (
  am_fc (am_okv 388 (by decide +kernel) (by decide) (am_mem 1850 (by decide +kernel)) (am_mem 1852 (by decide +kernel)) (am_mem 83 (by decide +kernel))) (
  am_fc (am_okv 406 (by decide +kernel) (by decide) (am_mem 1890 (by decide +kernel)) (am_mem 1892 (by decide +kernel)) (am_mem 88 (by decide +kernel))) (
  am_fn)))))
def am_t234 : List (Nat × Instr × Nat) := am_p234_0 ++ (am_l234_0)
theorem am_ot234 : ∀ q ∈ am_t234, am_ok 234 q.1 q.2.1 q.2.2 := List.forall_mem_append.mpr ⟨am_op234_0, am_ol234_0⟩
def am_p235_0 : List (Nat × Instr × Nat) := [(0, .aload_n 0, 1), (1, .iconst 0, 1), (5, .aload_n 0, 1), (6, .iload_n 1, 1), (10, .ifCond .eq 55, 3), (13, .aload_n 0, 1), (14, .iload_n 2, 1), (15, .ifCond .lt 42, 3), (18, .iload_n 2, 1), (19, .iconst 1, 1), (20, .aload_n 0, 1), (24, .ishl, 1), (25, .if_icmp .ge 32, 3), (28, .iload_n 2, 1), (29, .aload_n 0, 1), (30, .aload_n 0, 1), (34, .iload_n 1, 1), (38, .iconst (-1), 1), (39, .ixor, 1), (40, .iand, 1), (41, .ifCond .ne 16, 3), (44, .iload_n 3, 1), (45, .iconst 1, 1), (46, .iconst 5, 1), (50, .ifCond .eq 7, 3), (53, .iconst 1, 1), (54, .goto 4, 3), (57, .iconst 0, 1), (58, .iconst 2, 1), (62, .ifCond .ne 5, 3), (65, .iconst 0, 1), (66, .ireturn, 1), (67, .iconst 1, 1), (68, .istore 4, 2), (70, .iconst 0, 1), (71, .istore 5, 2), (73, .iload 5, 2), (75, .iload_n 3, 1), (76, .if_icmp .ge 16, 3), (79, .iload 4, 2), (81, .bipush 7, 2), (83, .imul, 1), (84, .istore 4, 2), (86, .iinc 5 1, 3), (89, .goto (-16), 3), (92, .iconst (-1), 1), (93, .istore 5, 2), (95, .iconst 0, 1), (96, .istore 6, 2), (98, .iload 6, 2), (100, .iload 4, 2), (102, .if_icmp .ge 166, 3), (105, .iload 6, 2), (107, .istore 7, 2), (109, .iconst 0, 1), (110, .istore 8, 2), (112, .iload_n 3, 1), (113, .iconst 1, 1), (114, .isub, 1), (115, .istore 9, 2), (117, .iload 9, 2), (119, .ifCond .lt 52, 3), (122, .aload_n 0, 1), (126, .iload 9, 2), (128, .iload 7, 2), (130, .bipush 7, 2), (132, .irem, 1), (133, .iastore, 1), (134, .iload 8, 2), (136, .iload 7, 2), (138, .bipush 7, 2), (140, .irem, 1), (141, .aload_n 0, 1), (142, .aload_n 0, 1), (146, .iconst 0, 1), (147, .iaload, 1), (148, .iload 9, 2), (150, .iadd, 1), (154, .imul, 1), (155, .iadd, 1), (156, .istore 8, 2), (158, .iload 7, 2), (160, .bipush 7, 2), (162, .idiv, 1), (163, .istore 7, 2), (165, .iinc 9 (-1), 3), (168, .goto (-51), 3), (171, .iload 5, 2), (173, .iconst (-1), 1), (174, .if_icmp .eq 13, 3), (177, .iload 8, 2), (179, .iload 5, 2), (181, .if_icmp .lt 6, 3), (184, .goto 78, 3), (187, .aload_n 0, 1), (191, .iconst 0, 1), (192, .istore 9, 2), (194, .iload 9, 2), (196, .iload_n 3, 1), (197, .if_icmp .ge 25, 3), (200, .aload_n 0, 1), (201, .aload_n 0, 1), (205, .iload_n 1, 1), (206, .aload_n 0, 1), (210, .iload 9, 2), (212, .iaload, 1), (216, .iinc 9 1, 3), (219, .goto (-25), 3), (222, .iload_n 2, 1), (223, .aload_n 0, 1), (224, .aload_n 0, 1), (228, .iload_n 1, 1), (232, .iconst (-1), 1), (233, .ixor, 1), (234, .iand, 1), (235, .ifCond .eq 6, 3), (238, .goto 24, 3), (241, .iload 8, 2), (243, .istore 5, 2), (245, .aload_n 0, 1)]
theorem am_op235_0 : ∀ q ∈ am_p235_0, am_ok 235 q.1 q.2.1 q.2.2 := am_okps (by decide +kernel)
def am_p235_1 : List (Nat × Instr × Nat) := [(246, .iload_n 3, 1), (250, .aload_n 0, 1), (251, .aload_n 0, 1), (255, .aload_n 0, 1), (262, .iinc 6 1, 3), (265, .goto (-167), 3), (268, .iload 5, 2), (270, .ireturn, 1)]
theorem am_op235_1 : ∀ q ∈ am_p235_1, am_ok 235 q.1 q.2.1 q.2.2 := am_okps (by decide +kernel)
def am_l235_0 : List (Nat × Instr × Nat) := [(2, .putfield 110000, 3), (7, .invokevirtual 204, 3), (21, .getfield 110020, 3), (31, .getfield 110412, 3), (35, .invokevirtual 200, 3), (47, .invokestatic 159, 3), (59, .invokevirtual 158, 3), (123, .getfield 110532, 3), (143, .getfield 110412, 3), (151, .invokevirtual 198, 3), (188, .invokevirtual 224, 3), (202, .getfield 110422, 3), (207, .getfield 110532, 3), (213, .invokevirtual 217, 3), (225, .getfield 110422, 3), (229, .invokevirtual 200, 3), (247, .putfield 110510, 3), (252, .getfield 110532, 3), (256, .getfield 110522, 3), (259, .invokevirtual 160, 3)]
theorem am_ol235_0 : ∀ q ∈ am_l235_0, am_ok 235 q.1 q.2.1 q.2.2 := show ∀ q ∈ ([(2, .putfield 110000, 3), (7, .invokevirtual 204, 3), (21, .getfield 110020, 3), (31, .getfield 110412, 3), (35, .invokevirtual 200, 3), (47, .invokestatic 159, 3), (59, .invokevirtual 158, 3), (123, .getfield 110532, 3), (143, .getfield 110412, 3), (151, .invokevirtual 198, 3), (188, .invokevirtual 224, 3), (202, .getfield 110422, 3), (207, .getfield 110532, 3), (213, .invokevirtual 217, 3), (225, .getfield 110422, 3), (229, .invokevirtual 200, 3), (247, .putfield 110510, 3), (252, .getfield 110532, 3), (256, .getfield 110522, 3), (259, .invokevirtual 160, 3)] : List (Nat × Instr × Nat)), am_ok 235 q.1 q.2.1 q.2.2 from
  am_fc (am_okpf 129 (by decide +kernel) (am_mem 1394 (by decide +kernel))) (
  am_fc (am_okv 340 (by decide +kernel) (by decide) (am_mem 1767 (by decide +kernel)) (am_mem 1769 (by decide +kernel)) (am_mem 70 (by decide +kernel))) (
  am_fc (am_okgf 292 (by decide +kernel) (am_mem 1396 (by decide +kernel))) (
  am_fc (am_okgf 66 (by decide +kernel) (am_mem 1435 (by decide +kernel))) (
  am_fc (am_okv 322 (by decide +kernel) (by decide) (am_mem 1753 (by decide +kernel)) (am_mem 1755 (by decide +kernel)) (am_mem 69 (by decide +kernel))) (
  am_fc (am_oks 329 (by decide +kernel) (by decide) (am_mem 1743 (by decide +kernel)) (Or.inl (am_mem 1742 (by decide +kernel)))) (
  am_fc (am_okv 282 (by decide +kernel) (by decide) (am_mem 1615 (by decide +kernel)) (am_mem 1617 (by decide +kernel)) (am_mem 43 (by decide +kernel))) (
  am_fc (am_okgf 99 (by decide +kernel) (am_mem 1447 (by decide +kernel))) (
  am_fc (am_okgf 66 (by decide +kernel) (am_mem 1435 (by decide +kernel))) (
  am_fc (am_okv 333 (by decide +kernel) (by decide) (am_mem 1745 (by decide +kernel)) (am_mem 1747 (by decide +kernel)) (am_mem 67 (by decide +kernel))) (
  am_fc (am_okv 391 (by decide +kernel) (by decide) (am_mem 1854 (by decide +kernel)) (am_mem 1856 (by decide +kernel)) (am_mem 84 (by decide +kernel))) (
  am_fc (am_okgf 69 (by decide +kernel) (am_mem 1436 (by decide +kernel))) (
  am_fc (am_okgf 99 (by decide +kernel) (am_mem 1447 (by decide +kernel))) (
  am_fc (am_okv 403 (by decide +kernel) (by decide) (am_mem 1894 (by decide +kernel)) (am_mem 1896 (by decide +kernel)) (am_mem 89 (by decide +kernel))) (
  am_fc (am_okgf 69 (by decide +kernel) (am_mem 1436 (by decide +kernel))) (
  am_fc (am_okv 322 (by decide +kernel) (by decide) (am_mem 1753 (by decide +kernel)) (am_mem 1755 (by decide +kernel)) (am_mem 69 (by decide +kernel))) (
  am_fc (am_okpf 93 (by decide +kernel) (am_mem 1445 (by decide +kernel))) (
  am_fc (am_okgf 99 (by decide +kernel) (am_mem 1447 (by decide +kernel))) (
  am_fc (am_okgf 96 (by decide +kernel) (am_mem 1446 (by decide +kernel))) (
  am_fc (am_okv 301 (by decide +kernel) (by decide) (am_mem 1726 (by decide +kernel)) (am_mem 1728 (by decide +kernel)) (am_mem 66 (by decide +kernel))) (
  am_fn))))))))))))))))))))
def am_t235 : List (Nat × Instr × Nat) := am_p235_0 ++ (am_p235_1 ++ (am_l235_0))
theorem am_ot235 : ∀ q ∈ am_t235, am_ok 235 q.1 q.2.1 q.2.2 := List.forall_mem_append.mpr ⟨am_op235_0, List.forall_mem_append.mpr ⟨am_op235_1, am_ol235_0⟩⟩
def am_p236_0 : List (Nat × Instr × Nat) := [(0, .aload_n 0, 1), (1, .iconst 0, 1), (5, .aload_n 0, 1), (6, .aload_n 0, 1), (10, .iconst (-1), 1), (11, .if_icmp .eq 19, 3), (14, .iload_n 1, 1), (15, .ifCond .lt 15, 3), (18, .iload_n 1, 1), (19, .aload_n 0, 1), (23, .if_icmp .ge 7, 3), (26, .iconst 1, 1), (27, .goto 4, 3), (30, .iconst 0, 1), (31, .iconst 1, 1), (35, .ifCond .eq 12, 3), (38, .aload_n 0, 1), (42, .iload_n 1, 1), (43, .iaload, 1), (44, .goto 4, 3), (47, .iconst 0, 1), (48, .ireturn, 1)]
theorem am_op236_0 : ∀ q ∈ am_p236_0, am_ok 236 q.1 q.2.1 q.2.2 := am_okps (by decide +kernel)
def am_l236_0 : List (Nat × Instr × Nat) := [(2, .putfield 110000, 3), (7, .getfield 110510, 3), (20, .getfield 110510, 3), (32, .invokevirtual 158, 3), (39, .getfield 110522, 3)]
theorem am_ol236_0 : ∀ q ∈ am_l236_0, am_ok 236 q.1 q.2.1 q.2.2 := show ∀ q ∈ ([(2, .putfield 110000, 3), (7, .getfield 110510, 3), (20, .getfield 110510, 3), (32, .invokevirtual 158, 3), (39, .getfield 110522, 3)] : List (Nat × Instr × Nat)), am_ok 236 q.1 q.2.1 q.2.2 from
  am_fc (am_okpf 129 (by decide +kernel) (am_mem 1394 (by decide +kernel))) (
  am_fc (am_okgf 93 (by decide +kernel) (am_mem 1445 (by decide +kernel))) (
  am_fc (am_okgf 93 (by decide +kernel) (am_mem 1445 (by decide +kernel))) (
  am_fc (am_okv 282 (by decide +kernel) (by decide) (am_mem 1615 (by decide +kernel)) (am_mem 1617 (by decide +kernel)) (am_mem 43 (by decide +kernel))) (
  am_fc (am_okgf 96 (by decide +kernel) (am_mem 1446 (by decide +kernel))) (
  am_fn)))))
def am_t236 : List (Nat × Instr × Nat) := am_p236_0 ++ (am_l236_0)
theorem am_ot236 : ∀ q ∈ am_t236, am_ok 236 q.1 q.2.1 q.2.2 := List.forall_mem_append.mpr ⟨am_op236_0, am_ol236_0⟩
def am_p237_0 : List (Nat × Instr × Nat) := [(0, .aload_n 0, 1), (1, .iconst 0, 1), (5, .aload_n 0, 1), (6, .iload_n 1, 1), (7, .ifCond .lt 37, 3), (10, .iload_n 1, 1), (11, .iconst 1, 1), (12, .aload_n 0, 1), (16, .ishl, 1), (17, .if_icmp .ge 27, 3), (20, .iload_n 2, 1), (21, .iconst 0, 1), (22, .bipush 20, 2), (27, .ifCond .eq 17, 3), (30, .iload_n 3, 1), (31, .iconst 1, 1), (32, .bipush 100, 2), (37, .ifCond .eq 7, 3), (40, .iconst 1, 1), (41, .goto 4, 3), (44, .iconst 0, 1), (45, .iconst 1, 1), (49, .ifCond .ne 5, 3), (52, .iconst 0, 1), (53, .ireturn, 1), (54, .iconst 0, 1), (55, .istore 4, 2), (57, .iload 4, 2), (59, .aload_n 0, 1), (63, .if_icmp .ge 24, 3), (66, .aload_n 0, 1), (70, .iload 4, 2), (72, .aload_n 0, 1), (73, .iload 4, 2), (75, .iload_n 2, 1), (76, .iload_n 3, 1), (80, .iastore, 1), (81, .iinc 4 1, 3), (84, .goto (-27), 3), (87, .iconst (-1), 1), (88, .istore 4, 2), (90, .iconst 0, 1), (91, .istore 5, 2), (93, .iload 5, 2), (95, .iconst 1, 1), (96, .aload_n 0, 1), (100, .ishl, 1), (101, .if_icmp .ge 89, 3), (104, .iconst 0, 1), (105, .istore 6, 2), (107, .iconst 0, 1), (108, .istore 7, 2), (110, .iload 7, 2), (112, .aload_n 0, 1), (116, .if_icmp .ge 36, 3), (119, .iload 6, 2), (121, .iload 5, 2), (123, .iload 7, 2), (125, .ishr, 1), (126, .iconst 1, 1), (127, .iand, 1), (128, .iconst 1, 1), (129, .if_icmp .ne 13, 3), (132, .aload_n 0, 1), (136, .iload 7, 2), (138, .iaload, 1), (139, .goto 4, 3), (142, .iconst 0, 1), (143, .ior, 1), (144, .istore 6, 2), (146, .iinc 7 1, 3), (149, .goto (-39), 3), (152, .iload_n 1, 1), (153, .iload 6, 2), (155, .iconst (-1), 1), (156, .ixor, 1), (157, .iand, 1), (158, .ifCond .ne 26, 3), (161, .iload 4, 2), (163, .iconst (-1), 1), (164, .if_icmp .eq 16, 3), (167, .iload 5, 2), (172, .iload 4, 2), (177, .if_icmp .ge 7, 3), (180, .iload 5, 2), (182, .istore 4, 2), (184, .iinc 5 1, 3), (187, .goto (-94), 3), (190, .iload 4, 2), (192, .ireturn, 1)]
theorem am_op237_0 : ∀ q ∈ am_p237_0, am_ok 237 q.1 q.2.1 q.2.2 := am_okps (by decide +kernel)
def am_l237_0 : List (Nat × Instr × Nat) := [(2, .putfield 110000, 3), (13, .getfield 110020, 3), (24, .invokestatic 159, 3), (34, .invokestatic 159, 3), (46, .invokevirtual 158, 3), (60, .getfield 110010, 3), (67, .getfield 110542, 3), (77, .invokevirtual 233, 3), (97, .getfield 110010, 3), (113, .getfield 110010, 3), (133, .getfield 110542, 3), (169, .invokestatic 161, 3), (174, .invokestatic 161, 3)]
theorem am_ol237_0 : ∀ q ∈ am_l237_0, am_ok 237 q.1 q.2.1 q.2.2 := show ∀ q ∈ ([(2, .putfield 110000, 3), (13, .getfield 110020, 3), (24, .invokestatic 159, 3), (34, .invokestatic 159, 3), (46, .invokevirtual 158, 3), (60, .getfield 110010, 3), (67, .getfield 110542, 3), (77, .invokevirtual 233, 3), (97, .getfield 110010, 3), (113, .getfield 110010, 3), (133, .getfield 110542, 3), (169, .invokestatic 161, 3), (174, .invokestatic 161, 3)] : List (Nat × Instr × Nat)), am_ok 237 q.1 q.2.1 q.2.2 from
  am_fc (am_okpf 129 (by decide +kernel) (am_mem 1394 (by decide +kernel))) (
  am_fc (am_okgf 292 (by decide +kernel) (am_mem 1396 (by decide +kernel))) (
  am_fc (am_oks 329 (by decide +kernel) (by decide) (am_mem 1743 (by decide +kernel)) (Or.inl (am_mem 1742 (by decide +kernel)))) (
  am_fc (am_oks 329 (by decide +kernel) (by decide) (am_mem 1743 (by decide +kernel)) (Or.inl (am_mem 1742 (by decide +kernel)))) (
  am_fc (am_okv 282 (by decide +kernel) (by decide) (am_mem 1615 (by decide +kernel)) (am_mem 1617 (by decide +kernel)) (am_mem 43 (by decide +kernel))) (
  am_fc (am_okgf 289 (by decide +kernel) (am_mem 1395 (by decide +kernel))) (
  am_fc (am_okgf 102 (by decide +kernel) (am_mem 1448 (by decide +kernel))) (
  am_fc (am_okv 406 (by decide +kernel) (by decide) (am_mem 1890 (by decide +kernel)) (am_mem 1892 (by decide +kernel)) (am_mem 88 (by decide +kernel))) (
  am_fc (am_okgf 289 (by decide +kernel) (am_mem 1395 (by decide +kernel))) (
  am_fc (am_okgf 289 (by decide +kernel) (am_mem 1395 (by decide +kernel))) (
  am_fc (am_okgf 102 (by decide +kernel) (am_mem 1448 (by decide +kernel))) (
  am_fc (am_oks 326 (by decide +kernel) (by decide) (am_mem 1761 (by decide +kernel)) (Or.inl (am_mem 1760 (by decide +kernel)))) (
  am_fc (am_oks 326 (by decide +kernel) (by decide) (am_mem 1761 (by decide +kernel)) (Or.inl (am_mem 1760 (by decide +kernel)))) (
  am_fn)))))))))))))
def am_t237 : List (Nat × Instr × Nat) := am_p237_0 ++ (am_l237_0)
theorem am_ot237 : ∀ q ∈ am_t237, am_ok 237 q.1 q.2.1 q.2.2 := List.forall_mem_append.mpr ⟨am_op237_0, am_ol237_0⟩
def am_p238_0 : List (Nat × Instr × Nat) := [(0, .iconst 0, 1), (1, .istore_n 2, 1), (2, .iconst 0, 1), (3, .istore_n 3, 1), (4, .iload_n 3, 1), (5, .aload_n 0, 1), (9, .if_icmp .ge 36, 3), (12, .iload_n 2, 1), (13, .iload_n 1, 1), (14, .iload_n 3, 1), (15, .ishr, 1), (16, .iconst 1, 1), (17, .iand, 1), (18, .iconst 1, 1), (19, .if_icmp .ne 17, 3), (22, .aload_n 0, 1), (26, .bipush 6, 2), (28, .iload_n 3, 1), (29, .imul, 1), (30, .iconst 1, 1), (31, .iadd, 1), (32, .iaload, 1), (33, .goto 4, 3), (36, .iconst 0, 1), (37, .iadd, 1), (38, .istore_n 2, 1), (39, .iinc 3 1, 3), (42, .goto (-38), 3), (45, .iload_n 2, 1), (46, .ireturn, 1)]
theorem am_op238_0 : ∀ q ∈ am_p238_0, am_ok 238 q.1 q.2.1 q.2.2 := am_okps (by decide +kernel)
def am_l238_0 : List (Nat × Instr × Nat) := [(6, .getfield 110020, 3), (23, .getfield 110062, 3)]
theorem am_ol238_0 : ∀ q ∈ am_l238_0, am_ok 238 q.1 q.2.1 q.2.2 := show ∀ q ∈ ([(6, .getfield 110020, 3), (23, .getfield 110062, 3)] : List (Nat × Instr × Nat)), am_ok 238 q.1 q.2.1 q.2.2 from
  am_fc (am_okgf 292 (by decide +kernel) (am_mem 1396 (by decide +kernel))) (
  am_fc (am_okgf 13 (by decide +kernel) (am_mem 1400 (by decide +kernel))) (
  am_fn))
def am_t238 : List (Nat × Instr × Nat) := am_p238_0 ++ (am_l238_0)
theorem am_ot238 : ∀ q ∈ am_t238, am_ok 238 q.1 q.2.1 q.2.2 := List.forall_mem_append.mpr ⟨am_op238_0, am_ol238_0⟩
def am_p239_0 : List (Nat × Instr × Nat) := [(0, .aload_n 0, 1), (1, .iconst 0, 1), (5, .aload_n 0, 1), (6, .iload_n 1, 1), (7, .iconst 0, 1), (8, .bipush 30, 2), (13, .ifCond .eq 17, 3), (16, .iload_n 2, 1), (17, .iconst 1, 1), (18, .bipush 100, 2), (23, .ifCond .eq 7, 3), (26, .iconst 1, 1), (27, .goto 4, 3), (30, .iconst 0, 1), (31, .iconst 1, 1), (35, .ifCond .ne 5, 3), (38, .iconst 0, 1), (39, .ireturn, 1), (40, .iconst 0, 1), (41, .istore_n 3, 1), (42, .iload_n 3, 1), (43, .aload_n 0, 1), (47, .if_icmp .ge 49, 3), (50, .iconst 0, 1), (51, .istore 4, 2), (53, .iload 4, 2), (55, .bipush 20, 2), (57, .if_icmp .gt 33, 3), (60, .aload_n 0, 1), (64, .bipush 21, 2), (66, .iload_n 3, 1), (67, .imul, 1), (68, .iload 4, 2), (70, .iadd, 1), (71, .aload_n 0, 1), (72, .aload_n 0, 1), (73, .iload_n 3, 1), (74, .iload 4, 2), (76, .iload_n 2, 1), (83, .iastore, 1), (84, .iinc 4 1, 3), (87, .goto (-34), 3), (90, .iinc 3 1, 3), (93, .goto (-51), 3), (96, .iconst 0, 1), (97, .istore_n 3, 1), (98, .iload_n 3, 1), (99, .bipush 30, 2), (101, .if_icmp .gt 32, 3), (104, .aload_n 0, 1), (108, .bipush 31, 2), (110, .aload_n 0, 1), (114, .imul, 1), (115, .iload_n 3, 1), (116, .iadd, 1), (117, .iload_n 3, 1), (118, .ifCond .ne 7, 3), (121, .iconst 0, 1), (122, .goto 4, 3), (125, .iconst (-1), 1), (126, .iastore, 1), (127, .iinc 3 1, 3), (130, .goto (-32), 3), (133, .aload_n 0, 1), (137, .iconst 1, 1), (138, .isub, 1), (139, .istore_n 3, 1), (140, .iload_n 3, 1), (141, .ifCond .lt 127, 3), (144, .iconst 0, 1), (145, .istore 4, 2), (147, .iload 4, 2), (149, .bipush 30, 2), (151, .if_icmp .gt 111, 3), (154, .iconst (-1), 1), (155, .istore 5, 2), (157, .iconst 0, 1), (158, .istore 6, 2), (160, .iload 6, 2), (162, .bipush 20, 2), (164, .if_icmp .gt 78, 3), (167, .iload 6, 2), (169, .iload 4, 2), (171, .if_icmp .gt 71, 3), (174, .aload_n 0, 1), (178, .bipush 31, 2), (180, .iload_n 3, 1), (181, .iconst 1, 1), (182, .iadd, 1), (183, .imul, 1), (184, .iload 4, 2), (186, .iadd, 1), (187, .iload 6, 2), (189, .isub, 1), (190, .iaload, 1), (191, .istore 7, 2), (193, .iload 7, 2), (195, .iconst (-1), 1), (196, .if_icmp .eq 40, 3), (199, .aload_n 0, 1), (203, .bipush 21, 2), (205, .iload_n 3, 1), (206, .imul, 1), (207, .iload 6, 2), (209, .iadd, 1), (210, .iaload, 1), (211, .iload 7, 2), (213, .iadd, 1), (214, .iload 5, 2), (216, .if_icmp .le 20, 3), (219, .aload_n 0, 1), (223, .bipush 21, 2), (225, .iload_n 3, 1), (226, .imul, 1), (227, .iload 6, 2), (229, .iadd, 1), (230, .iaload, 1), (231, .iload 7, 2), (233, .iadd, 1), (234, .istore 5, 2)]
theorem am_op239_0 : ∀ q ∈ am_p239_0, am_ok 239 q.1 q.2.1 q.2.2 := am_okps (by decide +kernel)
def am_p239_1 : List (Nat × Instr × Nat) := [(236, .iinc 6 1, 3), (239, .goto (-79), 3), (242, .aload_n 0, 1), (246, .bipush 31, 2), (248, .iload_n 3, 1), (249, .imul, 1), (250, .iload 4, 2), (252, .iadd, 1), (253, .iload 5, 2), (255, .iastore, 1), (256, .iinc 4 1, 3), (259, .goto (-112), 3), (262, .iinc 3 (-1), 3), (265, .goto (-125), 3), (268, .iconst 0, 1), (269, .istore_n 3, 1), (270, .iconst 1, 1), (271, .istore 4, 2), (273, .iload 4, 2), (275, .iload_n 1, 1), (276, .if_icmp .gt 28, 3), (279, .aload_n 0, 1), (283, .iload 4, 2), (285, .iaload, 1), (286, .aload_n 0, 1), (290, .iload_n 3, 1), (291, .iaload, 1), (292, .if_icmp .le 6, 3), (295, .iload 4, 2), (297, .istore_n 3, 1), (298, .iinc 4 1, 3), (301, .goto (-28), 3), (304, .iload_n 3, 1), (305, .istore 4, 2), (307, .iconst 0, 1), (308, .istore 5, 2), (310, .iload 5, 2), (312, .aload_n 0, 1), (316, .if_icmp .ge 104, 3), (319, .iconst 0, 1), (320, .istore 6, 2), (322, .aload_n 0, 1), (326, .bipush 31, 2), (328, .iload 5, 2), (330, .iconst 1, 1), (331, .iadd, 1), (332, .imul, 1), (333, .iload 4, 2), (335, .iadd, 1), (336, .iload 6, 2), (338, .isub, 1), (339, .iaload, 1), (340, .iconst (-1), 1), (341, .if_icmp .eq 51, 3), (344, .aload_n 0, 1), (348, .bipush 21, 2), (350, .iload 5, 2), (352, .imul, 1), (353, .iload 6, 2), (355, .iadd, 1), (356, .iaload, 1), (357, .aload_n 0, 1), (361, .bipush 31, 2), (363, .iload 5, 2), (365, .iconst 1, 1), (366, .iadd, 1), (367, .imul, 1), (368, .iload 4, 2), (370, .iadd, 1), (371, .iload 6, 2), (373, .isub, 1), (374, .iaload, 1), (375, .iadd, 1), (376, .aload_n 0, 1), (380, .bipush 31, 2), (382, .iload 5, 2), (384, .imul, 1), (385, .iload 4, 2), (387, .iadd, 1), (388, .iaload, 1), (389, .if_icmp .eq 9, 3), (392, .iinc 6 1, 3), (395, .goto (-73), 3), (398, .aload_n 0, 1), (402, .iload 5, 2), (404, .iload 6, 2), (406, .iastore, 1), (407, .iload 4, 2), (409, .iload 6, 2), (411, .isub, 1), (412, .istore 4, 2), (414, .iinc 5 1, 3), (417, .goto (-107), 3), (420, .aload_n 0, 1), (421, .iconst 1, 1), (425, .aload_n 0, 1), (429, .iload_n 3, 1), (430, .iaload, 1), (431, .ireturn, 1)]
theorem am_op239_1 : ∀ q ∈ am_p239_1, am_ok 239 q.1 q.2.1 q.2.2 := am_okps (by decide +kernel)
def am_l239_0 : List (Nat × Instr × Nat) := [(2, .putfield 110000, 3), (10, .invokestatic 159, 3), (20, .invokestatic 159, 3), (32, .invokevirtual 158, 3), (44, .getfield 110010, 3), (61, .getfield 110552, 3), (77, .invokevirtual 233, 3), (80, .invokevirtual 238, 3), (105, .getfield 110562, 3), (111, .getfield 110010, 3), (134, .getfield 110010, 3), (175, .getfield 110562, 3), (200, .getfield 110552, 3), (220, .getfield 110552, 3), (243, .getfield 110562, 3), (280, .getfield 110562, 3), (287, .getfield 110562, 3), (313, .getfield 110010, 3), (323, .getfield 110562, 3), (345, .getfield 110552, 3), (358, .getfield 110562, 3), (377, .getfield 110562, 3), (399, .getfield 110572, 3), (422, .putfield 110581, 3), (426, .getfield 110562, 3)]
theorem am_ol239_0 : ∀ q ∈ am_l239_0, am_ok 239 q.1 q.2.1 q.2.2 := show ∀ q ∈ ([(2, .putfield 110000, 3), (10, .invokestatic 159, 3), (20, .invokestatic 159, 3), (32, .invokevirtual 158, 3), (44, .getfield 110010, 3), (61, .getfield 110552, 3), (77, .invokevirtual 233, 3), (80, .invokevirtual 238, 3), (105, .getfield 110562, 3), (111, .getfield 110010, 3), (134, .getfield 110010, 3), (175, .getfield 110562, 3), (200, .getfield 110552, 3), (220, .getfield 110552, 3), (243, .getfield 110562, 3), (280, .getfield 110562, 3), (287, .getfield 110562, 3), (313, .getfield 110010, 3), (323, .getfield 110562, 3), (345, .getfield 110552, 3), (358, .getfield 110562, 3), (377, .getfield 110562, 3), (399, .getfield 110572, 3), (422, .putfield 110581, 3), (426, .getfield 110562, 3)] : List (Nat × Instr × Nat)), am_ok 239 q.1 q.2.1 q.2.2 from
  am_fc (am_okpf 129 (by decide +kernel) (am_mem 1394 (by decide +kernel))) (
  am_fc (am_oks 329 (by decide +kernel) (by decide) (am_mem 1743 (by decide +kernel)) (Or.inl (am_mem 1742 (by decide +kernel)))) (
  am_fc (am_oks 329 (by decide +kernel) (by decide) (am_mem 1743 (by decide +kernel)) (Or.inl (am_mem 1742 (by decide +kernel)))) (
  am_fc (am_okv 282 (by decide +kernel) (by decide) (am_mem 1615 (by decide +kernel)) (am_mem 1617 (by decide +kernel)) (am_mem 43 (by decide +kernel))) (
  am_fc (am_okgf 289 (by decide +kernel) (am_mem 1395 (by decide +kernel))) (
  am_fc (am_okgf 105 (by decide +kernel) (am_mem 1449 (by decide +kernel))) (
  am_fc (am_okv 406 (by decide +kernel) (by decide) (am_mem 1890 (by decide +kernel)) (am_mem 1892 (by decide +kernel)) (am_mem 88 (by decide +kernel))) (
  am_fc (am_okv 409 (by decide +kernel) (by decide) (am_mem 1914 (by decide +kernel)) (am_mem 1916 (by decide +kernel)) (am_mem 90 (by decide +kernel))) (
  am_fc (am_okgf 108 (by decide +kernel) (am_mem 1450 (by decide +kernel))) (
  am_fc (am_okgf 289 (by decide +kernel) (am_mem 1395 (by decide +kernel))) (
  am_fc (am_okgf 289 (by decide +kernel) (am_mem 1395 (by decide +kernel))) (
  am_fc (am_okgf 108 (by decide +kernel) (am_mem 1450 (by decide +kernel))) (
  am_fc (am_okgf 105 (by decide +kernel) (am_mem 1449 (by decide +kernel))) (
  am_fc (am_okgf 105 (by decide +kernel) (am_mem 1449 (by decide +kernel))) (
  am_fc (am_okgf 108 (by decide +kernel) (am_mem 1450 (by decide +kernel))) (
  am_fc (am_okgf 108 (by decide +kernel) (am_mem 1450 (by decide +kernel))) (
  am_fc (am_okgf 108 (by decide +kernel) (am_mem 1450 (by decide +kernel))) (
  am_fc (am_okgf 289 (by decide +kernel) (am_mem 1395 (by decide +kernel))) (
  am_fc (am_okgf 108 (by decide +kernel) (am_mem 1450 (by decide +kernel))) (
  am_fc (am_okgf 105 (by decide +kernel) (am_mem 1449 (by decide +kernel))) (
  am_fc (am_okgf 108 (by decide +kernel) (am_mem 1450 (by decide +kernel))) (
  am_fc (am_okgf 108 (by decide +kernel) (am_mem 1450 (by decide +kernel))) (
  am_fc (am_okgf 111 (by decide +kernel) (am_mem 1451 (by decide +kernel))) (
  am_fc (am_okpf 308 (by decide +kernel) (am_mem 1452 (by decide +kernel))) (
  am_fc (am_okgf 108 (by decide +kernel) (am_mem 1450 (by decide +kernel))) (
  am_fn)))))))))))))))))))))))))
def am_t239 : List (Nat × Instr × Nat) := am_p239_0 ++ (am_p239_1 ++ (am_l239_0))
theorem am_ot239 : ∀ q ∈ am_t239, am_ok 239 q.1 q.2.1 q.2.2 := List.forall_mem_append.mpr ⟨am_op239_0, List.forall_mem_append.mpr ⟨am_op239_1, am_ol239_0⟩⟩
def am_p240_0 : List (Nat × Instr × Nat) := [(0, .aload_n 0, 1), (1, .iconst 0, 1), (5, .aload_n 0, 1), (6, .iload_n 1, 1), (10, .ifCond .eq 24, 3), (13, .aload_n 0, 1), (14, .aload_n 0, 1), (18, .iconst 1, 1), (22, .ifCond .eq 12, 3), (25, .aload_n 0, 1), (29, .iload_n 1, 1), (30, .iaload, 1), (31, .goto 4, 3), (34, .iconst 0, 1), (35, .ireturn, 1)]
theorem am_op240_0 : ∀ q ∈ am_p240_0, am_ok 240 q.1 q.2.1 q.2.2 := am_okps (by decide +kernel)
def am_l240_0 : List (Nat × Instr × Nat) := [(2, .putfield 110000, 3), (7, .invokevirtual 204, 3), (15, .getfield 110581, 3), (19, .invokevirtual 158, 3), (26, .getfield 110572, 3)]
theorem am_ol240_0 : ∀ q ∈ am_l240_0, am_ok 240 q.1 q.2.1 q.2.2 := show ∀ q ∈ ([(2, .putfield 110000, 3), (7, .invokevirtual 204, 3), (15, .getfield 110581, 3), (19, .invokevirtual 158, 3), (26, .getfield 110572, 3)] : List (Nat × Instr × Nat)), am_ok 240 q.1 q.2.1 q.2.2 from
  am_fc (am_okpf 129 (by decide +kernel) (am_mem 1394 (by decide +kernel))) (
  am_fc (am_okv 340 (by decide +kernel) (by decide) (am_mem 1767 (by decide +kernel)) (am_mem 1769 (by decide +kernel)) (am_mem 70 (by decide +kernel))) (
  am_fc (am_okgf 308 (by decide +kernel) (am_mem 1452 (by decide +kernel))) (
  am_fc (am_okv 282 (by decide +kernel) (by decide) (am_mem 1615 (by decide +kernel)) (am_mem 1617 (by decide +kernel)) (am_mem 43 (by decide +kernel))) (
  am_fc (am_okgf 111 (by decide +kernel) (am_mem 1451 (by decide +kernel))) (
  am_fn)))))
def am_t240 : List (Nat × Instr × Nat) := am_p240_0 ++ (am_l240_0)
theorem am_ot240 : ∀ q ∈ am_t240, am_ok 240 q.1 q.2.1 q.2.2 := List.forall_mem_append.mpr ⟨am_op240_0, am_ol240_0⟩
def am_p241_0 : List (Nat × Instr × Nat) := [(0, .iconst 0, 1), (1, .istore_n 2, 1), (2, .iconst 0, 1), (3, .istore_n 3, 1), (4, .iload_n 3, 1), (5, .aload_n 0, 1), (9, .if_icmp .ge 67, 3), (12, .iconst 1, 1), (13, .aload_n 0, 1), (17, .iconst 2, 1), (18, .iload_n 3, 1), (19, .imul, 1), (20, .iaload, 1), (21, .ishl, 1), (22, .istore 4, 2), (24, .iconst 1, 1), (25, .aload_n 0, 1), (29, .iconst 2, 1), (30, .iload_n 3, 1), (31, .imul, 1), (32, .iconst 1, 1), (33, .iadd, 1), (34, .iaload, 1), (35, .ishl, 1), (36, .istore 5, 2), (38, .iload_n 2, 1), (39, .iload_n 1, 1), (40, .iload 4, 2), (42, .iand, 1), (43, .ifCond .eq 8, 3), (46, .iload 5, 2), (48, .goto 4, 3), (51, .iconst 0, 1), (52, .ior, 1), (53, .istore_n 2, 1), (54, .iload_n 2, 1), (55, .iload_n 1, 1), (56, .iload 5, 2), (58, .iand, 1), (59, .ifCond .eq 8, 3), (62, .iload 4, 2), (64, .goto 4, 3), (67, .iconst 0, 1), (68, .ior, 1), (69, .istore_n 2, 1), (70, .iinc 3 1, 3), (73, .goto (-69), 3), (76, .iload_n 2, 1), (77, .ireturn, 1)]
theorem am_op241_0 : ∀ q ∈ am_p241_0, am_ok 241 q.1 q.2.1 q.2.2 := am_okps (by decide +kernel)
def am_l241_0 : List (Nat × Instr × Nat) := [(6, .getfield 110030, 3), (14, .getfield 110072, 3), (26, .getfield 110072, 3)]
theorem am_ol241_0 : ∀ q ∈ am_l241_0, am_ok 241 q.1 q.2.1 q.2.2 := show ∀ q ∈ ([(6, .getfield 110030, 3), (14, .getfield 110072, 3), (26, .getfield 110072, 3)] : List (Nat × Instr × Nat)), am_ok 241 q.1 q.2.1 q.2.2 from
  am_fc (am_okgf 295 (by decide +kernel) (am_mem 1397 (by decide +kernel))) (
  am_fc (am_okgf 17 (by decide +kernel) (am_mem 1401 (by decide +kernel))) (
  am_fc (am_okgf 17 (by decide +kernel) (am_mem 1401 (by decide +kernel))) (
  am_fn)))
def am_t241 : List (Nat × Instr × Nat) := am_p241_0 ++ (am_l241_0)
theorem am_ot241 : ∀ q ∈ am_t241, am_ok 241 q.1 q.2.1 q.2.2 := List.forall_mem_append.mpr ⟨am_op241_0, am_ol241_0⟩
def am_p242_0 : List (Nat × Instr × Nat) := [(0, .iload_n 1, 1), (1, .istore_n 3, 1), (2, .iconst 0, 1), (3, .istore 4, 2), (5, .iload 4, 2), (7, .aload_n 0, 1), (11, .if_icmp .gt 29, 3), (14, .iload_n 3, 1), (15, .iload_n 2, 1), (16, .ishr, 1), (17, .iconst 1, 1), (18, .iand, 1), (19, .iconst 1, 1), (20, .if_icmp .ne 6, 3), (23, .iload 4, 2), (25, .ireturn, 1), (26, .iload_n 3, 1), (27, .aload_n 0, 1), (28, .iload_n 3, 1), (32, .ior, 1), (33, .istore_n 3, 1), (34, .iinc 4 1, 3), (37, .goto (-32), 3), (40, .iconst (-1), 1), (41, .ireturn, 1)]
theorem am_op242_0 : ∀ q ∈ am_p242_0, am_ok 242 q.1 q.2.1 q.2.2 := am_okps (by decide +kernel)
def am_l242_0 : List (Nat × Instr × Nat) := [(8, .getfield 110010, 3), (29, .invokevirtual 241, 3)]
theorem am_ol242_0 : ∀ q ∈ am_l242_0, am_ok 242 q.1 q.2.1 q.2.2 := show ∀ q ∈ ([(8, .getfield 110010, 3), (29, .invokevirtual 241, 3)] : List (Nat × Instr × Nat)), am_ok 242 q.1 q.2.1 q.2.2 from
  am_fc (am_okgf 289 (by decide +kernel) (am_mem 1395 (by decide +kernel))) (
  am_fc (am_okv 412 (by decide +kernel) (by decide) (am_mem 1930 (by decide +kernel)) (am_mem 1932 (by decide +kernel)) (am_mem 92 (by decide +kernel))) (
  am_fn))
def am_t242 : List (Nat × Instr × Nat) := am_p242_0 ++ (am_l242_0)
theorem am_ot242 : ∀ q ∈ am_t242, am_ok 242 q.1 q.2.1 q.2.2 := List.forall_mem_append.mpr ⟨am_op242_0, am_ol242_0⟩
def am_p243_0 : List (Nat × Instr × Nat) := [(0, .aload_n 0, 1), (1, .iconst 0, 1), (5, .aload_n 0, 1), (6, .iload_n 1, 1), (10, .ifCond .eq 28, 3), (13, .aload_n 0, 1), (14, .iload_n 2, 1), (18, .ifCond .eq 20, 3), (21, .aload_n 0, 1), (22, .aload_n 0, 1), (23, .aload_n 0, 1), (27, .iload_n 1, 1), (31, .iload_n 2, 1), (35, .goto 4, 3), (38, .iconst 0, 1), (39, .ireturn, 1)]
theorem am_op243_0 : ∀ q ∈ am_p243_0, am_ok 243 q.1 q.2.1 q.2.2 := am_okps (by decide +kernel)
def am_l243_0 : List (Nat × Instr × Nat) := [(2, .putfield 110000, 3), (7, .invokevirtual 205, 3), (15, .invokevirtual 204, 3), (24, .getfield 110412, 3), (28, .invokevirtual 201, 3), (32, .invokevirtual 242, 3)]
theorem am_ol243_0 : ∀ q ∈ am_l243_0, am_ok 243 q.1 q.2.1 q.2.2 := show ∀ q ∈ ([(2, .putfield 110000, 3), (7, .invokevirtual 205, 3), (15, .invokevirtual 204, 3), (24, .getfield 110412, 3), (28, .invokevirtual 201, 3), (32, .invokevirtual 242, 3)] : List (Nat × Instr × Nat)), am_ok 243 q.1 q.2.1 q.2.2 from
  am_fc (am_okpf 129 (by decide +kernel) (am_mem 1394 (by decide +kernel))) (
  am_fc (am_okv 347 (by decide +kernel) (by decide) (am_mem 1779 (by decide +kernel)) (am_mem 1781 (by decide +kernel)) (am_mem 72 (by decide +kernel))) (
  am_fc (am_okv 340 (by decide +kernel) (by decide) (am_mem 1767 (by decide +kernel)) (am_mem 1769 (by decide +kernel)) (am_mem 70 (by decide +kernel))) (
  am_fc (am_okgf 66 (by decide +kernel) (am_mem 1435 (by decide +kernel))) (
  am_fc (am_okv 350 (by decide +kernel) (by decide) (am_mem 1783 (by decide +kernel)) (am_mem 1785 (by decide +kernel)) (am_mem 73 (by decide +kernel))) (
  am_fc (am_okv 415 (by decide +kernel) (by decide) (am_mem 1926 (by decide +kernel)) (am_mem 1928 (by decide +kernel)) (am_mem 91 (by decide +kernel))) (
  am_fn))))))
def am_t243 : List (Nat × Instr × Nat) := am_p243_0 ++ (am_l243_0)
theorem am_ot243 : ∀ q ∈ am_t243, am_ok 243 q.1 q.2.1 q.2.2 := List.forall_mem_append.mpr ⟨am_op243_0, am_ol243_0⟩
def am_p244_0 : List (Nat × Instr × Nat) := [(0, .aload_n 0, 1), (1, .iconst 0, 1), (5, .aload_n 0, 1), (6, .iload_n 1, 1), (10, .ifCond .ne 5, 3), (13, .iconst 0, 1), (14, .ireturn, 1), (15, .iconst (-1), 1), (16, .istore_n 2, 1), (17, .iconst 0, 1), (18, .istore_n 3, 1), (19, .iconst 0, 1), (20, .istore 4, 2), (22, .iconst 0, 1), (23, .istore 5, 2), (25, .iload 5, 2), (27, .aload_n 0, 1), (31, .if_icmp .ge 138, 3), (34, .aload_n 0, 1), (38, .iload 5, 2), (40, .iload_n 1, 1), (44, .ifCond .ne 6, 3), (47, .goto 116, 3), (50, .iconst 0, 1), (51, .istore 6, 2), (53, .iconst 0, 1), (54, .istore 7, 2), (56, .iconst 0, 1), (57, .istore 8, 2), (59, .iload 8, 2), (61, .aload_n 0, 1), (65, .if_icmp .ge 61, 3), (68, .aload_n 0, 1), (69, .iconst 1, 1), (70, .iload 5, 2), (72, .ishl, 1), (73, .iload 8, 2), (78, .istore 9, 2), (80, .iload 6, 2), (82, .iload 8, 2), (84, .iload 5, 2), (86, .if_icmp .eq 13, 3), (89, .iload 9, 2), (91, .iconst (-1), 1), (92, .if_icmp .eq 7, 3), (95, .iconst 1, 1), (96, .goto 4, 3), (99, .iconst 0, 1), (100, .iadd, 1), (101, .istore 6, 2), (103, .iload 7, 2), (105, .iload 9, 2), (107, .iconst (-1), 1), (108, .if_icmp .ne 7, 3), (111, .iconst 0, 1), (112, .goto 5, 3), (115, .iload 9, 2), (117, .iadd, 1), (118, .istore 7, 2), (120, .iinc 8 1, 3), (123, .goto (-64), 3), (126, .iload_n 2, 1), (127, .iconst (-1), 1), (128, .if_icmp .eq 25, 3), (131, .iload 6, 2), (133, .iload_n 3, 1), (134, .if_icmp .lt 29, 3), (137, .iload 6, 2), (139, .iload_n 3, 1), (140, .if_icmp .ne 13, 3), (143, .iload 7, 2), (145, .iload 4, 2), (147, .if_icmp .lt 6, 3), (150, .goto 13, 3), (153, .iload 5, 2), (155, .istore_n 2, 1), (156, .iload 6, 2), (158, .istore_n 3, 1), (159, .iload 7, 2), (161, .istore 4, 2), (163, .iinc 5 1, 3), (166, .goto (-141), 3), (169, .iload_n 2, 1), (170, .ireturn, 1)]
theorem am_op244_0 : ∀ q ∈ am_p244_0, am_ok 244 q.1 q.2.1 q.2.2 := am_okps (by decide +kernel)
def am_l244_0 : List (Nat × Instr × Nat) := [(2, .putfield 110000, 3), (7, .invokevirtual 205, 3), (28, .getfield 110010, 3), (35, .getfield 110412, 3), (41, .invokestatic 199, 3), (62, .getfield 110010, 3), (75, .invokevirtual 242, 3)]
theorem am_ol244_0 : ∀ q ∈ am_l244_0, am_ok 244 q.1 q.2.1 q.2.2 := show ∀ q ∈ ([(2, .putfield 110000, 3), (7, .invokevirtual 205, 3), (28, .getfield 110010, 3), (35, .getfield 110412, 3), (41, .invokestatic 199, 3), (62, .getfield 110010, 3), (75, .invokevirtual 242, 3)] : List (Nat × Instr × Nat)), am_ok 244 q.1 q.2.1 q.2.2 from
  am_fc (am_okpf 129 (by decide +kernel) (am_mem 1394 (by decide +kernel))) (
  am_fc (am_okv 347 (by decide +kernel) (by decide) (am_mem 1779 (by decide +kernel)) (am_mem 1781 (by decide +kernel)) (am_mem 72 (by decide +kernel))) (
  am_fc (am_okgf 289 (by decide +kernel) (am_mem 1395 (by decide +kernel))) (
  am_fc (am_okgf 66 (by decide +kernel) (am_mem 1435 (by decide +kernel))) (
  am_fc (am_oks 318 (by decide +kernel) (by decide) (am_mem 1758 (by decide +kernel)) (Or.inl (am_mem 1757 (by decide +kernel)))) (
  am_fc (am_okgf 289 (by decide +kernel) (am_mem 1395 (by decide +kernel))) (
  am_fc (am_okv 415 (by decide +kernel) (by decide) (am_mem 1926 (by decide +kernel)) (am_mem 1928 (by decide +kernel)) (am_mem 91 (by decide +kernel))) (
  am_fn)))))))
def am_t244 : List (Nat × Instr × Nat) := am_p244_0 ++ (am_l244_0)
theorem am_ot244 : ∀ q ∈ am_t244, am_ok 244 q.1 q.2.1 q.2.2 := List.forall_mem_append.mpr ⟨am_op244_0, am_ol244_0⟩
def am_p245_0 : List (Nat × Instr × Nat) := [(0, .aload_n 0, 1), (1, .iconst 0, 1), (5, .aload_n 0, 1), (6, .iload_n 1, 1), (7, .iconst 0, 1), (8, .iconst 3, 1), (12, .iconst 1, 1), (16, .ifCond .ne 5, 3), (19, .iconst 0, 1), (20, .ireturn, 1), (21, .iconst 0, 1), (22, .istore_n 2, 1), (23, .iconst 0, 1), (24, .istore_n 3, 1), (25, .iload_n 3, 1), (26, .aload_n 0, 1), (30, .if_icmp .ge 38, 3), (33, .iload_n 2, 1), (34, .aload_n 0, 1), (38, .bipush 7, 2), (40, .iload_n 3, 1), (41, .iadd, 1), (42, .iaload, 1), (43, .iload_n 1, 1), (44, .if_icmp .ne 15, 3), (47, .aload_n 0, 1), (48, .aload_n 0, 1), (52, .iload_n 3, 1), (56, .goto 4, 3), (59, .iconst 0, 1), (60, .ior, 1), (61, .istore_n 2, 1), (62, .iinc 3 1, 3), (65, .goto (-40), 3), (68, .iconst 0, 1), (69, .istore_n 3, 1), (70, .iconst 0, 1), (71, .istore 4, 2), (73, .iload 4, 2), (75, .aload_n 0, 1), (79, .if_icmp .ge 47, 3), (82, .iload_n 3, 1), (83, .aload_n 0, 1), (87, .bipush 7, 2), (89, .iload 4, 2), (91, .iadd, 1), (92, .iaload, 1), (93, .iload_n 1, 1), (94, .if_icmp .ne 23, 3), (97, .iload_n 2, 1), (98, .aload_n 0, 1), (99, .aload_n 0, 1), (103, .iload 4, 2), (108, .iconst (-1), 1), (109, .ixor, 1), (110, .iand, 1), (114, .goto 4, 3), (117, .iconst 0, 1), (118, .iadd, 1), (119, .istore_n 3, 1), (120, .iinc 4 1, 3), (123, .goto (-50), 3), (126, .iload_n 3, 1), (127, .ireturn, 1)]
theorem am_op245_0 : ∀ q ∈ am_p245_0, am_ok 245 q.1 q.2.1 q.2.2 := am_okps (by decide +kernel)
def am_l245_0 : List (Nat × Instr × Nat) := [(2, .putfield 110000, 3), (9, .invokestatic 159, 3), (13, .invokevirtual 158, 3), (27, .getfield 110010, 3), (35, .getfield 110412, 3), (49, .getfield 110412, 3), (53, .invokevirtual 200, 3), (76, .getfield 110010, 3), (84, .getfield 110412, 3), (100, .getfield 110412, 3), (105, .invokevirtual 200, 3), (111, .invokestatic 161, 3)]
theorem am_ol245_0 : ∀ q ∈ am_l245_0, am_ok 245 q.1 q.2.1 q.2.2 := show ∀ q ∈ ([(2, .putfield 110000, 3), (9, .invokestatic 159, 3), (13, .invokevirtual 158, 3), (27, .getfield 110010, 3), (35, .getfield 110412, 3), (49, .getfield 110412, 3), (53, .invokevirtual 200, 3), (76, .getfield 110010, 3), (84, .getfield 110412, 3), (100, .getfield 110412, 3), (105, .invokevirtual 200, 3), (111, .invokestatic 161, 3)] : List (Nat × Instr × Nat)), am_ok 245 q.1 q.2.1 q.2.2 from
  am_fc (am_okpf 129 (by decide +kernel) (am_mem 1394 (by decide +kernel))) (
  am_fc (am_oks 329 (by decide +kernel) (by decide) (am_mem 1743 (by decide +kernel)) (Or.inl (am_mem 1742 (by decide +kernel)))) (
  am_fc (am_okv 282 (by decide +kernel) (by decide) (am_mem 1615 (by decide +kernel)) (am_mem 1617 (by decide +kernel)) (am_mem 43 (by decide +kernel))) (
  am_fc (am_okgf 289 (by decide +kernel) (am_mem 1395 (by decide +kernel))) (
  am_fc (am_okgf 66 (by decide +kernel) (am_mem 1435 (by decide +kernel))) (
  am_fc (am_okgf 66 (by decide +kernel) (am_mem 1435 (by decide +kernel))) (
  am_fc (am_okv 322 (by decide +kernel) (by decide) (am_mem 1753 (by decide +kernel)) (am_mem 1755 (by decide +kernel)) (am_mem 69 (by decide +kernel))) (
  am_fc (am_okgf 289 (by decide +kernel) (am_mem 1395 (by decide +kernel))) (
  am_fc (am_okgf 66 (by decide +kernel) (am_mem 1435 (by decide +kernel))) (
  am_fc (am_okgf 66 (by decide +kernel) (am_mem 1435 (by decide +kernel))) (
  am_fc (am_okv 322 (by decide +kernel) (by decide) (am_mem 1753 (by decide +kernel)) (am_mem 1755 (by decide +kernel)) (am_mem 69 (by decide +kernel))) (
  am_fc (am_oks 326 (by decide +kernel) (by decide) (am_mem 1761 (by decide +kernel)) (Or.inl (am_mem 1760 (by decide +kernel)))) (
  am_fn))))))))))))
def am_t245 : List (Nat × Instr × Nat) := am_p245_0 ++ (am_l245_0)
theorem am_ot245 : ∀ q ∈ am_t245, am_ok 245 q.1 q.2.1 q.2.2 := List.forall_mem_append.mpr ⟨am_op245_0, am_ol245_0⟩
def am_p246_0 : List (Nat × Instr × Nat) := [(0, .aload_n 0, 1), (4, .bipush 6, 2), (6, .iload_n 2, 1), (7, .imul, 1), (8, .iconst 3, 1), (9, .iadd, 1), (10, .iaload, 1), (11, .istore_n 3, 1), (12, .aload_n 0, 1), (16, .bipush 6, 2), (18, .iload_n 2, 1), (19, .imul, 1), (20, .iconst 4, 1), (21, .iadd, 1), (22, .iaload, 1), (23, .istore 4, 2), (25, .iload_n 3, 1), (26, .iconst (-1), 1), (27, .if_icmp .ne 5, 3), (30, .iconst 0, 1), (31, .ireturn, 1), (32, .iconst 1, 1), (33, .iload_n 3, 1), (34, .ishl, 1), (35, .iconst 1, 1), (36, .iload 4, 2), (38, .ishl, 1), (39, .ior, 1), (40, .istore 5, 2), (42, .aload_n 0, 1), (43, .aload_n 1, 1), (44, .iload_n 2, 1), (48, .istore 6, 2), (50, .iload 6, 2), (52, .iload 5, 2), (54, .iconst (-1), 1), (55, .ixor, 1), (56, .iand, 1), (57, .ifCond .ne 13, 3), (60, .iload 6, 2), (62, .iload 5, 2), (64, .iand, 1), (65, .iload 5, 2), (67, .if_icmp .ne 7, 3), (70, .iconst 1, 1), (71, .goto 4, 3), (74, .iconst 0, 1), (75, .ireturn, 1)]
theorem am_op246_0 : ∀ q ∈ am_p246_0, am_ok 246 q.1 q.2.1 q.2.2 := am_okps (by decide +kernel)
def am_l246_0 : List (Nat × Instr × Nat) := [(1, .getfield 110062, 3), (13, .getfield 110062, 3), (45, .invokevirtual 201, 3)]
theorem am_ol246_0 : ∀ q ∈ am_l246_0, am_ok 246 q.1 q.2.1 q.2.2 := show ∀ q ∈ ([(1, .getfield 110062, 3), (13, .getfield 110062, 3), (45, .invokevirtual 201, 3)] : List (Nat × Instr × Nat)), am_ok 246 q.1 q.2.1 q.2.2 from
  am_fc (am_okgf 13 (by decide +kernel) (am_mem 1400 (by decide +kernel))) (
  am_fc (am_okgf 13 (by decide +kernel) (am_mem 1400 (by decide +kernel))) (
  am_fc (am_okv 350 (by decide +kernel) (by decide) (am_mem 1783 (by decide +kernel)) (am_mem 1785 (by decide +kernel)) (am_mem 73 (by decide +kernel))) (
  am_fn)))
def am_t246 : List (Nat × Instr × Nat) := am_p246_0 ++ (am_l246_0)
theorem am_ot246 : ∀ q ∈ am_t246, am_ok 246 q.1 q.2.1 q.2.2 := List.forall_mem_append.mpr ⟨am_op246_0, am_ol246_0⟩
def am_p247_0 : List (Nat × Instr × Nat) := [(0, .iconst 0, 1), (1, .istore_n 3, 1), (2, .iconst 0, 1), (3, .istore 4, 2), (5, .iload 4, 2), (7, .aload_n 0, 1), (11, .if_icmp .ge 90, 3), (14, .aload_n 0, 1), (15, .aload_n 1, 1), (16, .iload 4, 2), (21, .ifCond .ne 6, 3), (24, .goto 71, 3), (27, .iload_n 3, 1), (28, .aload_n 0, 1), (32, .bipush 6, 2), (34, .iload 4, 2), (36, .imul, 1), (37, .iconst 3, 1), (38, .iadd, 1), (39, .iaload, 1), (40, .iload_n 2, 1), (41, .if_icmp .ne 18, 3), (44, .aload_n 0, 1), (48, .bipush 6, 2), (50, .iload 4, 2), (52, .imul, 1), (53, .iconst 5, 1), (54, .iadd, 1), (55, .iaload, 1), (56, .goto 37, 3), (59, .aload_n 0, 1), (63, .bipush 6, 2), (65, .iload 4, 2), (67, .imul, 1), (68, .iconst 4, 1), (69, .iadd, 1), (70, .iaload, 1), (71, .iload_n 2, 1), (72, .if_icmp .ne 20, 3), (75, .iconst 0, 1), (76, .aload_n 0, 1), (80, .bipush 6, 2), (82, .iload 4, 2), (84, .imul, 1), (85, .iconst 5, 1), (86, .iadd, 1), (87, .iaload, 1), (88, .isub, 1), (89, .goto 4, 3), (92, .iconst 0, 1), (93, .iadd, 1), (94, .istore_n 3, 1), (95, .iinc 4 1, 3), (98, .goto (-93), 3), (101, .iload_n 3, 1), (102, .ireturn, 1)]
theorem am_op247_0 : ∀ q ∈ am_p247_0, am_ok 247 q.1 q.2.1 q.2.2 := am_okps (by decide +kernel)
def am_l247_0 : List (Nat × Instr × Nat) := [(8, .getfield 110020, 3), (18, .invokevirtual 246, 3), (29, .getfield 110062, 3), (45, .getfield 110062, 3), (60, .getfield 110062, 3), (77, .getfield 110062, 3)]
theorem am_ol247_0 : ∀ q ∈ am_l247_0, am_ok 247 q.1 q.2.1 q.2.2 := show ∀ q ∈ ([(8, .getfield 110020, 3), (18, .invokevirtual 246, 3), (29, .getfield 110062, 3), (45, .getfield 110062, 3), (60, .getfield 110062, 3), (77, .getfield 110062, 3)] : List (Nat × Instr × Nat)), am_ok 247 q.1 q.2.1 q.2.2 from
  am_fc (am_okgf 292 (by decide +kernel) (am_mem 1396 (by decide +kernel))) (
  am_fc (am_okv 418 (by decide +kernel) (by decide) (am_mem 1946 (by decide +kernel)) (am_mem 1948 (by decide +kernel)) (am_mem 93 (by decide +kernel))) (
  am_fc (am_okgf 13 (by decide +kernel) (am_mem 1400 (by decide +kernel))) (
  am_fc (am_okgf 13 (by decide +kernel) (am_mem 1400 (by decide +kernel))) (
  am_fc (am_okgf 13 (by decide +kernel) (am_mem 1400 (by decide +kernel))) (
  am_fc (am_okgf 13 (by decide +kernel) (am_mem 1400 (by decide +kernel))) (
  am_fn))))))
def am_t247 : List (Nat × Instr × Nat) := am_p247_0 ++ (am_l247_0)
theorem am_ot247 : ∀ q ∈ am_t247, am_ok 247 q.1 q.2.1 q.2.2 := List.forall_mem_append.mpr ⟨am_op247_0, am_ol247_0⟩
def am_p248_0 : List (Nat × Instr × Nat) := [(0, .aload_n 0, 1), (1, .iconst 0, 1), (5, .aload_n 0, 1), (6, .iload_n 1, 1), (10, .ifCond .eq 19, 3), (13, .aload_n 0, 1), (14, .aload_n 0, 1), (18, .iload_n 1, 1), (22, .ifCond .eq 7, 3), (25, .iconst 1, 1), (26, .goto 4, 3), (29, .iconst 0, 1), (30, .ireturn, 1)]
theorem am_op248_0 : ∀ q ∈ am_p248_0, am_ok 248 q.1 q.2.1 q.2.2 := am_okps (by decide +kernel)
def am_l248_0 : List (Nat × Instr × Nat) := [(2, .putfield 110000, 3), (7, .invokevirtual 205, 3), (15, .getfield 110412, 3), (19, .invokevirtual 246, 3)]
theorem am_ol248_0 : ∀ q ∈ am_l248_0, am_ok 248 q.1 q.2.1 q.2.2 := show ∀ q ∈ ([(2, .putfield 110000, 3), (7, .invokevirtual 205, 3), (15, .getfield 110412, 3), (19, .invokevirtual 246, 3)] : List (Nat × Instr × Nat)), am_ok 248 q.1 q.2.1 q.2.2 from
  am_fc (am_okpf 129 (by decide +kernel) (am_mem 1394 (by decide +kernel))) (
  am_fc (am_okv 347 (by decide +kernel) (by decide) (am_mem 1779 (by decide +kernel)) (am_mem 1781 (by decide +kernel)) (am_mem 72 (by decide +kernel))) (
  am_fc (am_okgf 66 (by decide +kernel) (am_mem 1435 (by decide +kernel))) (
  am_fc (am_okv 418 (by decide +kernel) (by decide) (am_mem 1946 (by decide +kernel)) (am_mem 1948 (by decide +kernel)) (am_mem 93 (by decide +kernel))) (
  am_fn))))
def am_t248 : List (Nat × Instr × Nat) := am_p248_0 ++ (am_l248_0)
theorem am_ot248 : ∀ q ∈ am_t248, am_ok 248 q.1 q.2.1 q.2.2 := List.forall_mem_append.mpr ⟨am_op248_0, am_ol248_0⟩
def am_p249_0 : List (Nat × Instr × Nat) := [(0, .aload_n 0, 1), (1, .iconst 0, 1), (5, .aload_n 0, 1), (6, .iload_n 1, 1), (10, .ifCond .eq 15, 3), (13, .aload_n 0, 1), (14, .aload_n 0, 1), (18, .iload_n 1, 1), (22, .goto 4, 3), (25, .iconst 0, 1), (26, .ireturn, 1)]
theorem am_op249_0 : ∀ q ∈ am_p249_0, am_ok 249 q.1 q.2.1 q.2.2 := am_okps (by decide +kernel)
def am_l249_0 : List (Nat × Instr × Nat) := [(2, .putfield 110000, 3), (7, .invokevirtual 204, 3), (15, .getfield 110412, 3), (19, .invokevirtual 247, 3)]
theorem am_ol249_0 : ∀ q ∈ am_l249_0, am_ok 249 q.1 q.2.1 q.2.2 := show ∀ q ∈ ([(2, .putfield 110000, 3), (7, .invokevirtual 204, 3), (15, .getfield 110412, 3), (19, .invokevirtual 247, 3)] : List (Nat × Instr × Nat)), am_ok 249 q.1 q.2.1 q.2.2 from
  am_fc (am_okpf 129 (by decide +kernel) (am_mem 1394 (by decide +kernel))) (
  am_fc (am_okv 340 (by decide +kernel) (by decide) (am_mem 1767 (by decide +kernel)) (am_mem 1769 (by decide +kernel)) (am_mem 70 (by decide +kernel))) (
  am_fc (am_okgf 66 (by decide +kernel) (am_mem 1435 (by decide +kernel))) (
  am_fc (am_okv 422 (by decide +kernel) (by decide) (am_mem 1954 (by decide +kernel)) (am_mem 1956 (by decide +kernel)) (am_mem 94 (by decide +kernel))) (
  am_fn))))
def am_t249 : List (Nat × Instr × Nat) := am_p249_0 ++ (am_l249_0)
theorem am_ot249 : ∀ q ∈ am_t249, am_ok 249 q.1 q.2.1 q.2.2 := List.forall_mem_append.mpr ⟨am_op249_0, am_ol249_0⟩
def am_p250_0 : List (Nat × Instr × Nat) := [(0, .aload_n 0, 1), (1, .iconst 0, 1), (5, .aload_n 0, 1), (6, .iload_n 1, 1), (7, .iconst 0, 1), (8, .iconst 1, 1), (12, .ifCond .ne 5, 3), (15, .iconst 0, 1), (16, .ireturn, 1), (17, .aload_n 0, 1), (21, .iconst 0, 1), (22, .istore_n 2, 1), (23, .iload_n 2, 1), (24, .iload_n 1, 1), (25, .if_icmp .ge 18, 3), (28, .aload_n 0, 1), (29, .aload_n 0, 1), (36, .pop, 1), (37, .iinc 2 1, 3), (40, .goto (-17), 3), (43, .iconst (-1), 1), (44, .istore_n 2, 1), (45, .iconst 0, 1), (46, .istore_n 3, 1), (47, .iconst 0, 1), (48, .istore 4, 2), (50, .iload 4, 2), (52, .aload_n 0, 1), (56, .if_icmp .ge 52, 3), (59, .aload_n 0, 1), (60, .aload_n 0, 1), (64, .iload 4, 2), (69, .aload_n 0, 1), (70, .aload_n 0, 1), (74, .iload 4, 2), (79, .isub, 1), (80, .istore 5, 2), (82, .iload_n 2, 1), (83, .iconst (-1), 1), (84, .if_icmp .eq 12, 3), (87, .iload 5, 2), (89, .iload_n 3, 1), (90, .if_icmp .gt 6, 3), (93, .goto 9, 3), (96, .iload 4, 2), (98, .istore_n 2, 1), (99, .iload 5, 2), (101, .istore_n 3, 1), (102, .iinc 4 1, 3), (105, .goto (-55), 3), (108, .iload_n 2, 1), (109, .ireturn, 1)]
theorem am_op250_0 : ∀ q ∈ am_p250_0, am_ok 250 q.1 q.2.1 q.2.2 := am_okps (by decide +kernel)
def am_l250_0 : List (Nat × Instr × Nat) := [(2, .putfield 110000, 3), (9, .invokevirtual 223, 3), (18, .invokevirtual 224, 3), (30, .getfield 110422, 3), (33, .invokevirtual 216, 3), (53, .getfield 110010, 3), (61, .getfield 110412, 3), (66, .invokevirtual 247, 3), (71, .getfield 110422, 3), (76, .invokevirtual 247, 3)]
theorem am_ol250_0 : ∀ q ∈ am_l250_0, am_ok 250 q.1 q.2.1 q.2.2 := show ∀ q ∈ ([(2, .putfield 110000, 3), (9, .invokevirtual 223, 3), (18, .invokevirtual 224, 3), (30, .getfield 110422, 3), (33, .invokevirtual 216, 3), (53, .getfield 110010, 3), (61, .getfield 110412, 3), (66, .invokevirtual 247, 3), (71, .getfield 110422, 3), (76, .invokevirtual 247, 3)] : List (Nat × Instr × Nat)), am_ok 250 q.1 q.2.1 q.2.2 from
  am_fc (am_okpf 129 (by decide +kernel) (am_mem 1394 (by decide +kernel))) (
  am_fc (am_okv 388 (by decide +kernel) (by decide) (am_mem 1850 (by decide +kernel)) (am_mem 1852 (by decide +kernel)) (am_mem 83 (by decide +kernel))) (
  am_fc (am_okv 391 (by decide +kernel) (by decide) (am_mem 1854 (by decide +kernel)) (am_mem 1856 (by decide +kernel)) (am_mem 84 (by decide +kernel))) (
  am_fc (am_okgf 69 (by decide +kernel) (am_mem 1436 (by decide +kernel))) (
  am_fc (am_okv 385 (by decide +kernel) (by decide) (am_mem 1819 (by decide +kernel)) (am_mem 1821 (by decide +kernel)) (am_mem 77 (by decide +kernel))) (
  am_fc (am_okgf 289 (by decide +kernel) (am_mem 1395 (by decide +kernel))) (
  am_fc (am_okgf 66 (by decide +kernel) (am_mem 1435 (by decide +kernel))) (
  am_fc (am_okv 422 (by decide +kernel) (by decide) (am_mem 1954 (by decide +kernel)) (am_mem 1956 (by decide +kernel)) (am_mem 94 (by decide +kernel))) (
  am_fc (am_okgf 69 (by decide +kernel) (am_mem 1436 (by decide +kernel))) (
  am_fc (am_okv 422 (by decide +kernel) (by decide) (am_mem 1954 (by decide +kernel)) (am_mem 1956 (by decide +kernel)) (am_mem 94 (by decide +kernel))) (
  am_fn))))))))))
def am_t250 : List (Nat × Instr × Nat) := am_p250_0 ++ (am_l250_0)
theorem am_ot250 : ∀ q ∈ am_t250, am_ok 250 q.1 q.2.1 q.2.2 := List.forall_mem_append.mpr ⟨am_op250_0, am_ol250_0⟩
def am_p251_0 : List (Nat × Instr × Nat) := [(0, .aload_n 0, 1), (1, .iconst 0, 1), (5, .aload_n 0, 1), (6, .iload_n 1, 1), (10, .ifCond .eq 11, 3), (13, .aload_n 0, 1), (14, .iload_n 2, 1), (18, .ifCond .ne 5, 3), (21, .iconst 0, 1), (22, .ireturn, 1), (23, .aload_n 0, 1), (27, .bipush 8, 2), (29, .if_icmp .ne 9, 3), (32, .aload_n 0, 1), (33, .iconst 2, 1), (37, .ireturn, 1), (38, .aload_n 0, 1), (42, .iconst 3, 1), (43, .aload_n 0, 1), (47, .imul, 1), (48, .iload_n 1, 1), (49, .iastore, 1), (50, .aload_n 0, 1), (54, .iconst 3, 1), (55, .aload_n 0, 1), (59, .imul, 1), (60, .iconst 1, 1), (61, .iadd, 1), (62, .iload_n 2, 1), (63, .iastore, 1), (64, .aload_n 0, 1), (68, .iconst 3, 1), (69, .aload_n 0, 1), (73, .imul, 1), (74, .iconst 2, 1), (75, .iadd, 1), (76, .iload_n 3, 1), (77, .ifCond .eq 7, 3), (80, .iconst 1, 1), (81, .goto 4, 3), (84, .iconst 0, 1), (85, .iastore, 1), (86, .aload_n 0, 1), (87, .dup, 1), (91, .iconst 1, 1), (92, .iadd, 1), (96, .aload_n 0, 1), (100, .ireturn, 1)]
theorem am_op251_0 : ∀ q ∈ am_p251_0, am_ok 251 q.1 q.2.1 q.2.2 := am_okps (by decide +kernel)
def am_l251_0 : List (Nat × Instr × Nat) := [(2, .putfield 110000, 3), (7, .invokevirtual 204, 3), (15, .invokevirtual 205, 3), (24, .getfield 110590, 3), (34, .invokevirtual 196, 3), (39, .getfield 110602, 3), (44, .getfield 110590, 3), (51, .getfield 110602, 3), (56, .getfield 110590, 3), (65, .getfield 110602, 3), (70, .getfield 110590, 3), (88, .getfield 110590, 3), (93, .putfield 110590, 3), (97, .getfield 110590, 3)]
theorem am_ol251_0 : ∀ q ∈ am_l251_0, am_ok 251 q.1 q.2.1 q.2.2 := show ∀ q ∈ ([(2, .putfield 110000, 3), (7, .invokevirtual 204, 3), (15, .invokevirtual 205, 3), (24, .getfield 110590, 3), (34, .invokevirtual 196, 3), (39, .getfield 110602, 3), (44, .getfield 110590, 3), (51, .getfield 110602, 3), (56, .getfield 110590, 3), (65, .getfield 110602, 3), (70, .getfield 110590, 3), (88, .getfield 110590, 3), (93, .putfield 110590, 3), (97, .getfield 110590, 3)] : List (Nat × Instr × Nat)), am_ok 251 q.1 q.2.1 q.2.2 from
  am_fc (am_okpf 129 (by decide +kernel) (am_mem 1394 (by decide +kernel))) (
  am_fc (am_okv 340 (by decide +kernel) (by decide) (am_mem 1767 (by decide +kernel)) (am_mem 1769 (by decide +kernel)) (am_mem 70 (by decide +kernel))) (
  am_fc (am_okv 347 (by decide +kernel) (by decide) (am_mem 1779 (by decide +kernel)) (am_mem 1781 (by decide +kernel)) (am_mem 72 (by decide +kernel))) (
  am_fc (am_okgf 305 (by decide +kernel) (am_mem 1453 (by decide +kernel))) (
  am_fc (am_okv 375 (by decide +kernel) (by decide) (am_mem 1795 (by decide +kernel)) (am_mem 1797 (by decide +kernel)) (am_mem 74 (by decide +kernel))) (
  am_fc (am_okgf 114 (by decide +kernel) (am_mem 1454 (by decide +kernel))) (
  am_fc (am_okgf 305 (by decide +kernel) (am_mem 1453 (by decide +kernel))) (
  am_fc (am_okgf 114 (by decide +kernel) (am_mem 1454 (by decide +kernel))) (
  am_fc (am_okgf 305 (by decide +kernel) (am_mem 1453 (by decide +kernel))) (
  am_fc (am_okgf 114 (by decide +kernel) (am_mem 1454 (by decide +kernel))) (
  am_fc (am_okgf 305 (by decide +kernel) (am_mem 1453 (by decide +kernel))) (
  am_fc (am_okgf 305 (by decide +kernel) (am_mem 1453 (by decide +kernel))) (
  am_fc (am_okpf 305 (by decide +kernel) (am_mem 1453 (by decide +kernel))) (
  am_fc (am_okgf 305 (by decide +kernel) (am_mem 1453 (by decide +kernel))) (
  am_fn))))))))))))))
def am_t251 : List (Nat × Instr × Nat) := am_p251_0 ++ (am_l251_0)
theorem am_ot251 : ∀ q ∈ am_t251, am_ok 251 q.1 q.2.1 q.2.2 := List.forall_mem_append.mpr ⟨am_op251_0, am_ol251_0⟩
def am_p252_0 : List (Nat × Instr × Nat) := [(0, .aload_n 0, 1), (1, .iconst 0, 1), (5, .aload_n 0, 1), (6, .iconst 0, 1), (10, .return_, 1)]
theorem am_op252_0 : ∀ q ∈ am_p252_0, am_ok 252 q.1 q.2.1 q.2.2 := am_okps (by decide +kernel)
def am_l252_0 : List (Nat × Instr × Nat) := [(2, .putfield 110000, 3), (7, .putfield 110590, 3)]
theorem am_ol252_0 : ∀ q ∈ am_l252_0, am_ok 252 q.1 q.2.1 q.2.2 := show ∀ q ∈ ([(2, .putfield 110000, 3), (7, .putfield 110590, 3)] : List (Nat × Instr × Nat)), am_ok 252 q.1 q.2.1 q.2.2 from
  am_fc (am_okpf 129 (by decide +kernel) (am_mem 1394 (by decide +kernel))) (
  am_fc (am_okpf 305 (by decide +kernel) (am_mem 1453 (by decide +kernel))) (
  am_fn))
def am_t252 : List (Nat × Instr × Nat) := am_p252_0 ++ (am_l252_0)
theorem am_ot252 : ∀ q ∈ am_t252, am_ok 252 q.1 q.2.1 q.2.2 := List.forall_mem_append.mpr ⟨am_op252_0, am_ol252_0⟩
def am_p253_0 : List (Nat × Instr × Nat) := [(0, .aload_n 0, 1), (1, .iload_n 1, 1), (2, .iload_n 2, 1), (3, .iconst 1, 1), (7, .istore_n 3, 1), (8, .iconst 0, 1), (9, .istore 4, 2), (11, .iload 4, 2), (13, .aload_n 0, 1), (17, .if_icmp .ge 53, 3), (20, .aload_n 0, 1), (24, .iconst 3, 1), (25, .iload 4, 2), (27, .imul, 1), (28, .iaload, 1), (29, .iload_n 1, 1), (30, .if_icmp .ne 34, 3), (33, .iload_n 3, 1), (34, .aload_n 0, 1), (38, .iconst 3, 1), (39, .iload 4, 2), (41, .imul, 1), (42, .iconst 1, 1), (43, .iadd, 1), (44, .iaload, 1), (45, .ishr, 1), (46, .iconst 1, 1), (47, .iand, 1), (48, .aload_n 0, 1), (52, .iconst 3, 1), (53, .iload 4, 2), (55, .imul, 1), (56, .iconst 2, 1), (57, .iadd, 1), (58, .iaload, 1), (59, .if_icmp .eq 5, 3), (62, .iconst 0, 1), (63, .ireturn, 1), (64, .iinc 4 1, 3), (67, .goto (-56), 3), (70, .iconst 1, 1), (71, .ireturn, 1)]
theorem am_op253_0 : ∀ q ∈ am_p253_0, am_ok 253 q.1 q.2.1 q.2.2 := am_okps (by decide +kernel)
def am_l253_0 : List (Nat × Instr × Nat) := [(4, .invokevirtual 233, 3), (14, .getfield 110590, 3), (21, .getfield 110602, 3), (35, .getfield 110602, 3), (49, .getfield 110602, 3)]
theorem am_ol253_0 : ∀ q ∈ am_l253_0, am_ok 253 q.1 q.2.1 q.2.2 := show ∀ q ∈ ([(4, .invokevirtual 233, 3), (14, .getfield 110590, 3), (21, .getfield 110602, 3), (35, .getfield 110602, 3), (49, .getfield 110602, 3)] : List (Nat × Instr × Nat)), am_ok 253 q.1 q.2.1 q.2.2 from
  am_fc (am_okv 406 (by decide +kernel) (by decide) (am_mem 1890 (by decide +kernel)) (am_mem 1892 (by decide +kernel)) (am_mem 88 (by decide +kernel))) (
  am_fc (am_okgf 305 (by decide +kernel) (am_mem 1453 (by decide +kernel))) (
  am_fc (am_okgf 114 (by decide +kernel) (am_mem 1454 (by decide +kernel))) (
  am_fc (am_okgf 114 (by decide +kernel) (am_mem 1454 (by decide +kernel))) (
  am_fc (am_okgf 114 (by decide +kernel) (am_mem 1454 (by decide +kernel))) (
  am_fn)))))
def am_t253 : List (Nat × Instr × Nat) := am_p253_0 ++ (am_l253_0)
theorem am_ot253 : ∀ q ∈ am_t253, am_ok 253 q.1 q.2.1 q.2.2 := List.forall_mem_append.mpr ⟨am_op253_0, am_ol253_0⟩
def am_p254_0 : List (Nat × Instr × Nat) := [(0, .iconst 0, 1), (1, .istore_n 3, 1), (2, .iconst (-1), 1), (3, .istore 4, 2), (5, .bipush 20, 2), (7, .istore 5, 2), (9, .iload 5, 2), (11, .ifCond .lt 29, 3), (14, .aload_n 0, 1), (15, .iload_n 1, 1), (16, .iload 5, 2), (21, .ifCond .ne 6, 3), (24, .goto 10, 3), (27, .iinc 3 1, 3), (30, .iload 5, 2), (32, .istore 4, 2), (34, .iinc 5 (-1), 3), (37, .goto (-28), 3), (40, .iload_n 2, 1), (41, .ifCond .ne 7, 3), (44, .iload_n 3, 1), (45, .goto 5, 3), (48, .iload 4, 2), (50, .ireturn, 1)]
theorem am_op254_0 : ∀ q ∈ am_p254_0, am_ok 254 q.1 q.2.1 q.2.2 := am_okps (by decide +kernel)
def am_l254_0 : List (Nat × Instr × Nat) := [(18, .invokevirtual 253, 3)]
theorem am_ol254_0 : ∀ q ∈ am_l254_0, am_ok 254 q.1 q.2.1 q.2.2 := show ∀ q ∈ ([(18, .invokevirtual 253, 3)] : List (Nat × Instr × Nat)), am_ok 254 q.1 q.2.1 q.2.2 from
  am_fc (am_okv 425 (by decide +kernel) (by decide) (am_mem 1978 (by decide +kernel)) (am_mem 1980 (by decide +kernel)) (am_mem 96 (by decide +kernel))) (
  am_fn)
def am_t254 : List (Nat × Instr × Nat) := am_p254_0 ++ (am_l254_0)
theorem am_ot254 : ∀ q ∈ am_t254, am_ok 254 q.1 q.2.1 q.2.2 := List.forall_mem_append.mpr ⟨am_op254_0, am_ol254_0⟩
def am_p255_0 : List (Nat × Instr × Nat) := [(0, .aload_n 0, 1), (1, .iconst 0, 1), (5, .aload_n 0, 1), (6, .iload_n 1, 1), (10, .ifCond .eq 21, 3), (13, .aload_n 0, 1), (14, .iload_n 2, 1), (15, .iconst 1, 1), (19, .ifCond .eq 12, 3), (22, .aload_n 0, 1), (23, .iload_n 1, 1), (24, .iload_n 2, 1), (28, .goto 4, 3), (31, .iconst 0, 1), (32, .ireturn, 1)]
theorem am_op255_0 : ∀ q ∈ am_p255_0, am_ok 255 q.1 q.2.1 q.2.2 := am_okps (by decide +kernel)
def am_l255_0 : List (Nat × Instr × Nat) := [(2, .putfield 110000, 3), (7, .invokevirtual 204, 3), (16, .invokevirtual 206, 3), (25, .invokevirtual 254, 3)]
theorem am_ol255_0 : ∀ q ∈ am_l255_0, am_ok 255 q.1 q.2.1 q.2.2 := show ∀ q ∈ ([(2, .putfield 110000, 3), (7, .invokevirtual 204, 3), (16, .invokevirtual 206, 3), (25, .invokevirtual 254, 3)] : List (Nat × Instr × Nat)), am_ok 255 q.1 q.2.1 q.2.2 from
  am_fc (am_okpf 129 (by decide +kernel) (am_mem 1394 (by decide +kernel))) (
  am_fc (am_okv 340 (by decide +kernel) (by decide) (am_mem 1767 (by decide +kernel)) (am_mem 1769 (by decide +kernel)) (am_mem 70 (by decide +kernel))) (
  am_fc (am_okv 343 (by decide +kernel) (by decide) (am_mem 1771 (by decide +kernel)) (am_mem 1773 (by decide +kernel)) (am_mem 71 (by decide +kernel))) (
  am_fc (am_okv 428 (by decide +kernel) (by decide) (am_mem 1974 (by decide +kernel)) (am_mem 1976 (by decide +kernel)) (am_mem 95 (by decide +kernel))) (
  am_fn))))
def am_t255 : List (Nat × Instr × Nat) := am_p255_0 ++ (am_l255_0)
theorem am_ot255 : ∀ q ∈ am_t255, am_ok 255 q.1 q.2.1 q.2.2 := List.forall_mem_append.mpr ⟨am_op255_0, am_ol255_0⟩
def am_p256_0 : List (Nat × Instr × Nat) := [(0, .aload_n 0, 1), (1, .iconst 0, 1), (5, .iconst 0, 1), (6, .istore_n 1, 1), (7, .iconst 0, 1), (8, .istore_n 2, 1), (9, .iload_n 2, 1), (10, .aload_n 0, 1), (14, .if_icmp .ge 28, 3), (17, .iload_n 1, 1), (18, .aload_n 0, 1), (19, .iload_n 2, 1), (20, .iconst 0, 1), (24, .ifCond .ne 9, 3), (27, .iconst 1, 1), (28, .iload_n 2, 1), (29, .ishl, 1), (30, .goto 4, 3), (33, .iconst 0, 1), (34, .ior, 1), (35, .istore_n 1, 1), (36, .iinc 2 1, 3), (39, .goto (-30), 3), (42, .iload_n 1, 1), (43, .ireturn, 1)]
theorem am_op256_0 : ∀ q ∈ am_p256_0, am_ok 256 q.1 q.2.1 q.2.2 := am_okps (by decide +kernel)
def am_l256_0 : List (Nat × Instr × Nat) := [(2, .putfield 110000, 3), (11, .getfield 110010, 3), (21, .invokevirtual 254, 3)]
theorem am_ol256_0 : ∀ q ∈ am_l256_0, am_ok 256 q.1 q.2.1 q.2.2 := show ∀ q ∈ ([(2, .putfield 110000, 3), (11, .getfield 110010, 3), (21, .invokevirtual 254, 3)] : List (Nat × Instr × Nat)), am_ok 256 q.1 q.2.1 q.2.2 from
  am_fc (am_okpf 129 (by decide +kernel) (am_mem 1394 (by decide +kernel))) (
  am_fc (am_okgf 289 (by decide +kernel) (am_mem 1395 (by decide +kernel))) (
  am_fc (am_okv 428 (by decide +kernel) (by decide) (am_mem 1974 (by decide +kernel)) (am_mem 1976 (by decide +kernel)) (am_mem 95 (by decide +kernel))) (
  am_fn)))
def am_t256 : List (Nat × Instr × Nat) := am_p256_0 ++ (am_l256_0)
theorem am_ot256 : ∀ q ∈ am_t256, am_ok 256 q.1 q.2.1 q.2.2 := List.forall_mem_append.mpr ⟨am_op256_0, am_ol256_0⟩
def am_p257_0 : List (Nat × Instr × Nat) := [(0, .aload_n 0, 1), (4, .iconst 1, 1), (5, .iload_n 1, 1), (6, .iadd, 1), (7, .iaload, 1), (8, .iload_n 2, 1), (9, .idiv, 1), (10, .istore_n 3, 1), (11, .iload_n 3, 1), (12, .bipush 10, 2), (14, .if_icmp .ge 7, 3), (17, .iload_n 3, 1), (18, .goto 5, 3), (21, .bipush 10, 2), (23, .ireturn, 1)]
theorem am_op257_0 : ∀ q ∈ am_p257_0, am_ok 257 q.1 q.2.1 q.2.2 := am_okps (by decide +kernel)
def am_l257_0 : List (Nat × Instr × Nat) := [(1, .getfield 110412, 3)]
theorem am_ol257_0 : ∀ q ∈ am_l257_0, am_ok 257 q.1 q.2.1 q.2.2 := show ∀ q ∈ ([(1, .getfield 110412, 3)] : List (Nat × Instr × Nat)), am_ok 257 q.1 q.2.1 q.2.2 from
  am_fc (am_okgf 66 (by decide +kernel) (am_mem 1435 (by decide +kernel))) (
  am_fn)
def am_t257 : List (Nat × Instr × Nat) := am_p257_0 ++ (am_l257_0)
theorem am_ot257 : ∀ q ∈ am_t257, am_ok 257 q.1 q.2.1 q.2.2 := List.forall_mem_append.mpr ⟨am_op257_0, am_ol257_0⟩
def am_p258_0 : List (Nat × Instr × Nat) := [(0, .iconst 0, 1), (1, .istore_n 2, 1), (2, .iconst 0, 1), (3, .istore_n 3, 1), (4, .iload_n 3, 1), (5, .aload_n 0, 1), (9, .if_icmp .ge 18, 3), (12, .iload_n 2, 1), (13, .aload_n 0, 1), (14, .iload_n 3, 1), (15, .iload_n 1, 1), (19, .iadd, 1), (20, .istore_n 2, 1), (21, .iinc 3 1, 3), (24, .goto (-20), 3), (27, .iload_n 2, 1), (28, .ireturn, 1)]
theorem am_op258_0 : ∀ q ∈ am_p258_0, am_ok 258 q.1 q.2.1 q.2.2 := am_okps (by decide +kernel)
def am_l258_0 : List (Nat × Instr × Nat) := [(6, .getfield 110010, 3), (16, .invokevirtual 257, 3)]
theorem am_ol258_0 : ∀ q ∈ am_l258_0, am_ok 258 q.1 q.2.1 q.2.2 := show ∀ q ∈ ([(6, .getfield 110010, 3), (16, .invokevirtual 257, 3)] : List (Nat × Instr × Nat)), am_ok 258 q.1 q.2.1 q.2.2 from
  am_fc (am_okgf 289 (by decide +kernel) (am_mem 1395 (by decide +kernel))) (
  am_fc (am_okv 431 (by decide +kernel) (by decide) (am_mem 1998 (by decide +kernel)) (am_mem 2000 (by decide +kernel)) (am_mem 99 (by decide +kernel))) (
  am_fn))
def am_t258 : List (Nat × Instr × Nat) := am_p258_0 ++ (am_l258_0)
theorem am_ot258 : ∀ q ∈ am_t258, am_ok 258 q.1 q.2.1 q.2.2 := List.forall_mem_append.mpr ⟨am_op258_0, am_ol258_0⟩
def am_p259_0 : List (Nat × Instr × Nat) := [(0, .iload_n 3, 1), (1, .ifCond .eq 7, 3), (4, .iload_n 1, 1), (5, .goto 4, 3), (8, .iload_n 2, 1), (9, .istore 4, 2), (11, .iload_n 1, 1), (12, .iload_n 2, 1), (13, .if_icmp .gt 7, 3), (16, .iconst 1, 1), (17, .goto 4, 3), (20, .iconst 0, 1), (21, .iload_n 3, 1), (22, .if_icmp .ne 17, 3), (25, .aload_n 0, 1), (26, .iload 4, 2), (31, .iload 4, 2), (33, .iconst 2, 1), (34, .isub, 1), (35, .imul, 1), (36, .goto 4, 3), (39, .iconst 0, 1), (40, .ireturn, 1)]
theorem am_op259_0 : ∀ q ∈ am_p259_0, am_ok 259 q.1 q.2.1 q.2.2 := am_okps (by decide +kernel)
def am_l259_0 : List (Nat × Instr × Nat) := [(28, .invokevirtual 258, 3)]
theorem am_ol259_0 : ∀ q ∈ am_l259_0, am_ok 259 q.1 q.2.1 q.2.2 := show ∀ q ∈ ([(28, .invokevirtual 258, 3)] : List (Nat × Instr × Nat)), am_ok 259 q.1 q.2.1 q.2.2 from
  am_fc (am_okv 434 (by decide +kernel) (by decide) (am_mem 1994 (by decide +kernel)) (am_mem 1996 (by decide +kernel)) (am_mem 98 (by decide +kernel))) (
  am_fn)
def am_t259 : List (Nat × Instr × Nat) := am_p259_0 ++ (am_l259_0)
theorem am_ot259 : ∀ q ∈ am_t259, am_ok 259 q.1 q.2.1 q.2.2 := List.forall_mem_append.mpr ⟨am_op259_0, am_ol259_0⟩
def am_p260_0 : List (Nat × Instr × Nat) := [(0, .aload_n 0, 1), (1, .iconst 0, 1), (5, .aload_n 0, 1), (6, .iload_n 1, 1), (7, .iconst 1, 1), (11, .ifCond .ne 5, 3), (14, .iconst 0, 1), (15, .ireturn, 1), (16, .iconst 0, 1), (17, .istore_n 2, 1), (18, .iconst (-1), 1), (19, .istore_n 3, 1), (20, .iconst 1, 1), (21, .istore 4, 2), (23, .iload 4, 2), (25, .bipush 9, 2), (27, .if_icmp .gt 123, 3), (30, .iconst 1, 1), (31, .istore 5, 2), (33, .iload 5, 2), (35, .bipush 9, 2), (37, .if_icmp .gt 107, 3), (40, .iconst 1, 1), (41, .istore 6, 2), (43, .iconst 1, 1), (44, .istore 7, 2), (46, .iload 7, 2), (48, .bipush 9, 2), (50, .if_icmp .gt 63, 3), (53, .iload 6, 2), (55, .ifCond .eq 49, 3), (58, .aload_n 0, 1), (59, .iload 7, 2), (61, .iload 5, 2), (63, .iconst 1, 1), (67, .aload_n 0, 1), (68, .iload 4, 2), (70, .iload 5, 2), (72, .iconst 1, 1), (76, .if_icmp .gt 28, 3), (79, .aload_n 0, 1), (80, .iload 4, 2), (82, .iload 7, 2), (84, .iconst 0, 1), (88, .aload_n 0, 1), (89, .iload 4, 2), (91, .iload 5, 2), (93, .iconst 0, 1), (97, .if_icmp .gt 7, 3), (100, .iconst 1, 1), (101, .goto 4, 3), (104, .iconst 0, 1), (105, .istore 6, 2), (107, .iinc 7 1, 3), (110, .goto (-64), 3), (113, .iload 6, 2), (115, .ifCond .ne 6, 3), (118, .goto 20, 3), (121, .iinc 2 1, 3), (124, .iload_n 3, 1), (125, .iconst (-1), 1), (126, .if_icmp .ne 12, 3), (129, .bipush 10, 2), (131, .iload 4, 2), (133, .imul, 1), (134, .iload 5, 2), (136, .iadd, 1), (137, .istore_n 3, 1), (138, .iinc 5 1, 3), (141, .goto (-108), 3), (144, .iinc 4 1, 3), (147, .goto (-124), 3), (150, .iload_n 1, 1), (151, .ifCond .ne 7, 3), (154, .iload_n 2, 1), (155, .goto 4, 3), (158, .iload_n 3, 1), (159, .ireturn, 1)]
theorem am_op260_0 : ∀ q ∈ am_p260_0, am_ok 260 q.1 q.2.1 q.2.2 := am_okps (by decide +kernel)
def am_l260_0 : List (Nat × Instr × Nat) := [(2, .putfield 110000, 3), (8, .invokevirtual 206, 3), (64, .invokevirtual 259, 3), (73, .invokevirtual 259, 3), (85, .invokevirtual 259, 3), (94, .invokevirtual 259, 3)]
theorem am_ol260_0 : ∀ q ∈ am_l260_0, am_ok 260 q.1 q.2.1 q.2.2 := show ∀ q ∈ ([(2, .putfield 110000, 3), (8, .invokevirtual 206, 3), (64, .invokevirtual 259, 3), (73, .invokevirtual 259, 3), (85, .invokevirtual 259, 3), (94, .invokevirtual 259, 3)] : List (Nat × Instr × Nat)), am_ok 260 q.1 q.2.1 q.2.2 from
  am_fc (am_okpf 129 (by decide +kernel) (am_mem 1394 (by decide +kernel))) (
  am_fc (am_okv 343 (by decide +kernel) (by decide) (am_mem 1771 (by decide +kernel)) (am_mem 1773 (by decide +kernel)) (am_mem 71 (by decide +kernel))) (
  am_fc (am_okv 437 (by decide +kernel) (by decide) (am_mem 1990 (by decide +kernel)) (am_mem 1992 (by decide +kernel)) (am_mem 97 (by decide +kernel))) (
  am_fc (am_okv 437 (by decide +kernel) (by decide) (am_mem 1990 (by decide +kernel)) (am_mem 1992 (by decide +kernel)) (am_mem 97 (by decide +kernel))) (
  am_fc (am_okv 437 (by decide +kernel) (by decide) (am_mem 1990 (by decide +kernel)) (am_mem 1992 (by decide +kernel)) (am_mem 97 (by decide +kernel))) (
  am_fc (am_okv 437 (by decide +kernel) (by decide) (am_mem 1990 (by decide +kernel)) (am_mem 1992 (by decide +kernel)) (am_mem 97 (by decide +kernel))) (
  am_fn))))))
def am_t260 : List (Nat × Instr × Nat) := am_p260_0 ++ (am_l260_0)
theorem am_ot260 : ∀ q ∈ am_t260, am_ok 260 q.1 q.2.1 q.2.2 := List.forall_mem_append.mpr ⟨am_op260_0, am_ol260_0⟩
def am_p261_0 : List (Nat × Instr × Nat) := [(0, .aload_n 0, 1), (1, .iconst 0, 1), (5, .aload_n 0, 1), (6, .iload_n 1, 1), (7, .iconst 0, 1), (8, .bipush 60, 2), (13, .iconst 1, 1), (17, .ifCond .ne 5, 3), (20, .iconst 0, 1), (21, .ireturn, 1), (22, .iconst 1, 1), (23, .istore_n 2, 1), (24, .iload_n 2, 1), (25, .bipush 99, 2), (27, .if_icmp .gt 20, 3), (30, .aload_n 0, 1), (31, .iload_n 2, 1), (35, .iload_n 1, 1), (36, .if_icmp .gt 5, 3), (39, .iload_n 2, 1), (40, .ireturn, 1), (41, .iinc 2 1, 3), (44, .goto (-20), 3), (47, .iconst (-1), 1), (48, .ireturn, 1)]
theorem am_op261_0 : ∀ q ∈ am_p261_0, am_ok 261 q.1 q.2.1 q.2.2 := am_okps (by decide +kernel)
def am_l261_0 : List (Nat × Instr × Nat) := [(2, .putfield 110000, 3), (10, .invokestatic 159, 3), (14, .invokevirtual 158, 3), (32, .invokevirtual 258, 3)]
theorem am_ol261_0 : ∀ q ∈ am_l261_0, am_ok 261 q.1 q.2.1 q.2.2 := show ∀ q ∈ ([(2, .putfield 110000, 3), (10, .invokestatic 159, 3), (14, .invokevirtual 158, 3), (32, .invokevirtual 258, 3)] : List (Nat × Instr × Nat)), am_ok 261 q.1 q.2.1 q.2.2 from
  am_fc (am_okpf 129 (by decide +kernel) (am_mem 1394 (by decide +kernel))) (
  am_fc (am_oks 329 (by decide +kernel) (by decide) (am_mem 1743 (by decide +kernel)) (Or.inl (am_mem 1742 (by decide +kernel)))) (
  am_fc (am_okv 282 (by decide +kernel) (by decide) (am_mem 1615 (by decide +kernel)) (am_mem 1617 (by decide +kernel)) (am_mem 43 (by decide +kernel))) (
  am_fc (am_okv 434 (by decide +kernel) (by decide) (am_mem 1994 (by decide +kernel)) (am_mem 1996 (by decide +kernel)) (am_mem 98 (by decide +kernel))) (
  am_fn))))
def am_t261 : List (Nat × Instr × Nat) := am_p261_0 ++ (am_l261_0)
theorem am_ot261 : ∀ q ∈ am_t261, am_ok 261 q.1 q.2.1 q.2.2 := List.forall_mem_append.mpr ⟨am_op261_0, am_ol261_0⟩
def am_p262_0 : List (Nat × Instr × Nat) := [(0, .aload_n 0, 1), (1, .aload_n 0, 1), (8, .imul, 1), (9, .sipush 12345, 3), (12, .iadd, 1), (16, .aload_n 0, 1), (20, .bipush 16, 2), (22, .ishr, 1), (23, .sipush 32767, 3), (26, .iand, 1), (27, .iload_n 1, 1), (28, .irem, 1), (29, .ireturn, 1)]
theorem am_op262_0 : ∀ q ∈ am_p262_0, am_ok 262 q.1 q.2.1 q.2.2 := am_okps (by decide +kernel)
def am_l262_0 : List (Nat × Instr × Nat) := [(2, .getfield 110610, 3), (5, .ldc_w 1103515245, 3), (13, .putfield 110610, 3), (17, .getfield 110610, 3)]
theorem am_ol262_0 : ∀ q ∈ am_l262_0, am_ok 262 q.1 q.2.1 q.2.2 := show ∀ q ∈ ([(2, .getfield 110610, 3), (5, .ldc_w 1103515245, 3), (13, .putfield 110610, 3), (17, .getfield 110610, 3)] : List (Nat × Instr × Nat)), am_ok 262 q.1 q.2.1 q.2.2 from
  am_fc (am_okgf 441 (by decide +kernel) (am_mem 1455 (by decide +kernel))) (
  am_fc (am_oklw 444 (by decide +kernel) (am_mem 2014 (by decide +kernel))) (
  am_fc (am_okpf 441 (by decide +kernel) (am_mem 1455 (by decide +kernel))) (
  am_fc (am_okgf 441 (by decide +kernel) (am_mem 1455 (by decide +kernel))) (
  am_fn))))
def am_t262 : List (Nat × Instr × Nat) := am_p262_0 ++ (am_l262_0)
theorem am_ot262 : ∀ q ∈ am_t262, am_ok 262 q.1 q.2.1 q.2.2 := List.forall_mem_append.mpr ⟨am_op262_0, am_ol262_0⟩
def am_p263_0 : List (Nat × Instr × Nat) := [(0, .iconst 0, 1), (1, .istore 4, 2), (3, .iload 4, 2), (5, .aload_n 0, 1), (9, .if_icmp .ge 37, 3), (12, .aload_n 1, 1), (13, .iload_n 2, 1), (14, .iload 4, 2), (19, .ifCond .eq 21, 3), (22, .aload_n 1, 1), (23, .iload_n 3, 1), (24, .iload 4, 2), (29, .ifCond .ne 11, 3), (32, .aload_n 0, 1), (33, .aload_n 1, 1), (34, .iload 4, 2), (36, .iload_n 3, 1), (40, .iinc 4 1, 3), (43, .goto (-40), 3), (46, .return_, 1)]
theorem am_op263_0 : ∀ q ∈ am_p263_0, am_ok 263 q.1 q.2.1 q.2.2 := am_okps (by decide +kernel)
def am_l263_0 : List (Nat × Instr × Nat) := [(6, .getfield 110020, 3), (16, .invokestatic 199, 3), (26, .invokestatic 199, 3), (37, .invokevirtual 218, 3)]
theorem am_ol263_0 : ∀ q ∈ am_l263_0, am_ok 263 q.1 q.2.1 q.2.2 := show ∀ q ∈ ([(6, .getfield 110020, 3), (16, .invokestatic 199, 3), (26, .invokestatic 199, 3), (37, .invokevirtual 218, 3)] : List (Nat × Instr × Nat)), am_ok 263 q.1 q.2.1 q.2.2 from
  am_fc (am_okgf 292 (by decide +kernel) (am_mem 1396 (by decide +kernel))) (
  am_fc (am_oks 318 (by decide +kernel) (by decide) (am_mem 1758 (by decide +kernel)) (Or.inl (am_mem 1757 (by decide +kernel)))) (
  am_fc (am_oks 318 (by decide +kernel) (by decide) (am_mem 1758 (by decide +kernel)) (Or.inl (am_mem 1757 (by decide +kernel)))) (
  am_fc (am_okv 381 (by decide +kernel) (by decide) (am_mem 1811 (by decide +kernel)) (am_mem 1813 (by decide +kernel)) (am_mem 76 (by decide +kernel))) (
  am_fn))))
def am_t263 : List (Nat × Instr × Nat) := am_p263_0 ++ (am_l263_0)
theorem am_ot263 : ∀ q ∈ am_t263, am_ok 263 q.1 q.2.1 q.2.2 := List.forall_mem_append.mpr ⟨am_op263_0, am_ol263_0⟩
def am_p264_0 : List (Nat × Instr × Nat) := [(0, .aload_n 0, 1), (1, .iconst 0, 1), (5, .iload_n 3, 1), (6, .iconst (-1), 1), (7, .if_icmp .eq 11, 3), (10, .aload_n 0, 1), (11, .iload_n 3, 1), (15, .ifCond .eq 18, 3), (18, .aload_n 0, 1), (19, .iload_n 2, 1), (20, .iconst 0, 1), (21, .bipush 60, 2), (26, .iconst 2, 1), (30, .ifCond .ne 5, 3), (33, .iconst 0, 1), (34, .ireturn, 1), (35, .aload_n 0, 1), (39, .aload_n 0, 1), (40, .iload_n 1, 1), (44, .iconst 0, 1), (45, .istore 4, 2), (47, .iconst 0, 1), (48, .istore 5, 2), (50, .iload 5, 2), (52, .iload_n 2, 1), (53, .if_icmp .ge 128, 3), (56, .aload_n 0, 1), (60, .ifCond .le 102, 3), (63, .aload_n 0, 1), (64, .aload_n 0, 1), (71, .istore 6, 2), (73, .aload_n 0, 1), (77, .bipush 13, 2), (79, .iload 6, 2), (81, .iadd, 1), (82, .aload_n 0, 1), (83, .bipush 6, 2), (88, .iastore, 1), (89, .aload_n 0, 1), (93, .ifCond .le 69, 3), (96, .aload_n 0, 1), (97, .aload_n 0, 1), (104, .istore 7, 2), (106, .aload_n 0, 1), (107, .aload_n 0, 1), (111, .aload_n 0, 1), (115, .iconst 2, 1), (116, .iload 7, 2), (118, .imul, 1), (119, .iaload, 1), (120, .aload_n 0, 1), (124, .iconst 2, 1), (125, .iload 7, 2), (127, .imul, 1), (128, .iconst 1, 1), (129, .iadd, 1), (130, .iaload, 1), (134, .aload_n 0, 1), (135, .aload_n 0, 1), (139, .aload_n 0, 1), (143, .iconst 2, 1), (144, .iload 7, 2), (146, .imul, 1), (147, .iconst 1, 1), (148, .iadd, 1), (149, .iaload, 1), (150, .aload_n 0, 1), (154, .iconst 2, 1), (155, .iload 7, 2), (157, .imul, 1), (158, .iaload, 1), (162, .iload 4, 2), (164, .aload_n 0, 1), (165, .aload_n 0, 1), (172, .iadd, 1), (173, .istore 4, 2), (175, .iinc 5 1, 3), (178, .goto (-128), 3), (181, .iload_n 3, 1), (182, .iconst (-1), 1), (183, .if_icmp .ne 8, 3), (186, .iload 4, 2), (188, .goto 15, 3), (191, .aload_n 0, 1), (192, .aload_n 0, 1), (196, .iload_n 3, 1), (203, .ireturn, 1)]
theorem am_op264_0 : ∀ q ∈ am_p264_0, am_ok 264 q.1 q.2.1 q.2.2 := am_okps (by decide +kernel)
def am_l264_0 : List (Nat × Instr × Nat) := [(2, .putfield 110000, 3), (12, .invokevirtual 204, 3), (23, .invokestatic 159, 3), (27, .invokevirtual 158, 3), (36, .invokevirtual 224, 3), (41, .putfield 110610, 3), (57, .getfield 110010, 3), (65, .getfield 110010, 3), (68, .invokevirtual 262, 3), (74, .getfield 110422, 3), (85, .invokevirtual 262, 3), (90, .getfield 110030, 3), (98, .getfield 110030, 3), (101, .invokevirtual 262, 3), (108, .getfield 110422, 3), (112, .getfield 110072, 3), (121, .getfield 110072, 3), (131, .invokevirtual 263, 3), (136, .getfield 110422, 3), (140, .getfield 110072, 3), (151, .getfield 110072, 3), (159, .invokevirtual 263, 3), (166, .getfield 110422, 3), (169, .invokevirtual 216, 3), (193, .getfield 110422, 3), (197, .invokevirtual 200, 3), (200, .invokestatic 161, 3)]
theorem am_ol264_0 : ∀ q ∈ am_l264_0, am_ok 264 q.1 q.2.1 q.2.2 := show ∀ q ∈ ([(2, .putfield 110000, 3), (12, .invokevirtual 204, 3), (23, .invokestatic 159, 3), (27, .invokevirtual 158, 3), (36, .invokevirtual 224, 3), (41, .putfield 110610, 3), (57, .getfield 110010, 3), (65, .getfield 110010, 3), (68, .invokevirtual 262, 3), (74, .getfield 110422, 3), (85, .invokevirtual 262, 3), (90, .getfield 110030, 3), (98, .getfield 110030, 3), (101, .invokevirtual 262, 3), (108, .getfield 110422, 3), (112, .getfield 110072, 3), (121, .getfield 110072, 3), (131, .invokevirtual 263, 3), (136, .getfield 110422, 3), (140, .getfield 110072, 3), (151, .getfield 110072, 3), (159, .invokevirtual 263, 3), (166, .getfield 110422, 3), (169, .invokevirtual 216, 3), (193, .getfield 110422, 3), (197, .invokevirtual 200, 3), (200, .invokestatic 161, 3)] : List (Nat × Instr × Nat)), am_ok 264 q.1 q.2.1 q.2.2 from
  am_fc (am_okpf 129 (by decide +kernel) (am_mem 1394 (by decide +kernel))) (
  am_fc (am_okv 340 (by decide +kernel) (by decide) (am_mem 1767 (by decide +kernel)) (am_mem 1769 (by decide +kernel)) (am_mem 70 (by decide +kernel))) (
  am_fc (am_oks 329 (by decide +kernel) (by decide) (am_mem 1743 (by decide +kernel)) (Or.inl (am_mem 1742 (by decide +kernel)))) (
  am_fc (am_okv 282 (by decide +kernel) (by decide) (am_mem 1615 (by decide +kernel)) (am_mem 1617 (by decide +kernel)) (am_mem 43 (by decide +kernel))) (
  am_fc (am_okv 391 (by decide +kernel) (by decide) (am_mem 1854 (by decide +kernel)) (am_mem 1856 (by decide +kernel)) (am_mem 84 (by decide +kernel))) (
  am_fc (am_okpf 441 (by decide +kernel) (am_mem 1455 (by decide +kernel))) (
  am_fc (am_okgf 289 (by decide +kernel) (am_mem 1395 (by decide +kernel))) (
  am_fc (am_okgf 289 (by decide +kernel) (am_mem 1395 (by decide +kernel))) (
  am_fc (am_okv 445 (by decide +kernel) (by decide) (am_mem 2010 (by decide +kernel)) (am_mem 2012 (by decide +kernel)) (am_mem 100 (by decide +kernel))) (
  am_fc (am_okgf 69 (by decide +kernel) (am_mem 1436 (by decide +kernel))) (
  am_fc (am_okv 445 (by decide +kernel) (by decide) (am_mem 2010 (by decide +kernel)) (am_mem 2012 (by decide +kernel)) (am_mem 100 (by decide +kernel))) (
  am_fc (am_okgf 295 (by decide +kernel) (am_mem 1397 (by decide +kernel))) (
  am_fc (am_okgf 295 (by decide +kernel) (am_mem 1397 (by decide +kernel))) (
  am_fc (am_okv 445 (by decide +kernel) (by decide) (am_mem 2010 (by decide +kernel)) (am_mem 2012 (by decide +kernel)) (am_mem 100 (by decide +kernel))) (
  am_fc (am_okgf 69 (by decide +kernel) (am_mem 1436 (by decide +kernel))) (
  am_fc (am_okgf 17 (by decide +kernel) (am_mem 1401 (by decide +kernel))) (
  am_fc (am_okgf 17 (by decide +kernel) (am_mem 1401 (by decide +kernel))) (
  am_fc (am_okv 448 (by decide +kernel) (by decide) (am_mem 2015 (by decide +kernel)) (am_mem 2017 (by decide +kernel)) (am_mem 101 (by decide +kernel))) (
  am_fc (am_okgf 69 (by decide +kernel) (am_mem 1436 (by decide +kernel))) (
  am_fc (am_okgf 17 (by decide +kernel) (am_mem 1401 (by decide +kernel))) (
  am_fc (am_okgf 17 (by decide +kernel) (am_mem 1401 (by decide +kernel))) (
  am_fc (am_okv 448 (by decide +kernel) (by decide) (am_mem 2015 (by decide +kernel)) (am_mem 2017 (by decide +kernel)) (am_mem 101 (by decide +kernel))) (
  am_fc (am_okgf 69 (by decide +kernel) (am_mem 1436 (by decide +kernel))) (
  am_fc (am_okv 385 (by decide +kernel) (by decide) (am_mem 1819 (by decide +kernel)) (am_mem 1821 (by decide +kernel)) (am_mem 77 (by decide +kernel))) (
  am_fc (am_okgf 69 (by decide +kernel) (am_mem 1436 (by decide +kernel))) (
  am_fc (am_okv 322 (by decide +kernel) (by decide) (am_mem 1753 (by decide +kernel)) (am_mem 1755 (by decide +kernel)) (am_mem 69 (by decide +kernel))) (
  am_fc (am_oks 326 (by decide +kernel) (by decide) (am_mem 1761 (by decide +kernel)) (Or.inl (am_mem 1760 (by decide +kernel)))) (
  am_fn)))))))))))))))))))))))))))
def am_t264 : List (Nat × Instr × Nat) := am_p264_0 ++ (am_l264_0)
theorem am_ot264 : ∀ q ∈ am_t264, am_ok 264 q.1 q.2.1 q.2.2 := List.forall_mem_append.mpr ⟨am_op264_0, am_ol264_0⟩
def am_p265_0 : List (Nat × Instr × Nat) := [(0, .aload_n 0, 1), (1, .iconst 0, 1), (5, .aload_n 0, 1), (6, .iconst 1, 1), (10, .aload_n 0, 1), (11, .aload_n 0, 1), (18, .aload_n 0, 1), (19, .aload_n 0, 1), (26, .aload_n 0, 1), (27, .aload_n 0, 1), (31, .aload_n 0, 1), (38, .aload_n 0, 1), (39, .aload_n 0, 1), (43, .aload_n 0, 1), (50, .aload_n 0, 1), (51, .aload_n 0, 1), (55, .aload_n 0, 1), (62, .return_, 1)]
theorem am_op265_0 : ∀ q ∈ am_p265_0, am_ok 265 q.1 q.2.1 q.2.2 := am_okps (by decide +kernel)
def am_l265_0 : List (Nat × Instr × Nat) := [(2, .putfield 110000, 3), (7, .putfield 110621, 3), (12, .getfield 110440, 3), (15, .putfield 110630, 3), (20, .getfield 110590, 3), (23, .putfield 110640, 3), (28, .getfield 110412, 3), (32, .getfield 110652, 3), (35, .invokevirtual 160, 3), (40, .getfield 110432, 3), (44, .getfield 110662, 3), (47, .invokevirtual 160, 3), (52, .getfield 110602, 3), (56, .getfield 110672, 3), (59, .invokevirtual 160, 3)]
theorem am_ol265_0 : ∀ q ∈ am_l265_0, am_ok 265 q.1 q.2.1 q.2.2 := show ∀ q ∈ ([(2, .putfield 110000, 3), (7, .putfield 110621, 3), (12, .getfield 110440, 3), (15, .putfield 110630, 3), (20, .getfield 110590, 3), (23, .putfield 110640, 3), (28, .getfield 110412, 3), (32, .getfield 110652, 3), (35, .invokevirtual 160, 3), (40, .getfield 110432, 3), (44, .getfield 110662, 3), (47, .invokevirtual 160, 3), (52, .getfield 110602, 3), (56, .getfield 110672, 3), (59, .invokevirtual 160, 3)] : List (Nat × Instr × Nat)), am_ok 265 q.1 q.2.1 q.2.2 from
  am_fc (am_okpf 129 (by decide +kernel) (am_mem 1394 (by decide +kernel))) (
  am_fc (am_okpf 312 (by decide +kernel) (am_mem 1456 (by decide +kernel))) (
  am_fc (am_okgf 315 (by decide +kernel) (am_mem 1438 (by decide +kernel))) (
  am_fc (am_okpf 451 (by decide +kernel) (am_mem 1457 (by decide +kernel))) (
  am_fc (am_okgf 305 (by decide +kernel) (am_mem 1453 (by decide +kernel))) (
  am_fc (am_okpf 454 (by decide +kernel) (am_mem 1458 (by decide +kernel))) (
  am_fc (am_okgf 66 (by decide +kernel) (am_mem 1435 (by decide +kernel))) (
  am_fc (am_okgf 117 (by decide +kernel) (am_mem 1459 (by decide +kernel))) (
  am_fc (am_okv 301 (by decide +kernel) (by decide) (am_mem 1726 (by decide +kernel)) (am_mem 1728 (by decide +kernel)) (am_mem 66 (by decide +kernel))) (
  am_fc (am_okgf 72 (by decide +kernel) (am_mem 1437 (by decide +kernel))) (
  am_fc (am_okgf 120 (by decide +kernel) (am_mem 1460 (by decide +kernel))) (
  am_fc (am_okv 301 (by decide +kernel) (by decide) (am_mem 1726 (by decide +kernel)) (am_mem 1728 (by decide +kernel)) (am_mem 66 (by decide +kernel))) (
  am_fc (am_okgf 114 (by decide +kernel) (am_mem 1454 (by decide +kernel))) (
  am_fc (am_okgf 123 (by decide +kernel) (am_mem 1461 (by decide +kernel))) (
  am_fc (am_okv 301 (by decide +kernel) (by decide) (am_mem 1726 (by decide +kernel)) (am_mem 1728 (by decide +kernel)) (am_mem 66 (by decide +kernel))) (
  am_fn)))))))))))))))
def am_t265 : List (Nat × Instr × Nat) := am_p265_0 ++ (am_l265_0)
theorem am_ot265 : ∀ q ∈ am_t265, am_ok 265 q.1 q.2.1 q.2.2 := List.forall_mem_append.mpr ⟨am_op265_0, am_ol265_0⟩
def am_p266_0 : List (Nat × Instr × Nat) := [(0, .aload_n 0, 1), (1, .iconst 0, 1), (5, .aload_n 0, 1), (9, .ifCond .ne 5, 3), (12, .iconst 0, 1), (13, .ireturn, 1), (14, .aload_n 0, 1), (15, .aload_n 0, 1), (22, .aload_n 0, 1), (23, .aload_n 0, 1), (30, .aload_n 0, 1), (31, .aload_n 0, 1), (35, .aload_n 0, 1), (42, .aload_n 0, 1), (43, .aload_n 0, 1), (47, .aload_n 0, 1), (54, .aload_n 0, 1), (55, .aload_n 0, 1), (59, .aload_n 0, 1), (66, .iconst 1, 1), (67, .ireturn, 1)]
theorem am_op266_0 : ∀ q ∈ am_p266_0, am_ok 266 q.1 q.2.1 q.2.2 := am_okps (by decide +kernel)
def am_l266_0 : List (Nat × Instr × Nat) := [(2, .putfield 110000, 3), (6, .getfield 110621, 3), (16, .getfield 110630, 3), (19, .putfield 110440, 3), (24, .getfield 110640, 3), (27, .putfield 110590, 3), (32, .getfield 110652, 3), (36, .getfield 110412, 3), (39, .invokevirtual 160, 3), (44, .getfield 110662, 3), (48, .getfield 110432, 3), (51, .invokevirtual 160, 3), (56, .getfield 110672, 3), (60, .getfield 110602, 3), (63, .invokevirtual 160, 3)]
theorem am_ol266_0 : ∀ q ∈ am_l266_0, am_ok 266 q.1 q.2.1 q.2.2 := show ∀ q ∈ ([(2, .putfield 110000, 3), (6, .getfield 110621, 3), (16, .getfield 110630, 3), (19, .putfield 110440, 3), (24, .getfield 110640, 3), (27, .putfield 110590, 3), (32, .getfield 110652, 3), (36, .getfield 110412, 3), (39, .invokevirtual 160, 3), (44, .getfield 110662, 3), (48, .getfield 110432, 3), (51, .invokevirtual 160, 3), (56, .getfield 110672, 3), (60, .getfield 110602, 3), (63, .invokevirtual 160, 3)] : List (Nat × Instr × Nat)), am_ok 266 q.1 q.2.1 q.2.2 from
  am_fc (am_okpf 129 (by decide +kernel) (am_mem 1394 (by decide +kernel))) (
  am_fc (am_okgf 312 (by decide +kernel) (am_mem 1456 (by decide +kernel))) (
  am_fc (am_okgf 451 (by decide +kernel) (am_mem 1457 (by decide +kernel))) (
  am_fc (am_okpf 315 (by decide +kernel) (am_mem 1438 (by decide +kernel))) (
  am_fc (am_okgf 454 (by decide +kernel) (am_mem 1458 (by decide +kernel))) (
  am_fc (am_okpf 305 (by decide +kernel) (am_mem 1453 (by decide +kernel))) (
  am_fc (am_okgf 117 (by decide +kernel) (am_mem 1459 (by decide +kernel))) (
  am_fc (am_okgf 66 (by decide +kernel) (am_mem 1435 (by decide +kernel))) (
  am_fc (am_okv 301 (by decide +kernel) (by decide) (am_mem 1726 (by decide +kernel)) (am_mem 1728 (by decide +kernel)) (am_mem 66 (by decide +kernel))) (
  am_fc (am_okgf 120 (by decide +kernel) (am_mem 1460 (by decide +kernel))) (
  am_fc (am_okgf 72 (by decide +kernel) (am_mem 1437 (by decide +kernel))) (
  am_fc (am_okv 301 (by decide +kernel) (by decide) (am_mem 1726 (by decide +kernel)) (am_mem 1728 (by decide +kernel)) (am_mem 66 (by decide +kernel))) (
  am_fc (am_okgf 123 (by decide +kernel) (am_mem 1461 (by decide +kernel))) (
  am_fc (am_okgf 114 (by decide +kernel) (am_mem 1454 (by decide +kernel))) (
  am_fc (am_okv 301 (by decide +kernel) (by decide) (am_mem 1726 (by decide +kernel)) (am_mem 1728 (by decide +kernel)) (am_mem 66 (by decide +kernel))) (
  am_fn)))))))))))))))
def am_t266 : List (Nat × Instr × Nat) := am_p266_0 ++ (am_l266_0)
theorem am_ot266 : ∀ q ∈ am_t266, am_ok 266 q.1 q.2.1 q.2.2 := List.forall_mem_append.mpr ⟨am_op266_0, am_ol266_0⟩
def am_p267_0 : List (Nat × Instr × Nat) := [(0, .iload_n 0, 1), (1, .iconst (-1), 1), (2, .ixor, 1), (3, .iload_n 0, 1), (4, .iconst 1, 1), (5, .isub, 1), (6, .iand, 1), (7, .istore_n 0, 1), (8, .iload_n 0, 1), (9, .ifCond .gt 8, 3), (12, .iload_n 0, 1), (13, .bipush 32, 2), (15, .iand, 1), (16, .ireturn, 1), (17, .iconst 1, 1), (18, .istore_n 1, 1), (19, .iload_n 0, 1), (23, .if_icmp .le 11, 3), (26, .iinc 1 16, 3), (29, .iload_n 0, 1), (30, .bipush 16, 2), (32, .iushr, 1), (33, .istore_n 0, 1), (34, .iload_n 0, 1), (35, .sipush 256, 3), (38, .if_icmp .le 11, 3), (41, .iinc 1 8, 3), (44, .iload_n 0, 1), (45, .bipush 8, 2), (47, .iushr, 1), (48, .istore_n 0, 1), (49, .iload_n 0, 1), (50, .bipush 16, 2), (52, .if_icmp .le 10, 3), (55, .iinc 1 4, 3), (58, .iload_n 0, 1), (59, .iconst 4, 1), (60, .iushr, 1), (61, .istore_n 0, 1), (62, .iload_n 0, 1), (63, .iconst 4, 1), (64, .if_icmp .le 10, 3), (67, .iinc 1 2, 3), (70, .iload_n 0, 1), (71, .iconst 2, 1), (72, .iushr, 1), (73, .istore_n 0, 1), (74, .iload_n 1, 1), (75, .iload_n 0, 1), (76, .iconst 1, 1), (77, .iushr, 1), (78, .iadd, 1), (79, .ireturn, 1)]
theorem am_op267_0 : ∀ q ∈ am_p267_0, am_ok 267 q.1 q.2.1 q.2.2 := am_okps (by decide +kernel)
def am_l267_0 : List (Nat × Instr × Nat) := [(20, .ldc_w 65536, 3)]
theorem am_ol267_0 : ∀ q ∈ am_l267_0, am_ok 267 q.1 q.2.1 q.2.2 := show ∀ q ∈ ([(20, .ldc_w 65536, 3)] : List (Nat × Instr × Nat)), am_ok 267 q.1 q.2.1 q.2.2 from
  am_fc (am_oklw 264 (by decide +kernel) (am_mem 1124 (by decide +kernel))) (
  am_fn)
def am_t267 : List (Nat × Instr × Nat) := am_p267_0 ++ (am_l267_0)
theorem am_ot267 : ∀ q ∈ am_t267, am_ok 267 q.1 q.2.1 q.2.2 := List.forall_mem_append.mpr ⟨am_op267_0, am_ol267_0⟩
def am_p268_0 : List (Nat × Instr × Nat) := [(0, .iload_n 0, 1), (1, .iload_n 0, 1), (2, .iconst 1, 1), (3, .iushr, 1), (7, .iand, 1), (8, .isub, 1), (9, .istore_n 0, 1), (10, .iload_n 0, 1), (14, .iand, 1), (15, .iload_n 0, 1), (16, .iconst 2, 1), (17, .iushr, 1), (21, .iand, 1), (22, .iadd, 1), (23, .istore_n 0, 1), (24, .iload_n 0, 1), (25, .iload_n 0, 1), (26, .iconst 4, 1), (27, .iushr, 1), (28, .iadd, 1), (32, .iand, 1), (33, .istore_n 0, 1), (34, .iload_n 0, 1), (35, .iload_n 0, 1), (36, .bipush 8, 2), (38, .iushr, 1), (39, .iadd, 1), (40, .istore_n 0, 1), (41, .iload_n 0, 1), (42, .iload_n 0, 1), (43, .bipush 16, 2), (45, .iushr, 1), (46, .iadd, 1), (47, .istore_n 0, 1), (48, .iload_n 0, 1), (49, .bipush 63, 2), (51, .iand, 1), (52, .ireturn, 1)]
theorem am_op268_0 : ∀ q ∈ am_p268_0, am_ok 268 q.1 q.2.1 q.2.2 := am_okps (by decide +kernel)
def am_l268_0 : List (Nat × Instr × Nat) := [(4, .ldc_w 1431655765, 3), (11, .ldc_w 858993459, 3), (18, .ldc_w 858993459, 3), (29, .ldc_w 252645135, 3)]
theorem am_ol268_0 : ∀ q ∈ am_l268_0, am_ok 268 q.1 q.2.1 q.2.2 := show ∀ q ∈ ([(4, .ldc_w 1431655765, 3), (11, .ldc_w 858993459, 3), (18, .ldc_w 858993459, 3), (29, .ldc_w 252645135, 3)] : List (Nat × Instr × Nat)), am_ok 268 q.1 q.2.1 q.2.2 from
  am_fc (am_oklw 265 (by decide +kernel) (am_mem 608 (by decide +kernel))) (
  am_fc (am_oklw 266 (by decide +kernel) (am_mem 609 (by decide +kernel))) (
  am_fc (am_oklw 266 (by decide +kernel) (am_mem 609 (by decide +kernel))) (
  am_fc (am_oklw 267 (by decide +kernel) (am_mem 610 (by decide +kernel))) (
  am_fn))))
def am_t268 : List (Nat × Instr × Nat) := am_p268_0 ++ (am_l268_0)
theorem am_ot268 : ∀ q ∈ am_t268, am_ok 268 q.1 q.2.1 q.2.2 := List.forall_mem_append.mpr ⟨am_op268_0, am_ol268_0⟩
def am_p269_0 : List (Nat × Instr × Nat) := [(0, .iload_n 0, 1), (1, .iload_n 1, 1), (2, .if_icmp .lt 7, 3), (5, .iload_n 0, 1), (6, .goto 4, 3), (9, .iload_n 1, 1), (10, .ireturn, 1)]
theorem am_op269_0 : ∀ q ∈ am_p269_0, am_ok 269 q.1 q.2.1 q.2.2 := am_okps (by decide +kernel)
def am_t269 : List (Nat × Instr × Nat) := am_p269_0
theorem am_ot269 : ∀ q ∈ am_t269, am_ok 269 q.1 q.2.1 q.2.2 := am_op269_0
def am_p270_0 : List (Nat × Instr × Nat) := [(0, .iload_n 0, 1), (1, .iload_n 1, 1), (2, .if_icmp .gt 7, 3), (5, .iload_n 0, 1), (6, .goto 4, 3), (9, .iload_n 1, 1), (10, .ireturn, 1)]
theorem am_op270_0 : ∀ q ∈ am_p270_0, am_ok 270 q.1 q.2.1 q.2.2 := am_okps (by decide +kernel)
def am_t270 : List (Nat × Instr × Nat) := am_p270_0
theorem am_ot270 : ∀ q ∈ am_t270, am_ok 270 q.1 q.2.1 q.2.2 := am_op270_0
def am_p271_0 : List (Nat × Instr × Nat) := [(0, .iconst 0, 1), (1, .istore_n 2, 1), (2, .aload_n 0, 1), (3, .arraylength, 1), (4, .istore_n 3, 1), (5, .iload_n 2, 1), (6, .iload_n 3, 1), (7, .if_icmp .ge 13, 3), (10, .aload_n 0, 1), (11, .iload_n 2, 1), (12, .iload_n 1, 1), (13, .iastore, 1), (14, .iinc 2 1, 3), (17, .goto (-12), 3), (20, .return_, 1)]
theorem am_op271_0 : ∀ q ∈ am_p271_0, am_ok 271 q.1 q.2.1 q.2.2 := am_okps (by decide +kernel)
def am_t271 : List (Nat × Instr × Nat) := am_p271_0
theorem am_ot271 : ∀ q ∈ am_t271, am_ok 271 q.1 q.2.1 q.2.2 := am_op271_0
def am_p272_0 : List (Nat × Instr × Nat) := [(0, .aload_n 2, 1), (1, .iconst 0, 1), (2, .aload_n 0, 1), (3, .iload_n 1, 1), (7, .i2l, 1), (8, .lastore, 1), (9, .goto 6, 3), (12, .astore_n 3, 1), (13, .iconst 1, 1), (14, .ireturn, 1), (15, .iconst 0, 1), (16, .ireturn, 1)]
theorem am_op272_0 : ∀ q ∈ am_p272_0, am_ok 272 q.1 q.2.1 q.2.2 := am_okps (by decide +kernel)
def am_l272_0 : List (Nat × Instr × Nat) := [(4, .invokevirtual 105, 3)]
theorem am_ol272_0 : ∀ q ∈ am_l272_0, am_ok 272 q.1 q.2.1 q.2.2 := show ∀ q ∈ ([(4, .invokevirtual 105, 3)] : List (Nat × Instr × Nat)), am_ok 272 q.1 q.2.1 q.2.2 from
  am_fc (am_okv 7 (by decide +kernel) (by decide) (am_mem 703 (by decide +kernel)) (am_mem 704 (by decide +kernel)) (am_mem 705 (by decide +kernel))) (
  am_fn)
def am_t272 : List (Nat × Instr × Nat) := am_p272_0 ++ (am_l272_0)
theorem am_ot272 : ∀ q ∈ am_t272, am_ok 272 q.1 q.2.1 q.2.2 := List.forall_mem_append.mpr ⟨am_op272_0, am_ol272_0⟩
def am_p273_0 : List (Nat × Instr × Nat) := [(0, .aload_n 2, 1), (1, .iconst 0, 1), (2, .aload_n 0, 1), (3, .iload_n 1, 1), (7, .i2l, 1), (8, .lastore, 1), (9, .goto 6, 3), (12, .astore_n 3, 1), (13, .iconst 1, 1), (14, .ireturn, 1), (15, .iconst 0, 1), (16, .ireturn, 1)]
theorem am_op273_0 : ∀ q ∈ am_p273_0, am_ok 273 q.1 q.2.1 q.2.2 := am_okps (by decide +kernel)
def am_l273_0 : List (Nat × Instr × Nat) := [(4, .invokevirtual 107, 3)]
theorem am_ol273_0 : ∀ q ∈ am_l273_0, am_ok 273 q.1 q.2.1 q.2.2 := show ∀ q ∈ ([(4, .invokevirtual 107, 3)] : List (Nat × Instr × Nat)), am_ok 273 q.1 q.2.1 q.2.2 from
  am_fc (am_okv 15 (by decide +kernel) (by decide) (am_mem 1005 (by decide +kernel)) (am_mem 1006 (by decide +kernel)) (am_mem 1007 (by decide +kernel))) (
  am_fn)
def am_t273 : List (Nat × Instr × Nat) := am_p273_0 ++ (am_l273_0)
theorem am_ot273 : ∀ q ∈ am_t273, am_ok 273 q.1 q.2.1 q.2.2 := List.forall_mem_append.mpr ⟨am_op273_0, am_ol273_0⟩
def am_p274_0 : List (Nat × Instr × Nat) := [(0, .aload_n 3, 1), (1, .iconst 0, 1), (2, .aload_n 0, 1), (3, .iload_n 1, 1), (4, .iload_n 2, 1), (8, .i2l, 1), (9, .lastore, 1), (10, .goto 7, 3), (13, .astore 4, 2), (15, .iconst 1, 1), (16, .ireturn, 1), (17, .iconst 0, 1), (18, .ireturn, 1)]
theorem am_op274_0 : ∀ q ∈ am_p274_0, am_ok 274 q.1 q.2.1 q.2.2 := am_okps (by decide +kernel)
def am_l274_0 : List (Nat × Instr × Nat) := [(5, .invokevirtual 108, 3)]
theorem am_ol274_0 : ∀ q ∈ am_l274_0, am_ok 274 q.1 q.2.1 q.2.2 := show ∀ q ∈ ([(5, .invokevirtual 108, 3)] : List (Nat × Instr × Nat)), am_ok 274 q.1 q.2.1 q.2.2 from
  am_fc (am_okv 20 (by decide +kernel) (by decide) (am_mem 1033 (by decide +kernel)) (am_mem 1034 (by decide +kernel)) (am_mem 1035 (by decide +kernel))) (
  am_fn)
def am_t274 : List (Nat × Instr × Nat) := am_p274_0 ++ (am_l274_0)
theorem am_ot274 : ∀ q ∈ am_t274, am_ok 274 q.1 q.2.1 q.2.2 := List.forall_mem_append.mpr ⟨am_op274_0, am_ol274_0⟩
def am_p275_0 : List (Nat × Instr × Nat) := [(0, .aload_n 3, 1), (1, .iconst 0, 1), (2, .aload_n 0, 1), (3, .iload_n 1, 1), (4, .iload_n 2, 1), (8, .i2l, 1), (9, .lastore, 1), (10, .goto 7, 3), (13, .astore 4, 2), (15, .iconst 1, 1), (16, .ireturn, 1), (17, .iconst 0, 1), (18, .ireturn, 1)]
theorem am_op275_0 : ∀ q ∈ am_p275_0, am_ok 275 q.1 q.2.1 q.2.2 := am_okps (by decide +kernel)
def am_l275_0 : List (Nat × Instr × Nat) := [(5, .invokevirtual 109, 3)]
theorem am_ol275_0 : ∀ q ∈ am_l275_0, am_ok 275 q.1 q.2.1 q.2.2 := show ∀ q ∈ ([(5, .invokevirtual 109, 3)] : List (Nat × Instr × Nat)), am_ok 275 q.1 q.2.1 q.2.2 from
  am_fc (am_okv 24 (by decide +kernel) (by decide) (am_mem 1046 (by decide +kernel)) (am_mem 1047 (by decide +kernel)) (am_mem 1048 (by decide +kernel))) (
  am_fn)
def am_t275 : List (Nat × Instr × Nat) := am_p275_0 ++ (am_l275_0)
theorem am_ot275 : ∀ q ∈ am_t275, am_ok 275 q.1 q.2.1 q.2.2 := List.forall_mem_append.mpr ⟨am_op275_0, am_ol275_0⟩
def am_p276_0 : List (Nat × Instr × Nat) := [(0, .aload_n 3, 1), (1, .iconst 0, 1), (2, .aload_n 0, 1), (3, .iload_n 1, 1), (4, .iload_n 2, 1), (8, .i2l, 1), (9, .lastore, 1), (10, .goto 7, 3), (13, .astore 4, 2), (15, .iconst 1, 1), (16, .ireturn, 1), (17, .iconst 0, 1), (18, .ireturn, 1)]
theorem am_op276_0 : ∀ q ∈ am_p276_0, am_ok 276 q.1 q.2.1 q.2.2 := am_okps (by decide +kernel)
def am_l276_0 : List (Nat × Instr × Nat) := [(5, .invokevirtual 110, 3)]
theorem am_ol276_0 : ∀ q ∈ am_l276_0, am_ok 276 q.1 q.2.1 q.2.2 := show ∀ q ∈ ([(5, .invokevirtual 110, 3)] : List (Nat × Instr × Nat)), am_ok 276 q.1 q.2.1 q.2.2 from
  am_fc (am_okv 27 (by decide +kernel) (by decide) (am_mem 1063 (by decide +kernel)) (am_mem 1064 (by decide +kernel)) (am_mem 1065 (by decide +kernel))) (
  am_fn)
def am_t276 : List (Nat × Instr × Nat) := am_p276_0 ++ (am_l276_0)
theorem am_ot276 : ∀ q ∈ am_t276, am_ok 276 q.1 q.2.1 q.2.2 := List.forall_mem_append.mpr ⟨am_op276_0, am_ol276_0⟩
def am_p277_0 : List (Nat × Instr × Nat) := [(0, .aload_n 3, 1), (1, .iconst 0, 1), (2, .aload_n 0, 1), (3, .iload_n 1, 1), (4, .iload_n 2, 1), (8, .i2l, 1), (9, .lastore, 1), (10, .goto 7, 3), (13, .astore 4, 2), (15, .iconst 1, 1), (16, .ireturn, 1), (17, .iconst 0, 1), (18, .ireturn, 1)]
theorem am_op277_0 : ∀ q ∈ am_p277_0, am_ok 277 q.1 q.2.1 q.2.2 := am_okps (by decide +kernel)
def am_l277_0 : List (Nat × Instr × Nat) := [(5, .invokevirtual 111, 3)]
theorem am_ol277_0 : ∀ q ∈ am_l277_0, am_ok 277 q.1 q.2.1 q.2.2 := show ∀ q ∈ ([(5, .invokevirtual 111, 3)] : List (Nat × Instr × Nat)), am_ok 277 q.1 q.2.1 q.2.2 from
  am_fc (am_okv 30 (by decide +kernel) (by decide) (am_mem 1071 (by decide +kernel)) (am_mem 1072 (by decide +kernel)) (am_mem 1073 (by decide +kernel))) (
  am_fn)
def am_t277 : List (Nat × Instr × Nat) := am_p277_0 ++ (am_l277_0)
theorem am_ot277 : ∀ q ∈ am_t277, am_ok 277 q.1 q.2.1 q.2.2 := List.forall_mem_append.mpr ⟨am_op277_0, am_ol277_0⟩
def am_p278_0 : List (Nat × Instr × Nat) := [(0, .aload_n 3, 1), (1, .iconst 0, 1), (2, .aload_n 0, 1), (3, .iload_n 1, 1), (4, .iload_n 2, 1), (8, .i2l, 1), (9, .lastore, 1), (10, .goto 7, 3), (13, .astore 4, 2), (15, .iconst 1, 1), (16, .ireturn, 1), (17, .iconst 0, 1), (18, .ireturn, 1)]
theorem am_op278_0 : ∀ q ∈ am_p278_0, am_ok 278 q.1 q.2.1 q.2.2 := am_okps (by decide +kernel)
def am_l278_0 : List (Nat × Instr × Nat) := [(5, .invokevirtual 112, 3)]
theorem am_ol278_0 : ∀ q ∈ am_l278_0, am_ok 278 q.1 q.2.1 q.2.2 := show ∀ q ∈ ([(5, .invokevirtual 112, 3)] : List (Nat × Instr × Nat)), am_ok 278 q.1 q.2.1 q.2.2 from
  am_fc (am_okv 33 (by decide +kernel) (by decide) (am_mem 1078 (by decide +kernel)) (am_mem 1079 (by decide +kernel)) (am_mem 1080 (by decide +kernel))) (
  am_fn)
def am_t278 : List (Nat × Instr × Nat) := am_p278_0 ++ (am_l278_0)
theorem am_ot278 : ∀ q ∈ am_t278, am_ok 278 q.1 q.2.1 q.2.2 := List.forall_mem_append.mpr ⟨am_op278_0, am_ol278_0⟩
def am_p279_0 : List (Nat × Instr × Nat) := [(0, .aload 4, 2), (2, .iconst 0, 1), (3, .aload_n 0, 1), (4, .iload_n 1, 1), (5, .iload_n 2, 1), (6, .iload_n 3, 1), (10, .ifCond .eq 7, 3), (13, .lconst 1, 1), (14, .goto 4, 3), (17, .lconst 0, 1), (18, .lastore, 1), (19, .goto 7, 3), (22, .astore 5, 2), (24, .iconst 1, 1), (25, .ireturn, 1), (26, .iconst 0, 1), (27, .ireturn, 1)]
theorem am_op279_0 : ∀ q ∈ am_p279_0, am_ok 279 q.1 q.2.1 q.2.2 := am_okps (by decide +kernel)
def am_l279_0 : List (Nat × Instr × Nat) := [(7, .invokevirtual 113, 3)]
theorem am_ol279_0 : ∀ q ∈ am_l279_0, am_ok 279 q.1 q.2.1 q.2.2 := show ∀ q ∈ ([(7, .invokevirtual 113, 3)] : List (Nat × Instr × Nat)), am_ok 279 q.1 q.2.1 q.2.2 from
  am_fc (am_okv 36 (by decide +kernel) (by decide) (am_mem 1085 (by decide +kernel)) (am_mem 1086 (by decide +kernel)) (am_mem 1087 (by decide +kernel))) (
  am_fn)
def am_t279 : List (Nat × Instr × Nat) := am_p279_0 ++ (am_l279_0)
theorem am_ot279 : ∀ q ∈ am_t279, am_ok 279 q.1 q.2.1 q.2.2 := List.forall_mem_append.mpr ⟨am_op279_0, am_ol279_0⟩
def am_p280_0 : List (Nat × Instr × Nat) := [(0, .aload_n 3, 1), (1, .iconst 0, 1), (2, .aload_n 0, 1), (3, .iload_n 1, 1), (4, .iload_n 2, 1), (8, .i2l, 1), (9, .lastore, 1), (10, .goto 11, 3), (13, .astore 4, 2), (15, .iconst 1, 1), (16, .ireturn, 1), (17, .astore 4, 2), (19, .iconst 2, 1), (20, .ireturn, 1), (21, .iconst 0, 1), (22, .ireturn, 1)]
theorem am_op280_0 : ∀ q ∈ am_p280_0, am_ok 280 q.1 q.2.1 q.2.2 := am_okps (by decide +kernel)
def am_l280_0 : List (Nat × Instr × Nat) := [(5, .invokevirtual 116, 3)]
theorem am_ol280_0 : ∀ q ∈ am_l280_0, am_ok 280 q.1 q.2.1 q.2.2 := show ∀ q ∈ ([(5, .invokevirtual 116, 3)] : List (Nat × Instr × Nat)), am_ok 280 q.1 q.2.1 q.2.2 from
  am_fc (am_okv 40 (by decide +kernel) (by decide) (am_mem 1097 (by decide +kernel)) (am_mem 1098 (by decide +kernel)) (am_mem 1099 (by decide +kernel))) (
  am_fn)
def am_t280 : List (Nat × Instr × Nat) := am_p280_0 ++ (am_l280_0)
theorem am_ot280 : ∀ q ∈ am_t280, am_ok 280 q.1 q.2.1 q.2.2 := List.forall_mem_append.mpr ⟨am_op280_0, am_ol280_0⟩
def am_p281_0 : List (Nat × Instr × Nat) := [(0, .aload_n 3, 1), (1, .iconst 0, 1), (2, .aload_n 0, 1), (3, .iload_n 1, 1), (4, .iload_n 2, 1), (8, .i2l, 1), (9, .lastore, 1), (10, .goto 11, 3), (13, .astore 4, 2), (15, .iconst 1, 1), (16, .ireturn, 1), (17, .astore 4, 2), (19, .iconst 2, 1), (20, .ireturn, 1), (21, .iconst 0, 1), (22, .ireturn, 1)]
theorem am_op281_0 : ∀ q ∈ am_p281_0, am_ok 281 q.1 q.2.1 q.2.2 := am_okps (by decide +kernel)
def am_l281_0 : List (Nat × Instr × Nat) := [(5, .invokevirtual 117, 3)]
theorem am_ol281_0 : ∀ q ∈ am_l281_0, am_ok 281 q.1 q.2.1 q.2.2 := show ∀ q ∈ ([(5, .invokevirtual 117, 3)] : List (Nat × Instr × Nat)), am_ok 281 q.1 q.2.1 q.2.2 from
  am_fc (am_okv 43 (by decide +kernel) (by decide) (am_mem 1112 (by decide +kernel)) (am_mem 1113 (by decide +kernel)) (am_mem 1114 (by decide +kernel))) (
  am_fn)
def am_t281 : List (Nat × Instr × Nat) := am_p281_0 ++ (am_l281_0)
theorem am_ot281 : ∀ q ∈ am_t281, am_ok 281 q.1 q.2.1 q.2.2 := List.forall_mem_append.mpr ⟨am_op281_0, am_ol281_0⟩
def am_p282_0 : List (Nat × Instr × Nat) := [(0, .aload 4, 2), (2, .iconst 0, 1), (3, .aload_n 0, 1), (4, .iload_n 1, 1), (5, .iload_n 2, 1), (6, .iload_n 3, 1), (10, .i2l, 1), (11, .lastore, 1), (12, .goto 11, 3), (15, .astore 5, 2), (17, .iconst 1, 1), (18, .ireturn, 1), (19, .astore 5, 2), (21, .iconst 2, 1), (22, .ireturn, 1), (23, .iconst 0, 1), (24, .ireturn, 1)]
theorem am_op282_0 : ∀ q ∈ am_p282_0, am_ok 282 q.1 q.2.1 q.2.2 := am_okps (by decide +kernel)
def am_l282_0 : List (Nat × Instr × Nat) := [(7, .invokevirtual 118, 3)]
theorem am_ol282_0 : ∀ q ∈ am_l282_0, am_ok 282 q.1 q.2.1 q.2.2 := show ∀ q ∈ ([(7, .invokevirtual 118, 3)] : List (Nat × Instr × Nat)), am_ok 282 q.1 q.2.1 q.2.2 from
  am_fc (am_okv 46 (by decide +kernel) (by decide) (am_mem 1128 (by decide +kernel)) (am_mem 1129 (by decide +kernel)) (am_mem 1130 (by decide +kernel))) (
  am_fn)
def am_t282 : List (Nat × Instr × Nat) := am_p282_0 ++ (am_l282_0)
theorem am_ot282 : ∀ q ∈ am_t282, am_ok 282 q.1 q.2.1 q.2.2 := List.forall_mem_append.mpr ⟨am_op282_0, am_ol282_0⟩
def am_p283_0 : List (Nat × Instr × Nat) := [(0, .aload 4, 2), (2, .iconst 0, 1), (3, .aload_n 0, 1), (4, .iload_n 1, 1), (5, .iload_n 2, 1), (6, .iload_n 3, 1), (10, .i2l, 1), (11, .lastore, 1), (12, .goto 11, 3), (15, .astore 5, 2), (17, .iconst 1, 1), (18, .ireturn, 1), (19, .astore 5, 2), (21, .iconst 2, 1), (22, .ireturn, 1), (23, .iconst 0, 1), (24, .ireturn, 1)]
theorem am_op283_0 : ∀ q ∈ am_p283_0, am_ok 283 q.1 q.2.1 q.2.2 := am_okps (by decide +kernel)
def am_l283_0 : List (Nat × Instr × Nat) := [(7, .invokevirtual 119, 3)]
theorem am_ol283_0 : ∀ q ∈ am_l283_0, am_ok 283 q.1 q.2.1 q.2.2 := show ∀ q ∈ ([(7, .invokevirtual 119, 3)] : List (Nat × Instr × Nat)), am_ok 283 q.1 q.2.1 q.2.2 from
  am_fc (am_okv 50 (by decide +kernel) (by decide) (am_mem 1136 (by decide +kernel)) (am_mem 1137 (by decide +kernel)) (am_mem 1138 (by decide +kernel))) (
  am_fn)
def am_t283 : List (Nat × Instr × Nat) := am_p283_0 ++ (am_l283_0)
theorem am_ot283 : ∀ q ∈ am_t283, am_ok 283 q.1 q.2.1 q.2.2 := List.forall_mem_append.mpr ⟨am_op283_0, am_ol283_0⟩
def am_p284_0 : List (Nat × Instr × Nat) := [(0, .aload_n 2, 1), (1, .iconst 0, 1), (2, .aload_n 0, 1), (3, .iload_n 1, 1), (7, .i2l, 1), (8, .lastore, 1), (9, .goto 6, 3), (12, .astore_n 3, 1), (13, .iconst 1, 1), (14, .ireturn, 1), (15, .iconst 0, 1), (16, .ireturn, 1)]
theorem am_op284_0 : ∀ q ∈ am_p284_0, am_ok 284 q.1 q.2.1 q.2.2 := am_okps (by decide +kernel)
def am_l284_0 : List (Nat × Instr × Nat) := [(4, .invokevirtual 120, 3)]
theorem am_ol284_0 : ∀ q ∈ am_l284_0, am_ok 284 q.1 q.2.1 q.2.2 := show ∀ q ∈ ([(4, .invokevirtual 120, 3)] : List (Nat × Instr × Nat)), am_ok 284 q.1 q.2.1 q.2.2 from
  am_fc (am_okv 53 (by decide +kernel) (by decide) (am_mem 1158 (by decide +kernel)) (am_mem 1159 (by decide +kernel)) (am_mem 1160 (by decide +kernel))) (
  am_fn)
def am_t284 : List (Nat × Instr × Nat) := am_p284_0 ++ (am_l284_0)
theorem am_ot284 : ∀ q ∈ am_t284, am_ok 284 q.1 q.2.1 q.2.2 := List.forall_mem_append.mpr ⟨am_op284_0, am_ol284_0⟩
def am_p285_0 : List (Nat × Instr × Nat) := [(0, .aload 4, 2), (2, .iconst 0, 1), (3, .aload_n 0, 1), (4, .iload_n 1, 1), (5, .iload_n 2, 1), (6, .iload_n 3, 1), (10, .i2l, 1), (11, .lastore, 1), (12, .goto 7, 3), (15, .astore 5, 2), (17, .iconst 1, 1), (18, .ireturn, 1), (19, .iconst 0, 1), (20, .ireturn, 1)]
theorem am_op285_0 : ∀ q ∈ am_p285_0, am_ok 285 q.1 q.2.1 q.2.2 := am_okps (by decide +kernel)
def am_l285_0 : List (Nat × Instr × Nat) := [(7, .invokevirtual 121, 3)]
theorem am_ol285_0 : ∀ q ∈ am_l285_0, am_ok 285 q.1 q.2.1 q.2.2 := show ∀ q ∈ ([(7, .invokevirtual 121, 3)] : List (Nat × Instr × Nat)), am_ok 285 q.1 q.2.1 q.2.2 from
  am_fc (am_okv 56 (by decide +kernel) (by decide) (am_mem 1166 (by decide +kernel)) (am_mem 1167 (by decide +kernel)) (am_mem 1168 (by decide +kernel))) (
  am_fn)
def am_t285 : List (Nat × Instr × Nat) := am_p285_0 ++ (am_l285_0)
theorem am_ot285 : ∀ q ∈ am_t285, am_ok 285 q.1 q.2.1 q.2.2 := List.forall_mem_append.mpr ⟨am_op285_0, am_ol285_0⟩
def am_p286_0 : List (Nat × Instr × Nat) := [(0, .aload_n 3, 1), (1, .iconst 0, 1), (2, .aload_n 0, 1), (3, .iload_n 1, 1), (4, .iload_n 2, 1), (8, .i2l, 1), (9, .lastore, 1), (10, .goto 7, 3), (13, .astore 4, 2), (15, .iconst 1, 1), (16, .ireturn, 1), (17, .iconst 0, 1), (18, .ireturn, 1)]
theorem am_op286_0 : ∀ q ∈ am_p286_0, am_ok 286 q.1 q.2.1 q.2.2 := am_okps (by decide +kernel)
def am_l286_0 : List (Nat × Instr × Nat) := [(5, .invokevirtual 122, 3)]
theorem am_ol286_0 : ∀ q ∈ am_l286_0, am_ok 286 q.1 q.2.1 q.2.2 := show ∀ q ∈ ([(5, .invokevirtual 122, 3)] : List (Nat × Instr × Nat)), am_ok 286 q.1 q.2.1 q.2.2 from
  am_fc (am_okv 59 (by decide +kernel) (by decide) (am_mem 1183 (by decide +kernel)) (am_mem 1184 (by decide +kernel)) (am_mem 1185 (by decide +kernel))) (
  am_fn)
def am_t286 : List (Nat × Instr × Nat) := am_p286_0 ++ (am_l286_0)
theorem am_ot286 : ∀ q ∈ am_t286, am_ok 286 q.1 q.2.1 q.2.2 := List.forall_mem_append.mpr ⟨am_op286_0, am_ol286_0⟩
def am_p287_0 : List (Nat × Instr × Nat) := [(0, .aload_n 2, 1), (1, .iconst 0, 1), (2, .aload_n 0, 1), (3, .iload_n 1, 1), (7, .i2l, 1), (8, .lastore, 1), (9, .goto 6, 3), (12, .astore_n 3, 1), (13, .iconst 1, 1), (14, .ireturn, 1), (15, .iconst 0, 1), (16, .ireturn, 1)]
theorem am_op287_0 : ∀ q ∈ am_p287_0, am_ok 287 q.1 q.2.1 q.2.2 := am_okps (by decide +kernel)
def am_l287_0 : List (Nat × Instr × Nat) := [(4, .invokevirtual 123, 3)]
theorem am_ol287_0 : ∀ q ∈ am_l287_0, am_ok 287 q.1 q.2.1 q.2.2 := show ∀ q ∈ ([(4, .invokevirtual 123, 3)] : List (Nat × Instr × Nat)), am_ok 287 q.1 q.2.1 q.2.2 from
  am_fc (am_okv 62 (by decide +kernel) (by decide) (am_mem 1212 (by decide +kernel)) (am_mem 1213 (by decide +kernel)) (am_mem 1214 (by decide +kernel))) (
  am_fn)
def am_t287 : List (Nat × Instr × Nat) := am_p287_0 ++ (am_l287_0)
theorem am_ot287 : ∀ q ∈ am_t287, am_ok 287 q.1 q.2.1 q.2.2 := List.forall_mem_append.mpr ⟨am_op287_0, am_ol287_0⟩
def am_p288_0 : List (Nat × Instr × Nat) := [(0, .aload_n 3, 1), (1, .iconst 0, 1), (2, .aload_n 0, 1), (3, .iload_n 1, 1), (4, .iload_n 2, 1), (8, .i2l, 1), (9, .lastore, 1), (10, .goto 7, 3), (13, .astore 4, 2), (15, .iconst 1, 1), (16, .ireturn, 1), (17, .iconst 0, 1), (18, .ireturn, 1)]
theorem am_op288_0 : ∀ q ∈ am_p288_0, am_ok 288 q.1 q.2.1 q.2.2 := am_okps (by decide +kernel)
def am_l288_0 : List (Nat × Instr × Nat) := [(5, .invokevirtual 124, 3)]
theorem am_ol288_0 : ∀ q ∈ am_l288_0, am_ok 288 q.1 q.2.1 q.2.2 := show ∀ q ∈ ([(5, .invokevirtual 124, 3)] : List (Nat × Instr × Nat)), am_ok 288 q.1 q.2.1 q.2.2 from
  am_fc (am_okv 65 (by decide +kernel) (by decide) (am_mem 1220 (by decide +kernel)) (am_mem 1221 (by decide +kernel)) (am_mem 1222 (by decide +kernel))) (
  am_fn)
def am_t288 : List (Nat × Instr × Nat) := am_p288_0 ++ (am_l288_0)
theorem am_ot288 : ∀ q ∈ am_t288, am_ok 288 q.1 q.2.1 q.2.2 := List.forall_mem_append.mpr ⟨am_op288_0, am_ol288_0⟩
def am_p289_0 : List (Nat × Instr × Nat) := [(0, .aload_n 2, 1), (1, .iconst 0, 1), (2, .aload_n 0, 1), (3, .iload_n 1, 1), (7, .i2l, 1), (8, .lastore, 1), (9, .goto 6, 3), (12, .astore_n 3, 1), (13, .iconst 1, 1), (14, .ireturn, 1), (15, .iconst 0, 1), (16, .ireturn, 1)]
theorem am_op289_0 : ∀ q ∈ am_p289_0, am_ok 289 q.1 q.2.1 q.2.2 := am_okps (by decide +kernel)
def am_l289_0 : List (Nat × Instr × Nat) := [(4, .invokevirtual 125, 3)]
theorem am_ol289_0 : ∀ q ∈ am_l289_0, am_ok 289 q.1 q.2.1 q.2.2 := show ∀ q ∈ ([(4, .invokevirtual 125, 3)] : List (Nat × Instr × Nat)), am_ok 289 q.1 q.2.1 q.2.2 from
  am_fc (am_okv 68 (by decide +kernel) (by decide) (am_mem 1232 (by decide +kernel)) (am_mem 1233 (by decide +kernel)) (am_mem 1234 (by decide +kernel))) (
  am_fn)
def am_t289 : List (Nat × Instr × Nat) := am_p289_0 ++ (am_l289_0)
theorem am_ot289 : ∀ q ∈ am_t289, am_ok 289 q.1 q.2.1 q.2.2 := List.forall_mem_append.mpr ⟨am_op289_0, am_ol289_0⟩
def am_p290_0 : List (Nat × Instr × Nat) := [(0, .aload_n 2, 1), (1, .iconst 0, 1), (2, .aload_n 0, 1), (3, .iload_n 1, 1), (7, .i2l, 1), (8, .lastore, 1), (9, .goto 6, 3), (12, .astore_n 3, 1), (13, .iconst 1, 1), (14, .ireturn, 1), (15, .iconst 0, 1), (16, .ireturn, 1)]
theorem am_op290_0 : ∀ q ∈ am_p290_0, am_ok 290 q.1 q.2.1 q.2.2 := am_okps (by decide +kernel)
def am_l290_0 : List (Nat × Instr × Nat) := [(4, .invokevirtual 126, 3)]
theorem am_ol290_0 : ∀ q ∈ am_l290_0, am_ok 290 q.1 q.2.1 q.2.2 := show ∀ q ∈ ([(4, .invokevirtual 126, 3)] : List (Nat × Instr × Nat)), am_ok 290 q.1 q.2.1 q.2.2 from
  am_fc (am_okv 71 (by decide +kernel) (by decide) (am_mem 1247 (by decide +kernel)) (am_mem 1248 (by decide +kernel)) (am_mem 1249 (by decide +kernel))) (
  am_fn)
def am_t290 : List (Nat × Instr × Nat) := am_p290_0 ++ (am_l290_0)
theorem am_ot290 : ∀ q ∈ am_t290, am_ok 290 q.1 q.2.1 q.2.2 := List.forall_mem_append.mpr ⟨am_op290_0, am_ol290_0⟩
