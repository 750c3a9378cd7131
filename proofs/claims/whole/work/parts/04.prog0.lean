/-! The resolved instructions of the methods, by program, and that they stand there. -/
def am_p0_0 : List (Nat × Instr × Nat) := [(0, .aload_n 0, 1), (4, .aload_n 0, 1), (5, .bipush 8, 2), (7, .newarray .int, 2), (12, .aload_n 0, 1), (13, .bipush 8, 2), (15, .newarray .int, 2), (20, .aload_n 0, 1), (21, .bipush 8, 2), (23, .newarray .boolean, 2), (28, .return_, 1)]
theorem am_op0_0 : ∀ q ∈ am_p0_0, am_ok 0 q.1 q.2.1 q.2.2 := am_okps (by decide +kernel)
def am_l0_0 : List (Nat × Instr × Nat) := [(1, .invokespecial 1000, 3), (9, .putfield 2, 3), (17, .putfield 12, 3), (25, .putfield 22, 3)]
theorem am_ol0_0 : ∀ q ∈ am_l0_0, am_ok 0 q.1 q.2.1 q.2.2 := show ∀ q ∈ ([(1, .invokespecial 1000, 3), (9, .putfield 2, 3), (17, .putfield 12, 3), (25, .putfield 22, 3)] : List (Nat × Instr × Nat)), am_ok 0 q.1 q.2.1 q.2.2 from
  am_fc (am_oki0 3 (by decide +kernel) (am_mem 377 (by decide +kernel))) (
  am_fc (am_okpf 9 (by decide +kernel) (am_mem 378 (by decide +kernel))) (
  am_fc (am_okpf 15 (by decide +kernel) (am_mem 379 (by decide +kernel))) (
  am_fc (am_okpf 18 (by decide +kernel) (am_mem 380 (by decide +kernel))) (
  am_fn))))
def am_t0 : List (Nat × Instr × Nat) := am_p0_0 ++ (am_l0_0)
theorem am_ot0 : ∀ q ∈ am_t0, am_ok 0 q.1 q.2.1 q.2.2 := List.forall_mem_append.mpr ⟨am_op0_0, am_ol0_0⟩
def am_p1_0 : List (Nat × Instr × Nat) := [(0, .aload_n 0, 1), (4, .ifCond .lt 52, 3), (7, .aload_n 0, 1), (11, .bipush 8, 2), (13, .if_icmp .ge 43, 3), (16, .aload_n 0, 1), (20, .aload_n 0, 1), (24, .iload_n 1, 1), (25, .iastore, 1), (26, .aload_n 0, 1), (30, .aload_n 0, 1), (34, .iload_n 2, 1), (35, .iastore, 1), (36, .aload_n 0, 1), (40, .aload_n 0, 1), (44, .iload_n 3, 1), (45, .bastore, 1), (46, .aload_n 0, 1), (47, .dup, 1), (51, .iconst 1, 1), (52, .iadd, 1), (56, .return_, 1)]
theorem am_op1_0 : ∀ q ∈ am_p1_0, am_ok 1 q.1 q.2.1 q.2.2 := am_okps (by decide +kernel)
def am_l1_0 : List (Nat × Instr × Nat) := [(1, .getfield 30, 3), (8, .getfield 30, 3), (17, .getfield 2, 3), (21, .getfield 30, 3), (27, .getfield 12, 3), (31, .getfield 30, 3), (37, .getfield 22, 3), (41, .getfield 30, 3), (48, .getfield 30, 3), (53, .putfield 30, 3)]
theorem am_ol1_0 : ∀ q ∈ am_l1_0, am_ok 1 q.1 q.2.1 q.2.2 := show ∀ q ∈ ([(1, .getfield 30, 3), (8, .getfield 30, 3), (17, .getfield 2, 3), (21, .getfield 30, 3), (27, .getfield 12, 3), (31, .getfield 30, 3), (37, .getfield 22, 3), (41, .getfield 30, 3), (48, .getfield 30, 3), (53, .putfield 30, 3)] : List (Nat × Instr × Nat)), am_ok 1 q.1 q.2.1 q.2.2 from
  am_fc (am_okgf 22 (by decide +kernel) (am_mem 381 (by decide +kernel))) (
  am_fc (am_okgf 22 (by decide +kernel) (am_mem 381 (by decide +kernel))) (
  am_fc (am_okgf 9 (by decide +kernel) (am_mem 378 (by decide +kernel))) (
  am_fc (am_okgf 22 (by decide +kernel) (am_mem 381 (by decide +kernel))) (
  am_fc (am_okgf 15 (by decide +kernel) (am_mem 379 (by decide +kernel))) (
  am_fc (am_okgf 22 (by decide +kernel) (am_mem 381 (by decide +kernel))) (
  am_fc (am_okgf 18 (by decide +kernel) (am_mem 380 (by decide +kernel))) (
  am_fc (am_okgf 22 (by decide +kernel) (am_mem 381 (by decide +kernel))) (
  am_fc (am_okgf 22 (by decide +kernel) (am_mem 381 (by decide +kernel))) (
  am_fc (am_okpf 22 (by decide +kernel) (am_mem 381 (by decide +kernel))) (
  am_fn))))))))))
def am_t1 : List (Nat × Instr × Nat) := am_p1_0 ++ (am_l1_0)
theorem am_ot1 : ∀ q ∈ am_t1, am_ok 1 q.1 q.2.1 q.2.2 := List.forall_mem_append.mpr ⟨am_op1_0, am_ol1_0⟩
def am_p2_0 : List (Nat × Instr × Nat) := [(0, .iconst 0, 1), (1, .istore_n 3, 1), (2, .iload_n 3, 1), (3, .aload_n 0, 1), (7, .if_icmp .ge 46, 3), (10, .iload_n 3, 1), (11, .bipush 8, 2), (13, .if_icmp .ge 40, 3), (16, .aload_n 0, 1), (20, .iload_n 3, 1), (21, .iaload, 1), (22, .iload_n 1, 1), (23, .if_icmp .ne 24, 3), (26, .iload_n 2, 1), (27, .aload_n 0, 1), (31, .iload_n 3, 1), (32, .iaload, 1), (36, .aload_n 0, 1), (40, .iload_n 3, 1), (41, .baload, 1), (42, .if_icmp .eq 5, 3), (45, .iconst 0, 1), (46, .ireturn, 1), (47, .iinc 3 1, 3), (50, .goto (-48), 3), (53, .iconst 1, 1), (54, .ireturn, 1)]
theorem am_op2_0 : ∀ q ∈ am_p2_0, am_ok 2 q.1 q.2.1 q.2.2 := am_okps (by decide +kernel)
def am_l2_0 : List (Nat × Instr × Nat) := [(4, .getfield 30, 3), (17, .getfield 2, 3), (28, .getfield 12, 3), (33, .invokestatic 145, 3), (37, .getfield 22, 3)]
theorem am_ol2_0 : ∀ q ∈ am_l2_0, am_ok 2 q.1 q.2.1 q.2.2 := show ∀ q ∈ ([(4, .getfield 30, 3), (17, .getfield 2, 3), (28, .getfield 12, 3), (33, .invokestatic 145, 3), (37, .getfield 22, 3)] : List (Nat × Instr × Nat)), am_ok 2 q.1 q.2.1 q.2.2 from
  am_fc (am_okgf 22 (by decide +kernel) (am_mem 381 (by decide +kernel))) (
  am_fc (am_okgf 9 (by decide +kernel) (am_mem 378 (by decide +kernel))) (
  am_fc (am_okgf 15 (by decide +kernel) (am_mem 379 (by decide +kernel))) (
  am_fc (am_oks 26 (by decide +kernel) (by decide) (am_mem 573 (by decide +kernel)) (Or.inr ⟨"SaltMinds", (am_mem 678 (by decide +kernel))⟩)) (
  am_fc (am_okgf 18 (by decide +kernel) (am_mem 380 (by decide +kernel))) (
  am_fn)))))
def am_t2 : List (Nat × Instr × Nat) := am_p2_0 ++ (am_l2_0)
theorem am_ot2 : ∀ q ∈ am_t2, am_ok 2 q.1 q.2.1 q.2.2 := List.forall_mem_append.mpr ⟨am_op2_0, am_ol2_0⟩
def am_p3_0 : List (Nat × Instr × Nat) := [(0, .iconst 0, 1), (1, .istore_n 2, 1), (2, .iload_n 2, 1), (3, .bipush 8, 2), (5, .if_icmp .ge 45, 3), (8, .aload_n 0, 1), (12, .iload_n 2, 1), (13, .aload_n 1, 1), (17, .iload_n 2, 1), (18, .iaload, 1), (19, .iastore, 1), (20, .aload_n 0, 1), (24, .iload_n 2, 1), (25, .aload_n 1, 1), (29, .iload_n 2, 1), (30, .iaload, 1), (31, .iastore, 1), (32, .aload_n 0, 1), (36, .iload_n 2, 1), (37, .aload_n 1, 1), (41, .iload_n 2, 1), (42, .baload, 1), (43, .bastore, 1), (44, .iinc 2 1, 3), (47, .goto (-45), 3), (50, .aload_n 0, 1), (51, .aload_n 1, 1), (58, .return_, 1)]
theorem am_op3_0 : ∀ q ∈ am_p3_0, am_ok 3 q.1 q.2.1 q.2.2 := am_okps (by decide +kernel)
def am_l3_0 : List (Nat × Instr × Nat) := [(9, .getfield 2, 3), (14, .getfield 2, 3), (21, .getfield 12, 3), (26, .getfield 12, 3), (33, .getfield 22, 3), (38, .getfield 22, 3), (52, .getfield 30, 3), (55, .putfield 30, 3)]
theorem am_ol3_0 : ∀ q ∈ am_l3_0, am_ok 3 q.1 q.2.1 q.2.2 := show ∀ q ∈ ([(9, .getfield 2, 3), (14, .getfield 2, 3), (21, .getfield 12, 3), (26, .getfield 12, 3), (33, .getfield 22, 3), (38, .getfield 22, 3), (52, .getfield 30, 3), (55, .putfield 30, 3)] : List (Nat × Instr × Nat)), am_ok 3 q.1 q.2.1 q.2.2 from
  am_fc (am_okgf 9 (by decide +kernel) (am_mem 378 (by decide +kernel))) (
  am_fc (am_okgf 9 (by decide +kernel) (am_mem 378 (by decide +kernel))) (
  am_fc (am_okgf 15 (by decide +kernel) (am_mem 379 (by decide +kernel))) (
  am_fc (am_okgf 15 (by decide +kernel) (am_mem 379 (by decide +kernel))) (
  am_fc (am_okgf 18 (by decide +kernel) (am_mem 380 (by decide +kernel))) (
  am_fc (am_okgf 18 (by decide +kernel) (am_mem 380 (by decide +kernel))) (
  am_fc (am_okgf 22 (by decide +kernel) (am_mem 381 (by decide +kernel))) (
  am_fc (am_okpf 22 (by decide +kernel) (am_mem 381 (by decide +kernel))) (
  am_fn))))))))
def am_t3 : List (Nat × Instr × Nat) := am_p3_0 ++ (am_l3_0)
theorem am_ot3 : ∀ q ∈ am_t3, am_ok 3 q.1 q.2.1 q.2.2 := List.forall_mem_append.mpr ⟨am_op3_0, am_ol3_0⟩
def am_p4_0 : List (Nat × Instr × Nat) := [(0, .aload_n 0, 1), (4, .aload_n 0, 1), (5, .bipush 6, 2), (13, .aload_n 0, 1), (14, .iconst 5, 1), (15, .newarray .int, 2), (20, .aload_n 0, 1), (21, .iconst 5, 1), (22, .newarray .int, 2), (27, .iconst 0, 1), (28, .istore_n 1, 1), (29, .iload_n 1, 1), (30, .iconst 5, 1), (31, .if_icmp .gt 22, 3), (34, .aload_n 0, 1), (38, .iload_n 1, 1), (42, .dup, 1), (46, .aastore, 1), (47, .iinc 1 1, 3), (50, .goto (-21), 3), (53, .return_, 1)]
theorem am_op4_0 : ∀ q ∈ am_p4_0, am_ok 4 q.1 q.2.1 q.2.2 := am_okps (by decide +kernel)
def am_l4_0 : List (Nat × Instr × Nat) := [(1, .invokespecial 1000, 3), (7, .anewarray 4, 3), (10, .putfield 10002, 3), (17, .putfield 10012, 3), (24, .putfield 10022, 3), (35, .getfield 10002, 3), (39, .new 4, 3), (43, .invokespecial 17, 3)]
theorem am_ol4_0 : ∀ q ∈ am_l4_0, am_ok 4 q.1 q.2.1 q.2.2 := show ∀ q ∈ ([(1, .invokespecial 1000, 3), (7, .anewarray 4, 3), (10, .putfield 10002, 3), (17, .putfield 10012, 3), (24, .putfield 10022, 3), (35, .getfield 10002, 3), (39, .new 4, 3), (43, .invokespecial 17, 3)] : List (Nat × Instr × Nat)), am_ok 4 q.1 q.2.1 q.2.2 from
  am_fc (am_oki0 3 (by decide +kernel) (am_mem 398 (by decide +kernel))) (
  am_fc (am_okan 9 (by decide +kernel) (am_mem 399 (by decide +kernel))) (
  am_fc (am_okpf 11 (by decide +kernel) (am_mem 402 (by decide +kernel))) (
  am_fc (am_okpf 17 (by decide +kernel) (am_mem 403 (by decide +kernel))) (
  am_fc (am_okpf 21 (by decide +kernel) (am_mem 404 (by decide +kernel))) (
  am_fc (am_okgf 11 (by decide +kernel) (am_mem 402 (by decide +kernel))) (
  am_fc (am_okn 9 (by decide) (by decide +kernel) (am_mem 399 (by decide +kernel))) (
  am_fc (am_oki 24 (by decide +kernel) (by decide) (by decide +kernel) (am_mem 327 (by decide +kernel)) (Or.inl (am_mem 401 (by decide +kernel)))) (
  am_fn))))))))
def am_t4 : List (Nat × Instr × Nat) := am_p4_0 ++ (am_l4_0)
theorem am_ot4 : ∀ q ∈ am_t4, am_ok 4 q.1 q.2.1 q.2.2 := List.forall_mem_append.mpr ⟨am_op4_0, am_ol4_0⟩
def am_p5_0 : List (Nat × Instr × Nat) := [(0, .aload_n 0, 1), (1, .iconst (-1), 1), (5, .aload_n 0, 1), (9, .iconst 0, 1), (10, .aaload, 1), (11, .aload_n 2, 1), (12, .iload_n 3, 1), (16, .aload_n 0, 1), (17, .aload_n 1, 1), (18, .iload_n 3, 1), (19, .iload 4, 2), (21, .iload 5, 2), (23, .iconst 5, 1), (27, .iconst 0, 1), (28, .iconst 0, 1), (32, .aload_n 0, 1), (36, .iconst (-1), 1), (37, .if_icmp .eq 9, 3), (40, .aload_n 0, 1), (41, .iload 5, 2), (46, .aload_n 0, 1), (50, .ireturn, 1)]
theorem am_op5_0 : ∀ q ∈ am_p5_0, am_ok 5 q.1 q.2.1 q.2.2 := am_okps (by decide +kernel)
def am_l5_0 : List (Nat × Instr × Nat) := [(2, .putfield 10030, 3), (6, .getfield 10002, 3), (13, .invokevirtual 20, 3), (24, .invokestatic 270, 3), (29, .invokevirtual 6, 3), (33, .getfield 10030, 3), (43, .putfield 10040, 3), (47, .getfield 10030, 3)]
theorem am_ol5_0 : ∀ q ∈ am_l5_0, am_ok 5 q.1 q.2.1 q.2.2 := show ∀ q ∈ ([(2, .putfield 10030, 3), (6, .getfield 10002, 3), (13, .invokevirtual 20, 3), (24, .invokestatic 270, 3), (29, .invokevirtual 6, 3), (33, .getfield 10030, 3), (43, .putfield 10040, 3), (47, .getfield 10030, 3)] : List (Nat × Instr × Nat)), am_ok 5 q.1 q.2.1 q.2.2 from
  am_fc (am_okpf 25 (by decide +kernel) (am_mem 406 (by decide +kernel))) (
  am_fc (am_okgf 11 (by decide +kernel) (am_mem 402 (by decide +kernel))) (
  am_fc (am_okv 29 (by decide +kernel) (by decide) (am_mem 1145 (by decide +kernel)) (am_mem 662 (by decide +kernel)) (am_mem 663 (by decide +kernel))) (
  am_fc (am_oks 33 (by decide +kernel) (by decide) (am_mem 562 (by decide +kernel)) (Or.inl (am_mem 1146 (by decide +kernel)))) (
  am_fc (am_okv 39 (by decide +kernel) (by decide) (am_mem 1147 (by decide +kernel)) (am_mem 1149 (by decide +kernel)) (am_mem 29 (by decide +kernel))) (
  am_fc (am_okgf 25 (by decide +kernel) (am_mem 406 (by decide +kernel))) (
  am_fc (am_okpf 43 (by decide +kernel) (am_mem 407 (by decide +kernel))) (
  am_fc (am_okgf 25 (by decide +kernel) (am_mem 406 (by decide +kernel))) (
  am_fn))))))))
def am_t5 : List (Nat × Instr × Nat) := am_p5_0 ++ (am_l5_0)
theorem am_ot5 : ∀ q ∈ am_t5, am_ok 5 q.1 q.2.1 q.2.2 := List.forall_mem_append.mpr ⟨am_op5_0, am_ol5_0⟩
def am_p6_0 : List (Nat × Instr × Nat) := [(0, .iload 5, 2), (2, .iload 4, 2), (4, .if_icmp .lt 24, 3), (7, .aload_n 0, 1), (8, .iload 6, 2), (13, .aload_n 0, 1), (17, .iconst 0, 1), (18, .aload_n 0, 1), (22, .iconst 0, 1), (23, .iconst 5, 1), (27, .return_, 1), (28, .aload_n 1, 1), (29, .aload_n 0, 1), (33, .iload 5, 2), (35, .aaload, 1), (42, .istore 7, 2), (44, .iconst 0, 1), (45, .istore 8, 2), (47, .iload 8, 2), (49, .bipush 6, 2), (51, .if_icmp .gt 119, 3), (54, .iload 6, 2), (56, .iload 8, 2), (58, .iload 7, 2), (60, .imul, 1), (61, .iadd, 1), (62, .istore 9, 2), (64, .aload_n 0, 1), (68, .iconst (-1), 1), (69, .if_icmp .eq 15, 3), (72, .iload 9, 2), (74, .aload_n 0, 1), (78, .if_icmp .lt 6, 3), (81, .goto 89, 3), (84, .aload_n 0, 1), (88, .iload 5, 2), (90, .iload 8, 2), (92, .iastore, 1), (93, .aload_n 0, 1), (97, .iload 5, 2), (99, .iconst 1, 1), (100, .iadd, 1), (101, .aaload, 1), (102, .aload_n 0, 1), (106, .iload 5, 2), (108, .aaload, 1), (109, .iload_n 2, 1), (113, .aload_n 0, 1), (117, .iload 5, 2), (119, .iconst 1, 1), (120, .iadd, 1), (121, .aaload, 1), (122, .aload_n 1, 1), (123, .iload_n 2, 1), (124, .iload 8, 2), (129, .iload_n 3, 1), (130, .aload_n 0, 1), (134, .iload 5, 2), (136, .iconst 1, 1), (137, .iadd, 1), (138, .aaload, 1), (139, .iload_n 2, 1), (143, .iconst (-1), 1), (144, .ixor, 1), (145, .iand, 1), (146, .ifCond .ne 18, 3), (149, .aload_n 0, 1), (150, .aload_n 1, 1), (151, .iload_n 2, 1), (152, .iload_n 3, 1), (153, .iload 4, 2), (155, .iload 5, 2), (157, .iconst 1, 1), (158, .iadd, 1), (159, .iload 9, 2), (164, .iinc 8 1, 3), (167, .goto (-120), 3), (170, .return_, 1)]
theorem am_op6_0 : ∀ q ∈ am_p6_0, am_ok 6 q.1 q.2.1 q.2.2 := am_okps (by decide +kernel)
def am_l6_0 : List (Nat × Instr × Nat) := [(10, .putfield 10030, 3), (14, .getfield 10012, 3), (19, .getfield 10022, 3), (24, .invokestatic 1001, 3), (30, .getfield 10002, 3), (36, .getfield 40000, 3), (39, .invokevirtual 86, 3), (65, .getfield 10030, 3), (75, .getfield 10030, 3), (85, .getfield 10012, 3), (94, .getfield 10002, 3), (103, .getfield 10002, 3), (110, .invokevirtual 20, 3), (114, .getfield 10002, 3), (126, .invokevirtual 43, 3), (131, .getfield 10002, 3), (140, .invokevirtual 28, 3), (161, .invokevirtual 6, 3)]
theorem am_ol6_0 : ∀ q ∈ am_l6_0, am_ok 6 q.1 q.2.1 q.2.2 := show ∀ q ∈ ([(10, .putfield 10030, 3), (14, .getfield 10012, 3), (19, .getfield 10022, 3), (24, .invokestatic 1001, 3), (30, .getfield 10002, 3), (36, .getfield 40000, 3), (39, .invokevirtual 86, 3), (65, .getfield 10030, 3), (75, .getfield 10030, 3), (85, .getfield 10012, 3), (94, .getfield 10002, 3), (103, .getfield 10002, 3), (110, .invokevirtual 20, 3), (114, .getfield 10002, 3), (126, .invokevirtual 43, 3), (131, .getfield 10002, 3), (140, .invokevirtual 28, 3), (161, .invokevirtual 6, 3)] : List (Nat × Instr × Nat)), am_ok 6 q.1 q.2.1 q.2.2 from
  am_fc (am_okpf 25 (by decide +kernel) (am_mem 406 (by decide +kernel))) (
  am_fc (am_okgf 17 (by decide +kernel) (am_mem 403 (by decide +kernel))) (
  am_fc (am_okgf 21 (by decide +kernel) (am_mem 404 (by decide +kernel))) (
  am_fc (am_oks0 46 (by decide +kernel) (am_mem 1151 (by decide +kernel))) (
  am_fc (am_okgf 11 (by decide +kernel) (am_mem 402 (by decide +kernel))) (
  am_fc (am_okgf 52 (by decide +kernel) (am_mem 331 (by decide +kernel))) (
  am_fc (am_okv 55 (by decide +kernel) (by decide) (am_mem 1152 (by decide +kernel)) (am_mem 558 (by decide +kernel)) (am_mem 559 (by decide +kernel))) (
  am_fc (am_okgf 25 (by decide +kernel) (am_mem 406 (by decide +kernel))) (
  am_fc (am_okgf 25 (by decide +kernel) (am_mem 406 (by decide +kernel))) (
  am_fc (am_okgf 17 (by decide +kernel) (am_mem 403 (by decide +kernel))) (
  am_fc (am_okgf 11 (by decide +kernel) (am_mem 402 (by decide +kernel))) (
  am_fc (am_okgf 11 (by decide +kernel) (am_mem 402 (by decide +kernel))) (
  am_fc (am_okv 29 (by decide +kernel) (by decide) (am_mem 1145 (by decide +kernel)) (am_mem 662 (by decide +kernel)) (am_mem 663 (by decide +kernel))) (
  am_fc (am_okgf 11 (by decide +kernel) (am_mem 402 (by decide +kernel))) (
  am_fc (am_okv 61 (by decide +kernel) (by decide) (am_mem 1153 (by decide +kernel)) (am_mem 670 (by decide +kernel)) (am_mem 671 (by decide +kernel))) (
  am_fc (am_okgf 11 (by decide +kernel) (am_mem 402 (by decide +kernel))) (
  am_fc (am_okv 65 (by decide +kernel) (by decide) (am_mem 1154 (by decide +kernel)) (am_mem 602 (by decide +kernel)) (am_mem 603 (by decide +kernel))) (
  am_fc (am_okv 39 (by decide +kernel) (by decide) (am_mem 1147 (by decide +kernel)) (am_mem 1149 (by decide +kernel)) (am_mem 29 (by decide +kernel))) (
  am_fn))))))))))))))))))
def am_t6 : List (Nat × Instr × Nat) := am_p6_0 ++ (am_l6_0)
theorem am_ot6 : ∀ q ∈ am_t6, am_ok 6 q.1 q.2.1 q.2.2 := List.forall_mem_append.mpr ⟨am_op6_0, am_ol6_0⟩
def am_p7_0 : List (Nat × Instr × Nat) := [(0, .aload_n 0, 1), (4, .aload_n 0, 1), (5, .sipush 3160, 3), (8, .newarray .int, 2), (13, .return_, 1)]
theorem am_op7_0 : ∀ q ∈ am_p7_0, am_ok 7 q.1 q.2.1 q.2.2 := am_okps (by decide +kernel)
def am_l7_0 : List (Nat × Instr × Nat) := [(1, .invokespecial 1000, 3), (10, .putfield 20002, 3)]
theorem am_ol7_0 : ∀ q ∈ am_l7_0, am_ok 7 q.1 q.2.1 q.2.2 := show ∀ q ∈ ([(1, .invokespecial 1000, 3), (10, .putfield 20002, 3)] : List (Nat × Instr × Nat)), am_ok 7 q.1 q.2.1 q.2.2 from
  am_fc (am_oki0 3 (by decide +kernel) (am_mem 363 (by decide +kernel))) (
  am_fc (am_okpf 11 (by decide +kernel) (am_mem 364 (by decide +kernel))) (
  am_fn))
def am_t7 : List (Nat × Instr × Nat) := am_p7_0 ++ (am_l7_0)
theorem am_ot7 : ∀ q ∈ am_t7, am_ok 7 q.1 q.2.1 q.2.2 := List.forall_mem_append.mpr ⟨am_op7_0, am_ol7_0⟩
def am_p8_0 : List (Nat × Instr × Nat) := [(0, .aload_n 0, 1), (4, .bipush 40, 2), (6, .if_icmp .lt 26, 3), (9, .aload_n 0, 1), (13, .bipush 79, 2), (15, .aload_n 0, 1), (19, .iconst 0, 1), (20, .sipush 3081, 3), (26, .aload_n 0, 1), (27, .bipush 39, 2), (32, .aload_n 1, 1), (33, .aload_n 0, 1), (37, .aload_n 0, 1), (41, .bipush 79, 2), (43, .imul, 1), (47, .aload_n 0, 1), (48, .dup, 1), (52, .iconst 1, 1), (53, .iadd, 1), (57, .return_, 1)]
theorem am_op8_0 : ∀ q ∈ am_p8_0, am_ok 8 q.1 q.2.1 q.2.2 := am_okps (by decide +kernel)
def am_l8_0 : List (Nat × Instr × Nat) := [(1, .getfield 20010, 3), (10, .getfield 20002, 3), (16, .getfield 20002, 3), (23, .invokestatic 1001, 3), (29, .putfield 20010, 3), (34, .getfield 20002, 3), (38, .getfield 20010, 3), (44, .invokevirtual 21, 3), (49, .getfield 20010, 3), (54, .putfield 20010, 3)]
theorem am_ol8_0 : ∀ q ∈ am_l8_0, am_ok 8 q.1 q.2.1 q.2.2 := show ∀ q ∈ ([(1, .getfield 20010, 3), (10, .getfield 20002, 3), (16, .getfield 20002, 3), (23, .invokestatic 1001, 3), (29, .putfield 20010, 3), (34, .getfield 20002, 3), (38, .getfield 20010, 3), (44, .invokevirtual 21, 3), (49, .getfield 20010, 3), (54, .putfield 20010, 3)] : List (Nat × Instr × Nat)), am_ok 8 q.1 q.2.1 q.2.2 from
  am_fc (am_okgf 17 (by decide +kernel) (am_mem 365 (by decide +kernel))) (
  am_fc (am_okgf 11 (by decide +kernel) (am_mem 364 (by decide +kernel))) (
  am_fc (am_okgf 11 (by decide +kernel) (am_mem 364 (by decide +kernel))) (
  am_fc (am_oks0 21 (by decide +kernel) (am_mem 538 (by decide +kernel))) (
  am_fc (am_okpf 17 (by decide +kernel) (am_mem 365 (by decide +kernel))) (
  am_fc (am_okgf 11 (by decide +kernel) (am_mem 364 (by decide +kernel))) (
  am_fc (am_okgf 17 (by decide +kernel) (am_mem 365 (by decide +kernel))) (
  am_fc (am_okv 27 (by decide +kernel) (by decide) (am_mem 541 (by decide +kernel)) (am_mem 542 (by decide +kernel)) (am_mem 543 (by decide +kernel))) (
  am_fc (am_okgf 17 (by decide +kernel) (am_mem 365 (by decide +kernel))) (
  am_fc (am_okpf 17 (by decide +kernel) (am_mem 365 (by decide +kernel))) (
  am_fn))))))))))
def am_t8 : List (Nat × Instr × Nat) := am_p8_0 ++ (am_l8_0)
theorem am_ot8 : ∀ q ∈ am_t8, am_ok 8 q.1 q.2.1 q.2.2 := List.forall_mem_append.mpr ⟨am_op8_0, am_ol8_0⟩
def am_p9_0 : List (Nat × Instr × Nat) := [(0, .aload_n 0, 1), (4, .ifCond .le 28, 3), (7, .aload_n 0, 1), (8, .dup, 1), (12, .iconst 1, 1), (13, .isub, 1), (17, .aload_n 1, 1), (18, .aload_n 0, 1), (22, .aload_n 0, 1), (26, .bipush 79, 2), (28, .imul, 1), (32, .return_, 1)]
theorem am_op9_0 : ∀ q ∈ am_p9_0, am_ok 9 q.1 q.2.1 q.2.2 := am_okps (by decide +kernel)
def am_l9_0 : List (Nat × Instr × Nat) := [(1, .getfield 20010, 3), (9, .getfield 20010, 3), (14, .putfield 20010, 3), (19, .getfield 20002, 3), (23, .getfield 20010, 3), (29, .invokevirtual 22, 3)]
theorem am_ol9_0 : ∀ q ∈ am_l9_0, am_ok 9 q.1 q.2.1 q.2.2 := show ∀ q ∈ ([(1, .getfield 20010, 3), (9, .getfield 20010, 3), (14, .putfield 20010, 3), (19, .getfield 20002, 3), (23, .getfield 20010, 3), (29, .invokevirtual 22, 3)] : List (Nat × Instr × Nat)), am_ok 9 q.1 q.2.1 q.2.2 from
  am_fc (am_okgf 17 (by decide +kernel) (am_mem 365 (by decide +kernel))) (
  am_fc (am_okgf 17 (by decide +kernel) (am_mem 365 (by decide +kernel))) (
  am_fc (am_okpf 17 (by decide +kernel) (am_mem 365 (by decide +kernel))) (
  am_fc (am_okgf 11 (by decide +kernel) (am_mem 364 (by decide +kernel))) (
  am_fc (am_okgf 17 (by decide +kernel) (am_mem 365 (by decide +kernel))) (
  am_fc (am_okv 31 (by decide +kernel) (by decide) (am_mem 641 (by decide +kernel)) (am_mem 642 (by decide +kernel)) (am_mem 643 (by decide +kernel))) (
  am_fn))))))
def am_t9 : List (Nat × Instr × Nat) := am_p9_0 ++ (am_l9_0)
theorem am_ot9 : ∀ q ∈ am_t9, am_ok 9 q.1 q.2.1 q.2.2 := List.forall_mem_append.mpr ⟨am_op9_0, am_ol9_0⟩
def am_p10_0 : List (Nat × Instr × Nat) := [(0, .aload_n 1, 1), (4, .iconst 0, 1), (5, .aload_n 0, 1), (9, .iconst 0, 1), (10, .sipush 3160, 3), (16, .aload_n 0, 1), (17, .aload_n 1, 1), (24, .return_, 1)]
theorem am_op10_0 : ∀ q ∈ am_p10_0, am_ok 10 q.1 q.2.1 q.2.2 := am_okps (by decide +kernel)
def am_l10_0 : List (Nat × Instr × Nat) := [(1, .getfield 20002, 3), (6, .getfield 20002, 3), (13, .invokestatic 1001, 3), (18, .getfield 20010, 3), (21, .putfield 20010, 3)]
theorem am_ol10_0 : ∀ q ∈ am_l10_0, am_ok 10 q.1 q.2.1 q.2.2 := show ∀ q ∈ ([(1, .getfield 20002, 3), (6, .getfield 20002, 3), (13, .invokestatic 1001, 3), (18, .getfield 20010, 3), (21, .putfield 20010, 3)] : List (Nat × Instr × Nat)), am_ok 10 q.1 q.2.1 q.2.2 from
  am_fc (am_okgf 11 (by decide +kernel) (am_mem 364 (by decide +kernel))) (
  am_fc (am_okgf 11 (by decide +kernel) (am_mem 364 (by decide +kernel))) (
  am_fc (am_oks0 21 (by decide +kernel) (am_mem 538 (by decide +kernel))) (
  am_fc (am_okgf 17 (by decide +kernel) (am_mem 365 (by decide +kernel))) (
  am_fc (am_okpf 17 (by decide +kernel) (am_mem 365 (by decide +kernel))) (
  am_fn)))))
def am_t10 : List (Nat × Instr × Nat) := am_p10_0 ++ (am_l10_0)
theorem am_ot10 : ∀ q ∈ am_t10, am_ok 10 q.1 q.2.1 q.2.2 := List.forall_mem_append.mpr ⟨am_op10_0, am_ol10_0⟩
def am_p11_0 : List (Nat × Instr × Nat) := [(0, .aload_n 0, 1), (4, .aload_n 0, 1), (5, .bipush 10, 2), (7, .newarray .int, 2), (12, .return_, 1)]
theorem am_op11_0 : ∀ q ∈ am_p11_0, am_ok 11 q.1 q.2.1 q.2.2 := am_okps (by decide +kernel)
def am_l11_0 : List (Nat × Instr × Nat) := [(1, .invokespecial 1000, 3), (9, .putfield 30002, 3)]
theorem am_ol11_0 : ∀ q ∈ am_l11_0, am_ok 11 q.1 q.2.1 q.2.2 := show ∀ q ∈ ([(1, .invokespecial 1000, 3), (9, .putfield 30002, 3)] : List (Nat × Instr × Nat)), am_ok 11 q.1 q.2.1 q.2.2 from
  am_fc (am_oki0 3 (by decide +kernel) (am_mem 449 (by decide +kernel))) (
  am_fc (am_okpf 11 (by decide +kernel) (am_mem 450 (by decide +kernel))) (
  am_fn))
def am_t11 : List (Nat × Instr × Nat) := am_p11_0 ++ (am_l11_0)
theorem am_ot11 : ∀ q ∈ am_t11, am_ok 11 q.1 q.2.1 q.2.2 := List.forall_mem_append.mpr ⟨am_op11_0, am_ol11_0⟩
def am_p12_0 : List (Nat × Instr × Nat) := [(0, .iconst 0, 1), (1, .istore 4, 2), (3, .iconst 0, 1), (4, .istore 5, 2), (6, .iload 5, 2), (8, .iload_n 3, 1), (9, .if_icmp .ge 44, 3), (12, .iload 5, 2), (14, .bipush 6, 2), (16, .if_icmp .ge 37, 3), (19, .iload 4, 2), (21, .iload_n 1, 1), (22, .ifCond .gt 8, 3), (25, .bipush 10, 2), (27, .goto 17, 3), (30, .bipush 10, 2), (32, .aload_n 2, 1), (36, .iload 5, 2), (38, .iaload, 1), (39, .iload_n 1, 1), (40, .idiv, 1), (44, .iadd, 1), (45, .istore 4, 2), (47, .iinc 5 1, 3), (50, .goto (-44), 3), (53, .iload 4, 2), (55, .ireturn, 1)]
theorem am_op12_0 : ∀ q ∈ am_p12_0, am_ok 12 q.1 q.2.1 q.2.2 := am_okps (by decide +kernel)
def am_l12_0 : List (Nat × Instr × Nat) := [(33, .getfield 40012, 3), (41, .invokestatic 270, 3)]
theorem am_ol12_0 : ∀ q ∈ am_l12_0, am_ok 12 q.1 q.2.1 q.2.2 := show ∀ q ∈ ([(33, .getfield 40012, 3), (41, .invokestatic 270, 3)] : List (Nat × Instr × Nat)), am_ok 12 q.1 q.2.1 q.2.2 from
  am_fc (am_okgf 15 (by decide +kernel) (am_mem 334 (by decide +kernel))) (
  am_fc (am_oks 20 (by decide +kernel) (by decide) (am_mem 562 (by decide +kernel)) (Or.inl (am_mem 1316 (by decide +kernel)))) (
  am_fn))
def am_t12 : List (Nat × Instr × Nat) := am_p12_0 ++ (am_l12_0)
theorem am_ot12 : ∀ q ∈ am_t12, am_ok 12 q.1 q.2.1 q.2.2 := List.forall_mem_append.mpr ⟨am_op12_0, am_ol12_0⟩
def am_p13_0 : List (Nat × Instr × Nat) := [(0, .iconst 1, 1), (1, .istore_n 3, 1), (2, .iload_n 3, 1), (3, .bipush 9, 2), (5, .if_icmp .gt 26, 3), (8, .aload_n 0, 1), (12, .iload_n 3, 1), (13, .iload_n 3, 1), (14, .iconst 2, 1), (15, .isub, 1), (16, .aload_n 0, 1), (17, .iload_n 3, 1), (18, .aload_n 1, 1), (19, .iload_n 2, 1), (23, .imul, 1), (24, .iastore, 1), (25, .iinc 3 1, 3), (28, .goto (-26), 3), (31, .aload_n 0, 1), (32, .iconst 0, 1), (36, .aload_n 0, 1), (37, .iconst (-1), 1), (41, .iconst 1, 1), (42, .istore_n 3, 1), (43, .iload_n 3, 1), (44, .bipush 9, 2), (46, .if_icmp .gt 71, 3), (49, .iconst 1, 1), (50, .istore 4, 2), (52, .iload 4, 2), (54, .bipush 9, 2), (56, .if_icmp .gt 55, 3), (59, .aload_n 0, 1), (60, .iload_n 3, 1), (61, .iload 4, 2), (66, .ifCond .eq 39, 3), (69, .aload_n 0, 1), (70, .dup, 1), (74, .iconst 1, 1), (75, .iadd, 1), (79, .aload_n 0, 1), (80, .aload_n 0, 1), (84, .iconst (-1), 1), (85, .if_icmp .ne 13, 3), (88, .bipush 10, 2), (90, .iload_n 3, 1), (91, .imul, 1), (92, .iload 4, 2), (94, .iadd, 1), (95, .goto 7, 3), (98, .aload_n 0, 1), (105, .iinc 4 1, 3), (108, .goto (-56), 3), (111, .iinc 3 1, 3), (114, .goto (-71), 3), (117, .return_, 1)]
theorem am_op13_0 : ∀ q ∈ am_p13_0, am_ok 13 q.1 q.2.1 q.2.2 := am_okps (by decide +kernel)
def am_l13_0 : List (Nat × Instr × Nat) := [(9, .getfield 30002, 3), (20, .invokevirtual 12, 3), (33, .putfield 30010, 3), (38, .putfield 30020, 3), (63, .invokevirtual 14, 3), (71, .getfield 30010, 3), (76, .putfield 30010, 3), (81, .getfield 30020, 3), (99, .getfield 30020, 3), (102, .putfield 30020, 3)]
theorem am_ol13_0 : ∀ q ∈ am_l13_0, am_ok 13 q.1 q.2.1 q.2.2 := show ∀ q ∈ ([(9, .getfield 30002, 3), (20, .invokevirtual 12, 3), (33, .putfield 30010, 3), (38, .putfield 30020, 3), (63, .invokevirtual 14, 3), (71, .getfield 30010, 3), (76, .putfield 30010, 3), (81, .getfield 30020, 3), (99, .getfield 30020, 3), (102, .putfield 30020, 3)] : List (Nat × Instr × Nat)), am_ok 13 q.1 q.2.1 q.2.2 from
  am_fc (am_okgf 11 (by decide +kernel) (am_mem 450 (by decide +kernel))) (
  am_fc (am_okv 26 (by decide +kernel) (by decide) (am_mem 1312 (by decide +kernel)) (am_mem 1313 (by decide +kernel)) (am_mem 1314 (by decide +kernel))) (
  am_fc (am_okpf 30 (by decide +kernel) (am_mem 451 (by decide +kernel))) (
  am_fc (am_okpf 34 (by decide +kernel) (am_mem 453 (by decide +kernel))) (
  am_fc (am_okv 37 (by decide +kernel) (by decide) (am_mem 1317 (by decide +kernel)) (am_mem 1319 (by decide +kernel)) (am_mem 37 (by decide +kernel))) (
  am_fc (am_okgf 30 (by decide +kernel) (am_mem 451 (by decide +kernel))) (
  am_fc (am_okpf 30 (by decide +kernel) (am_mem 451 (by decide +kernel))) (
  am_fc (am_okgf 34 (by decide +kernel) (am_mem 453 (by decide +kernel))) (
  am_fc (am_okgf 34 (by decide +kernel) (am_mem 453 (by decide +kernel))) (
  am_fc (am_okpf 34 (by decide +kernel) (am_mem 453 (by decide +kernel))) (
  am_fn))))))))))
def am_t13 : List (Nat × Instr × Nat) := am_p13_0 ++ (am_l13_0)
theorem am_ot13 : ∀ q ∈ am_t13, am_ok 13 q.1 q.2.1 q.2.2 := List.forall_mem_append.mpr ⟨am_op13_0, am_ol13_0⟩
def am_p14_0 : List (Nat × Instr × Nat) := [(0, .iconst 1, 1), (1, .istore_n 3, 1), (2, .iload_n 3, 1), (3, .bipush 9, 2), (5, .if_icmp .gt 41, 3), (8, .aload_n 0, 1), (9, .iload_n 3, 1), (10, .iload_n 2, 1), (14, .aload_n 0, 1), (15, .iload_n 1, 1), (16, .iload_n 2, 1), (20, .if_icmp .gt 18, 3), (23, .aload_n 0, 1), (24, .iload_n 1, 1), (25, .iload_n 3, 1), (29, .aload_n 0, 1), (30, .iload_n 1, 1), (31, .iload_n 2, 1), (35, .if_icmp .le 5, 3), (38, .iconst 0, 1), (39, .ireturn, 1), (40, .iinc 3 1, 3), (43, .goto (-41), 3), (46, .iconst 1, 1), (47, .ireturn, 1)]
theorem am_op14_0 : ∀ q ∈ am_p14_0, am_ok 14 q.1 q.2.1 q.2.2 := am_okps (by decide +kernel)
def am_l14_0 : List (Nat × Instr × Nat) := [(11, .invokevirtual 15, 3), (17, .invokevirtual 15, 3), (26, .invokevirtual 16, 3), (32, .invokevirtual 16, 3)]
theorem am_ol14_0 : ∀ q ∈ am_l14_0, am_ok 14 q.1 q.2.1 q.2.2 := show ∀ q ∈ ([(11, .invokevirtual 15, 3), (17, .invokevirtual 15, 3), (26, .invokevirtual 16, 3), (32, .invokevirtual 16, 3)] : List (Nat × Instr × Nat)), am_ok 14 q.1 q.2.1 q.2.2 from
  am_fc (am_okv 41 (by decide +kernel) (by decide) (am_mem 1321 (by decide +kernel)) (am_mem 1323 (by decide +kernel)) (am_mem 38 (by decide +kernel))) (
  am_fc (am_okv 41 (by decide +kernel) (by decide) (am_mem 1321 (by decide +kernel)) (am_mem 1323 (by decide +kernel)) (am_mem 38 (by decide +kernel))) (
  am_fc (am_okv 44 (by decide +kernel) (by decide) (am_mem 1325 (by decide +kernel)) (am_mem 1327 (by decide +kernel)) (am_mem 39 (by decide +kernel))) (
  am_fc (am_okv 44 (by decide +kernel) (by decide) (am_mem 1325 (by decide +kernel)) (am_mem 1327 (by decide +kernel)) (am_mem 39 (by decide +kernel))) (
  am_fn))))
def am_t14 : List (Nat × Instr × Nat) := am_p14_0 ++ (am_l14_0)
theorem am_ot14 : ∀ q ∈ am_t14, am_ok 14 q.1 q.2.1 q.2.2 := List.forall_mem_append.mpr ⟨am_op14_0, am_ol14_0⟩
def am_p15_0 : List (Nat × Instr × Nat) := [(0, .iload_n 1, 1), (1, .iload_n 2, 1), (2, .if_icmp .gt 12, 3), (5, .aload_n 0, 1), (9, .iload_n 1, 1), (10, .iaload, 1), (11, .goto 4, 3), (14, .iconst 0, 1), (15, .ireturn, 1)]
theorem am_op15_0 : ∀ q ∈ am_p15_0, am_ok 15 q.1 q.2.1 q.2.2 := am_okps (by decide +kernel)
def am_l15_0 : List (Nat × Instr × Nat) := [(6, .getfield 30002, 3)]
theorem am_ol15_0 : ∀ q ∈ am_l15_0, am_ok 15 q.1 q.2.1 q.2.2 := show ∀ q ∈ ([(6, .getfield 30002, 3)] : List (Nat × Instr × Nat)), am_ok 15 q.1 q.2.1 q.2.2 from
  am_fc (am_okgf 11 (by decide +kernel) (am_mem 450 (by decide +kernel))) (
  am_fn)
def am_t15 : List (Nat × Instr × Nat) := am_p15_0 ++ (am_l15_0)
theorem am_ot15 : ∀ q ∈ am_t15, am_ok 15 q.1 q.2.1 q.2.2 := List.forall_mem_append.mpr ⟨am_op15_0, am_ol15_0⟩
def am_p16_0 : List (Nat × Instr × Nat) := [(0, .iload_n 2, 1), (1, .iload_n 1, 1), (2, .if_icmp .ge 12, 3), (5, .aload_n 0, 1), (9, .iload_n 2, 1), (10, .iaload, 1), (11, .goto 4, 3), (14, .iconst 0, 1), (15, .ireturn, 1)]
theorem am_op16_0 : ∀ q ∈ am_p16_0, am_ok 16 q.1 q.2.1 q.2.2 := am_okps (by decide +kernel)
def am_l16_0 : List (Nat × Instr × Nat) := [(6, .getfield 30002, 3)]
theorem am_ol16_0 : ∀ q ∈ am_l16_0, am_ok 16 q.1 q.2.1 q.2.2 := show ∀ q ∈ ([(6, .getfield 30002, 3)] : List (Nat × Instr × Nat)), am_ok 16 q.1 q.2.1 q.2.2 from
  am_fc (am_okgf 11 (by decide +kernel) (am_mem 450 (by decide +kernel))) (
  am_fn)
def am_t16 : List (Nat × Instr × Nat) := am_p16_0 ++ (am_l16_0)
theorem am_ot16 : ∀ q ∈ am_t16, am_ok 16 q.1 q.2.1 q.2.2 := List.forall_mem_append.mpr ⟨am_op16_0, am_ol16_0⟩
def am_p17_0 : List (Nat × Instr × Nat) := [(0, .aload_n 0, 1), (4, .aload_n 0, 1), (5, .bipush 6, 2), (7, .newarray .int, 2), (12, .aload_n 0, 1), (13, .bipush 6, 2), (15, .newarray .int, 2), (20, .aload_n 0, 1), (21, .bipush 6, 2), (23, .newarray .int, 2), (28, .aload_n 0, 1), (29, .bipush 60, 2), (31, .newarray .int, 2), (36, .aload_n 0, 1), (37, .iconst 4, 1), (38, .newarray .int, 2), (43, .aload_n 0, 1), (44, .iconst 4, 1), (45, .newarray .int, 2), (50, .iconst 0, 1), (51, .istore_n 1, 1), (52, .iload_n 1, 1), (53, .bipush 60, 2), (55, .if_icmp .ge 16, 3), (58, .aload_n 0, 1), (62, .iload_n 1, 1), (63, .iconst (-1), 1), (64, .iastore, 1), (65, .iinc 1 1, 3), (68, .goto (-16), 3), (71, .return_, 1)]
theorem am_op17_0 : ∀ q ∈ am_p17_0, am_ok 17 q.1 q.2.1 q.2.2 := am_okps (by decide +kernel)
def am_l17_0 : List (Nat × Instr × Nat) := [(1, .invokespecial 1000, 3), (9, .putfield 40012, 3), (17, .putfield 40022, 3), (25, .putfield 40032, 3), (33, .putfield 40042, 3), (40, .putfield 40052, 3), (47, .putfield 40062, 3), (59, .getfield 40042, 3)]
theorem am_ol17_0 : ∀ q ∈ am_l17_0, am_ok 17 q.1 q.2.1 q.2.2 := show ∀ q ∈ ([(1, .invokespecial 1000, 3), (9, .putfield 40012, 3), (17, .putfield 40022, 3), (25, .putfield 40032, 3), (33, .putfield 40042, 3), (40, .putfield 40052, 3), (47, .putfield 40062, 3), (59, .getfield 40042, 3)] : List (Nat × Instr × Nat)), am_ok 17 q.1 q.2.1 q.2.2 from
  am_fc (am_oki0 5 (by decide +kernel) (am_mem 329 (by decide +kernel))) (
  am_fc (am_okpf 11 (by decide +kernel) (am_mem 333 (by decide +kernel))) (
  am_fc (am_okpf 15 (by decide +kernel) (am_mem 336 (by decide +kernel))) (
  am_fc (am_okpf 18 (by decide +kernel) (am_mem 338 (by decide +kernel))) (
  am_fc (am_okpf 21 (by decide +kernel) (am_mem 340 (by decide +kernel))) (
  am_fc (am_okpf 24 (by decide +kernel) (am_mem 341 (by decide +kernel))) (
  am_fc (am_okpf 27 (by decide +kernel) (am_mem 342 (by decide +kernel))) (
  am_fc (am_okgf 21 (by decide +kernel) (am_mem 340 (by decide +kernel))) (
  am_fn))))))))
def am_t17 : List (Nat × Instr × Nat) := am_p17_0 ++ (am_l17_0)
theorem am_ot17 : ∀ q ∈ am_t17, am_ok 17 q.1 q.2.1 q.2.2 := List.forall_mem_append.mpr ⟨am_op17_0, am_ol17_0⟩
def am_p18_0 : List (Nat × Instr × Nat) := [(0, .aload_n 0, 1), (1, .iconst 0, 1), (5, .aload_n 1, 1), (9, .iconst 0, 1), (10, .aload_n 0, 1), (14, .iconst 0, 1), (15, .bipush 6, 2), (20, .aload_n 1, 1), (24, .iconst 0, 1), (25, .aload_n 0, 1), (29, .iconst 0, 1), (30, .bipush 6, 2), (35, .aload_n 0, 1), (39, .iconst 0, 1), (43, .aload_n 0, 1), (47, .iconst (-1), 1), (51, .return_, 1)]
theorem am_op18_0 : ∀ q ∈ am_p18_0, am_ok 18 q.1 q.2.1 q.2.2 := am_okps (by decide +kernel)
def am_l18_0 : List (Nat × Instr × Nat) := [(2, .putfield 40000, 3), (6, .getfield 80052, 3), (11, .getfield 40012, 3), (17, .invokestatic 1001, 3), (21, .getfield 80062, 3), (26, .getfield 40022, 3), (32, .invokestatic 1001, 3), (36, .getfield 40032, 3), (40, .invokestatic 271, 3), (44, .getfield 40042, 3), (48, .invokestatic 271, 3)]
theorem am_ol18_0 : ∀ q ∈ am_l18_0, am_ok 18 q.1 q.2.1 q.2.2 := show ∀ q ∈ ([(2, .putfield 40000, 3), (6, .getfield 80052, 3), (11, .getfield 40012, 3), (17, .invokestatic 1001, 3), (21, .getfield 80062, 3), (26, .getfield 40022, 3), (32, .invokestatic 1001, 3), (36, .getfield 40032, 3), (40, .invokestatic 271, 3), (44, .getfield 40042, 3), (48, .invokestatic 271, 3)] : List (Nat × Instr × Nat)), am_ok 18 q.1 q.2.1 q.2.2 from
  am_fc (am_okpf 30 (by decide +kernel) (am_mem 330 (by decide +kernel))) (
  am_fc (am_okgf 34 (by decide +kernel) (am_mem 248 (by decide +kernel))) (
  am_fc (am_okgf 11 (by decide +kernel) (am_mem 333 (by decide +kernel))) (
  am_fc (am_oks0 37 (by decide +kernel) (am_mem 545 (by decide +kernel))) (
  am_fc (am_okgf 43 (by decide +kernel) (am_mem 251 (by decide +kernel))) (
  am_fc (am_okgf 15 (by decide +kernel) (am_mem 336 (by decide +kernel))) (
  am_fc (am_oks0 37 (by decide +kernel) (am_mem 545 (by decide +kernel))) (
  am_fc (am_okgf 18 (by decide +kernel) (am_mem 338 (by decide +kernel))) (
  am_fc (am_oks 44 (by decide +kernel) (by decide) (am_mem 555 (by decide +kernel)) (Or.inl (am_mem 554 (by decide +kernel)))) (
  am_fc (am_okgf 21 (by decide +kernel) (am_mem 340 (by decide +kernel))) (
  am_fc (am_oks 44 (by decide +kernel) (by decide) (am_mem 555 (by decide +kernel)) (Or.inl (am_mem 554 (by decide +kernel)))) (
  am_fn)))))))))))
def am_t18 : List (Nat × Instr × Nat) := am_p18_0 ++ (am_l18_0)
theorem am_ot18 : ∀ q ∈ am_t18, am_ok 18 q.1 q.2.1 q.2.2 := List.forall_mem_append.mpr ⟨am_op18_0, am_ol18_0⟩
def am_p19_0 : List (Nat × Instr × Nat) := [(0, .aload_n 0, 1), (1, .aload_n 1, 1), (8, .aload_n 1, 1), (12, .iconst 0, 1), (13, .aload_n 0, 1), (17, .iconst 0, 1), (18, .bipush 6, 2), (23, .aload_n 1, 1), (27, .iconst 0, 1), (28, .aload_n 0, 1), (32, .iconst 0, 1), (33, .bipush 6, 2), (38, .aload_n 1, 1), (42, .iconst 0, 1), (43, .aload_n 0, 1), (47, .iconst 0, 1), (48, .bipush 6, 2), (53, .aload_n 1, 1), (57, .iconst 0, 1), (58, .aload_n 0, 1), (62, .iconst 0, 1), (63, .bipush 60, 2), (68, .return_, 1)]
theorem am_op19_0 : ∀ q ∈ am_p19_0, am_ok 19 q.1 q.2.1 q.2.2 := am_okps (by decide +kernel)
def am_l19_0 : List (Nat × Instr × Nat) := [(2, .getfield 40000, 3), (5, .putfield 40000, 3), (9, .getfield 40012, 3), (14, .getfield 40012, 3), (20, .invokestatic 1001, 3), (24, .getfield 40022, 3), (29, .getfield 40022, 3), (35, .invokestatic 1001, 3), (39, .getfield 40032, 3), (44, .getfield 40032, 3), (50, .invokestatic 1001, 3), (54, .getfield 40042, 3), (59, .getfield 40042, 3), (65, .invokestatic 1001, 3)]
theorem am_ol19_0 : ∀ q ∈ am_l19_0, am_ok 19 q.1 q.2.1 q.2.2 := show ∀ q ∈ ([(2, .getfield 40000, 3), (5, .putfield 40000, 3), (9, .getfield 40012, 3), (14, .getfield 40012, 3), (20, .invokestatic 1001, 3), (24, .getfield 40022, 3), (29, .getfield 40022, 3), (35, .invokestatic 1001, 3), (39, .getfield 40032, 3), (44, .getfield 40032, 3), (50, .invokestatic 1001, 3), (54, .getfield 40042, 3), (59, .getfield 40042, 3), (65, .invokestatic 1001, 3)] : List (Nat × Instr × Nat)), am_ok 19 q.1 q.2.1 q.2.2 from
  am_fc (am_okgf 30 (by decide +kernel) (am_mem 330 (by decide +kernel))) (
  am_fc (am_okpf 30 (by decide +kernel) (am_mem 330 (by decide +kernel))) (
  am_fc (am_okgf 11 (by decide +kernel) (am_mem 333 (by decide +kernel))) (
  am_fc (am_okgf 11 (by decide +kernel) (am_mem 333 (by decide +kernel))) (
  am_fc (am_oks0 37 (by decide +kernel) (am_mem 545 (by decide +kernel))) (
  am_fc (am_okgf 15 (by decide +kernel) (am_mem 336 (by decide +kernel))) (
  am_fc (am_okgf 15 (by decide +kernel) (am_mem 336 (by decide +kernel))) (
  am_fc (am_oks0 37 (by decide +kernel) (am_mem 545 (by decide +kernel))) (
  am_fc (am_okgf 18 (by decide +kernel) (am_mem 338 (by decide +kernel))) (
  am_fc (am_okgf 18 (by decide +kernel) (am_mem 338 (by decide +kernel))) (
  am_fc (am_oks0 37 (by decide +kernel) (am_mem 545 (by decide +kernel))) (
  am_fc (am_okgf 21 (by decide +kernel) (am_mem 340 (by decide +kernel))) (
  am_fc (am_okgf 21 (by decide +kernel) (am_mem 340 (by decide +kernel))) (
  am_fc (am_oks0 37 (by decide +kernel) (am_mem 545 (by decide +kernel))) (
  am_fn))))))))))))))
def am_t19 : List (Nat × Instr × Nat) := am_p19_0 ++ (am_l19_0)
theorem am_ot19 : ∀ q ∈ am_t19, am_ok 19 q.1 q.2.1 q.2.2 := List.forall_mem_append.mpr ⟨am_op19_0, am_ol19_0⟩
def am_p20_0 : List (Nat × Instr × Nat) := [(0, .aload_n 0, 1), (1, .aload_n 1, 1), (8, .iconst 0, 1), (9, .istore_n 3, 1), (10, .iload_n 3, 1), (11, .bipush 10, 2), (13, .if_icmp .ge 21, 3), (16, .aload_n 0, 1), (17, .iload_n 2, 1), (18, .iload_n 3, 1), (19, .aload_n 1, 1), (20, .iload_n 2, 1), (21, .iload_n 3, 1), (28, .iinc 3 1, 3), (31, .goto (-21), 3), (34, .return_, 1)]
theorem am_op20_0 : ∀ q ∈ am_p20_0, am_ok 20 q.1 q.2.1 q.2.2 := am_okps (by decide +kernel)
def am_l20_0 : List (Nat × Instr × Nat) := [(2, .getfield 40000, 3), (5, .putfield 40000, 3), (22, .invokevirtual 23, 3), (25, .invokevirtual 24, 3)]
theorem am_ol20_0 : ∀ q ∈ am_l20_0, am_ok 20 q.1 q.2.1 q.2.2 := show ∀ q ∈ ([(2, .getfield 40000, 3), (5, .putfield 40000, 3), (22, .invokevirtual 23, 3), (25, .invokevirtual 24, 3)] : List (Nat × Instr × Nat)), am_ok 20 q.1 q.2.1 q.2.2 from
  am_fc (am_okgf 30 (by decide +kernel) (am_mem 330 (by decide +kernel))) (
  am_fc (am_okpf 30 (by decide +kernel) (am_mem 330 (by decide +kernel))) (
  am_fc (am_okv 50 (by decide +kernel) (by decide) (am_mem 579 (by decide +kernel)) (am_mem 580 (by decide +kernel)) (am_mem 581 (by decide +kernel))) (
  am_fc (am_okv 54 (by decide +kernel) (by decide) (am_mem 589 (by decide +kernel)) (am_mem 591 (by decide +kernel)) (am_mem 3 (by decide +kernel))) (
  am_fn))))
def am_t20 : List (Nat × Instr × Nat) := am_p20_0 ++ (am_l20_0)
theorem am_ot20 : ∀ q ∈ am_t20, am_ok 20 q.1 q.2.1 q.2.2 := List.forall_mem_append.mpr ⟨am_op20_0, am_ol20_0⟩
def am_p21_0 : List (Nat × Instr × Nat) := [(0, .iload_n 2, 1), (1, .ifCond .lt 12, 3), (4, .iload_n 2, 1), (5, .bipush 79, 2), (7, .iadd, 1), (8, .aload_n 1, 1), (9, .arraylength, 1), (10, .if_icmp .le 4, 3), (13, .return_, 1), (14, .aload_n 1, 1), (15, .iload_n 2, 1), (16, .aload_n 0, 1), (20, .iastore, 1), (21, .aload_n 0, 1), (25, .iconst 0, 1), (26, .aload_n 1, 1), (27, .iload_n 2, 1), (28, .iconst 1, 1), (29, .iadd, 1), (30, .bipush 6, 2), (35, .aload_n 0, 1), (39, .iconst 0, 1), (40, .aload_n 1, 1), (41, .iload_n 2, 1), (42, .iconst 1, 1), (43, .iadd, 1), (44, .bipush 6, 2), (46, .iadd, 1), (47, .bipush 6, 2), (52, .aload_n 0, 1), (56, .iconst 0, 1), (57, .aload_n 1, 1), (58, .iload_n 2, 1), (59, .iconst 1, 1), (60, .iadd, 1), (61, .bipush 12, 2), (63, .iadd, 1), (64, .bipush 6, 2), (69, .aload_n 0, 1), (73, .iconst 0, 1), (74, .aload_n 1, 1), (75, .iload_n 2, 1), (76, .iconst 1, 1), (77, .iadd, 1), (78, .bipush 18, 2), (80, .iadd, 1), (81, .bipush 60, 2), (86, .return_, 1)]
theorem am_op21_0 : ∀ q ∈ am_p21_0, am_ok 21 q.1 q.2.1 q.2.2 := am_okps (by decide +kernel)
def am_l21_0 : List (Nat × Instr × Nat) := [(17, .getfield 40000, 3), (22, .getfield 40012, 3), (32, .invokestatic 1001, 3), (36, .getfield 40022, 3), (49, .invokestatic 1001, 3), (53, .getfield 40032, 3), (66, .invokestatic 1001, 3), (70, .getfield 40042, 3), (83, .invokestatic 1001, 3)]
theorem am_ol21_0 : ∀ q ∈ am_l21_0, am_ok 21 q.1 q.2.1 q.2.2 := show ∀ q ∈ ([(17, .getfield 40000, 3), (22, .getfield 40012, 3), (32, .invokestatic 1001, 3), (36, .getfield 40022, 3), (49, .invokestatic 1001, 3), (53, .getfield 40032, 3), (66, .invokestatic 1001, 3), (70, .getfield 40042, 3), (83, .invokestatic 1001, 3)] : List (Nat × Instr × Nat)), am_ok 21 q.1 q.2.1 q.2.2 from
  am_fc (am_okgf 30 (by decide +kernel) (am_mem 330 (by decide +kernel))) (
  am_fc (am_okgf 11 (by decide +kernel) (am_mem 333 (by decide +kernel))) (
  am_fc (am_oks0 37 (by decide +kernel) (am_mem 545 (by decide +kernel))) (
  am_fc (am_okgf 15 (by decide +kernel) (am_mem 336 (by decide +kernel))) (
  am_fc (am_oks0 37 (by decide +kernel) (am_mem 545 (by decide +kernel))) (
  am_fc (am_okgf 18 (by decide +kernel) (am_mem 338 (by decide +kernel))) (
  am_fc (am_oks0 37 (by decide +kernel) (am_mem 545 (by decide +kernel))) (
  am_fc (am_okgf 21 (by decide +kernel) (am_mem 340 (by decide +kernel))) (
  am_fc (am_oks0 37 (by decide +kernel) (am_mem 545 (by decide +kernel))) (
  am_fn)))))))))
def am_t21 : List (Nat × Instr × Nat) := am_p21_0 ++ (am_l21_0)
theorem am_ot21 : ∀ q ∈ am_t21, am_ok 21 q.1 q.2.1 q.2.2 := List.forall_mem_append.mpr ⟨am_op21_0, am_ol21_0⟩
def am_p22_0 : List (Nat × Instr × Nat) := [(0, .iload_n 2, 1), (1, .ifCond .lt 12, 3), (4, .iload_n 2, 1), (5, .bipush 79, 2), (7, .iadd, 1), (8, .aload_n 1, 1), (9, .arraylength, 1), (10, .if_icmp .le 4, 3), (13, .return_, 1), (14, .aload_n 0, 1), (15, .aload_n 1, 1), (16, .iload_n 2, 1), (17, .iaload, 1), (21, .aload_n 1, 1), (22, .iload_n 2, 1), (23, .iconst 1, 1), (24, .iadd, 1), (25, .aload_n 0, 1), (29, .iconst 0, 1), (30, .bipush 6, 2), (35, .aload_n 1, 1), (36, .iload_n 2, 1), (37, .iconst 1, 1), (38, .iadd, 1), (39, .bipush 6, 2), (41, .iadd, 1), (42, .aload_n 0, 1), (46, .iconst 0, 1), (47, .bipush 6, 2), (52, .aload_n 1, 1), (53, .iload_n 2, 1), (54, .iconst 1, 1), (55, .iadd, 1), (56, .bipush 12, 2), (58, .iadd, 1), (59, .aload_n 0, 1), (63, .iconst 0, 1), (64, .bipush 6, 2), (69, .aload_n 1, 1), (70, .iload_n 2, 1), (71, .iconst 1, 1), (72, .iadd, 1), (73, .bipush 18, 2), (75, .iadd, 1), (76, .aload_n 0, 1), (80, .iconst 0, 1), (81, .bipush 60, 2), (86, .return_, 1)]
theorem am_op22_0 : ∀ q ∈ am_p22_0, am_ok 22 q.1 q.2.1 q.2.2 := am_okps (by decide +kernel)
def am_l22_0 : List (Nat × Instr × Nat) := [(18, .putfield 40000, 3), (26, .getfield 40012, 3), (32, .invokestatic 1001, 3), (43, .getfield 40022, 3), (49, .invokestatic 1001, 3), (60, .getfield 40032, 3), (66, .invokestatic 1001, 3), (77, .getfield 40042, 3), (83, .invokestatic 1001, 3)]
theorem am_ol22_0 : ∀ q ∈ am_l22_0, am_ok 22 q.1 q.2.1 q.2.2 := show ∀ q ∈ ([(18, .putfield 40000, 3), (26, .getfield 40012, 3), (32, .invokestatic 1001, 3), (43, .getfield 40022, 3), (49, .invokestatic 1001, 3), (60, .getfield 40032, 3), (66, .invokestatic 1001, 3), (77, .getfield 40042, 3), (83, .invokestatic 1001, 3)] : List (Nat × Instr × Nat)), am_ok 22 q.1 q.2.1 q.2.2 from
  am_fc (am_okpf 30 (by decide +kernel) (am_mem 330 (by decide +kernel))) (
  am_fc (am_okgf 11 (by decide +kernel) (am_mem 333 (by decide +kernel))) (
  am_fc (am_oks0 37 (by decide +kernel) (am_mem 545 (by decide +kernel))) (
  am_fc (am_okgf 15 (by decide +kernel) (am_mem 336 (by decide +kernel))) (
  am_fc (am_oks0 37 (by decide +kernel) (am_mem 545 (by decide +kernel))) (
  am_fc (am_okgf 18 (by decide +kernel) (am_mem 338 (by decide +kernel))) (
  am_fc (am_oks0 37 (by decide +kernel) (am_mem 545 (by decide +kernel))) (
  am_fc (am_okgf 21 (by decide +kernel) (am_mem 340 (by decide +kernel))) (
  am_fc (am_oks0 37 (by decide +kernel) (am_mem 545 (by decide +kernel))) (
  am_fn)))))))))
def am_t22 : List (Nat × Instr × Nat) := am_p22_0 ++ (am_l22_0)
theorem am_ot22 : ∀ q ∈ am_t22, am_ok 22 q.1 q.2.1 q.2.2 := List.forall_mem_append.mpr ⟨am_op22_0, am_ol22_0⟩
def am_p23_0 : List (Nat × Instr × Nat) := [(0, .iload_n 1, 1), (1, .bipush 10, 2), (3, .imul, 1), (4, .iload_n 2, 1), (5, .iadd, 1), (6, .istore_n 3, 1), (7, .iload_n 3, 1), (8, .ifCond .lt 18, 3), (11, .iload_n 3, 1), (12, .bipush 60, 2), (14, .if_icmp .ge 12, 3), (17, .aload_n 0, 1), (21, .iload_n 3, 1), (22, .iaload, 1), (23, .goto 4, 3), (26, .iconst (-1), 1), (27, .ireturn, 1)]
theorem am_op23_0 : ∀ q ∈ am_p23_0, am_ok 23 q.1 q.2.1 q.2.2 := am_okps (by decide +kernel)
def am_l23_0 : List (Nat × Instr × Nat) := [(18, .getfield 40042, 3)]
theorem am_ol23_0 : ∀ q ∈ am_l23_0, am_ok 23 q.1 q.2.1 q.2.2 := show ∀ q ∈ ([(18, .getfield 40042, 3)] : List (Nat × Instr × Nat)), am_ok 23 q.1 q.2.1 q.2.2 from
  am_fc (am_okgf 21 (by decide +kernel) (am_mem 340 (by decide +kernel))) (
  am_fn)
def am_t23 : List (Nat × Instr × Nat) := am_p23_0 ++ (am_l23_0)
theorem am_ot23 : ∀ q ∈ am_t23, am_ok 23 q.1 q.2.1 q.2.2 := List.forall_mem_append.mpr ⟨am_op23_0, am_ol23_0⟩
def am_p24_0 : List (Nat × Instr × Nat) := [(0, .iload_n 1, 1), (1, .bipush 10, 2), (3, .imul, 1), (4, .iload_n 2, 1), (5, .iadd, 1), (6, .istore 4, 2), (8, .iload 4, 2), (10, .ifCond .lt 18, 3), (13, .iload 4, 2), (15, .bipush 60, 2), (17, .if_icmp .ge 11, 3), (20, .aload_n 0, 1), (24, .iload 4, 2), (26, .iload_n 3, 1), (27, .iastore, 1), (28, .return_, 1)]
theorem am_op24_0 : ∀ q ∈ am_p24_0, am_ok 24 q.1 q.2.1 q.2.2 := am_okps (by decide +kernel)
def am_l24_0 : List (Nat × Instr × Nat) := [(21, .getfield 40042, 3)]
theorem am_ol24_0 : ∀ q ∈ am_l24_0, am_ok 24 q.1 q.2.1 q.2.2 := show ∀ q ∈ ([(21, .getfield 40042, 3)] : List (Nat × Instr × Nat)), am_ok 24 q.1 q.2.1 q.2.2 from
  am_fc (am_okgf 21 (by decide +kernel) (am_mem 340 (by decide +kernel))) (
  am_fn)
def am_t24 : List (Nat × Instr × Nat) := am_p24_0 ++ (am_l24_0)
theorem am_ot24 : ∀ q ∈ am_t24, am_ok 24 q.1 q.2.1 q.2.2 := List.forall_mem_append.mpr ⟨am_op24_0, am_ol24_0⟩
def am_p25_0 : List (Nat × Instr × Nat) := [(0, .iload_n 0, 1), (1, .iconst (-1), 1), (2, .if_icmp .ge 7, 3), (5, .iconst 1, 1), (6, .goto 4, 3), (9, .iconst 0, 1), (10, .ireturn, 1)]
theorem am_op25_0 : ∀ q ∈ am_p25_0, am_ok 25 q.1 q.2.1 q.2.2 := am_okps (by decide +kernel)
def am_t25 : List (Nat × Instr × Nat) := am_p25_0
theorem am_ot25 : ∀ q ∈ am_t25, am_ok 25 q.1 q.2.1 q.2.2 := am_op25_0
def am_p26_0 : List (Nat × Instr × Nat) := [(0, .iload_n 0, 1), (4, .ifCond .eq 10, 3), (7, .bipush (-2), 2), (9, .iload_n 0, 1), (10, .isub, 1), (11, .goto 4, 3), (14, .iload_n 0, 1), (15, .ireturn, 1)]
theorem am_op26_0 : ∀ q ∈ am_p26_0, am_ok 26 q.1 q.2.1 q.2.2 := am_okps (by decide +kernel)
def am_l26_0 : List (Nat × Instr × Nat) := [(1, .invokestatic 25, 3)]
theorem am_ol26_0 : ∀ q ∈ am_l26_0, am_ok 26 q.1 q.2.1 q.2.2 := show ∀ q ∈ ([(1, .invokestatic 25, 3)] : List (Nat × Instr × Nat)), am_ok 26 q.1 q.2.1 q.2.2 from
  am_fc (am_oks 58 (by decide +kernel) (by decide) (am_mem 587 (by decide +kernel)) (Or.inl (am_mem 586 (by decide +kernel)))) (
  am_fn)
def am_t26 : List (Nat × Instr × Nat) := am_p26_0 ++ (am_l26_0)
theorem am_ot26 : ∀ q ∈ am_t26, am_ok 26 q.1 q.2.1 q.2.2 := List.forall_mem_append.mpr ⟨am_op26_0, am_ol26_0⟩
def am_p27_0 : List (Nat × Instr × Nat) := [(0, .aload_n 0, 1), (1, .iload_n 1, 1), (2, .iload_n 2, 1), (6, .iconst (-1), 1), (7, .if_icmp .eq 7, 3), (10, .iconst 1, 1), (11, .goto 4, 3), (14, .iconst 0, 1), (15, .ireturn, 1)]
theorem am_op27_0 : ∀ q ∈ am_p27_0, am_ok 27 q.1 q.2.1 q.2.2 := am_okps (by decide +kernel)
def am_l27_0 : List (Nat × Instr × Nat) := [(3, .invokevirtual 23, 3)]
theorem am_ol27_0 : ∀ q ∈ am_l27_0, am_ok 27 q.1 q.2.1 q.2.2 := show ∀ q ∈ ([(3, .invokevirtual 23, 3)] : List (Nat × Instr × Nat)), am_ok 27 q.1 q.2.1 q.2.2 from
  am_fc (am_okv 50 (by decide +kernel) (by decide) (am_mem 579 (by decide +kernel)) (am_mem 580 (by decide +kernel)) (am_mem 581 (by decide +kernel))) (
  am_fn)
def am_t27 : List (Nat × Instr × Nat) := am_p27_0 ++ (am_l27_0)
theorem am_ot27 : ∀ q ∈ am_t27, am_ok 27 q.1 q.2.1 q.2.2 := List.forall_mem_append.mpr ⟨am_op27_0, am_ol27_0⟩
def am_p28_0 : List (Nat × Instr × Nat) := [(0, .iconst 0, 1), (1, .istore_n 2, 1), (2, .iconst 0, 1), (3, .istore_n 3, 1), (4, .iload_n 3, 1), (5, .bipush 10, 2), (7, .if_icmp .ge 25, 3), (10, .aload_n 0, 1), (11, .iload_n 1, 1), (12, .iload_n 3, 1), (16, .iconst (-1), 1), (17, .if_icmp .eq 9, 3), (20, .iload_n 2, 1), (21, .iconst 1, 1), (22, .iload_n 3, 1), (23, .ishl, 1), (24, .ior, 1), (25, .istore_n 2, 1), (26, .iinc 3 1, 3), (29, .goto (-25), 3), (32, .iload_n 2, 1), (33, .ireturn, 1)]
theorem am_op28_0 : ∀ q ∈ am_p28_0, am_ok 28 q.1 q.2.1 q.2.2 := am_okps (by decide +kernel)
def am_l28_0 : List (Nat × Instr × Nat) := [(13, .invokevirtual 23, 3)]
theorem am_ol28_0 : ∀ q ∈ am_l28_0, am_ok 28 q.1 q.2.1 q.2.2 := show ∀ q ∈ ([(13, .invokevirtual 23, 3)] : List (Nat × Instr × Nat)), am_ok 28 q.1 q.2.1 q.2.2 from
  am_fc (am_okv 50 (by decide +kernel) (by decide) (am_mem 579 (by decide +kernel)) (am_mem 580 (by decide +kernel)) (am_mem 581 (by decide +kernel))) (
  am_fn)
def am_t28 : List (Nat × Instr × Nat) := am_p28_0 ++ (am_l28_0)
theorem am_ot28 : ∀ q ∈ am_t28, am_ok 28 q.1 q.2.1 q.2.2 := List.forall_mem_append.mpr ⟨am_op28_0, am_ol28_0⟩
def am_p29_0 : List (Nat × Instr × Nat) := [(0, .iconst 0, 1), (1, .istore_n 1, 1), (2, .iconst 0, 1), (3, .istore_n 2, 1), (4, .iload_n 2, 1), (5, .bipush 6, 2), (7, .if_icmp .ge 17, 3), (10, .iload_n 1, 1), (11, .aload_n 0, 1), (12, .iload_n 2, 1), (16, .ior, 1), (17, .istore_n 1, 1), (18, .iinc 2 1, 3), (21, .goto (-17), 3), (24, .iload_n 1, 1), (25, .ireturn, 1)]
theorem am_op29_0 : ∀ q ∈ am_p29_0, am_ok 29 q.1 q.2.1 q.2.2 := am_okps (by decide +kernel)
def am_l29_0 : List (Nat × Instr × Nat) := [(13, .invokevirtual 28, 3)]
theorem am_ol29_0 : ∀ q ∈ am_l29_0, am_ok 29 q.1 q.2.1 q.2.2 := show ∀ q ∈ ([(13, .invokevirtual 28, 3)] : List (Nat × Instr × Nat)), am_ok 29 q.1 q.2.1 q.2.2 from
  am_fc (am_okv 62 (by decide +kernel) (by decide) (am_mem 601 (by decide +kernel)) (am_mem 602 (by decide +kernel)) (am_mem 603 (by decide +kernel))) (
  am_fn)
def am_t29 : List (Nat × Instr × Nat) := am_p29_0 ++ (am_l29_0)
theorem am_ot29 : ∀ q ∈ am_t29, am_ok 29 q.1 q.2.1 q.2.2 := List.forall_mem_append.mpr ⟨am_op29_0, am_ol29_0⟩
def am_p30_0 : List (Nat × Instr × Nat) := [(0, .iconst 0, 1), (1, .istore_n 2, 1), (2, .iconst 0, 1), (3, .istore_n 3, 1), (4, .iload_n 3, 1), (5, .bipush 6, 2), (7, .if_icmp .ge 25, 3), (10, .aload_n 0, 1), (11, .iload_n 3, 1), (12, .iload_n 1, 1), (16, .iconst (-1), 1), (17, .if_icmp .eq 9, 3), (20, .iload_n 2, 1), (21, .iconst 1, 1), (22, .iload_n 3, 1), (23, .ishl, 1), (24, .ior, 1), (25, .istore_n 2, 1), (26, .iinc 3 1, 3), (29, .goto (-25), 3), (32, .iload_n 2, 1), (33, .ireturn, 1)]
theorem am_op30_0 : ∀ q ∈ am_p30_0, am_ok 30 q.1 q.2.1 q.2.2 := am_okps (by decide +kernel)
def am_l30_0 : List (Nat × Instr × Nat) := [(13, .invokevirtual 23, 3)]
theorem am_ol30_0 : ∀ q ∈ am_l30_0, am_ok 30 q.1 q.2.1 q.2.2 := show ∀ q ∈ ([(13, .invokevirtual 23, 3)] : List (Nat × Instr × Nat)), am_ok 30 q.1 q.2.1 q.2.2 from
  am_fc (am_okv 50 (by decide +kernel) (by decide) (am_mem 579 (by decide +kernel)) (am_mem 580 (by decide +kernel)) (am_mem 581 (by decide +kernel))) (
  am_fn)
def am_t30 : List (Nat × Instr × Nat) := am_p30_0 ++ (am_l30_0)
theorem am_ot30 : ∀ q ∈ am_t30, am_ok 30 q.1 q.2.1 q.2.2 := List.forall_mem_append.mpr ⟨am_op30_0, am_ol30_0⟩
def am_p31_0 : List (Nat × Instr × Nat) := [(0, .iconst 0, 1), (1, .istore_n 1, 1), (2, .iconst 0, 1), (3, .istore_n 2, 1), (4, .iload_n 2, 1), (5, .bipush 6, 2), (7, .if_icmp .ge 20, 3), (10, .iload_n 1, 1), (11, .aload_n 0, 1), (12, .iload_n 2, 1), (19, .iadd, 1), (20, .istore_n 1, 1), (21, .iinc 2 1, 3), (24, .goto (-20), 3), (27, .iload_n 1, 1), (28, .ireturn, 1)]
theorem am_op31_0 : ∀ q ∈ am_p31_0, am_ok 31 q.1 q.2.1 q.2.2 := am_okps (by decide +kernel)
def am_l31_0 : List (Nat × Instr × Nat) := [(13, .invokevirtual 28, 3), (16, .invokestatic 268, 3)]
theorem am_ol31_0 : ∀ q ∈ am_l31_0, am_ok 31 q.1 q.2.1 q.2.2 := show ∀ q ∈ ([(13, .invokevirtual 28, 3), (16, .invokestatic 268, 3)] : List (Nat × Instr × Nat)), am_ok 31 q.1 q.2.1 q.2.2 from
  am_fc (am_okv 62 (by decide +kernel) (by decide) (am_mem 601 (by decide +kernel)) (am_mem 602 (by decide +kernel)) (am_mem 603 (by decide +kernel))) (
  am_fc (am_oks 66 (by decide +kernel) (by decide) (am_mem 606 (by decide +kernel)) (Or.inl (am_mem 605 (by decide +kernel)))) (
  am_fn))
def am_t31 : List (Nat × Instr × Nat) := am_p31_0 ++ (am_l31_0)
theorem am_ot31 : ∀ q ∈ am_t31, am_ok 31 q.1 q.2.1 q.2.2 := List.forall_mem_append.mpr ⟨am_op31_0, am_ol31_0⟩
def am_p32_0 : List (Nat × Instr × Nat) := [(0, .iconst 0, 1), (1, .istore_n 3, 1), (2, .iload_n 3, 1), (3, .bipush 10, 2), (5, .if_icmp .ge 33, 3), (8, .aload_n 0, 1), (9, .iload_n 1, 1), (10, .iload_n 3, 1), (14, .ifCond .eq 18, 3), (17, .aload_n 0, 1), (18, .iload_n 1, 1), (19, .iload_n 3, 1), (26, .iload_n 2, 1), (27, .if_icmp .ge 5, 3), (30, .iconst 0, 1), (31, .ireturn, 1), (32, .iinc 3 1, 3), (35, .goto (-33), 3), (38, .iconst 1, 1), (39, .ireturn, 1)]
theorem am_op32_0 : ∀ q ∈ am_p32_0, am_ok 32 q.1 q.2.1 q.2.2 := am_okps (by decide +kernel)
def am_l32_0 : List (Nat × Instr × Nat) := [(11, .invokevirtual 27, 3), (20, .invokevirtual 23, 3), (23, .invokestatic 26, 3)]
theorem am_ol32_0 : ∀ q ∈ am_l32_0, am_ok 32 q.1 q.2.1 q.2.2 := show ∀ q ∈ ([(11, .invokevirtual 27, 3), (20, .invokevirtual 23, 3), (23, .invokestatic 26, 3)] : List (Nat × Instr × Nat)), am_ok 32 q.1 q.2.1 q.2.2 from
  am_fc (am_okv 71 (by decide +kernel) (by decide) (am_mem 629 (by decide +kernel)) (am_mem 630 (by decide +kernel)) (am_mem 631 (by decide +kernel))) (
  am_fc (am_okv 50 (by decide +kernel) (by decide) (am_mem 579 (by decide +kernel)) (am_mem 580 (by decide +kernel)) (am_mem 581 (by decide +kernel))) (
  am_fc (am_oks 75 (by decide +kernel) (by decide) (am_mem 584 (by decide +kernel)) (Or.inl (am_mem 583 (by decide +kernel)))) (
  am_fn)))
def am_t32 : List (Nat × Instr × Nat) := am_p32_0 ++ (am_l32_0)
theorem am_ot32 : ∀ q ∈ am_t32, am_ok 32 q.1 q.2.1 q.2.2 := List.forall_mem_append.mpr ⟨am_op32_0, am_ol32_0⟩
def am_p33_0 : List (Nat × Instr × Nat) := [(0, .aload_n 0, 1), (1, .iload_n 1, 1), (2, .iload_n 2, 1), (3, .bipush (-2), 2), (5, .aload_n 0, 1), (9, .isub, 1), (13, .return_, 1)]
theorem am_op33_0 : ∀ q ∈ am_p33_0, am_ok 33 q.1 q.2.1 q.2.2 := am_okps (by decide +kernel)
def am_l33_0 : List (Nat × Instr × Nat) := [(6, .getfield 40000, 3), (10, .invokevirtual 24, 3)]
theorem am_ol33_0 : ∀ q ∈ am_l33_0, am_ok 33 q.1 q.2.1 q.2.2 := show ∀ q ∈ ([(6, .getfield 40000, 3), (10, .invokevirtual 24, 3)] : List (Nat × Instr × Nat)), am_ok 33 q.1 q.2.1 q.2.2 from
  am_fc (am_okgf 30 (by decide +kernel) (am_mem 330 (by decide +kernel))) (
  am_fc (am_okv 54 (by decide +kernel) (by decide) (am_mem 589 (by decide +kernel)) (am_mem 591 (by decide +kernel)) (am_mem 3 (by decide +kernel))) (
  am_fn))
def am_t33 : List (Nat × Instr × Nat) := am_p33_0 ++ (am_l33_0)
theorem am_ot33 : ∀ q ∈ am_t33, am_ok 33 q.1 q.2.1 q.2.2 := List.forall_mem_append.mpr ⟨am_op33_0, am_ol33_0⟩
def am_p34_0 : List (Nat × Instr × Nat) := [(0, .iconst 0, 1), (1, .istore_n 3, 1), (2, .iload_n 3, 1), (3, .bipush 10, 2), (5, .if_icmp .ge 33, 3), (8, .aload_n 0, 1), (9, .iload_n 1, 1), (10, .iload_n 3, 1), (14, .ifCond .eq 18, 3), (17, .aload_n 0, 1), (18, .iload_n 2, 1), (19, .iload_n 3, 1), (23, .ifCond .ne 9, 3), (26, .aload_n 0, 1), (27, .iload_n 2, 1), (28, .iload_n 3, 1), (32, .iinc 3 1, 3), (35, .goto (-33), 3), (38, .return_, 1)]
theorem am_op34_0 : ∀ q ∈ am_p34_0, am_ok 34 q.1 q.2.1 q.2.2 := am_okps (by decide +kernel)
def am_l34_0 : List (Nat × Instr × Nat) := [(11, .invokevirtual 27, 3), (20, .invokevirtual 27, 3), (29, .invokevirtual 33, 3)]
theorem am_ol34_0 : ∀ q ∈ am_l34_0, am_ok 34 q.1 q.2.1 q.2.2 := show ∀ q ∈ ([(11, .invokevirtual 27, 3), (20, .invokevirtual 27, 3), (29, .invokevirtual 33, 3)] : List (Nat × Instr × Nat)), am_ok 34 q.1 q.2.1 q.2.2 from
  am_fc (am_okv 71 (by decide +kernel) (by decide) (am_mem 629 (by decide +kernel)) (am_mem 630 (by decide +kernel)) (am_mem 631 (by decide +kernel))) (
  am_fc (am_okv 71 (by decide +kernel) (by decide) (am_mem 629 (by decide +kernel)) (am_mem 630 (by decide +kernel)) (am_mem 631 (by decide +kernel))) (
  am_fc (am_okv 78 (by decide +kernel) (by decide) (am_mem 1359 (by decide +kernel)) (am_mem 1091 (by decide +kernel)) (am_mem 1092 (by decide +kernel))) (
  am_fn)))
def am_t34 : List (Nat × Instr × Nat) := am_p34_0 ++ (am_l34_0)
theorem am_ot34 : ∀ q ∈ am_t34, am_ok 34 q.1 q.2.1 q.2.2 := List.forall_mem_append.mpr ⟨am_op34_0, am_ol34_0⟩
def am_p35_0 : List (Nat × Instr × Nat) := [(0, .aload_n 0, 1), (1, .aload_n 1, 1), (2, .iload_n 2, 1), (6, .aload_n 0, 1), (7, .aload_n 1, 1), (11, .iconst 0, 1), (12, .istore_n 3, 1), (13, .iload_n 3, 1), (14, .aload_n 1, 1), (18, .if_icmp .ge 71, 3), (21, .aload_n 0, 1), (22, .iload_n 3, 1), (26, .istore 4, 2), (28, .aload_n 0, 1), (32, .iload 4, 2), (34, .iaload, 1), (35, .ifCond .ne 7, 3), (38, .iconst 0, 1), (39, .goto 18, 3), (42, .aload_n 0, 1), (46, .iload 4, 2), (48, .iaload, 1), (49, .aload_n 0, 1), (53, .iload 4, 2), (55, .iaload, 1), (56, .idiv, 1), (57, .istore 5, 2), (59, .aload_n 0, 1), (60, .aload_n 1, 1), (61, .iload_n 3, 1), (62, .iload_n 3, 1), (63, .iload_n 2, 1), (64, .if_icmp .ne 7, 3), (67, .iconst 0, 1), (68, .goto 5, 3), (71, .iload 5, 2), (73, .aload_n 0, 1), (77, .iload 4, 2), (79, .iaload, 1), (83, .iinc 3 1, 3), (86, .goto (-73), 3), (89, .aload_n 0, 1), (90, .aload_n 1, 1), (94, .ireturn, 1)]
theorem am_op35_0 : ∀ q ∈ am_p35_0, am_ok 35 q.1 q.2.1 q.2.2 := am_okps (by decide +kernel)
def am_l35_0 : List (Nat × Instr × Nat) := [(3, .invokevirtual 37, 3), (8, .invokevirtual 38, 3), (15, .getfield 80000, 3), (23, .invokevirtual 36, 3), (29, .getfield 40062, 3), (43, .getfield 40052, 3), (50, .getfield 40062, 3), (74, .getfield 40062, 3), (80, .invokevirtual 40, 3), (91, .invokevirtual 41, 3)]
theorem am_ol35_0 : ∀ q ∈ am_l35_0, am_ok 35 q.1 q.2.1 q.2.2 := show ∀ q ∈ ([(3, .invokevirtual 37, 3), (8, .invokevirtual 38, 3), (15, .getfield 80000, 3), (23, .invokevirtual 36, 3), (29, .getfield 40062, 3), (43, .getfield 40052, 3), (50, .getfield 40062, 3), (74, .getfield 40062, 3), (80, .invokevirtual 40, 3), (91, .invokevirtual 41, 3)] : List (Nat × Instr × Nat)), am_ok 35 q.1 q.2.1 q.2.2 from
  am_fc (am_okv 82 (by decide +kernel) (by decide) (am_mem 550 (by decide +kernel)) (am_mem 552 (by decide +kernel)) (am_mem 0 (by decide +kernel))) (
  am_fc (am_okv 86 (by decide +kernel) (by decide) (am_mem 568 (by decide +kernel)) (am_mem 569 (by decide +kernel)) (am_mem 570 (by decide +kernel))) (
  am_fc (am_okgf 90 (by decide +kernel) (am_mem 233 (by decide +kernel))) (
  am_fc (am_okv 93 (by decide +kernel) (by decide) (am_mem 564 (by decide +kernel)) (am_mem 566 (by decide +kernel)) (am_mem 1 (by decide +kernel))) (
  am_fc (am_okgf 27 (by decide +kernel) (am_mem 342 (by decide +kernel))) (
  am_fc (am_okgf 24 (by decide +kernel) (am_mem 341 (by decide +kernel))) (
  am_fc (am_okgf 27 (by decide +kernel) (am_mem 342 (by decide +kernel))) (
  am_fc (am_okgf 27 (by decide +kernel) (am_mem 342 (by decide +kernel))) (
  am_fc (am_okv 96 (by decide +kernel) (by decide) (am_mem 593 (by decide +kernel)) (am_mem 594 (by decide +kernel)) (am_mem 595 (by decide +kernel))) (
  am_fc (am_okv 100 (by decide +kernel) (by decide) (am_mem 621 (by decide +kernel)) (am_mem 622 (by decide +kernel)) (am_mem 623 (by decide +kernel))) (
  am_fn))))))))))
def am_t35 : List (Nat × Instr × Nat) := am_p35_0 ++ (am_l35_0)
theorem am_ot35 : ∀ q ∈ am_t35, am_ok 35 q.1 q.2.1 q.2.2 := List.forall_mem_append.mpr ⟨am_op35_0, am_ol35_0⟩
def am_p36_0 : List (Nat × Instr × Nat) := [(0, .iload_n 1, 1), (1, .ifCond .lt 18, 3), (4, .iload_n 1, 1), (5, .bipush 6, 2), (7, .if_icmp .ge 12, 3), (10, .aload_n 0, 1), (14, .iload_n 1, 1), (15, .iaload, 1), (16, .goto 4, 3), (19, .iconst 0, 1), (20, .istore_n 2, 1), (21, .iload_n 2, 1), (22, .ifCond .lt 12, 3), (25, .iload_n 2, 1), (26, .iconst 4, 1), (27, .if_icmp .ge 7, 3), (30, .iload_n 2, 1), (31, .goto 4, 3), (34, .iconst 0, 1), (35, .ireturn, 1)]
theorem am_op36_0 : ∀ q ∈ am_p36_0, am_ok 36 q.1 q.2.1 q.2.2 := am_okps (by decide +kernel)
def am_l36_0 : List (Nat × Instr × Nat) := [(11, .getfield 40022, 3)]
theorem am_ol36_0 : ∀ q ∈ am_l36_0, am_ok 36 q.1 q.2.1 q.2.2 := show ∀ q ∈ ([(11, .getfield 40022, 3)] : List (Nat × Instr × Nat)), am_ok 36 q.1 q.2.1 q.2.2 from
  am_fc (am_okgf 15 (by decide +kernel) (am_mem 336 (by decide +kernel))) (
  am_fn)
def am_t36 : List (Nat × Instr × Nat) := am_p36_0 ++ (am_l36_0)
theorem am_ot36 : ∀ q ∈ am_t36, am_ok 36 q.1 q.2.1 q.2.2 := List.forall_mem_append.mpr ⟨am_op36_0, am_ol36_0⟩
def am_p37_0 : List (Nat × Instr × Nat) := [(0, .aload_n 0, 1), (4, .iconst 0, 1), (8, .aload_n 0, 1), (12, .iconst 0, 1), (16, .aload_n 1, 1), (17, .aload_n 0, 1), (24, .istore_n 3, 1), (25, .iconst 0, 1), (26, .istore 4, 2), (28, .iload 4, 2), (30, .aload_n 1, 1), (34, .if_icmp .ge 95, 3), (37, .aload_n 0, 1), (41, .iload 4, 2), (43, .iaload, 1), (44, .istore 5, 2), (46, .iload 4, 2), (48, .iload_n 2, 1), (49, .if_icmp .ne 9, 3), (52, .iconst 0, 1), (53, .istore 5, 2), (55, .goto 23, 3), (58, .iload_n 3, 1), (59, .ifCond .le 19, 3), (62, .iload 5, 2), (64, .aload_n 0, 1), (68, .iload 4, 2), (70, .iaload, 1), (71, .iload_n 3, 1), (72, .idiv, 1), (76, .istore 5, 2), (78, .aload_n 0, 1), (82, .iload 4, 2), (84, .dup2, 1), (85, .iaload, 1), (86, .iload 5, 2), (88, .iload_n 3, 1), (89, .imul, 1), (90, .isub, 1), (91, .iastore, 1), (92, .aload_n 0, 1), (96, .aload_n 0, 1), (97, .iload 4, 2), (102, .dup2, 1), (103, .iaload, 1), (104, .iload 5, 2), (106, .iadd, 1), (107, .iastore, 1), (108, .aload_n 0, 1), (112, .aload_n 0, 1), (113, .iload 4, 2), (118, .dup2, 1), (119, .iaload, 1), (120, .iconst 1, 1), (121, .iadd, 1), (122, .iastore, 1), (123, .iinc 4 1, 3), (126, .goto (-98), 3), (129, .return_, 1)]
theorem am_op37_0 : ∀ q ∈ am_p37_0, am_ok 37 q.1 q.2.1 q.2.2 := am_okps (by decide +kernel)
def am_l37_0 : List (Nat × Instr × Nat) := [(1, .getfield 40052, 3), (5, .invokestatic 271, 3), (9, .getfield 40062, 3), (13, .invokestatic 271, 3), (18, .getfield 40000, 3), (21, .invokevirtual 86, 3), (31, .getfield 80000, 3), (38, .getfield 40032, 3), (65, .getfield 40012, 3), (73, .invokestatic 270, 3), (79, .getfield 40012, 3), (93, .getfield 40052, 3), (99, .invokevirtual 36, 3), (109, .getfield 40062, 3), (115, .invokevirtual 36, 3)]
theorem am_ol37_0 : ∀ q ∈ am_l37_0, am_ok 37 q.1 q.2.1 q.2.2 := show ∀ q ∈ ([(1, .getfield 40052, 3), (5, .invokestatic 271, 3), (9, .getfield 40062, 3), (13, .invokestatic 271, 3), (18, .getfield 40000, 3), (21, .invokevirtual 86, 3), (31, .getfield 80000, 3), (38, .getfield 40032, 3), (65, .getfield 40012, 3), (73, .invokestatic 270, 3), (79, .getfield 40012, 3), (93, .getfield 40052, 3), (99, .invokevirtual 36, 3), (109, .getfield 40062, 3), (115, .invokevirtual 36, 3)] : List (Nat × Instr × Nat)), am_ok 37 q.1 q.2.1 q.2.2 from
  am_fc (am_okgf 24 (by decide +kernel) (am_mem 341 (by decide +kernel))) (
  am_fc (am_oks 44 (by decide +kernel) (by decide) (am_mem 555 (by decide +kernel)) (Or.inl (am_mem 554 (by decide +kernel)))) (
  am_fc (am_okgf 27 (by decide +kernel) (am_mem 342 (by decide +kernel))) (
  am_fc (am_oks 44 (by decide +kernel) (by decide) (am_mem 555 (by decide +kernel)) (Or.inl (am_mem 554 (by decide +kernel)))) (
  am_fc (am_okgf 30 (by decide +kernel) (am_mem 330 (by decide +kernel))) (
  am_fc (am_okv 104 (by decide +kernel) (by decide) (am_mem 557 (by decide +kernel)) (am_mem 558 (by decide +kernel)) (am_mem 559 (by decide +kernel))) (
  am_fc (am_okgf 90 (by decide +kernel) (am_mem 233 (by decide +kernel))) (
  am_fc (am_okgf 18 (by decide +kernel) (am_mem 338 (by decide +kernel))) (
  am_fc (am_okgf 11 (by decide +kernel) (am_mem 333 (by decide +kernel))) (
  am_fc (am_oks 107 (by decide +kernel) (by decide) (am_mem 562 (by decide +kernel)) (Or.inl (am_mem 561 (by decide +kernel)))) (
  am_fc (am_okgf 11 (by decide +kernel) (am_mem 333 (by decide +kernel))) (
  am_fc (am_okgf 24 (by decide +kernel) (am_mem 341 (by decide +kernel))) (
  am_fc (am_okv 93 (by decide +kernel) (by decide) (am_mem 564 (by decide +kernel)) (am_mem 566 (by decide +kernel)) (am_mem 1 (by decide +kernel))) (
  am_fc (am_okgf 27 (by decide +kernel) (am_mem 342 (by decide +kernel))) (
  am_fc (am_okv 93 (by decide +kernel) (by decide) (am_mem 564 (by decide +kernel)) (am_mem 566 (by decide +kernel)) (am_mem 1 (by decide +kernel))) (
  am_fn)))))))))))))))
def am_t37 : List (Nat × Instr × Nat) := am_p37_0 ++ (am_l37_0)
theorem am_ot37 : ∀ q ∈ am_t37, am_ok 37 q.1 q.2.1 q.2.2 := List.forall_mem_append.mpr ⟨am_op37_0, am_ol37_0⟩
def am_p38_0 : List (Nat × Instr × Nat) := [(0, .iconst 0, 1), (1, .istore_n 2, 1), (2, .iload_n 2, 1), (3, .aload_n 1, 1), (7, .if_icmp .ge 57, 3), (10, .aload_n 1, 1), (14, .iload_n 2, 1), (15, .iaload, 1), (16, .aload_n 0, 1), (20, .if_icmp .ne 38, 3), (23, .iconst 0, 1), (24, .istore_n 3, 1), (25, .iload_n 3, 1), (26, .aload_n 1, 1), (30, .if_icmp .ge 28, 3), (33, .aload_n 1, 1), (37, .iload_n 2, 1), (38, .iaload, 1), (39, .iload_n 3, 1), (43, .ifCond .eq 9, 3), (46, .aload_n 0, 1), (47, .iload_n 3, 1), (48, .iload_n 2, 1), (52, .iinc 3 1, 3), (55, .goto (-30), 3), (58, .iinc 2 1, 3), (61, .goto (-59), 3), (64, .return_, 1)]
theorem am_op38_0 : ∀ q ∈ am_p38_0, am_ok 38 q.1 q.2.1 q.2.2 := am_okps (by decide +kernel)
def am_l38_0 : List (Nat × Instr × Nat) := [(4, .getfield 80010, 3), (11, .getfield 80072, 3), (17, .getfield 40000, 3), (27, .getfield 80000, 3), (34, .getfield 80092, 3), (40, .invokestatic 145, 3), (49, .invokevirtual 39, 3)]
theorem am_ol38_0 : ∀ q ∈ am_l38_0, am_ok 38 q.1 q.2.1 q.2.2 := show ∀ q ∈ ([(4, .getfield 80010, 3), (11, .getfield 80072, 3), (17, .getfield 40000, 3), (27, .getfield 80000, 3), (34, .getfield 80092, 3), (40, .invokestatic 145, 3), (49, .invokevirtual 39, 3)] : List (Nat × Instr × Nat)), am_ok 38 q.1 q.2.1 q.2.2 from
  am_fc (am_okgf 112 (by decide +kernel) (am_mem 237 (by decide +kernel))) (
  am_fc (am_okgf 115 (by decide +kernel) (am_mem 256 (by decide +kernel))) (
  am_fc (am_okgf 30 (by decide +kernel) (am_mem 330 (by decide +kernel))) (
  am_fc (am_okgf 90 (by decide +kernel) (am_mem 233 (by decide +kernel))) (
  am_fc (am_okgf 118 (by decide +kernel) (am_mem 264 (by decide +kernel))) (
  am_fc (am_oks 121 (by decide +kernel) (by decide) (am_mem 573 (by decide +kernel)) (Or.inr ⟨"SaltMinds", (am_mem 572 (by decide +kernel))⟩)) (
  am_fc (am_okv 124 (by decide +kernel) (by decide) (am_mem 575 (by decide +kernel)) (am_mem 577 (by decide +kernel)) (am_mem 2 (by decide +kernel))) (
  am_fn)))))))
def am_t38 : List (Nat × Instr × Nat) := am_p38_0 ++ (am_l38_0)
theorem am_ot38 : ∀ q ∈ am_t38, am_ok 38 q.1 q.2.1 q.2.2 := List.forall_mem_append.mpr ⟨am_op38_0, am_ol38_0⟩
def am_p39_0 : List (Nat × Instr × Nat) := [(0, .aload_n 0, 1), (1, .iload_n 1, 1), (2, .iload_n 2, 1), (6, .istore_n 3, 1), (7, .aload_n 0, 1), (8, .iload_n 1, 1), (9, .iload_n 2, 1), (10, .iload_n 3, 1), (11, .iconst (-1), 1), (12, .if_icmp .ne 10, 3), (15, .aload_n 0, 1), (19, .goto 7, 3), (22, .iload_n 3, 1), (29, .return_, 1)]
theorem am_op39_0 : ∀ q ∈ am_p39_0, am_ok 39 q.1 q.2.1 q.2.2 := am_okps (by decide +kernel)
def am_l39_0 : List (Nat × Instr × Nat) := [(3, .invokevirtual 23, 3), (16, .getfield 40000, 3), (23, .invokestatic 26, 3), (26, .invokevirtual 24, 3)]
theorem am_ol39_0 : ∀ q ∈ am_l39_0, am_ok 39 q.1 q.2.1 q.2.2 := show ∀ q ∈ ([(3, .invokevirtual 23, 3), (16, .getfield 40000, 3), (23, .invokestatic 26, 3), (26, .invokevirtual 24, 3)] : List (Nat × Instr × Nat)), am_ok 39 q.1 q.2.1 q.2.2 from
  am_fc (am_okv 50 (by decide +kernel) (by decide) (am_mem 579 (by decide +kernel)) (am_mem 580 (by decide +kernel)) (am_mem 581 (by decide +kernel))) (
  am_fc (am_okgf 30 (by decide +kernel) (am_mem 330 (by decide +kernel))) (
  am_fc (am_oks 75 (by decide +kernel) (by decide) (am_mem 584 (by decide +kernel)) (Or.inl (am_mem 583 (by decide +kernel)))) (
  am_fc (am_okv 54 (by decide +kernel) (by decide) (am_mem 589 (by decide +kernel)) (am_mem 591 (by decide +kernel)) (am_mem 3 (by decide +kernel))) (
  am_fn))))
def am_t39 : List (Nat × Instr × Nat) := am_p39_0 ++ (am_l39_0)
theorem am_ot39 : ∀ q ∈ am_t39, am_ok 39 q.1 q.2.1 q.2.2 := List.forall_mem_append.mpr ⟨am_op39_0, am_ol39_0⟩
def am_p40_0 : List (Nat × Instr × Nat) := [(0, .aload_n 1, 1), (4, .astore 5, 2), (6, .aload 5, 2), (8, .iconst (-1), 1), (9, .iload_n 3, 1), (13, .aload 5, 2), (15, .bipush (-5), 2), (17, .aload_n 0, 1), (18, .iload_n 2, 1), (28, .aload 5, 2), (30, .bipush (-6), 2), (32, .iload 4, 2), (37, .aload 5, 2), (39, .bipush (-7), 2), (41, .aload_n 0, 1), (48, .iconst 0, 1), (49, .istore 6, 2), (51, .iload 6, 2), (53, .aload_n 1, 1), (57, .if_icmp .ge 147, 3), (60, .aload_n 0, 1), (61, .iload_n 2, 1), (62, .iload 6, 2), (67, .istore 7, 2), (69, .iload 7, 2), (71, .iconst (-1), 1), (72, .if_icmp .eq 126, 3), (75, .iconst 2, 1), (76, .iload_n 3, 1), (77, .imul, 1), (78, .istore 8, 2), (80, .aload_n 1, 1), (84, .ifCond .eq 72, 3), (87, .aload 5, 2), (89, .bipush (-2), 2), (91, .aload_n 1, 1), (95, .iload 6, 2), (97, .iaload, 1), (101, .aload 5, 2), (103, .bipush (-3), 2), (105, .aload_n 0, 1), (109, .aload_n 1, 1), (113, .iload 6, 2), (115, .iaload, 1), (116, .isub, 1), (120, .aload 5, 2), (122, .bipush (-4), 2), (124, .iload 7, 2), (129, .ifCond .eq 7, 3), (132, .iconst 1, 1), (133, .goto 4, 3), (136, .iconst 0, 1), (140, .iconst 0, 1), (141, .bipush 99, 2), (143, .aload 5, 2), (154, .istore 8, 2), (156, .iload 7, 2), (161, .aload_n 0, 1), (165, .iload 8, 2), (167, .iadd, 1), (171, .istore 9, 2), (173, .aload_n 0, 1), (174, .iload_n 2, 1), (175, .iload 6, 2), (177, .iload 7, 2), (182, .ifCond .eq 11, 3), (185, .bipush (-2), 2), (187, .iload 9, 2), (189, .isub, 1), (190, .goto 5, 3), (193, .iload 9, 2), (198, .iinc 6 1, 3), (201, .goto (-150), 3), (204, .return_, 1)]
theorem am_op40_0 : ∀ q ∈ am_p40_0, am_ok 40 q.1 q.2.1 q.2.2 := am_okps (by decide +kernel)
def am_l40_0 : List (Nat × Instr × Nat) := [(1, .getfield 80172, 3), (10, .invokevirtual 78, 3), (19, .invokevirtual 28, 3), (22, .invokestatic 268, 3), (25, .invokevirtual 78, 3), (34, .invokevirtual 78, 3), (42, .getfield 40000, 3), (45, .invokevirtual 78, 3), (54, .getfield 80010, 3), (64, .invokevirtual 23, 3), (81, .getfield 80041, 3), (92, .getfield 80082, 3), (98, .invokevirtual 78, 3), (106, .getfield 40000, 3), (110, .getfield 80072, 3), (117, .invokevirtual 78, 3), (126, .invokestatic 25, 3), (137, .invokevirtual 78, 3), (145, .invokevirtual 79, 3), (148, .invokestatic 270, 3), (151, .invokestatic 269, 3), (158, .invokestatic 26, 3), (162, .getfield 40000, 3), (168, .invokestatic 269, 3), (179, .invokestatic 25, 3), (195, .invokevirtual 24, 3)]
theorem am_ol40_0 : ∀ q ∈ am_l40_0, am_ok 40 q.1 q.2.1 q.2.2 := show ∀ q ∈ ([(1, .getfield 80172, 3), (10, .invokevirtual 78, 3), (19, .invokevirtual 28, 3), (22, .invokestatic 268, 3), (25, .invokevirtual 78, 3), (34, .invokevirtual 78, 3), (42, .getfield 40000, 3), (45, .invokevirtual 78, 3), (54, .getfield 80010, 3), (64, .invokevirtual 23, 3), (81, .getfield 80041, 3), (92, .getfield 80082, 3), (98, .invokevirtual 78, 3), (106, .getfield 40000, 3), (110, .getfield 80072, 3), (117, .invokevirtual 78, 3), (126, .invokestatic 25, 3), (137, .invokevirtual 78, 3), (145, .invokevirtual 79, 3), (148, .invokestatic 270, 3), (151, .invokestatic 269, 3), (158, .invokestatic 26, 3), (162, .getfield 40000, 3), (168, .invokestatic 269, 3), (179, .invokestatic 25, 3), (195, .invokevirtual 24, 3)] : List (Nat × Instr × Nat)), am_ok 40 q.1 q.2.1 q.2.2 from
  am_fc (am_okgf 127 (by decide +kernel) (am_mem 286 (by decide +kernel))) (
  am_fc (am_okv 133 (by decide +kernel) (by decide) (am_mem 597 (by decide +kernel)) (am_mem 598 (by decide +kernel)) (am_mem 599 (by decide +kernel))) (
  am_fc (am_okv 62 (by decide +kernel) (by decide) (am_mem 601 (by decide +kernel)) (am_mem 602 (by decide +kernel)) (am_mem 603 (by decide +kernel))) (
  am_fc (am_oks 66 (by decide +kernel) (by decide) (am_mem 606 (by decide +kernel)) (Or.inl (am_mem 605 (by decide +kernel)))) (
  am_fc (am_okv 133 (by decide +kernel) (by decide) (am_mem 597 (by decide +kernel)) (am_mem 598 (by decide +kernel)) (am_mem 599 (by decide +kernel))) (
  am_fc (am_okv 133 (by decide +kernel) (by decide) (am_mem 597 (by decide +kernel)) (am_mem 598 (by decide +kernel)) (am_mem 599 (by decide +kernel))) (
  am_fc (am_okgf 30 (by decide +kernel) (am_mem 330 (by decide +kernel))) (
  am_fc (am_okv 133 (by decide +kernel) (by decide) (am_mem 597 (by decide +kernel)) (am_mem 598 (by decide +kernel)) (am_mem 599 (by decide +kernel))) (
  am_fc (am_okgf 112 (by decide +kernel) (am_mem 237 (by decide +kernel))) (
  am_fc (am_okv 50 (by decide +kernel) (by decide) (am_mem 579 (by decide +kernel)) (am_mem 580 (by decide +kernel)) (am_mem 581 (by decide +kernel))) (
  am_fc (am_okgf 136 (by decide +kernel) (am_mem 246 (by decide +kernel))) (
  am_fc (am_okgf 140 (by decide +kernel) (am_mem 260 (by decide +kernel))) (
  am_fc (am_okv 133 (by decide +kernel) (by decide) (am_mem 597 (by decide +kernel)) (am_mem 598 (by decide +kernel)) (am_mem 599 (by decide +kernel))) (
  am_fc (am_okgf 30 (by decide +kernel) (am_mem 330 (by decide +kernel))) (
  am_fc (am_okgf 115 (by decide +kernel) (am_mem 256 (by decide +kernel))) (
  am_fc (am_okv 133 (by decide +kernel) (by decide) (am_mem 597 (by decide +kernel)) (am_mem 598 (by decide +kernel)) (am_mem 599 (by decide +kernel))) (
  am_fc (am_oks 58 (by decide +kernel) (by decide) (am_mem 587 (by decide +kernel)) (Or.inl (am_mem 586 (by decide +kernel)))) (
  am_fc (am_okv 133 (by decide +kernel) (by decide) (am_mem 597 (by decide +kernel)) (am_mem 598 (by decide +kernel)) (am_mem 599 (by decide +kernel))) (
  am_fc (am_okv 143 (by decide +kernel) (by decide) (am_mem 611 (by decide +kernel)) (am_mem 612 (by decide +kernel)) (am_mem 613 (by decide +kernel))) (
  am_fc (am_oks 107 (by decide +kernel) (by decide) (am_mem 562 (by decide +kernel)) (Or.inl (am_mem 561 (by decide +kernel)))) (
  am_fc (am_oks 147 (by decide +kernel) (by decide) (am_mem 619 (by decide +kernel)) (Or.inl (am_mem 618 (by decide +kernel)))) (
  am_fc (am_oks 75 (by decide +kernel) (by decide) (am_mem 584 (by decide +kernel)) (Or.inl (am_mem 583 (by decide +kernel)))) (
  am_fc (am_okgf 30 (by decide +kernel) (am_mem 330 (by decide +kernel))) (
  am_fc (am_oks 147 (by decide +kernel) (by decide) (am_mem 619 (by decide +kernel)) (Or.inl (am_mem 618 (by decide +kernel)))) (
  am_fc (am_oks 58 (by decide +kernel) (by decide) (am_mem 587 (by decide +kernel)) (Or.inl (am_mem 586 (by decide +kernel)))) (
  am_fc (am_okv 54 (by decide +kernel) (by decide) (am_mem 589 (by decide +kernel)) (am_mem 591 (by decide +kernel)) (am_mem 3 (by decide +kernel))) (
  am_fn))))))))))))))))))))))))))
def am_t40 : List (Nat × Instr × Nat) := am_p40_0 ++ (am_l40_0)
theorem am_ot40 : ∀ q ∈ am_t40, am_ok 40 q.1 q.2.1 q.2.2 := List.forall_mem_append.mpr ⟨am_op40_0, am_ol40_0⟩
def am_p41_0 : List (Nat × Instr × Nat) := [(0, .aload_n 0, 1), (1, .dup, 1), (5, .iconst 1, 1), (6, .iadd, 1), (10, .iconst 0, 1), (11, .istore_n 2, 1), (12, .iconst 0, 1), (13, .istore_n 3, 1), (14, .iload_n 3, 1), (15, .aload_n 1, 1), (19, .if_icmp .ge 17, 3), (22, .iload_n 2, 1), (23, .aload_n 0, 1), (24, .iload_n 3, 1), (28, .iadd, 1), (29, .istore_n 2, 1), (30, .iinc 3 1, 3), (33, .goto (-19), 3), (36, .iload_n 2, 1), (37, .ireturn, 1)]
theorem am_op41_0 : ∀ q ∈ am_p41_0, am_ok 41 q.1 q.2.1 q.2.2 := am_okps (by decide +kernel)
def am_l41_0 : List (Nat × Instr × Nat) := [(2, .getfield 40000, 3), (7, .putfield 40000, 3), (16, .getfield 80000, 3), (25, .invokevirtual 42, 3)]
theorem am_ol41_0 : ∀ q ∈ am_l41_0, am_ok 41 q.1 q.2.1 q.2.2 := show ∀ q ∈ ([(2, .getfield 40000, 3), (7, .putfield 40000, 3), (16, .getfield 80000, 3), (25, .invokevirtual 42, 3)] : List (Nat × Instr × Nat)), am_ok 41 q.1 q.2.1 q.2.2 from
  am_fc (am_okgf 30 (by decide +kernel) (am_mem 330 (by decide +kernel))) (
  am_fc (am_okpf 30 (by decide +kernel) (am_mem 330 (by decide +kernel))) (
  am_fc (am_okgf 90 (by decide +kernel) (am_mem 233 (by decide +kernel))) (
  am_fc (am_okv 150 (by decide +kernel) (by decide) (am_mem 625 (by decide +kernel)) (am_mem 627 (by decide +kernel)) (am_mem 4 (by decide +kernel))) (
  am_fn))))
def am_t41 : List (Nat × Instr × Nat) := am_p41_0 ++ (am_l41_0)
theorem am_ot41 : ∀ q ∈ am_t41, am_ok 41 q.1 q.2.1 q.2.2 := List.forall_mem_append.mpr ⟨am_op41_0, am_ol41_0⟩
def am_p42_0 : List (Nat × Instr × Nat) := [(0, .iconst 0, 1), (1, .istore_n 2, 1), (2, .iconst 0, 1), (3, .istore_n 3, 1), (4, .iload_n 3, 1), (5, .bipush 10, 2), (7, .if_icmp .ge 44, 3), (10, .aload_n 0, 1), (11, .iload_n 1, 1), (12, .iload_n 3, 1), (16, .ifCond .eq 29, 3), (19, .aload_n 0, 1), (20, .iload_n 1, 1), (21, .iload_n 3, 1), (28, .aload_n 0, 1), (32, .if_icmp .ge 13, 3), (35, .aload_n 0, 1), (36, .iload_n 1, 1), (37, .iload_n 3, 1), (38, .iconst (-1), 1), (42, .iinc 2 1, 3), (45, .iinc 3 1, 3), (48, .goto (-44), 3), (51, .iload_n 2, 1), (52, .ireturn, 1)]
theorem am_op42_0 : ∀ q ∈ am_p42_0, am_ok 42 q.1 q.2.1 q.2.2 := am_okps (by decide +kernel)
def am_l42_0 : List (Nat × Instr × Nat) := [(13, .invokevirtual 27, 3), (22, .invokevirtual 23, 3), (25, .invokestatic 26, 3), (29, .getfield 40000, 3), (39, .invokevirtual 24, 3)]
theorem am_ol42_0 : ∀ q ∈ am_l42_0, am_ok 42 q.1 q.2.1 q.2.2 := show ∀ q ∈ ([(13, .invokevirtual 27, 3), (22, .invokevirtual 23, 3), (25, .invokestatic 26, 3), (29, .getfield 40000, 3), (39, .invokevirtual 24, 3)] : List (Nat × Instr × Nat)), am_ok 42 q.1 q.2.1 q.2.2 from
  am_fc (am_okv 71 (by decide +kernel) (by decide) (am_mem 629 (by decide +kernel)) (am_mem 630 (by decide +kernel)) (am_mem 631 (by decide +kernel))) (
  am_fc (am_okv 50 (by decide +kernel) (by decide) (am_mem 579 (by decide +kernel)) (am_mem 580 (by decide +kernel)) (am_mem 581 (by decide +kernel))) (
  am_fc (am_oks 75 (by decide +kernel) (by decide) (am_mem 584 (by decide +kernel)) (Or.inl (am_mem 583 (by decide +kernel)))) (
  am_fc (am_okgf 30 (by decide +kernel) (am_mem 330 (by decide +kernel))) (
  am_fc (am_okv 54 (by decide +kernel) (by decide) (am_mem 589 (by decide +kernel)) (am_mem 591 (by decide +kernel)) (am_mem 3 (by decide +kernel))) (
  am_fn)))))
def am_t42 : List (Nat × Instr × Nat) := am_p42_0 ++ (am_l42_0)
theorem am_ot42 : ∀ q ∈ am_t42, am_ok 42 q.1 q.2.1 q.2.2 := List.forall_mem_append.mpr ⟨am_op42_0, am_ol42_0⟩
def am_p43_0 : List (Nat × Instr × Nat) := [(0, .aload_n 0, 1), (1, .aload_n 1, 1), (2, .iload_n 2, 1), (3, .iload_n 3, 1), (4, .iconst 1, 1), (8, .aload_n 0, 1), (9, .dup, 1), (13, .iconst 1, 1), (14, .iadd, 1), (18, .aload_n 0, 1), (19, .iload_n 2, 1), (23, .pop, 1), (24, .return_, 1)]
theorem am_op43_0 : ∀ q ∈ am_p43_0, am_ok 43 q.1 q.2.1 q.2.2 := am_okps (by decide +kernel)
def am_l43_0 : List (Nat × Instr × Nat) := [(5, .invokevirtual 40, 3), (10, .getfield 40000, 3), (15, .putfield 40000, 3), (20, .invokevirtual 42, 3)]
theorem am_ol43_0 : ∀ q ∈ am_l43_0, am_ok 43 q.1 q.2.1 q.2.2 := show ∀ q ∈ ([(5, .invokevirtual 40, 3), (10, .getfield 40000, 3), (15, .putfield 40000, 3), (20, .invokevirtual 42, 3)] : List (Nat × Instr × Nat)), am_ok 43 q.1 q.2.1 q.2.2 from
  am_fc (am_okv 96 (by decide +kernel) (by decide) (am_mem 593 (by decide +kernel)) (am_mem 594 (by decide +kernel)) (am_mem 595 (by decide +kernel))) (
  am_fc (am_okgf 30 (by decide +kernel) (am_mem 330 (by decide +kernel))) (
  am_fc (am_okpf 30 (by decide +kernel) (am_mem 330 (by decide +kernel))) (
  am_fc (am_okv 150 (by decide +kernel) (by decide) (am_mem 625 (by decide +kernel)) (am_mem 627 (by decide +kernel)) (am_mem 4 (by decide +kernel))) (
  am_fn))))
def am_t43 : List (Nat × Instr × Nat) := am_p43_0 ++ (am_l43_0)
theorem am_ot43 : ∀ q ∈ am_t43, am_ok 43 q.1 q.2.1 q.2.2 := List.forall_mem_append.mpr ⟨am_op43_0, am_ol43_0⟩
def am_p44_0 : List (Nat × Instr × Nat) := [(0, .aload_n 0, 1), (4, .aload_n 0, 1), (5, .bipush 6, 2), (7, .bipush 21, 2), (16, .aload_n 0, 1), (17, .bipush 7, 2), (19, .bipush 31, 2), (28, .aload_n 0, 1), (29, .bipush 6, 2), (31, .newarray .int, 2), (36, .return_, 1)]
theorem am_op44_0 : ∀ q ∈ am_p44_0, am_ok 44 q.1 q.2.1 q.2.2 := am_okps (by decide +kernel)
def am_l44_0 : List (Nat × Instr × Nat) := [(1, .invokespecial 1000, 3), (9, .multianewarray 0 2, 4), (13, .putfield 50002, 3), (21, .multianewarray 0 2, 4), (25, .putfield 50012, 3), (33, .putfield 50022, 3)]
theorem am_ol44_0 : ∀ q ∈ am_l44_0, am_ok 44 q.1 q.2.1 q.2.2 := show ∀ q ∈ ([(1, .invokespecial 1000, 3), (9, .multianewarray 0 2, 4), (13, .putfield 50002, 3), (21, .multianewarray 0 2, 4), (25, .putfield 50012, 3), (33, .putfield 50022, 3)] : List (Nat × Instr × Nat)), am_ok 44 q.1 q.2.1 q.2.2 from
  am_fc (am_oki0 3 (by decide +kernel) (am_mem 425 (by decide +kernel))) (
  am_fc (am_okmn 9 (by decide +kernel) (am_mem 426 (by decide +kernel))) (
  am_fc (am_okpf 11 (by decide +kernel) (am_mem 428 (by decide +kernel))) (
  am_fc (am_okmn 9 (by decide +kernel) (am_mem 426 (by decide +kernel))) (
  am_fc (am_okpf 16 (by decide +kernel) (am_mem 430 (by decide +kernel))) (
  am_fc (am_okpf 19 (by decide +kernel) (am_mem 431 (by decide +kernel))) (
  am_fn))))))
def am_t44 : List (Nat × Instr × Nat) := am_p44_0 ++ (am_l44_0)
theorem am_ot44 : ∀ q ∈ am_t44, am_ok 44 q.1 q.2.1 q.2.2 := List.forall_mem_append.mpr ⟨am_op44_0, am_ol44_0⟩
def am_p45_0 : List (Nat × Instr × Nat) := [(0, .iconst 0, 1), (1, .istore_n 3, 1), (2, .iload_n 3, 1), (3, .bipush 30, 2), (5, .if_icmp .gt 26, 3), (8, .aload_n 0, 1), (12, .iload_n 1, 1), (13, .aaload, 1), (14, .iload_n 3, 1), (15, .iload_n 3, 1), (16, .ifCond .ne 7, 3), (19, .iconst 0, 1), (20, .goto 4, 3), (23, .iconst (-1), 1), (24, .iastore, 1), (25, .iinc 3 1, 3), (28, .goto (-26), 3), (31, .iload_n 1, 1), (32, .iconst 1, 1), (33, .isub, 1), (34, .istore_n 3, 1), (35, .iload_n 3, 1), (36, .ifCond .lt 40, 3), (39, .iconst 0, 1), (40, .istore 4, 2), (42, .iload 4, 2), (44, .iload_n 2, 1), (45, .if_icmp .gt 25, 3), (48, .aload_n 0, 1), (52, .iload_n 3, 1), (53, .aaload, 1), (54, .iload 4, 2), (56, .aload_n 0, 1), (57, .iload_n 3, 1), (58, .iload 4, 2), (63, .iastore, 1), (64, .iinc 4 1, 3), (67, .goto (-25), 3), (70, .iinc 3 (-1), 3), (73, .goto (-38), 3), (76, .iconst 0, 1), (77, .istore_n 3, 1), (78, .iconst 1, 1), (79, .istore 4, 2), (81, .iload 4, 2), (83, .iload_n 2, 1), (84, .if_icmp .gt 32, 3), (87, .aload_n 0, 1), (91, .iconst 0, 1), (92, .aaload, 1), (93, .iload 4, 2), (95, .iaload, 1), (96, .aload_n 0, 1), (100, .iconst 0, 1), (101, .aaload, 1), (102, .iload_n 3, 1), (103, .iaload, 1), (104, .if_icmp .le 6, 3), (107, .iload 4, 2), (109, .istore_n 3, 1), (110, .iinc 4 1, 3), (113, .goto (-32), 3), (116, .aload_n 0, 1), (117, .iload_n 1, 1), (118, .iload_n 3, 1), (122, .aload_n 0, 1), (123, .iconst 1, 1), (127, .aload_n 0, 1), (131, .iconst 0, 1), (132, .aaload, 1), (133, .iload_n 3, 1), (134, .iaload, 1), (135, .ireturn, 1)]
theorem am_op45_0 : ∀ q ∈ am_p45_0, am_ok 45 q.1 q.2.1 q.2.2 := am_okps (by decide +kernel)
def am_l45_0 : List (Nat × Instr × Nat) := [(9, .getfield 50012, 3), (49, .getfield 50012, 3), (60, .invokevirtual 46, 3), (88, .getfield 50012, 3), (97, .getfield 50012, 3), (119, .invokevirtual 48, 3), (124, .putfield 50031, 3), (128, .getfield 50012, 3)]
theorem am_ol45_0 : ∀ q ∈ am_l45_0, am_ok 45 q.1 q.2.1 q.2.2 := show ∀ q ∈ ([(9, .getfield 50012, 3), (49, .getfield 50012, 3), (60, .invokevirtual 46, 3), (88, .getfield 50012, 3), (97, .getfield 50012, 3), (119, .invokevirtual 48, 3), (124, .putfield 50031, 3), (128, .getfield 50012, 3)] : List (Nat × Instr × Nat)), am_ok 45 q.1 q.2.1 q.2.2 from
  am_fc (am_okgf 16 (by decide +kernel) (am_mem 430 (by decide +kernel))) (
  am_fc (am_okgf 16 (by decide +kernel) (am_mem 430 (by decide +kernel))) (
  am_fc (am_okv 23 (by decide +kernel) (by decide) (am_mem 1196 (by decide +kernel)) (am_mem 1198 (by decide +kernel)) (am_mem 31 (by decide +kernel))) (
  am_fc (am_okgf 16 (by decide +kernel) (am_mem 430 (by decide +kernel))) (
  am_fc (am_okgf 16 (by decide +kernel) (am_mem 430 (by decide +kernel))) (
  am_fc (am_okv 27 (by decide +kernel) (by decide) (am_mem 1205 (by decide +kernel)) (am_mem 1207 (by decide +kernel)) (am_mem 33 (by decide +kernel))) (
  am_fc (am_okpf 31 (by decide +kernel) (am_mem 433 (by decide +kernel))) (
  am_fc (am_okgf 16 (by decide +kernel) (am_mem 430 (by decide +kernel))) (
  am_fn))))))))
def am_t45 : List (Nat × Instr × Nat) := am_p45_0 ++ (am_l45_0)
theorem am_ot45 : ∀ q ∈ am_t45, am_ok 45 q.1 q.2.1 q.2.2 := List.forall_mem_append.mpr ⟨am_op45_0, am_ol45_0⟩
def am_p46_0 : List (Nat × Instr × Nat) := [(0, .iconst (-1), 1), (1, .istore_n 3, 1), (2, .iconst 0, 1), (3, .istore 4, 2), (5, .iload 4, 2), (7, .bipush 20, 2), (9, .if_icmp .gt 28, 3), (12, .iload 4, 2), (14, .iload_n 2, 1), (15, .if_icmp .gt 22, 3), (18, .iload_n 3, 1), (19, .aload_n 0, 1), (20, .iload_n 1, 1), (21, .iload_n 2, 1), (22, .iload 4, 2), (30, .istore_n 3, 1), (31, .iinc 4 1, 3), (34, .goto (-29), 3), (37, .iload_n 3, 1), (38, .ireturn, 1)]
theorem am_op46_0 : ∀ q ∈ am_p46_0, am_ok 46 q.1 q.2.1 q.2.2 := am_okps (by decide +kernel)
def am_l46_0 : List (Nat × Instr × Nat) := [(24, .invokevirtual 47, 3), (27, .invokestatic 269, 3)]
theorem am_ol46_0 : ∀ q ∈ am_l46_0, am_ok 46 q.1 q.2.1 q.2.2 := show ∀ q ∈ ([(24, .invokevirtual 47, 3), (27, .invokestatic 269, 3)] : List (Nat × Instr × Nat)), am_ok 46 q.1 q.2.1 q.2.2 from
  am_fc (am_okv 35 (by decide +kernel) (by decide) (am_mem 1200 (by decide +kernel)) (am_mem 1202 (by decide +kernel)) (am_mem 32 (by decide +kernel))) (
  am_fc (am_oks 39 (by decide +kernel) (by decide) (am_mem 619 (by decide +kernel)) (Or.inl (am_mem 1204 (by decide +kernel)))) (
  am_fn))
def am_t46 : List (Nat × Instr × Nat) := am_p46_0 ++ (am_l46_0)
theorem am_ot46 : ∀ q ∈ am_t46, am_ok 46 q.1 q.2.1 q.2.2 := List.forall_mem_append.mpr ⟨am_op46_0, am_ol46_0⟩
def am_p47_0 : List (Nat × Instr × Nat) := [(0, .aload_n 0, 1), (4, .iload_n 1, 1), (5, .iconst 1, 1), (6, .iadd, 1), (7, .aaload, 1), (8, .iload_n 2, 1), (9, .iload_n 3, 1), (10, .isub, 1), (11, .iaload, 1), (12, .istore 4, 2), (14, .iload 4, 2), (16, .iconst (-1), 1), (17, .if_icmp .ne 7, 3), (20, .iconst (-1), 1), (21, .goto 14, 3), (24, .aload_n 0, 1), (28, .iload_n 1, 1), (29, .aaload, 1), (30, .iload_n 3, 1), (31, .iaload, 1), (32, .iload 4, 2), (34, .iadd, 1), (35, .ireturn, 1)]
theorem am_op47_0 : ∀ q ∈ am_p47_0, am_ok 47 q.1 q.2.1 q.2.2 := am_okps (by decide +kernel)
def am_l47_0 : List (Nat × Instr × Nat) := [(1, .getfield 50012, 3), (25, .getfield 50002, 3)]
theorem am_ol47_0 : ∀ q ∈ am_l47_0, am_ok 47 q.1 q.2.1 q.2.2 := show ∀ q ∈ ([(1, .getfield 50012, 3), (25, .getfield 50002, 3)] : List (Nat × Instr × Nat)), am_ok 47 q.1 q.2.1 q.2.2 from
  am_fc (am_okgf 16 (by decide +kernel) (am_mem 430 (by decide +kernel))) (
  am_fc (am_okgf 11 (by decide +kernel) (am_mem 428 (by decide +kernel))) (
  am_fn))
def am_t47 : List (Nat × Instr × Nat) := am_p47_0 ++ (am_l47_0)
theorem am_ot47 : ∀ q ∈ am_t47, am_ok 47 q.1 q.2.1 q.2.2 := List.forall_mem_append.mpr ⟨am_op47_0, am_ol47_0⟩
def am_p48_0 : List (Nat × Instr × Nat) := [(0, .iload_n 2, 1), (1, .istore_n 3, 1), (2, .iconst 0, 1), (3, .istore 4, 2), (5, .iload 4, 2), (7, .iload_n 1, 1), (8, .if_icmp .ge 66, 3), (11, .iconst 0, 1), (12, .istore 5, 2), (14, .iload 5, 2), (16, .bipush 20, 2), (18, .if_icmp .ge 36, 3), (21, .iload 5, 2), (23, .iload_n 3, 1), (24, .if_icmp .ge 30, 3), (27, .aload_n 0, 1), (28, .iload 4, 2), (30, .iload_n 3, 1), (31, .iload 5, 2), (36, .aload_n 0, 1), (40, .iload 4, 2), (42, .aaload, 1), (43, .iload_n 3, 1), (44, .iaload, 1), (45, .if_icmp .eq 9, 3), (48, .iinc 5 1, 3), (51, .goto (-37), 3), (54, .aload_n 0, 1), (58, .iload 4, 2), (60, .iload 5, 2), (62, .iastore, 1), (63, .iload_n 3, 1), (64, .iload 5, 2), (66, .isub, 1), (67, .istore_n 3, 1), (68, .iinc 4 1, 3), (71, .goto (-66), 3), (74, .return_, 1)]
theorem am_op48_0 : ∀ q ∈ am_p48_0, am_ok 48 q.1 q.2.1 q.2.2 := am_okps (by decide +kernel)
def am_l48_0 : List (Nat × Instr × Nat) := [(33, .invokevirtual 47, 3), (37, .getfield 50012, 3), (55, .getfield 50022, 3)]
theorem am_ol48_0 : ∀ q ∈ am_l48_0, am_ok 48 q.1 q.2.1 q.2.2 := show ∀ q ∈ ([(33, .invokevirtual 47, 3), (37, .getfield 50012, 3), (55, .getfield 50022, 3)] : List (Nat × Instr × Nat)), am_ok 48 q.1 q.2.1 q.2.2 from
  am_fc (am_okv 35 (by decide +kernel) (by decide) (am_mem 1200 (by decide +kernel)) (am_mem 1202 (by decide +kernel)) (am_mem 32 (by decide +kernel))) (
  am_fc (am_okgf 16 (by decide +kernel) (am_mem 430 (by decide +kernel))) (
  am_fc (am_okgf 19 (by decide +kernel) (am_mem 431 (by decide +kernel))) (
  am_fn)))
def am_t48 : List (Nat × Instr × Nat) := am_p48_0 ++ (am_l48_0)
theorem am_ot48 : ∀ q ∈ am_t48, am_ok 48 q.1 q.2.1 q.2.2 := List.forall_mem_append.mpr ⟨am_op48_0, am_ol48_0⟩
def am_p49_0 : List (Nat × Instr × Nat) := [(0, .aload_n 0, 1), (4, .aload_n 0, 1), (8, .dup, 1), (15, .aload_n 0, 1), (16, .iconst (-1), 1), (20, .return_, 1)]
theorem am_op49_0 : ∀ q ∈ am_p49_0, am_ok 49 q.1 q.2.1 q.2.2 := am_okps (by decide +kernel)
def am_l49_0 : List (Nat × Instr × Nat) := [(1, .invokespecial 1000, 3), (5, .new 9, 3), (9, .invokespecial 90, 3), (12, .putfield 60002, 3), (17, .putfield 60020, 3)]
theorem am_ol49_0 : ∀ q ∈ am_l49_0, am_ok 49 q.1 q.2.1 q.2.2 := show ∀ q ∈ ([(1, .invokespecial 1000, 3), (5, .new 9, 3), (9, .invokespecial 90, 3), (12, .putfield 60002, 3), (17, .putfield 60020, 3)] : List (Nat × Instr × Nat)), am_ok 49 q.1 q.2.1 q.2.2 from
  am_fc (am_oki0 3 (by decide +kernel) (am_mem 141 (by decide +kernel))) (
  am_fc (am_okn 9 (by decide) (by decide +kernel) (am_mem 142 (by decide +kernel))) (
  am_fc (am_oki 11 (by decide +kernel) (by decide) (by decide +kernel) (am_mem 145 (by decide +kernel)) (Or.inr ⟨"SaltMinds", (am_mem 144 (by decide +kernel))⟩)) (
  am_fc (am_okpf 12 (by decide +kernel) (am_mem 175 (by decide +kernel))) (
  am_fc (am_okpf 18 (by decide +kernel) (am_mem 178 (by decide +kernel))) (
  am_fn)))))
def am_t49 : List (Nat × Instr × Nat) := am_p49_0 ++ (am_l49_0)
theorem am_ot49 : ∀ q ∈ am_t49, am_ok 49 q.1 q.2.1 q.2.2 := List.forall_mem_append.mpr ⟨am_op49_0, am_ol49_0⟩
def am_p50_0 : List (Nat × Instr × Nat) := [(0, .aload_n 0, 1), (1, .iconst 0, 1), (5, .aload_n 0, 1), (6, .iconst (-1), 1), (10, .aload_n 2, 1), (14, .aload_n 0, 1), (18, .iload_n 1, 1), (22, .iconst 0, 1), (23, .istore_n 3, 1), (24, .iload_n 3, 1), (25, .sipush 700, 3), (28, .if_icmp .ge 135, 3), (31, .aload_n 0, 1), (35, .ifCond .ne 128, 3), (38, .aload_n 0, 1), (45, .ifCond .eq 118, 3), (48, .aload_n 0, 1), (57, .ifCond .eq 11, 3), (60, .aload_n 0, 1), (61, .aload_n 2, 1), (65, .goto 88, 3), (68, .aload_n 0, 1), (77, .ifCond .eq 11, 3), (80, .aload_n 0, 1), (81, .aload_n 2, 1), (85, .goto 68, 3), (88, .aload_n 0, 1), (97, .ifCond .eq 11, 3), (100, .aload_n 0, 1), (101, .aload_n 2, 1), (105, .goto 48, 3), (108, .aload_n 0, 1), (117, .ifCond .eq 11, 3), (120, .aload_n 0, 1), (121, .aload_n 2, 1), (125, .goto 28, 3), (128, .aload_n 0, 1), (137, .ifCond .eq 11, 3), (140, .aload_n 0, 1), (141, .aload_n 2, 1), (145, .goto 8, 3), (148, .aload_n 0, 1), (149, .iconst 1, 1), (153, .aload_n 0, 1), (157, .iinc 3 1, 3), (160, .goto (-136), 3), (163, .aload_n 0, 1), (167, .ireturn, 1)]
theorem am_op50_0 : ∀ q ∈ am_p50_0, am_ok 50 q.1 q.2.1 q.2.2 := am_okps (by decide +kernel)
def am_l50_0 : List (Nat × Instr × Nat) := [(2, .putfield 60010, 3), (7, .putfield 60020, 3), (11, .invokevirtual 82, 3), (15, .getfield 60002, 3), (19, .invokevirtual 93, 3), (32, .getfield 60010, 3), (39, .getfield 60002, 3), (42, .getfield 90030, 3), (49, .getfield 60002, 3), (52, .ldc 1, 2), (54, .invokevirtual 96, 3), (62, .invokevirtual 51, 3), (69, .getfield 60002, 3), (72, .ldc 2, 2), (74, .invokevirtual 96, 3), (82, .invokevirtual 52, 3), (89, .getfield 60002, 3), (92, .ldc 4, 2), (94, .invokevirtual 96, 3), (102, .invokevirtual 53, 3), (109, .getfield 60002, 3), (112, .ldc 5, 2), (114, .invokevirtual 96, 3), (122, .invokevirtual 54, 3), (129, .getfield 60002, 3), (132, .ldc 6, 2), (134, .invokevirtual 96, 3), (142, .invokevirtual 55, 3), (150, .invokevirtual 66, 3), (154, .invokevirtual 65, 3), (164, .getfield 60010, 3)]
theorem am_ol50_0 : ∀ q ∈ am_l50_0, am_ok 50 q.1 q.2.1 q.2.2 := show ∀ q ∈ ([(2, .putfield 60010, 3), (7, .putfield 60020, 3), (11, .invokevirtual 82, 3), (15, .getfield 60002, 3), (19, .invokevirtual 93, 3), (32, .getfield 60010, 3), (39, .getfield 60002, 3), (42, .getfield 90030, 3), (49, .getfield 60002, 3), (52, .ldc 1, 2), (54, .invokevirtual 96, 3), (62, .invokevirtual 51, 3), (69, .getfield 60002, 3), (72, .ldc 2, 2), (74, .invokevirtual 96, 3), (82, .invokevirtual 52, 3), (89, .getfield 60002, 3), (92, .ldc 4, 2), (94, .invokevirtual 96, 3), (102, .invokevirtual 53, 3), (109, .getfield 60002, 3), (112, .ldc 5, 2), (114, .invokevirtual 96, 3), (122, .invokevirtual 54, 3), (129, .getfield 60002, 3), (132, .ldc 6, 2), (134, .invokevirtual 96, 3), (142, .invokevirtual 55, 3), (150, .invokevirtual 66, 3), (154, .invokevirtual 65, 3), (164, .getfield 60010, 3)] : List (Nat × Instr × Nat)), am_ok 50 q.1 q.2.1 q.2.2 from
  am_fc (am_okpf 22 (by decide +kernel) (am_mem 177 (by decide +kernel))) (
  am_fc (am_okpf 18 (by decide +kernel) (am_mem 178 (by decide +kernel))) (
  am_fc (am_okv 25 (by decide +kernel) (by decide) (am_mem 778 (by decide +kernel)) (am_mem 779 (by decide +kernel)) (am_mem 780 (by decide +kernel))) (
  am_fc (am_okgf 12 (by decide +kernel) (am_mem 175 (by decide +kernel))) (
  am_fc (am_okv 30 (by decide +kernel) (by decide) (am_mem 786 (by decide +kernel)) (am_mem 787 (by decide +kernel)) (am_mem 788 (by decide +kernel))) (
  am_fc (am_okgf 22 (by decide +kernel) (am_mem 177 (by decide +kernel))) (
  am_fc (am_okgf 12 (by decide +kernel) (am_mem 175 (by decide +kernel))) (
  am_fc (am_okgf 34 (by decide +kernel) (am_mem 152 (by decide +kernel))) (
  am_fc (am_okgf 12 (by decide +kernel) (am_mem 175 (by decide +kernel))) (
  am_fc (am_okl 37 "person" (by decide +kernel) (by decide +kernel)) (
  am_fc (am_okv 39 (by decide +kernel) (by decide) (am_mem 815 (by decide +kernel)) (am_mem 816 (by decide +kernel)) (am_mem 817 (by decide +kernel))) (
  am_fc (am_okv 43 (by decide +kernel) (by decide) (am_mem 867 (by decide +kernel)) (am_mem 869 (by decide +kernel)) (am_mem 10 (by decide +kernel))) (
  am_fc (am_okgf 12 (by decide +kernel) (am_mem 175 (by decide +kernel))) (
  am_fc (am_okl 47 "fact" (by decide +kernel) (by decide +kernel)) (
  am_fc (am_okv 39 (by decide +kernel) (by decide) (am_mem 815 (by decide +kernel)) (am_mem 816 (by decide +kernel)) (am_mem 817 (by decide +kernel))) (
  am_fc (am_okv 49 (by decide +kernel) (by decide) (am_mem 885 (by decide +kernel)) (am_mem 887 (by decide +kernel)) (am_mem 14 (by decide +kernel))) (
  am_fc (am_okgf 12 (by decide +kernel) (am_mem 175 (by decide +kernel))) (
  am_fc (am_okl 52 "talk" (by decide +kernel) (by decide +kernel)) (
  am_fc (am_okv 39 (by decide +kernel) (by decide) (am_mem 815 (by decide +kernel)) (am_mem 816 (by decide +kernel)) (am_mem 817 (by decide +kernel))) (
  am_fc (am_okv 54 (by decide +kernel) (by decide) (am_mem 899 (by decide +kernel)) (am_mem 901 (by decide +kernel)) (am_mem 16 (by decide +kernel))) (
  am_fc (am_okgf 12 (by decide +kernel) (am_mem 175 (by decide +kernel))) (
  am_fc (am_okl 57 "price" (by decide +kernel) (by decide +kernel)) (
  am_fc (am_okv 39 (by decide +kernel) (by decide) (am_mem 815 (by decide +kernel)) (am_mem 816 (by decide +kernel)) (am_mem 817 (by decide +kernel))) (
  am_fc (am_okv 59 (by decide +kernel) (by decide) (am_mem 908 (by decide +kernel)) (am_mem 910 (by decide +kernel)) (am_mem 17 (by decide +kernel))) (
  am_fc (am_okgf 12 (by decide +kernel) (am_mem 175 (by decide +kernel))) (
  am_fc (am_okl 62 "keeps" (by decide +kernel) (by decide +kernel)) (
  am_fc (am_okv 39 (by decide +kernel) (by decide) (am_mem 815 (by decide +kernel)) (am_mem 816 (by decide +kernel)) (am_mem 817 (by decide +kernel))) (
  am_fc (am_okv 64 (by decide +kernel) (by decide) (am_mem 917 (by decide +kernel)) (am_mem 919 (by decide +kernel)) (am_mem 18 (by decide +kernel))) (
  am_fc (am_okv 67 (by decide +kernel) (by decide) (am_mem 871 (by decide +kernel)) (am_mem 873 (by decide +kernel)) (am_mem 11 (by decide +kernel))) (
  am_fc (am_okv 70 (by decide +kernel) (by decide) (am_mem 993 (by decide +kernel)) (am_mem 995 (by decide +kernel)) (am_mem 25 (by decide +kernel))) (
  am_fc (am_okgf 22 (by decide +kernel) (am_mem 177 (by decide +kernel))) (
  am_fn)))))))))))))))))))))))))))))))
def am_t50 : List (Nat × Instr × Nat) := am_p50_0 ++ (am_l50_0)
theorem am_ot50 : ∀ q ∈ am_t50, am_ok 50 q.1 q.2.1 q.2.2 := List.forall_mem_append.mpr ⟨am_op50_0, am_ol50_0⟩
def am_p51_0 : List (Nat × Instr × Nat) := [(0, .aload_n 1, 1), (4, .istore_n 2, 1), (5, .iload_n 2, 1), (6, .ifCond .lt 9, 3), (9, .iload_n 2, 1), (10, .bipush 6, 2), (12, .if_icmp .lt 9, 3), (15, .aload_n 0, 1), (16, .iconst 2, 1), (20, .return_, 1), (21, .aload_n 0, 1), (28, .aload_n 1, 1), (32, .iload_n 2, 1), (33, .aload_n 0, 1), (34, .iconst 0, 1), (35, .sipush 9999, 3), (41, .iastore, 1), (42, .aload_n 1, 1), (46, .iload_n 2, 1), (47, .aload_n 0, 1), (48, .iconst 0, 1), (49, .iconst 3, 1), (53, .iastore, 1), (54, .aload_n 1, 1), (55, .dup, 1), (59, .iconst 1, 1), (60, .iadd, 1), (64, .return_, 1)]
theorem am_op51_0 : ∀ q ∈ am_p51_0, am_ok 51 q.1 q.2.1 q.2.2 := am_okps (by decide +kernel)
def am_l51_0 : List (Nat × Instr × Nat) := [(1, .getfield 80000, 3), (17, .invokevirtual 66, 3), (22, .getfield 60002, 3), (25, .invokevirtual 94, 3), (29, .getfield 80052, 3), (38, .invokevirtual 62, 3), (43, .getfield 80062, 3), (50, .invokevirtual 62, 3), (56, .getfield 80000, 3), (61, .putfield 80000, 3)]
theorem am_ol51_0 : ∀ q ∈ am_l51_0, am_ok 51 q.1 q.2.1 q.2.2 := show ∀ q ∈ ([(1, .getfield 80000, 3), (17, .invokevirtual 66, 3), (22, .getfield 60002, 3), (25, .invokevirtual 94, 3), (29, .getfield 80052, 3), (38, .invokevirtual 62, 3), (43, .getfield 80062, 3), (50, .invokevirtual 62, 3), (56, .getfield 80000, 3), (61, .putfield 80000, 3)] : List (Nat × Instr × Nat)), am_ok 51 q.1 q.2.1 q.2.2 from
  am_fc (am_okgf 73 (by decide +kernel) (am_mem 231 (by decide +kernel))) (
  am_fc (am_okv 67 (by decide +kernel) (by decide) (am_mem 871 (by decide +kernel)) (am_mem 873 (by decide +kernel)) (am_mem 11 (by decide +kernel))) (
  am_fc (am_okgf 12 (by decide +kernel) (am_mem 175 (by decide +kernel))) (
  am_fc (am_okv 76 (by decide +kernel) (by decide) (am_mem 879 (by decide +kernel)) (am_mem 791 (by decide +kernel)) (am_mem 792 (by decide +kernel))) (
  am_fc (am_okgf 79 (by decide +kernel) (am_mem 249 (by decide +kernel))) (
  am_fc (am_okv 83 (by decide +kernel) (by decide) (am_mem 880 (by decide +kernel)) (am_mem 882 (by decide +kernel)) (am_mem 13 (by decide +kernel))) (
  am_fc (am_okgf 87 (by decide +kernel) (am_mem 252 (by decide +kernel))) (
  am_fc (am_okv 83 (by decide +kernel) (by decide) (am_mem 880 (by decide +kernel)) (am_mem 882 (by decide +kernel)) (am_mem 13 (by decide +kernel))) (
  am_fc (am_okgf 73 (by decide +kernel) (am_mem 231 (by decide +kernel))) (
  am_fc (am_okpf 73 (by decide +kernel) (am_mem 231 (by decide +kernel))) (
  am_fn))))))))))
def am_t51 : List (Nat × Instr × Nat) := am_p51_0 ++ (am_l51_0)
theorem am_ot51 : ∀ q ∈ am_t51, am_ok 51 q.1 q.2.1 q.2.2 := List.forall_mem_append.mpr ⟨am_op51_0, am_ol51_0⟩
def am_p52_0 : List (Nat × Instr × Nat) := [(0, .aload_n 1, 1), (4, .istore_n 2, 1), (5, .iload_n 2, 1), (6, .ifCond .lt 9, 3), (9, .iload_n 2, 1), (10, .bipush 10, 2), (12, .if_icmp .lt 9, 3), (15, .aload_n 0, 1), (16, .iconst 2, 1), (20, .return_, 1), (21, .aload_n 0, 1), (28, .aload_n 1, 1), (32, .iload_n 2, 1), (33, .aload_n 0, 1), (34, .iconst 0, 1), (35, .sipush 400, 3), (41, .iastore, 1), (42, .aload_n 1, 1), (46, .iload_n 2, 1), (47, .aload_n 0, 1), (48, .iconst 1, 1), (49, .bipush 9, 2), (54, .iastore, 1), (55, .aload_n 0, 1), (56, .aload_n 1, 1), (57, .iconst 0, 1), (64, .istore_n 3, 1), (65, .iconst 0, 1), (66, .istore 4, 2), (68, .iload 4, 2), (70, .bipush 6, 2), (72, .if_icmp .gt 39, 3), (75, .aload_n 0, 1), (79, .ifCond .ne 32, 3), (82, .aload_n 0, 1), (89, .iconst 2, 1), (90, .if_icmp .ne 21, 3), (93, .iload_n 3, 1), (94, .aload_n 0, 1), (95, .aload_n 1, 1), (96, .iload_n 3, 1), (103, .ior, 1), (104, .istore_n 3, 1), (105, .iinc 4 1, 3), (108, .goto (-40), 3), (111, .aload_n 1, 1), (115, .iload_n 2, 1), (116, .iload_n 3, 1), (117, .iastore, 1), (118, .aload_n 1, 1), (122, .iload_n 2, 1), (123, .iconst (-1), 1), (124, .iastore, 1), (125, .aload_n 1, 1), (129, .iload_n 2, 1), (130, .iconst (-1), 1), (131, .iastore, 1), (132, .aload_n 1, 1), (136, .iload_n 2, 1), (137, .iconst (-1), 1), (138, .iastore, 1), (139, .aload_n 0, 1), (143, .ifCond .ne 68, 3), (146, .aload_n 0, 1), (155, .ifCond .eq 56, 3), (158, .aload_n 0, 1), (165, .aload_n 1, 1), (169, .iload_n 2, 1), (170, .aload_n 0, 1), (171, .aload_n 1, 1), (172, .iconst 0, 1), (176, .iastore, 1), (177, .aload_n 1, 1), (181, .iload_n 2, 1), (182, .aload_n 0, 1), (183, .aload_n 1, 1), (184, .aload_n 1, 1), (188, .iload_n 2, 1), (189, .iaload, 1), (196, .iastore, 1), (197, .aload_n 1, 1), (201, .iload_n 2, 1), (202, .aload_n 0, 1), (203, .iconst 1, 1), (204, .sipush 999, 3), (210, .iastore, 1), (211, .aload_n 1, 1), (212, .dup, 1), (216, .iconst 1, 1), (217, .iadd, 1), (221, .return_, 1)]
theorem am_op52_0 : ∀ q ∈ am_p52_0, am_ok 52 q.1 q.2.1 q.2.2 := am_okps (by decide +kernel)
def am_l52_0 : List (Nat × Instr × Nat) := [(1, .getfield 80010, 3), (17, .invokevirtual 66, 3), (22, .getfield 60002, 3), (25, .invokevirtual 94, 3), (29, .getfield 80072, 3), (38, .invokevirtual 62, 3), (43, .getfield 80082, 3), (51, .invokevirtual 62, 3), (58, .invokevirtual 63, 3), (61, .invokestatic 64, 3), (76, .getfield 60010, 3), (83, .getfield 60002, 3), (86, .getfield 90030, 3), (97, .invokevirtual 63, 3), (100, .invokestatic 64, 3), (112, .getfield 80092, 3), (119, .getfield 80102, 3), (126, .getfield 80112, 3), (133, .getfield 80122, 3), (140, .getfield 60010, 3), (147, .getfield 60002, 3), (150, .ldc 3, 2), (152, .invokevirtual 96, 3), (159, .getfield 60002, 3), (162, .invokevirtual 94, 3), (166, .getfield 80102, 3), (173, .invokevirtual 63, 3), (178, .getfield 80112, 3), (185, .getfield 80102, 3), (190, .invokestatic 64, 3), (193, .invokevirtual 63, 3), (198, .getfield 80122, 3), (207, .invokevirtual 62, 3), (213, .getfield 80010, 3), (218, .putfield 80010, 3)]
theorem am_ol52_0 : ∀ q ∈ am_l52_0, am_ok 52 q.1 q.2.1 q.2.2 := show ∀ q ∈ ([(1, .getfield 80010, 3), (17, .invokevirtual 66, 3), (22, .getfield 60002, 3), (25, .invokevirtual 94, 3), (29, .getfield 80072, 3), (38, .invokevirtual 62, 3), (43, .getfield 80082, 3), (51, .invokevirtual 62, 3), (58, .invokevirtual 63, 3), (61, .invokestatic 64, 3), (76, .getfield 60010, 3), (83, .getfield 60002, 3), (86, .getfield 90030, 3), (97, .invokevirtual 63, 3), (100, .invokestatic 64, 3), (112, .getfield 80092, 3), (119, .getfield 80102, 3), (126, .getfield 80112, 3), (133, .getfield 80122, 3), (140, .getfield 60010, 3), (147, .getfield 60002, 3), (150, .ldc 3, 2), (152, .invokevirtual 96, 3), (159, .getfield 60002, 3), (162, .invokevirtual 94, 3), (166, .getfield 80102, 3), (173, .invokevirtual 63, 3), (178, .getfield 80112, 3), (185, .getfield 80102, 3), (190, .invokestatic 64, 3), (193, .invokevirtual 63, 3), (198, .getfield 80122, 3), (207, .invokevirtual 62, 3), (213, .getfield 80010, 3), (218, .putfield 80010, 3)] : List (Nat × Instr × Nat)), am_ok 52 q.1 q.2.1 q.2.2 from
  am_fc (am_okgf 90 (by decide +kernel) (am_mem 235 (by decide +kernel))) (
  am_fc (am_okv 67 (by decide +kernel) (by decide) (am_mem 871 (by decide +kernel)) (am_mem 873 (by decide +kernel)) (am_mem 11 (by decide +kernel))) (
  am_fc (am_okgf 12 (by decide +kernel) (am_mem 175 (by decide +kernel))) (
  am_fc (am_okv 76 (by decide +kernel) (by decide) (am_mem 879 (by decide +kernel)) (am_mem 791 (by decide +kernel)) (am_mem 792 (by decide +kernel))) (
  am_fc (am_okgf 93 (by decide +kernel) (am_mem 254 (by decide +kernel))) (
  am_fc (am_okv 83 (by decide +kernel) (by decide) (am_mem 880 (by decide +kernel)) (am_mem 882 (by decide +kernel)) (am_mem 13 (by decide +kernel))) (
  am_fc (am_okgf 96 (by decide +kernel) (am_mem 258 (by decide +kernel))) (
  am_fc (am_okv 83 (by decide +kernel) (by decide) (am_mem 880 (by decide +kernel)) (am_mem 882 (by decide +kernel)) (am_mem 13 (by decide +kernel))) (
  am_fc (am_okv 99 (by decide +kernel) (by decide) (am_mem 889 (by decide +kernel)) (am_mem 891 (by decide +kernel)) (am_mem 15 (by decide +kernel))) (
  am_fc (am_oks 103 (by decide +kernel) (by decide) (am_mem 895 (by decide +kernel)) (Or.inl (am_mem 894 (by decide +kernel)))) (
  am_fc (am_okgf 22 (by decide +kernel) (am_mem 177 (by decide +kernel))) (
  am_fc (am_okgf 12 (by decide +kernel) (am_mem 175 (by decide +kernel))) (
  am_fc (am_okgf 34 (by decide +kernel) (am_mem 152 (by decide +kernel))) (
  am_fc (am_okv 99 (by decide +kernel) (by decide) (am_mem 889 (by decide +kernel)) (am_mem 891 (by decide +kernel)) (am_mem 15 (by decide +kernel))) (
  am_fc (am_oks 103 (by decide +kernel) (by decide) (am_mem 895 (by decide +kernel)) (Or.inl (am_mem 894 (by decide +kernel)))) (
  am_fc (am_okgf 107 (by decide +kernel) (am_mem 262 (by decide +kernel))) (
  am_fc (am_okgf 110 (by decide +kernel) (am_mem 266 (by decide +kernel))) (
  am_fc (am_okgf 113 (by decide +kernel) (am_mem 269 (by decide +kernel))) (
  am_fc (am_okgf 116 (by decide +kernel) (am_mem 272 (by decide +kernel))) (
  am_fc (am_okgf 22 (by decide +kernel) (am_mem 177 (by decide +kernel))) (
  am_fc (am_okgf 12 (by decide +kernel) (am_mem 175 (by decide +kernel))) (
  am_fc (am_okl 119 "debt" (by decide +kernel) (by decide +kernel)) (
  am_fc (am_okv 39 (by decide +kernel) (by decide) (am_mem 815 (by decide +kernel)) (am_mem 816 (by decide +kernel)) (am_mem 817 (by decide +kernel))) (
  am_fc (am_okgf 12 (by decide +kernel) (am_mem 175 (by decide +kernel))) (
  am_fc (am_okv 76 (by decide +kernel) (by decide) (am_mem 879 (by decide +kernel)) (am_mem 791 (by decide +kernel)) (am_mem 792 (by decide +kernel))) (
  am_fc (am_okgf 110 (by decide +kernel) (am_mem 266 (by decide +kernel))) (
  am_fc (am_okv 99 (by decide +kernel) (by decide) (am_mem 889 (by decide +kernel)) (am_mem 891 (by decide +kernel)) (am_mem 15 (by decide +kernel))) (
  am_fc (am_okgf 113 (by decide +kernel) (am_mem 269 (by decide +kernel))) (
  am_fc (am_okgf 110 (by decide +kernel) (am_mem 266 (by decide +kernel))) (
  am_fc (am_oks 103 (by decide +kernel) (by decide) (am_mem 895 (by decide +kernel)) (Or.inl (am_mem 894 (by decide +kernel)))) (
  am_fc (am_okv 99 (by decide +kernel) (by decide) (am_mem 889 (by decide +kernel)) (am_mem 891 (by decide +kernel)) (am_mem 15 (by decide +kernel))) (
  am_fc (am_okgf 116 (by decide +kernel) (am_mem 272 (by decide +kernel))) (
  am_fc (am_okv 83 (by decide +kernel) (by decide) (am_mem 880 (by decide +kernel)) (am_mem 882 (by decide +kernel)) (am_mem 13 (by decide +kernel))) (
  am_fc (am_okgf 90 (by decide +kernel) (am_mem 235 (by decide +kernel))) (
  am_fc (am_okpf 90 (by decide +kernel) (am_mem 235 (by decide +kernel))) (
  am_fn)))))))))))))))))))))))))))))))))))
def am_t52 : List (Nat × Instr × Nat) := am_p52_0 ++ (am_l52_0)
theorem am_ot52 : ∀ q ∈ am_t52, am_ok 52 q.1 q.2.1 q.2.2 := List.forall_mem_append.mpr ⟨am_op52_0, am_ol52_0⟩
def am_p53_0 : List (Nat × Instr × Nat) := [(0, .aload_n 1, 1), (4, .istore_n 2, 1), (5, .iload_n 2, 1), (6, .ifCond .lt 9, 3), (9, .iload_n 2, 1), (10, .bipush 10, 2), (12, .if_icmp .lt 9, 3), (15, .aload_n 0, 1), (16, .iconst 2, 1), (20, .return_, 1), (21, .aload_n 0, 1), (28, .aload_n 0, 1), (29, .aload_n 1, 1), (30, .iconst 0, 1), (34, .istore_n 3, 1), (35, .aload_n 1, 1), (39, .iload_n 2, 1), (40, .aload_n 0, 1), (41, .aload_n 1, 1), (42, .iload_n 3, 1), (46, .aload_n 1, 1), (47, .iload_n 3, 1), (51, .ior, 1), (55, .iastore, 1), (56, .aload_n 1, 1), (60, .iload_n 2, 1), (61, .iload_n 3, 1), (62, .iastore, 1), (63, .aload_n 1, 1), (64, .dup, 1), (68, .iconst 1, 1), (69, .iadd, 1), (73, .return_, 1)]
theorem am_op53_0 : ∀ q ∈ am_p53_0, am_ok 53 q.1 q.2.1 q.2.2 := am_okps (by decide +kernel)
def am_l53_0 : List (Nat × Instr × Nat) := [(1, .getfield 80020, 3), (17, .invokevirtual 66, 3), (22, .getfield 60002, 3), (25, .invokevirtual 94, 3), (31, .invokevirtual 63, 3), (36, .getfield 80142, 3), (43, .invokestatic 64, 3), (48, .invokevirtual 87, 3), (52, .invokevirtual 63, 3), (57, .getfield 80132, 3), (65, .getfield 80020, 3), (70, .putfield 80020, 3)]
theorem am_ol53_0 : ∀ q ∈ am_l53_0, am_ok 53 q.1 q.2.1 q.2.2 := show ∀ q ∈ ([(1, .getfield 80020, 3), (17, .invokevirtual 66, 3), (22, .getfield 60002, 3), (25, .invokevirtual 94, 3), (31, .invokevirtual 63, 3), (36, .getfield 80142, 3), (43, .invokestatic 64, 3), (48, .invokevirtual 87, 3), (52, .invokevirtual 63, 3), (57, .getfield 80132, 3), (65, .getfield 80020, 3), (70, .putfield 80020, 3)] : List (Nat × Instr × Nat)), am_ok 53 q.1 q.2.1 q.2.2 from
  am_fc (am_okgf 121 (by decide +kernel) (am_mem 239 (by decide +kernel))) (
  am_fc (am_okv 67 (by decide +kernel) (by decide) (am_mem 871 (by decide +kernel)) (am_mem 873 (by decide +kernel)) (am_mem 11 (by decide +kernel))) (
  am_fc (am_okgf 12 (by decide +kernel) (am_mem 175 (by decide +kernel))) (
  am_fc (am_okv 76 (by decide +kernel) (by decide) (am_mem 879 (by decide +kernel)) (am_mem 791 (by decide +kernel)) (am_mem 792 (by decide +kernel))) (
  am_fc (am_okv 99 (by decide +kernel) (by decide) (am_mem 889 (by decide +kernel)) (am_mem 891 (by decide +kernel)) (am_mem 15 (by decide +kernel))) (
  am_fc (am_okgf 124 (by decide +kernel) (am_mem 278 (by decide +kernel))) (
  am_fc (am_oks 103 (by decide +kernel) (by decide) (am_mem 895 (by decide +kernel)) (Or.inl (am_mem 894 (by decide +kernel)))) (
  am_fc (am_okv 127 (by decide +kernel) (by decide) (am_mem 903 (by decide +kernel)) (am_mem 904 (by decide +kernel)) (am_mem 905 (by decide +kernel))) (
  am_fc (am_okv 99 (by decide +kernel) (by decide) (am_mem 889 (by decide +kernel)) (am_mem 891 (by decide +kernel)) (am_mem 15 (by decide +kernel))) (
  am_fc (am_okgf 130 (by decide +kernel) (am_mem 275 (by decide +kernel))) (
  am_fc (am_okgf 121 (by decide +kernel) (am_mem 239 (by decide +kernel))) (
  am_fc (am_okpf 121 (by decide +kernel) (am_mem 239 (by decide +kernel))) (
  am_fn))))))))))))
def am_t53 : List (Nat × Instr × Nat) := am_p53_0 ++ (am_l53_0)
theorem am_ot53 : ∀ q ∈ am_t53, am_ok 53 q.1 q.2.1 q.2.2 := List.forall_mem_append.mpr ⟨am_op53_0, am_ol53_0⟩
def am_p54_0 : List (Nat × Instr × Nat) := [(0, .aload_n 1, 1), (4, .istore_n 2, 1), (5, .iload_n 2, 1), (6, .ifCond .lt 9, 3), (9, .iload_n 2, 1), (10, .bipush 8, 2), (12, .if_icmp .lt 9, 3), (15, .aload_n 0, 1), (16, .iconst 2, 1), (20, .return_, 1), (21, .aload_n 0, 1), (28, .aload_n 0, 1), (35, .istore_n 3, 1), (36, .aload_n 0, 1), (37, .iconst 0, 1), (38, .sipush 400, 3), (44, .istore 4, 2), (46, .aload_n 1, 1), (47, .iload 4, 2), (52, .ifCond .eq 9, 3), (55, .aload_n 0, 1), (56, .iconst 4, 1), (57, .iload_n 3, 1), (61, .aload_n 1, 1), (65, .iload_n 2, 1), (66, .iload 4, 2), (68, .iastore, 1), (69, .aload_n 1, 1), (73, .iload_n 2, 1), (74, .aload_n 0, 1), (75, .iconst 0, 1), (76, .bipush 99, 2), (81, .iastore, 1), (82, .aload_n 1, 1), (83, .dup, 1), (87, .iconst 1, 1), (88, .iadd, 1), (92, .return_, 1)]
theorem am_op54_0 : ∀ q ∈ am_p54_0, am_ok 54 q.1 q.2.1 q.2.2 := am_okps (by decide +kernel)
def am_l54_0 : List (Nat × Instr × Nat) := [(1, .getfield 80030, 3), (17, .invokevirtual 66, 3), (22, .getfield 60002, 3), (25, .invokevirtual 94, 3), (29, .getfield 60002, 3), (32, .getfield 90040, 3), (41, .invokevirtual 62, 3), (49, .invokevirtual 85, 3), (58, .invokevirtual 67, 3), (62, .getfield 80152, 3), (70, .getfield 80162, 3), (78, .invokevirtual 62, 3), (84, .getfield 80030, 3), (89, .putfield 80030, 3)]
theorem am_ol54_0 : ∀ q ∈ am_l54_0, am_ok 54 q.1 q.2.1 q.2.2 := show ∀ q ∈ ([(1, .getfield 80030, 3), (17, .invokevirtual 66, 3), (22, .getfield 60002, 3), (25, .invokevirtual 94, 3), (29, .getfield 60002, 3), (32, .getfield 90040, 3), (41, .invokevirtual 62, 3), (49, .invokevirtual 85, 3), (58, .invokevirtual 67, 3), (62, .getfield 80152, 3), (70, .getfield 80162, 3), (78, .invokevirtual 62, 3), (84, .getfield 80030, 3), (89, .putfield 80030, 3)] : List (Nat × Instr × Nat)), am_ok 54 q.1 q.2.1 q.2.2 from
  am_fc (am_okgf 133 (by decide +kernel) (am_mem 243 (by decide +kernel))) (
  am_fc (am_okv 67 (by decide +kernel) (by decide) (am_mem 871 (by decide +kernel)) (am_mem 873 (by decide +kernel)) (am_mem 11 (by decide +kernel))) (
  am_fc (am_okgf 12 (by decide +kernel) (am_mem 175 (by decide +kernel))) (
  am_fc (am_okv 76 (by decide +kernel) (by decide) (am_mem 879 (by decide +kernel)) (am_mem 791 (by decide +kernel)) (am_mem 792 (by decide +kernel))) (
  am_fc (am_okgf 12 (by decide +kernel) (am_mem 175 (by decide +kernel))) (
  am_fc (am_okgf 136 (by decide +kernel) (am_mem 155 (by decide +kernel))) (
  am_fc (am_okv 83 (by decide +kernel) (by decide) (am_mem 880 (by decide +kernel)) (am_mem 882 (by decide +kernel)) (am_mem 13 (by decide +kernel))) (
  am_fc (am_okv 139 (by decide +kernel) (by decide) (am_mem 912 (by decide +kernel)) (am_mem 913 (by decide +kernel)) (am_mem 914 (by decide +kernel))) (
  am_fc (am_okv 143 (by decide +kernel) (by decide) (am_mem 875 (by decide +kernel)) (am_mem 877 (by decide +kernel)) (am_mem 12 (by decide +kernel))) (
  am_fc (am_okgf 147 (by decide +kernel) (am_mem 281 (by decide +kernel))) (
  am_fc (am_okgf 150 (by decide +kernel) (am_mem 283 (by decide +kernel))) (
  am_fc (am_okv 83 (by decide +kernel) (by decide) (am_mem 880 (by decide +kernel)) (am_mem 882 (by decide +kernel)) (am_mem 13 (by decide +kernel))) (
  am_fc (am_okgf 133 (by decide +kernel) (am_mem 243 (by decide +kernel))) (
  am_fc (am_okpf 133 (by decide +kernel) (am_mem 243 (by decide +kernel))) (
  am_fn))))))))))))))
def am_t54 : List (Nat × Instr × Nat) := am_p54_0 ++ (am_l54_0)
theorem am_ot54 : ∀ q ∈ am_t54, am_ok 54 q.1 q.2.1 q.2.2 := List.forall_mem_append.mpr ⟨am_op54_0, am_ol54_0⟩
def am_p55_0 : List (Nat × Instr × Nat) := [(0, .aload_n 1, 1), (4, .ifCond .eq 9, 3), (7, .aload_n 0, 1), (8, .iconst 5, 1), (12, .return_, 1), (13, .aload_n 0, 1), (20, .aload_n 1, 1), (21, .iconst 1, 1), (25, .aload_n 0, 1), (26, .iconst 1, 1), (30, .aload_n 0, 1), (31, .iconst 1, 1), (35, .aload_n 0, 1), (36, .iconst 0, 1), (40, .aload_n 0, 1), (41, .iconst 0, 1), (45, .iconst 0, 1), (46, .istore_n 2, 1), (47, .iload_n 2, 1), (48, .sipush 700, 3), (51, .if_icmp .ge 64, 3), (54, .aload_n 0, 1), (58, .ifCond .ne 57, 3), (61, .aload_n 0, 1), (65, .ifCond .eq 14, 3), (68, .aload_n 0, 1), (69, .aload_n 1, 1), (76, .goto 33, 3), (79, .aload_n 0, 1), (83, .ifCond .ne 18, 3), (86, .aload_n 0, 1), (90, .bipush 59, 2), (95, .ifCond .eq 6, 3), (98, .goto 17, 3), (101, .aload_n 0, 1), (102, .aload_n 1, 1), (109, .iinc 2 1, 3), (112, .goto (-65), 3), (115, .aload_n 1, 1), (119, .iconst 1, 1), (123, .return_, 1)]
theorem am_op55_0 : ∀ q ∈ am_p55_0, am_ok 55 q.1 q.2.1 q.2.2 := am_okps (by decide +kernel)
def am_l55_0 : List (Nat × Instr × Nat) := [(1, .getfield 80041, 3), (9, .invokevirtual 66, 3), (14, .getfield 60002, 3), (17, .invokevirtual 94, 3), (22, .putfield 80041, 3), (27, .putfield 60031, 3), (32, .putfield 60041, 3), (37, .putfield 60050, 3), (42, .putfield 60060, 3), (55, .getfield 60010, 3), (62, .getfield 60031, 3), (70, .getfield 80172, 3), (73, .invokevirtual 56, 3), (80, .getfield 60050, 3), (87, .getfield 60002, 3), (92, .invokevirtual 97, 3), (103, .getfield 80172, 3), (106, .invokevirtual 59, 3), (116, .getfield 80172, 3), (120, .invokevirtual 76, 3)]
theorem am_ol55_0 : ∀ q ∈ am_l55_0, am_ok 55 q.1 q.2.1 q.2.2 := show ∀ q ∈ ([(1, .getfield 80041, 3), (9, .invokevirtual 66, 3), (14, .getfield 60002, 3), (17, .invokevirtual 94, 3), (22, .putfield 80041, 3), (27, .putfield 60031, 3), (32, .putfield 60041, 3), (37, .putfield 60050, 3), (42, .putfield 60060, 3), (55, .getfield 60010, 3), (62, .getfield 60031, 3), (70, .getfield 80172, 3), (73, .invokevirtual 56, 3), (80, .getfield 60050, 3), (87, .getfield 60002, 3), (92, .invokevirtual 97, 3), (103, .getfield 80172, 3), (106, .invokevirtual 59, 3), (116, .getfield 80172, 3), (120, .invokevirtual 76, 3)] : List (Nat × Instr × Nat)), am_ok 55 q.1 q.2.1 q.2.2 from
  am_fc (am_okgf 152 (by decide +kernel) (am_mem 245 (by decide +kernel))) (
  am_fc (am_okv 67 (by decide +kernel) (by decide) (am_mem 871 (by decide +kernel)) (am_mem 873 (by decide +kernel)) (am_mem 11 (by decide +kernel))) (
  am_fc (am_okgf 12 (by decide +kernel) (am_mem 175 (by decide +kernel))) (
  am_fc (am_okv 76 (by decide +kernel) (by decide) (am_mem 879 (by decide +kernel)) (am_mem 791 (by decide +kernel)) (am_mem 792 (by decide +kernel))) (
  am_fc (am_okpf 152 (by decide +kernel) (am_mem 245 (by decide +kernel))) (
  am_fc (am_okpf 156 (by decide +kernel) (am_mem 180 (by decide +kernel))) (
  am_fc (am_okpf 159 (by decide +kernel) (am_mem 181 (by decide +kernel))) (
  am_fc (am_okpf 162 (by decide +kernel) (am_mem 182 (by decide +kernel))) (
  am_fc (am_okpf 165 (by decide +kernel) (am_mem 183 (by decide +kernel))) (
  am_fc (am_okgf 22 (by decide +kernel) (am_mem 177 (by decide +kernel))) (
  am_fc (am_okgf 156 (by decide +kernel) (am_mem 180 (by decide +kernel))) (
  am_fc (am_okgf 168 (by decide +kernel) (am_mem 285 (by decide +kernel))) (
  am_fc (am_okv 172 (by decide +kernel) (by decide) (am_mem 921 (by decide +kernel)) (am_mem 923 (by decide +kernel)) (am_mem 19 (by decide +kernel))) (
  am_fc (am_okgf 162 (by decide +kernel) (am_mem 182 (by decide +kernel))) (
  am_fc (am_okgf 12 (by decide +kernel) (am_mem 175 (by decide +kernel))) (
  am_fc (am_okv 176 (by decide +kernel) (by decide) (am_mem 925 (by decide +kernel)) (am_mem 926 (by decide +kernel)) (am_mem 927 (by decide +kernel))) (
  am_fc (am_okgf 168 (by decide +kernel) (am_mem 285 (by decide +kernel))) (
  am_fc (am_okv 180 (by decide +kernel) (by decide) (am_mem 961 (by decide +kernel)) (am_mem 963 (by decide +kernel)) (am_mem 23 (by decide +kernel))) (
  am_fc (am_okgf 168 (by decide +kernel) (am_mem 285 (by decide +kernel))) (
  am_fc (am_okv 185 (by decide +kernel) (by decide) (am_mem 975 (by decide +kernel)) (am_mem 976 (by decide +kernel)) (am_mem 977 (by decide +kernel))) (
  am_fn))))))))))))))))))))
def am_t55 : List (Nat × Instr × Nat) := am_p55_0 ++ (am_l55_0)
theorem am_ot55 : ∀ q ∈ am_t55, am_ok 55 q.1 q.2.1 q.2.2 := List.forall_mem_append.mpr ⟨am_op55_0, am_ol55_0⟩
def am_p56_0 : List (Nat × Instr × Nat) := [(0, .aload_n 0, 1), (7, .iconst 2, 1), (8, .if_icmp .eq 34, 3), (11, .aload_n 0, 1), (18, .iconst 1, 1), (19, .if_icmp .eq 23, 3), (22, .aload_n 0, 1), (26, .bipush 40, 2), (31, .ifCond .ne 11, 3), (34, .aload_n 0, 1), (35, .iconst 1, 1), (39, .goto 95, 3), (42, .aload_n 0, 1), (46, .bipush 6, 2), (48, .if_icmp .lt 11, 3), (51, .aload_n 0, 1), (52, .iconst 2, 1), (56, .goto 78, 3), (59, .aload_n 0, 1), (63, .ifCond .eq 23, 3), (66, .aload_n 0, 1), (75, .ifCond .eq 11, 3), (78, .aload_n 0, 1), (79, .aload_n 1, 1), (83, .goto 51, 3), (86, .aload_n 0, 1), (90, .bipush 40, 2), (95, .ifCond .eq 34, 3), (98, .aload_n 1, 1), (99, .bipush (-17), 2), (104, .aload_n 0, 1), (105, .dup, 1), (109, .iconst 1, 1), (110, .iadd, 1), (114, .aload_n 0, 1), (115, .iconst 1, 1), (119, .aload_n 0, 1), (126, .goto 8, 3), (129, .aload_n 0, 1), (130, .aload_n 1, 1), (134, .return_, 1)]
theorem am_op56_0 : ∀ q ∈ am_p56_0, am_ok 56 q.1 q.2.1 q.2.2 := am_okps (by decide +kernel)
def am_l56_0 : List (Nat × Instr × Nat) := [(1, .getfield 60002, 3), (4, .getfield 90030, 3), (12, .getfield 60002, 3), (15, .getfield 90030, 3), (23, .getfield 60002, 3), (28, .invokevirtual 97, 3), (36, .invokevirtual 66, 3), (43, .getfield 60050, 3), (53, .invokevirtual 66, 3), (60, .getfield 60041, 3), (67, .getfield 60002, 3), (70, .ldc 7, 2), (72, .invokevirtual 96, 3), (80, .invokevirtual 57, 3), (87, .getfield 60002, 3), (92, .invokevirtual 97, 3), (101, .invokevirtual 74, 3), (106, .getfield 60050, 3), (111, .putfield 60050, 3), (116, .invokevirtual 61, 3), (120, .getfield 60002, 3), (123, .invokevirtual 94, 3), (131, .invokevirtual 58, 3)]
theorem am_ol56_0 : ∀ q ∈ am_l56_0, am_ok 56 q.1 q.2.1 q.2.2 := show ∀ q ∈ ([(1, .getfield 60002, 3), (4, .getfield 90030, 3), (12, .getfield 60002, 3), (15, .getfield 90030, 3), (23, .getfield 60002, 3), (28, .invokevirtual 97, 3), (36, .invokevirtual 66, 3), (43, .getfield 60050, 3), (53, .invokevirtual 66, 3), (60, .getfield 60041, 3), (67, .getfield 60002, 3), (70, .ldc 7, 2), (72, .invokevirtual 96, 3), (80, .invokevirtual 57, 3), (87, .getfield 60002, 3), (92, .invokevirtual 97, 3), (101, .invokevirtual 74, 3), (106, .getfield 60050, 3), (111, .putfield 60050, 3), (116, .invokevirtual 61, 3), (120, .getfield 60002, 3), (123, .invokevirtual 94, 3), (131, .invokevirtual 58, 3)] : List (Nat × Instr × Nat)), am_ok 56 q.1 q.2.1 q.2.2 from
  am_fc (am_okgf 12 (by decide +kernel) (am_mem 175 (by decide +kernel))) (
  am_fc (am_okgf 34 (by decide +kernel) (am_mem 152 (by decide +kernel))) (
  am_fc (am_okgf 12 (by decide +kernel) (am_mem 175 (by decide +kernel))) (
  am_fc (am_okgf 34 (by decide +kernel) (am_mem 152 (by decide +kernel))) (
  am_fc (am_okgf 12 (by decide +kernel) (am_mem 175 (by decide +kernel))) (
  am_fc (am_okv 176 (by decide +kernel) (by decide) (am_mem 925 (by decide +kernel)) (am_mem 926 (by decide +kernel)) (am_mem 927 (by decide +kernel))) (
  am_fc (am_okv 67 (by decide +kernel) (by decide) (am_mem 871 (by decide +kernel)) (am_mem 873 (by decide +kernel)) (am_mem 11 (by decide +kernel))) (
  am_fc (am_okgf 162 (by decide +kernel) (am_mem 182 (by decide +kernel))) (
  am_fc (am_okv 67 (by decide +kernel) (by decide) (am_mem 871 (by decide +kernel)) (am_mem 873 (by decide +kernel)) (am_mem 11 (by decide +kernel))) (
  am_fc (am_okgf 159 (by decide +kernel) (am_mem 181 (by decide +kernel))) (
  am_fc (am_okgf 12 (by decide +kernel) (am_mem 175 (by decide +kernel))) (
  am_fc (am_okl 188 "not" (by decide +kernel) (by decide +kernel)) (
  am_fc (am_okv 39 (by decide +kernel) (by decide) (am_mem 815 (by decide +kernel)) (am_mem 816 (by decide +kernel)) (am_mem 817 (by decide +kernel))) (
  am_fc (am_okv 190 (by decide +kernel) (by decide) (am_mem 930 (by decide +kernel)) (am_mem 932 (by decide +kernel)) (am_mem 20 (by decide +kernel))) (
  am_fc (am_okgf 12 (by decide +kernel) (am_mem 175 (by decide +kernel))) (
  am_fc (am_okv 176 (by decide +kernel) (by decide) (am_mem 925 (by decide +kernel)) (am_mem 926 (by decide +kernel)) (am_mem 927 (by decide +kernel))) (
  am_fc (am_okv 193 (by decide +kernel) (by decide) (am_mem 934 (by decide +kernel)) (am_mem 935 (by decide +kernel)) (am_mem 936 (by decide +kernel))) (
  am_fc (am_okgf 162 (by decide +kernel) (am_mem 182 (by decide +kernel))) (
  am_fc (am_okpf 162 (by decide +kernel) (am_mem 182 (by decide +kernel))) (
  am_fc (am_okv 196 (by decide +kernel) (by decide) (am_mem 938 (by decide +kernel)) (am_mem 940 (by decide +kernel)) (am_mem 21 (by decide +kernel))) (
  am_fc (am_okgf 12 (by decide +kernel) (am_mem 175 (by decide +kernel))) (
  am_fc (am_okv 76 (by decide +kernel) (by decide) (am_mem 879 (by decide +kernel)) (am_mem 791 (by decide +kernel)) (am_mem 792 (by decide +kernel))) (
  am_fc (am_okv 200 (by decide +kernel) (by decide) (am_mem 942 (by decide +kernel)) (am_mem 944 (by decide +kernel)) (am_mem 22 (by decide +kernel))) (
  am_fn)))))))))))))))))))))))
def am_t56 : List (Nat × Instr × Nat) := am_p56_0 ++ (am_l56_0)
theorem am_ot56 : ∀ q ∈ am_t56, am_ok 56 q.1 q.2.1 q.2.2 := List.forall_mem_append.mpr ⟨am_op56_0, am_ol56_0⟩
def am_p57_0 : List (Nat × Instr × Nat) := [(0, .aload_n 0, 1), (4, .bipush 6, 2), (6, .if_icmp .lt 9, 3), (9, .aload_n 0, 1), (10, .iconst 2, 1), (14, .return_, 1), (15, .aload_n 0, 1), (16, .dup, 1), (20, .iconst 1, 1), (21, .iadd, 1), (25, .aload_n 1, 1), (26, .bipush (-8), 2), (31, .aload_n 0, 1), (38, .return_, 1)]
theorem am_op57_0 : ∀ q ∈ am_p57_0, am_ok 57 q.1 q.2.1 q.2.2 := am_okps (by decide +kernel)
def am_l57_0 : List (Nat × Instr × Nat) := [(1, .getfield 60060, 3), (11, .invokevirtual 66, 3), (17, .getfield 60060, 3), (22, .putfield 60060, 3), (28, .invokevirtual 74, 3), (32, .getfield 60002, 3), (35, .invokevirtual 94, 3)]
theorem am_ol57_0 : ∀ q ∈ am_l57_0, am_ok 57 q.1 q.2.1 q.2.2 := show ∀ q ∈ ([(1, .getfield 60060, 3), (11, .invokevirtual 66, 3), (17, .getfield 60060, 3), (22, .putfield 60060, 3), (28, .invokevirtual 74, 3), (32, .getfield 60002, 3), (35, .invokevirtual 94, 3)] : List (Nat × Instr × Nat)), am_ok 57 q.1 q.2.1 q.2.2 from
  am_fc (am_okgf 165 (by decide +kernel) (am_mem 183 (by decide +kernel))) (
  am_fc (am_okv 67 (by decide +kernel) (by decide) (am_mem 871 (by decide +kernel)) (am_mem 873 (by decide +kernel)) (am_mem 11 (by decide +kernel))) (
  am_fc (am_okgf 165 (by decide +kernel) (am_mem 183 (by decide +kernel))) (
  am_fc (am_okpf 165 (by decide +kernel) (am_mem 183 (by decide +kernel))) (
  am_fc (am_okv 193 (by decide +kernel) (by decide) (am_mem 934 (by decide +kernel)) (am_mem 935 (by decide +kernel)) (am_mem 936 (by decide +kernel))) (
  am_fc (am_okgf 12 (by decide +kernel) (am_mem 175 (by decide +kernel))) (
  am_fc (am_okv 76 (by decide +kernel) (by decide) (am_mem 879 (by decide +kernel)) (am_mem 791 (by decide +kernel)) (am_mem 792 (by decide +kernel))) (
  am_fn)))))))
def am_t57 : List (Nat × Instr × Nat) := am_p57_0 ++ (am_l57_0)
theorem am_ot57 : ∀ q ∈ am_t57, am_ok 57 q.1 q.2.1 q.2.2 := List.forall_mem_append.mpr ⟨am_op57_0, am_ol57_0⟩
def am_p58_0 : List (Nat × Instr × Nat) := [(0, .aload_n 0, 1), (7, .iconst 2, 1), (8, .if_icmp .ne 13, 3), (11, .aload_n 0, 1), (18, .goto 10, 3), (21, .aload_n 0, 1), (28, .istore_n 2, 1), (29, .iload_n 2, 1), (30, .bipush (-18), 2), (32, .if_icmp .ne 11, 3), (35, .aload_n 0, 1), (36, .iconst 3, 1), (40, .goto 35, 3), (43, .iload_n 2, 1), (44, .sipush 10000, 3), (47, .if_icmp .lt 11, 3), (50, .aload_n 0, 1), (51, .iconst 2, 1), (55, .goto 20, 3), (58, .aload_n 1, 1), (59, .iload_n 2, 1), (63, .aload_n 0, 1), (64, .iconst 0, 1), (68, .aload_n 0, 1), (75, .return_, 1)]
theorem am_op58_0 : ∀ q ∈ am_p58_0, am_ok 58 q.1 q.2.1 q.2.2 := am_okps (by decide +kernel)
def am_l58_0 : List (Nat × Instr × Nat) := [(1, .getfield 60002, 3), (4, .getfield 90030, 3), (12, .getfield 60002, 3), (15, .getfield 90060, 3), (22, .getfield 60002, 3), (25, .invokestatic 69, 3), (37, .invokevirtual 66, 3), (52, .invokevirtual 66, 3), (60, .invokevirtual 73, 3), (65, .putfield 60031, 3), (69, .getfield 60002, 3), (72, .invokevirtual 94, 3)]
theorem am_ol58_0 : ∀ q ∈ am_l58_0, am_ok 58 q.1 q.2.1 q.2.2 := show ∀ q ∈ ([(1, .getfield 60002, 3), (4, .getfield 90030, 3), (12, .getfield 60002, 3), (15, .getfield 90060, 3), (22, .getfield 60002, 3), (25, .invokestatic 69, 3), (37, .invokevirtual 66, 3), (52, .invokevirtual 66, 3), (60, .invokevirtual 73, 3), (65, .putfield 60031, 3), (69, .getfield 60002, 3), (72, .invokevirtual 94, 3)] : List (Nat × Instr × Nat)), am_ok 58 q.1 q.2.1 q.2.2 from
  am_fc (am_okgf 12 (by decide +kernel) (am_mem 175 (by decide +kernel))) (
  am_fc (am_okgf 34 (by decide +kernel) (am_mem 152 (by decide +kernel))) (
  am_fc (am_okgf 12 (by decide +kernel) (am_mem 175 (by decide +kernel))) (
  am_fc (am_okgf 203 (by decide +kernel) (am_mem 158 (by decide +kernel))) (
  am_fc (am_okgf 12 (by decide +kernel) (am_mem 175 (by decide +kernel))) (
  am_fc (am_oks 206 (by decide +kernel) (by decide) (am_mem 947 (by decide +kernel)) (Or.inl (am_mem 946 (by decide +kernel)))) (
  am_fc (am_okv 67 (by decide +kernel) (by decide) (am_mem 871 (by decide +kernel)) (am_mem 873 (by decide +kernel)) (am_mem 11 (by decide +kernel))) (
  am_fc (am_okv 67 (by decide +kernel) (by decide) (am_mem 871 (by decide +kernel)) (am_mem 873 (by decide +kernel)) (am_mem 11 (by decide +kernel))) (
  am_fc (am_okv 210 (by decide +kernel) (by decide) (am_mem 957 (by decide +kernel)) (am_mem 958 (by decide +kernel)) (am_mem 959 (by decide +kernel))) (
  am_fc (am_okpf 156 (by decide +kernel) (am_mem 180 (by decide +kernel))) (
  am_fc (am_okgf 12 (by decide +kernel) (am_mem 175 (by decide +kernel))) (
  am_fc (am_okv 76 (by decide +kernel) (by decide) (am_mem 879 (by decide +kernel)) (am_mem 791 (by decide +kernel)) (am_mem 792 (by decide +kernel))) (
  am_fn))))))))))))
def am_t58 : List (Nat × Instr × Nat) := am_p58_0 ++ (am_l58_0)
theorem am_ot58 : ∀ q ∈ am_t58, am_ok 58 q.1 q.2.1 q.2.2 := List.forall_mem_append.mpr ⟨am_op58_0, am_ol58_0⟩
def am_p59_0 : List (Nat × Instr × Nat) := [(0, .aload_n 0, 1), (7, .istore_n 2, 1), (8, .iload_n 2, 1), (9, .bipush (-18), 2), (11, .if_icmp .ne 9, 3), (14, .aload_n 0, 1), (15, .aload_n 1, 1), (19, .return_, 1), (20, .iload_n 2, 1), (24, .istore_n 3, 1), (25, .iload_n 3, 1), (26, .iconst 4, 1), (27, .if_icmp .ne 7, 3), (30, .iconst 1, 1), (31, .goto 4, 3), (34, .iconst 0, 1), (35, .istore 4, 2), (37, .aload_n 1, 1), (38, .iload 4, 2), (40, .ifCond .eq 9, 3), (43, .iload_n 3, 1), (44, .iconst 1, 1), (45, .iadd, 1), (46, .goto 4, 3), (49, .iload_n 3, 1), (53, .iload 4, 2), (55, .ifCond .eq 17, 3), (58, .aload_n 1, 1), (62, .iload_n 3, 1), (63, .if_icmp .ne 9, 3), (66, .aload_n 0, 1), (67, .iconst 1, 1), (71, .return_, 1), (72, .aload_n 1, 1), (73, .iload_n 2, 1), (77, .aload_n 0, 1), (78, .iload_n 3, 1), (79, .iconst 4, 1), (80, .if_icmp .ge 7, 3), (83, .iconst 1, 1), (84, .goto 4, 3), (87, .iconst 0, 1), (91, .aload_n 0, 1), (98, .return_, 1)]
theorem am_op59_0 : ∀ q ∈ am_p59_0, am_ok 59 q.1 q.2.1 q.2.2 := am_okps (by decide +kernel)
def am_l59_0 : List (Nat × Instr × Nat) := [(1, .getfield 60002, 3), (4, .invokestatic 70, 3), (16, .invokevirtual 60, 3), (21, .invokestatic 71, 3), (50, .invokevirtual 76, 3), (59, .invokevirtual 75, 3), (68, .invokevirtual 66, 3), (74, .invokevirtual 74, 3), (88, .invokevirtual 61, 3), (92, .getfield 60002, 3), (95, .invokevirtual 94, 3)]
theorem am_ol59_0 : ∀ q ∈ am_l59_0, am_ok 59 q.1 q.2.1 q.2.2 := show ∀ q ∈ ([(1, .getfield 60002, 3), (4, .invokestatic 70, 3), (16, .invokevirtual 60, 3), (21, .invokestatic 71, 3), (50, .invokevirtual 76, 3), (59, .invokevirtual 75, 3), (68, .invokevirtual 66, 3), (74, .invokevirtual 74, 3), (88, .invokevirtual 61, 3), (92, .getfield 60002, 3), (95, .invokevirtual 94, 3)] : List (Nat × Instr × Nat)), am_ok 59 q.1 q.2.1 q.2.2 from
  am_fc (am_okgf 12 (by decide +kernel) (am_mem 175 (by decide +kernel))) (
  am_fc (am_oks 213 (by decide +kernel) (by decide) (am_mem 966 (by decide +kernel)) (Or.inl (am_mem 965 (by decide +kernel)))) (
  am_fc (am_okv 216 (by decide +kernel) (by decide) (am_mem 971 (by decide +kernel)) (am_mem 973 (by decide +kernel)) (am_mem 24 (by decide +kernel))) (
  am_fc (am_oks 219 (by decide +kernel) (by decide) (am_mem 984 (by decide +kernel)) (Or.inl (am_mem 991 (by decide +kernel)))) (
  am_fc (am_okv 185 (by decide +kernel) (by decide) (am_mem 975 (by decide +kernel)) (am_mem 976 (by decide +kernel)) (am_mem 977 (by decide +kernel))) (
  am_fc (am_okv 222 (by decide +kernel) (by decide) (am_mem 992 (by decide +kernel)) (am_mem 980 (by decide +kernel)) (am_mem 981 (by decide +kernel))) (
  am_fc (am_okv 67 (by decide +kernel) (by decide) (am_mem 871 (by decide +kernel)) (am_mem 873 (by decide +kernel)) (am_mem 11 (by decide +kernel))) (
  am_fc (am_okv 193 (by decide +kernel) (by decide) (am_mem 934 (by decide +kernel)) (am_mem 935 (by decide +kernel)) (am_mem 936 (by decide +kernel))) (
  am_fc (am_okv 196 (by decide +kernel) (by decide) (am_mem 938 (by decide +kernel)) (am_mem 940 (by decide +kernel)) (am_mem 21 (by decide +kernel))) (
  am_fc (am_okgf 12 (by decide +kernel) (am_mem 175 (by decide +kernel))) (
  am_fc (am_okv 76 (by decide +kernel) (by decide) (am_mem 879 (by decide +kernel)) (am_mem 791 (by decide +kernel)) (am_mem 792 (by decide +kernel))) (
  am_fn)))))))))))
def am_t59 : List (Nat × Instr × Nat) := am_p59_0 ++ (am_l59_0)
theorem am_ot59 : ∀ q ∈ am_t59, am_ok 59 q.1 q.2.1 q.2.2 := List.forall_mem_append.mpr ⟨am_op59_0, am_ol59_0⟩
def am_p60_0 : List (Nat × Instr × Nat) := [(0, .aload_n 0, 1), (4, .ifCond .le 15, 3), (7, .aload_n 0, 1), (11, .bipush 41, 2), (16, .ifCond .ne 9, 3), (19, .aload_n 0, 1), (20, .iconst 1, 1), (24, .return_, 1), (25, .aload_n 1, 1), (26, .iconst 1, 1), (30, .aload_n 1, 1), (34, .aload_n 0, 1), (35, .dup, 1), (39, .iconst 1, 1), (40, .isub, 1), (44, .aload_n 0, 1), (51, .return_, 1)]
theorem am_op60_0 : ∀ q ∈ am_p60_0, am_ok 60 q.1 q.2.1 q.2.2 := am_okps (by decide +kernel)
def am_l60_0 : List (Nat × Instr × Nat) := [(1, .getfield 60050, 3), (8, .getfield 60002, 3), (13, .invokevirtual 97, 3), (21, .invokevirtual 66, 3), (27, .invokevirtual 76, 3), (31, .invokevirtual 77, 3), (36, .getfield 60050, 3), (41, .putfield 60050, 3), (45, .getfield 60002, 3), (48, .invokevirtual 94, 3)]
theorem am_ol60_0 : ∀ q ∈ am_l60_0, am_ok 60 q.1 q.2.1 q.2.2 := show ∀ q ∈ ([(1, .getfield 60050, 3), (8, .getfield 60002, 3), (13, .invokevirtual 97, 3), (21, .invokevirtual 66, 3), (27, .invokevirtual 76, 3), (31, .invokevirtual 77, 3), (36, .getfield 60050, 3), (41, .putfield 60050, 3), (45, .getfield 60002, 3), (48, .invokevirtual 94, 3)] : List (Nat × Instr × Nat)), am_ok 60 q.1 q.2.1 q.2.2 from
  am_fc (am_okgf 162 (by decide +kernel) (am_mem 182 (by decide +kernel))) (
  am_fc (am_okgf 12 (by decide +kernel) (am_mem 175 (by decide +kernel))) (
  am_fc (am_okv 176 (by decide +kernel) (by decide) (am_mem 925 (by decide +kernel)) (am_mem 926 (by decide +kernel)) (am_mem 927 (by decide +kernel))) (
  am_fc (am_okv 67 (by decide +kernel) (by decide) (am_mem 871 (by decide +kernel)) (am_mem 873 (by decide +kernel)) (am_mem 11 (by decide +kernel))) (
  am_fc (am_okv 185 (by decide +kernel) (by decide) (am_mem 975 (by decide +kernel)) (am_mem 976 (by decide +kernel)) (am_mem 977 (by decide +kernel))) (
  am_fc (am_okv 226 (by decide +kernel) (by decide) (am_mem 987 (by decide +kernel)) (am_mem 988 (by decide +kernel)) (am_mem 989 (by decide +kernel))) (
  am_fc (am_okgf 162 (by decide +kernel) (am_mem 182 (by decide +kernel))) (
  am_fc (am_okpf 162 (by decide +kernel) (am_mem 182 (by decide +kernel))) (
  am_fc (am_okgf 12 (by decide +kernel) (am_mem 175 (by decide +kernel))) (
  am_fc (am_okv 76 (by decide +kernel) (by decide) (am_mem 879 (by decide +kernel)) (am_mem 791 (by decide +kernel)) (am_mem 792 (by decide +kernel))) (
  am_fn))))))))))
def am_t60 : List (Nat × Instr × Nat) := am_p60_0 ++ (am_l60_0)
theorem am_ot60 : ∀ q ∈ am_t60, am_ok 60 q.1 q.2.1 q.2.2 := List.forall_mem_append.mpr ⟨am_op60_0, am_ol60_0⟩
def am_p61_0 : List (Nat × Instr × Nat) := [(0, .aload_n 0, 1), (1, .iconst 1, 1), (5, .aload_n 0, 1), (6, .iload_n 1, 1), (10, .aload_n 0, 1), (11, .iconst 0, 1), (15, .return_, 1)]
theorem am_op61_0 : ∀ q ∈ am_p61_0, am_ok 61 q.1 q.2.1 q.2.2 := am_okps (by decide +kernel)
def am_l61_0 : List (Nat × Instr × Nat) := [(2, .putfield 60031, 3), (7, .putfield 60041, 3), (12, .putfield 60060, 3)]
theorem am_ol61_0 : ∀ q ∈ am_l61_0, am_ok 61 q.1 q.2.1 q.2.2 := show ∀ q ∈ ([(2, .putfield 60031, 3), (7, .putfield 60041, 3), (12, .putfield 60060, 3)] : List (Nat × Instr × Nat)), am_ok 61 q.1 q.2.1 q.2.2 from
  am_fc (am_okpf 156 (by decide +kernel) (am_mem 180 (by decide +kernel))) (
  am_fc (am_okpf 159 (by decide +kernel) (am_mem 181 (by decide +kernel))) (
  am_fc (am_okpf 165 (by decide +kernel) (am_mem 183 (by decide +kernel))) (
  am_fn)))
def am_t61 : List (Nat × Instr × Nat) := am_p61_0 ++ (am_l61_0)
theorem am_ot61 : ∀ q ∈ am_t61, am_ok 61 q.1 q.2.1 q.2.2 := List.forall_mem_append.mpr ⟨am_op61_0, am_ol61_0⟩
def am_p62_0 : List (Nat × Instr × Nat) := [(0, .aload_n 0, 1), (4, .ifCond .eq 5, 3), (7, .iconst 0, 1), (8, .ireturn, 1), (9, .aload_n 0, 1), (16, .istore_n 3, 1), (17, .aload_n 0, 1), (24, .iconst 2, 1), (25, .if_icmp .eq 11, 3), (28, .aload_n 0, 1), (29, .iconst 1, 1), (33, .goto 30, 3), (36, .iload_n 3, 1), (37, .iload_n 1, 1), (38, .if_icmp .lt 8, 3), (41, .iload_n 3, 1), (42, .iload_n 2, 1), (43, .if_icmp .le 11, 3), (46, .aload_n 0, 1), (47, .iconst 2, 1), (51, .goto 12, 3), (54, .aload_n 0, 1), (61, .iload_n 3, 1), (62, .ireturn, 1), (63, .iconst 0, 1), (64, .ireturn, 1)]
theorem am_op62_0 : ∀ q ∈ am_p62_0, am_ok 62 q.1 q.2.1 q.2.2 := am_okps (by decide +kernel)
def am_l62_0 : List (Nat × Instr × Nat) := [(1, .getfield 60010, 3), (10, .getfield 60002, 3), (13, .getfield 90060, 3), (18, .getfield 60002, 3), (21, .getfield 90030, 3), (30, .invokevirtual 66, 3), (48, .invokevirtual 66, 3), (55, .getfield 60002, 3), (58, .invokevirtual 94, 3)]
theorem am_ol62_0 : ∀ q ∈ am_l62_0, am_ok 62 q.1 q.2.1 q.2.2 := show ∀ q ∈ ([(1, .getfield 60010, 3), (10, .getfield 60002, 3), (13, .getfield 90060, 3), (18, .getfield 60002, 3), (21, .getfield 90030, 3), (30, .invokevirtual 66, 3), (48, .invokevirtual 66, 3), (55, .getfield 60002, 3), (58, .invokevirtual 94, 3)] : List (Nat × Instr × Nat)), am_ok 62 q.1 q.2.1 q.2.2 from
  am_fc (am_okgf 22 (by decide +kernel) (am_mem 177 (by decide +kernel))) (
  am_fc (am_okgf 12 (by decide +kernel) (am_mem 175 (by decide +kernel))) (
  am_fc (am_okgf 203 (by decide +kernel) (am_mem 158 (by decide +kernel))) (
  am_fc (am_okgf 12 (by decide +kernel) (am_mem 175 (by decide +kernel))) (
  am_fc (am_okgf 34 (by decide +kernel) (am_mem 152 (by decide +kernel))) (
  am_fc (am_okv 67 (by decide +kernel) (by decide) (am_mem 871 (by decide +kernel)) (am_mem 873 (by decide +kernel)) (am_mem 11 (by decide +kernel))) (
  am_fc (am_okv 67 (by decide +kernel) (by decide) (am_mem 871 (by decide +kernel)) (am_mem 873 (by decide +kernel)) (am_mem 11 (by decide +kernel))) (
  am_fc (am_okgf 12 (by decide +kernel) (am_mem 175 (by decide +kernel))) (
  am_fc (am_okv 76 (by decide +kernel) (by decide) (am_mem 879 (by decide +kernel)) (am_mem 791 (by decide +kernel)) (am_mem 792 (by decide +kernel))) (
  am_fn)))))))))
def am_t62 : List (Nat × Instr × Nat) := am_p62_0 ++ (am_l62_0)
theorem am_ot62 : ∀ q ∈ am_t62, am_ok 62 q.1 q.2.1 q.2.2 := List.forall_mem_append.mpr ⟨am_op62_0, am_ol62_0⟩
def am_p63_0 : List (Nat × Instr × Nat) := [(0, .aload_n 0, 1), (4, .ifCond .eq 5, 3), (7, .iconst (-1), 1), (8, .ireturn, 1), (9, .aload_n 0, 1), (16, .istore_n 3, 1), (17, .aload_n 0, 1), (24, .iconst 2, 1), (25, .if_icmp .eq 11, 3), (28, .aload_n 0, 1), (29, .iconst 1, 1), (33, .goto 59, 3), (36, .iload_n 3, 1), (37, .sipush 10000, 3), (40, .if_icmp .lt 11, 3), (43, .aload_n 0, 1), (44, .iconst 2, 1), (48, .goto 44, 3), (51, .iload_n 3, 1), (52, .aload_n 1, 1), (56, .if_icmp .lt 11, 3), (59, .aload_n 0, 1), (60, .iconst 3, 1), (64, .goto 28, 3), (67, .iload_n 2, 1), (68, .iload_n 3, 1), (72, .ifCond .eq 11, 3), (75, .aload_n 0, 1), (76, .iconst 4, 1), (80, .goto 12, 3), (83, .aload_n 0, 1), (90, .iload_n 3, 1), (91, .ireturn, 1), (92, .iconst (-1), 1), (93, .ireturn, 1)]
theorem am_op63_0 : ∀ q ∈ am_p63_0, am_ok 63 q.1 q.2.1 q.2.2 := am_okps (by decide +kernel)
def am_l63_0 : List (Nat × Instr × Nat) := [(1, .getfield 60010, 3), (10, .getfield 60002, 3), (13, .getfield 90060, 3), (18, .getfield 60002, 3), (21, .getfield 90030, 3), (30, .invokevirtual 66, 3), (45, .invokevirtual 66, 3), (53, .getfield 80000, 3), (61, .invokevirtual 66, 3), (69, .invokestatic 145, 3), (77, .invokevirtual 66, 3), (84, .getfield 60002, 3), (87, .invokevirtual 94, 3)]
theorem am_ol63_0 : ∀ q ∈ am_l63_0, am_ok 63 q.1 q.2.1 q.2.2 := show ∀ q ∈ ([(1, .getfield 60010, 3), (10, .getfield 60002, 3), (13, .getfield 90060, 3), (18, .getfield 60002, 3), (21, .getfield 90030, 3), (30, .invokevirtual 66, 3), (45, .invokevirtual 66, 3), (53, .getfield 80000, 3), (61, .invokevirtual 66, 3), (69, .invokestatic 145, 3), (77, .invokevirtual 66, 3), (84, .getfield 60002, 3), (87, .invokevirtual 94, 3)] : List (Nat × Instr × Nat)), am_ok 63 q.1 q.2.1 q.2.2 from
  am_fc (am_okgf 22 (by decide +kernel) (am_mem 177 (by decide +kernel))) (
  am_fc (am_okgf 12 (by decide +kernel) (am_mem 175 (by decide +kernel))) (
  am_fc (am_okgf 203 (by decide +kernel) (am_mem 158 (by decide +kernel))) (
  am_fc (am_okgf 12 (by decide +kernel) (am_mem 175 (by decide +kernel))) (
  am_fc (am_okgf 34 (by decide +kernel) (am_mem 152 (by decide +kernel))) (
  am_fc (am_okv 67 (by decide +kernel) (by decide) (am_mem 871 (by decide +kernel)) (am_mem 873 (by decide +kernel)) (am_mem 11 (by decide +kernel))) (
  am_fc (am_okv 67 (by decide +kernel) (by decide) (am_mem 871 (by decide +kernel)) (am_mem 873 (by decide +kernel)) (am_mem 11 (by decide +kernel))) (
  am_fc (am_okgf 73 (by decide +kernel) (am_mem 231 (by decide +kernel))) (
  am_fc (am_okv 67 (by decide +kernel) (by decide) (am_mem 871 (by decide +kernel)) (am_mem 873 (by decide +kernel)) (am_mem 11 (by decide +kernel))) (
  am_fc (am_oks 229 (by decide +kernel) (by decide) (am_mem 573 (by decide +kernel)) (Or.inr ⟨"SaltMinds", (am_mem 893 (by decide +kernel))⟩)) (
  am_fc (am_okv 67 (by decide +kernel) (by decide) (am_mem 871 (by decide +kernel)) (am_mem 873 (by decide +kernel)) (am_mem 11 (by decide +kernel))) (
  am_fc (am_okgf 12 (by decide +kernel) (am_mem 175 (by decide +kernel))) (
  am_fc (am_okv 76 (by decide +kernel) (by decide) (am_mem 879 (by decide +kernel)) (am_mem 791 (by decide +kernel)) (am_mem 792 (by decide +kernel))) (
  am_fn)))))))))))))
def am_t63 : List (Nat × Instr × Nat) := am_p63_0 ++ (am_l63_0)
theorem am_ot63 : ∀ q ∈ am_t63, am_ok 63 q.1 q.2.1 q.2.2 := List.forall_mem_append.mpr ⟨am_op63_0, am_ol63_0⟩
def am_p64_0 : List (Nat × Instr × Nat) := [(0, .iload_n 0, 1), (1, .ifCond .lt 15, 3), (4, .iload_n 0, 1), (5, .bipush 6, 2), (7, .if_icmp .ge 9, 3), (10, .iconst 1, 1), (11, .iload_n 0, 1), (12, .ishl, 1), (13, .goto 4, 3), (16, .iconst 0, 1), (17, .ireturn, 1)]
theorem am_op64_0 : ∀ q ∈ am_p64_0, am_ok 64 q.1 q.2.1 q.2.2 := am_okps (by decide +kernel)
def am_t64 : List (Nat × Instr × Nat) := am_p64_0
theorem am_ot64 : ∀ q ∈ am_t64, am_ok 64 q.1 q.2.1 q.2.2 := am_op64_0
def am_p65_0 : List (Nat × Instr × Nat) := [(0, .aload_n 0, 1), (4, .ifCond .eq 4, 3), (7, .return_, 1), (8, .aload_n 0, 1), (12, .bipush 59, 2), (17, .ifCond .eq 13, 3), (20, .aload_n 0, 1), (27, .goto 8, 3), (30, .aload_n 0, 1), (31, .iconst 1, 1), (35, .return_, 1)]
theorem am_op65_0 : ∀ q ∈ am_p65_0, am_ok 65 q.1 q.2.1 q.2.2 := am_okps (by decide +kernel)
def am_l65_0 : List (Nat × Instr × Nat) := [(1, .getfield 60010, 3), (9, .getfield 60002, 3), (14, .invokevirtual 97, 3), (21, .getfield 60002, 3), (24, .invokevirtual 94, 3), (32, .invokevirtual 66, 3)]
theorem am_ol65_0 : ∀ q ∈ am_l65_0, am_ok 65 q.1 q.2.1 q.2.2 := show ∀ q ∈ ([(1, .getfield 60010, 3), (9, .getfield 60002, 3), (14, .invokevirtual 97, 3), (21, .getfield 60002, 3), (24, .invokevirtual 94, 3), (32, .invokevirtual 66, 3)] : List (Nat × Instr × Nat)), am_ok 65 q.1 q.2.1 q.2.2 from
  am_fc (am_okgf 22 (by decide +kernel) (am_mem 177 (by decide +kernel))) (
  am_fc (am_okgf 12 (by decide +kernel) (am_mem 175 (by decide +kernel))) (
  am_fc (am_okv 176 (by decide +kernel) (by decide) (am_mem 925 (by decide +kernel)) (am_mem 926 (by decide +kernel)) (am_mem 927 (by decide +kernel))) (
  am_fc (am_okgf 12 (by decide +kernel) (am_mem 175 (by decide +kernel))) (
  am_fc (am_okv 76 (by decide +kernel) (by decide) (am_mem 879 (by decide +kernel)) (am_mem 791 (by decide +kernel)) (am_mem 792 (by decide +kernel))) (
  am_fc (am_okv 67 (by decide +kernel) (by decide) (am_mem 871 (by decide +kernel)) (am_mem 873 (by decide +kernel)) (am_mem 11 (by decide +kernel))) (
  am_fn))))))
def am_t65 : List (Nat × Instr × Nat) := am_p65_0 ++ (am_l65_0)
theorem am_ot65 : ∀ q ∈ am_t65, am_ok 65 q.1 q.2.1 q.2.2 := List.forall_mem_append.mpr ⟨am_op65_0, am_ol65_0⟩
def am_p66_0 : List (Nat × Instr × Nat) := [(0, .aload_n 0, 1), (1, .iload_n 1, 1), (2, .aload_n 0, 1), (12, .return_, 1)]
theorem am_op66_0 : ∀ q ∈ am_p66_0, am_ok 66 q.1 q.2.1 q.2.2 := am_okps (by decide +kernel)
def am_l66_0 : List (Nat × Instr × Nat) := [(3, .getfield 60002, 3), (6, .getfield 90040, 3), (9, .invokevirtual 67, 3)]
theorem am_ol66_0 : ∀ q ∈ am_l66_0, am_ok 66 q.1 q.2.1 q.2.2 := show ∀ q ∈ ([(3, .getfield 60002, 3), (6, .getfield 90040, 3), (9, .invokevirtual 67, 3)] : List (Nat × Instr × Nat)), am_ok 66 q.1 q.2.1 q.2.2 from
  am_fc (am_okgf 12 (by decide +kernel) (am_mem 175 (by decide +kernel))) (
  am_fc (am_okgf 136 (by decide +kernel) (am_mem 155 (by decide +kernel))) (
  am_fc (am_okv 143 (by decide +kernel) (by decide) (am_mem 875 (by decide +kernel)) (am_mem 877 (by decide +kernel)) (am_mem 12 (by decide +kernel))) (
  am_fn)))
def am_t66 : List (Nat × Instr × Nat) := am_p66_0 ++ (am_l66_0)
theorem am_ot66 : ∀ q ∈ am_t66, am_ok 66 q.1 q.2.1 q.2.2 := List.forall_mem_append.mpr ⟨am_op66_0, am_ol66_0⟩
def am_p67_0 : List (Nat × Instr × Nat) := [(0, .aload_n 0, 1), (4, .ifCond .ne 13, 3), (7, .aload_n 0, 1), (8, .iload_n 1, 1), (12, .aload_n 0, 1), (13, .iload_n 2, 1), (17, .return_, 1)]
theorem am_op67_0 : ∀ q ∈ am_p67_0, am_ok 67 q.1 q.2.1 q.2.2 := am_okps (by decide +kernel)
def am_l67_0 : List (Nat × Instr × Nat) := [(1, .getfield 60010, 3), (9, .putfield 60010, 3), (14, .putfield 60020, 3)]
theorem am_ol67_0 : ∀ q ∈ am_l67_0, am_ok 67 q.1 q.2.1 q.2.2 := show ∀ q ∈ ([(1, .getfield 60010, 3), (9, .putfield 60010, 3), (14, .putfield 60020, 3)] : List (Nat × Instr × Nat)), am_ok 67 q.1 q.2.1 q.2.2 from
  am_fc (am_okgf 22 (by decide +kernel) (am_mem 177 (by decide +kernel))) (
  am_fc (am_okpf 22 (by decide +kernel) (am_mem 177 (by decide +kernel))) (
  am_fc (am_okpf 18 (by decide +kernel) (am_mem 178 (by decide +kernel))) (
  am_fn)))
def am_t67 : List (Nat × Instr × Nat) := am_p67_0 ++ (am_l67_0)
theorem am_ot67 : ∀ q ∈ am_t67, am_ok 67 q.1 q.2.1 q.2.2 := List.forall_mem_append.mpr ⟨am_op67_0, am_ol67_0⟩
def am_p68_0 : List (Nat × Instr × Nat) := [(0, .aload_n 0, 1), (4, .aload_n 0, 1), (5, .sipush 700, 3), (8, .newarray .int, 2), (13, .aload_n 0, 1), (14, .bipush 8, 2), (16, .newarray .int, 2), (21, .aload_n 0, 1), (22, .bipush 40, 2), (24, .newarray .int, 2), (29, .aload_n 0, 1), (30, .bipush 80, 2), (32, .newarray .int, 2), (37, .return_, 1)]
theorem am_op68_0 : ∀ q ∈ am_p68_0, am_ok 68 q.1 q.2.1 q.2.2 := am_okps (by decide +kernel)
def am_l68_0 : List (Nat × Instr × Nat) := [(1, .invokespecial 1000, 3), (10, .putfield 70002, 3), (18, .putfield 70022, 3), (26, .putfield 70032, 3), (34, .putfield 70042, 3)]
theorem am_ol68_0 : ∀ q ∈ am_l68_0, am_ok 68 q.1 q.2.1 q.2.2 := show ∀ q ∈ ([(1, .invokespecial 1000, 3), (10, .putfield 70002, 3), (18, .putfield 70022, 3), (26, .putfield 70032, 3), (34, .putfield 70042, 3)] : List (Nat × Instr × Nat)), am_ok 68 q.1 q.2.1 q.2.2 from
  am_fc (am_oki0 3 (by decide +kernel) (am_mem 210 (by decide +kernel))) (
  am_fc (am_okpf 9 (by decide +kernel) (am_mem 211 (by decide +kernel))) (
  am_fc (am_okpf 15 (by decide +kernel) (am_mem 213 (by decide +kernel))) (
  am_fc (am_okpf 18 (by decide +kernel) (am_mem 214 (by decide +kernel))) (
  am_fc (am_okpf 21 (by decide +kernel) (am_mem 215 (by decide +kernel))) (
  am_fn)))))
def am_t68 : List (Nat × Instr × Nat) := am_p68_0 ++ (am_l68_0)
theorem am_ot68 : ∀ q ∈ am_t68, am_ok 68 q.1 q.2.1 q.2.2 := List.forall_mem_append.mpr ⟨am_op68_0, am_ol68_0⟩
def am_p69_0 : List (Nat × Instr × Nat) := [(0, .aload_n 0, 1), (6, .ifCond .eq 5, 3), (9, .iconst (-1), 1), (10, .ireturn, 1), (11, .aload_n 0, 1), (17, .ifCond .eq 6, 3), (20, .bipush (-2), 2), (22, .ireturn, 1), (23, .aload_n 0, 1), (29, .ifCond .eq 6, 3), (32, .bipush (-3), 2), (34, .ireturn, 1), (35, .aload_n 0, 1), (41, .ifCond .eq 6, 3), (44, .bipush (-4), 2), (46, .ireturn, 1), (47, .aload_n 0, 1), (53, .ifCond .eq 6, 3), (56, .bipush (-5), 2), (58, .ireturn, 1), (59, .aload_n 0, 1), (65, .ifCond .eq 6, 3), (68, .bipush (-6), 2), (70, .ireturn, 1), (71, .aload_n 0, 1), (77, .ifCond .eq 8, 3), (80, .bipush (-7), 2), (82, .goto 5, 3), (85, .bipush (-18), 2), (87, .ireturn, 1)]
theorem am_op69_0 : ∀ q ∈ am_p69_0, am_ok 69 q.1 q.2.1 q.2.2 := am_okps (by decide +kernel)
def am_l69_0 : List (Nat × Instr × Nat) := [(1, .ldc 8, 2), (3, .invokevirtual 96, 3), (12, .ldc 9, 2), (14, .invokevirtual 96, 3), (24, .ldc 10, 2), (26, .invokevirtual 96, 3), (36, .ldc 11, 2), (38, .invokevirtual 96, 3), (48, .ldc 12, 2), (50, .invokevirtual 96, 3), (60, .ldc 13, 2), (62, .invokevirtual 96, 3), (72, .ldc 14, 2), (74, .invokevirtual 96, 3)]
theorem am_ol69_0 : ∀ q ∈ am_l69_0, am_ok 69 q.1 q.2.1 q.2.2 := show ∀ q ∈ ([(1, .ldc 8, 2), (3, .invokevirtual 96, 3), (12, .ldc 9, 2), (14, .invokevirtual 96, 3), (24, .ldc 10, 2), (26, .invokevirtual 96, 3), (36, .ldc 11, 2), (38, .invokevirtual 96, 3), (48, .ldc 12, 2), (50, .invokevirtual 96, 3), (60, .ldc 13, 2), (62, .invokevirtual 96, 3), (72, .ldc 14, 2), (74, .invokevirtual 96, 3)] : List (Nat × Instr × Nat)), am_ok 69 q.1 q.2.1 q.2.2 from
  am_fc (am_okl 24 "salt" (by decide +kernel) (by decide +kernel)) (
  am_fc (am_okv 26 (by decide +kernel) (by decide) (am_mem 950 (by decide +kernel)) (am_mem 816 (by decide +kernel)) (am_mem 817 (by decide +kernel))) (
  am_fc (am_okl 32 "weight" (by decide +kernel) (by decide +kernel)) (
  am_fc (am_okv 26 (by decide +kernel) (by decide) (am_mem 950 (by decide +kernel)) (am_mem 816 (by decide +kernel)) (am_mem 817 (by decide +kernel))) (
  am_fc (am_okl 34 "age" (by decide +kernel) (by decide +kernel)) (
  am_fc (am_okv 26 (by decide +kernel) (by decide) (am_mem 950 (by decide +kernel)) (am_mem 816 (by decide +kernel)) (am_mem 817 (by decide +kernel))) (
  am_fc (am_okl 36 "told" (by decide +kernel) (by decide +kernel)) (
  am_fc (am_okv 26 (by decide +kernel) (by decide) (am_mem 950 (by decide +kernel)) (am_mem 816 (by decide +kernel)) (am_mem 817 (by decide +kernel))) (
  am_fc (am_okl 38 "facts" (by decide +kernel) (by decide +kernel)) (
  am_fc (am_okv 26 (by decide +kernel) (by decide) (am_mem 950 (by decide +kernel)) (am_mem 816 (by decide +kernel)) (am_mem 817 (by decide +kernel))) (
  am_fc (am_okl 40 "table" (by decide +kernel) (by decide +kernel)) (
  am_fc (am_okv 26 (by decide +kernel) (by decide) (am_mem 950 (by decide +kernel)) (am_mem 816 (by decide +kernel)) (am_mem 817 (by decide +kernel))) (
  am_fc (am_okl 42 "day" (by decide +kernel) (by decide +kernel)) (
  am_fc (am_okv 26 (by decide +kernel) (by decide) (am_mem 950 (by decide +kernel)) (am_mem 816 (by decide +kernel)) (am_mem 817 (by decide +kernel))) (
  am_fn))))))))))))))
def am_t69 : List (Nat × Instr × Nat) := am_p69_0 ++ (am_l69_0)
theorem am_ot69 : ∀ q ∈ am_t69, am_ok 69 q.1 q.2.1 q.2.2 := List.forall_mem_append.mpr ⟨am_op69_0, am_ol69_0⟩
def am_p70_0 : List (Nat × Instr × Nat) := [(0, .aload_n 0, 1), (6, .ifCond .eq 6, 3), (9, .bipush (-9), 2), (11, .ireturn, 1), (12, .aload_n 0, 1), (18, .ifCond .eq 6, 3), (21, .bipush (-10), 2), (23, .ireturn, 1), (24, .aload_n 0, 1), (25, .bipush 60, 2), (30, .ifCond .eq 6, 3), (33, .bipush (-11), 2), (35, .ireturn, 1), (36, .aload_n 0, 1), (37, .bipush 61, 2), (42, .ifCond .eq 6, 3), (45, .bipush (-12), 2), (47, .ireturn, 1), (48, .aload_n 0, 1), (49, .bipush 43, 2), (54, .ifCond .eq 6, 3), (57, .bipush (-13), 2), (59, .ireturn, 1), (60, .aload_n 0, 1), (61, .bipush 45, 2), (66, .ifCond .eq 6, 3), (69, .bipush (-14), 2), (71, .ireturn, 1), (72, .aload_n 0, 1), (73, .bipush 42, 2), (78, .ifCond .eq 6, 3), (81, .bipush (-15), 2), (83, .ireturn, 1), (84, .aload_n 0, 1), (85, .bipush 47, 2), (90, .ifCond .eq 8, 3), (93, .bipush (-16), 2), (95, .goto 5, 3), (98, .bipush (-18), 2), (100, .ireturn, 1)]
theorem am_op70_0 : ∀ q ∈ am_p70_0, am_ok 70 q.1 q.2.1 q.2.2 := am_okps (by decide +kernel)
def am_l70_0 : List (Nat × Instr × Nat) := [(1, .ldc 15, 2), (3, .invokevirtual 96, 3), (13, .ldc 16, 2), (15, .invokevirtual 96, 3), (27, .invokevirtual 97, 3), (39, .invokevirtual 97, 3), (51, .invokevirtual 97, 3), (63, .invokevirtual 97, 3), (75, .invokevirtual 97, 3), (87, .invokevirtual 97, 3)]
theorem am_ol70_0 : ∀ q ∈ am_l70_0, am_ok 70 q.1 q.2.1 q.2.2 := show ∀ q ∈ ([(1, .ldc 15, 2), (3, .invokevirtual 96, 3), (13, .ldc 16, 2), (15, .invokevirtual 96, 3), (27, .invokevirtual 97, 3), (39, .invokevirtual 97, 3), (51, .invokevirtual 97, 3), (63, .invokevirtual 97, 3), (75, .invokevirtual 97, 3), (87, .invokevirtual 97, 3)] : List (Nat × Instr × Nat)), am_ok 70 q.1 q.2.1 q.2.2 from
  am_fc (am_okl 44 "or" (by decide +kernel) (by decide +kernel)) (
  am_fc (am_okv 26 (by decide +kernel) (by decide) (am_mem 950 (by decide +kernel)) (am_mem 816 (by decide +kernel)) (am_mem 817 (by decide +kernel))) (
  am_fc (am_okl 46 "and" (by decide +kernel) (by decide +kernel)) (
  am_fc (am_okv 26 (by decide +kernel) (by decide) (am_mem 950 (by decide +kernel)) (am_mem 816 (by decide +kernel)) (am_mem 817 (by decide +kernel))) (
  am_fc (am_okv 48 (by decide +kernel) (by decide) (am_mem 970 (by decide +kernel)) (am_mem 926 (by decide +kernel)) (am_mem 927 (by decide +kernel))) (
  am_fc (am_okv 48 (by decide +kernel) (by decide) (am_mem 970 (by decide +kernel)) (am_mem 926 (by decide +kernel)) (am_mem 927 (by decide +kernel))) (
  am_fc (am_okv 48 (by decide +kernel) (by decide) (am_mem 970 (by decide +kernel)) (am_mem 926 (by decide +kernel)) (am_mem 927 (by decide +kernel))) (
  am_fc (am_okv 48 (by decide +kernel) (by decide) (am_mem 970 (by decide +kernel)) (am_mem 926 (by decide +kernel)) (am_mem 927 (by decide +kernel))) (
  am_fc (am_okv 48 (by decide +kernel) (by decide) (am_mem 970 (by decide +kernel)) (am_mem 926 (by decide +kernel)) (am_mem 927 (by decide +kernel))) (
  am_fc (am_okv 48 (by decide +kernel) (by decide) (am_mem 970 (by decide +kernel)) (am_mem 926 (by decide +kernel)) (am_mem 927 (by decide +kernel))) (
  am_fn))))))))))
def am_t70 : List (Nat × Instr × Nat) := am_p70_0 ++ (am_l70_0)
theorem am_ot70 : ∀ q ∈ am_t70, am_ok 70 q.1 q.2.1 q.2.2 := List.forall_mem_append.mpr ⟨am_op70_0, am_ol70_0⟩
def am_p71_0 : List (Nat × Instr × Nat) := [(0, .iload_n 0, 1), (1, .tableswitch 64 (-16) (-8) #[61, 61, 59, 59, 57, 57, 53, 51, 55], 51), (52, .iconst 1, 1), (53, .ireturn, 1), (54, .iconst 2, 1), (55, .ireturn, 1), (56, .iconst 3, 1), (57, .ireturn, 1), (58, .iconst 4, 1), (59, .ireturn, 1), (60, .iconst 5, 1), (61, .ireturn, 1), (62, .bipush 6, 2), (64, .ireturn, 1), (65, .iconst 0, 1), (66, .ireturn, 1)]
theorem am_op71_0 : ∀ q ∈ am_p71_0, am_ok 71 q.1 q.2.1 q.2.2 := am_okps (by decide +kernel)
def am_t71 : List (Nat × Instr × Nat) := am_p71_0
theorem am_ot71 : ∀ q ∈ am_t71, am_ok 71 q.1 q.2.1 q.2.2 := am_op71_0
def am_p72_0 : List (Nat × Instr × Nat) := [(0, .aload_n 0, 1), (1, .iconst 0, 1), (5, .aload_n 0, 1), (6, .iconst 0, 1), (10, .return_, 1)]
theorem am_op72_0 : ∀ q ∈ am_p72_0, am_ok 72 q.1 q.2.1 q.2.2 := am_okps (by decide +kernel)
def am_l72_0 : List (Nat × Instr × Nat) := [(2, .putfield 70010, 3), (7, .putfield 70050, 3)]
theorem am_ol72_0 : ∀ q ∈ am_l72_0, am_ok 72 q.1 q.2.1 q.2.2 := show ∀ q ∈ ([(2, .putfield 70010, 3), (7, .putfield 70050, 3)] : List (Nat × Instr × Nat)), am_ok 72 q.1 q.2.1 q.2.2 from
  am_fc (am_okpf 52 (by decide +kernel) (am_mem 212 (by decide +kernel))) (
  am_fc (am_okpf 56 (by decide +kernel) (am_mem 216 (by decide +kernel))) (
  am_fn))
def am_t72 : List (Nat × Instr × Nat) := am_p72_0 ++ (am_l72_0)
theorem am_ot72 : ∀ q ∈ am_t72, am_ok 72 q.1 q.2.1 q.2.2 := List.forall_mem_append.mpr ⟨am_op72_0, am_ol72_0⟩
def am_p73_0 : List (Nat × Instr × Nat) := [(0, .aload_n 0, 1), (4, .ifCond .lt 33, 3), (7, .aload_n 0, 1), (11, .sipush 700, 3), (14, .if_icmp .ge 23, 3), (17, .aload_n 0, 1), (21, .aload_n 0, 1), (25, .iload_n 1, 1), (26, .iastore, 1), (27, .aload_n 0, 1), (28, .dup, 1), (32, .iconst 1, 1), (33, .iadd, 1), (37, .return_, 1)]
theorem am_op73_0 : ∀ q ∈ am_p73_0, am_ok 73 q.1 q.2.1 q.2.2 := am_okps (by decide +kernel)
def am_l73_0 : List (Nat × Instr × Nat) := [(1, .getfield 70010, 3), (8, .getfield 70010, 3), (18, .getfield 70002, 3), (22, .getfield 70010, 3), (29, .getfield 70010, 3), (34, .putfield 70010, 3)]
theorem am_ol73_0 : ∀ q ∈ am_l73_0, am_ok 73 q.1 q.2.1 q.2.2 := show ∀ q ∈ ([(1, .getfield 70010, 3), (8, .getfield 70010, 3), (18, .getfield 70002, 3), (22, .getfield 70010, 3), (29, .getfield 70010, 3), (34, .putfield 70010, 3)] : List (Nat × Instr × Nat)), am_ok 73 q.1 q.2.1 q.2.2 from
  am_fc (am_okgf 52 (by decide +kernel) (am_mem 212 (by decide +kernel))) (
  am_fc (am_okgf 52 (by decide +kernel) (am_mem 212 (by decide +kernel))) (
  am_fc (am_okgf 9 (by decide +kernel) (am_mem 211 (by decide +kernel))) (
  am_fc (am_okgf 52 (by decide +kernel) (am_mem 212 (by decide +kernel))) (
  am_fc (am_okgf 52 (by decide +kernel) (am_mem 212 (by decide +kernel))) (
  am_fc (am_okpf 52 (by decide +kernel) (am_mem 212 (by decide +kernel))) (
  am_fn))))))
def am_t73 : List (Nat × Instr × Nat) := am_p73_0 ++ (am_l73_0)
theorem am_ot73 : ∀ q ∈ am_t73, am_ok 73 q.1 q.2.1 q.2.2 := List.forall_mem_append.mpr ⟨am_op73_0, am_ol73_0⟩
def am_p74_0 : List (Nat × Instr × Nat) := [(0, .aload_n 0, 1), (4, .ifCond .lt 32, 3), (7, .aload_n 0, 1), (11, .bipush 80, 2), (13, .if_icmp .ge 23, 3), (16, .aload_n 0, 1), (20, .aload_n 0, 1), (24, .iload_n 1, 1), (25, .iastore, 1), (26, .aload_n 0, 1), (27, .dup, 1), (31, .iconst 1, 1), (32, .iadd, 1), (36, .return_, 1)]
theorem am_op74_0 : ∀ q ∈ am_p74_0, am_ok 74 q.1 q.2.1 q.2.2 := am_okps (by decide +kernel)
def am_l74_0 : List (Nat × Instr × Nat) := [(1, .getfield 70050, 3), (8, .getfield 70050, 3), (17, .getfield 70042, 3), (21, .getfield 70050, 3), (28, .getfield 70050, 3), (33, .putfield 70050, 3)]
theorem am_ol74_0 : ∀ q ∈ am_l74_0, am_ok 74 q.1 q.2.1 q.2.2 := show ∀ q ∈ ([(1, .getfield 70050, 3), (8, .getfield 70050, 3), (17, .getfield 70042, 3), (21, .getfield 70050, 3), (28, .getfield 70050, 3), (33, .putfield 70050, 3)] : List (Nat × Instr × Nat)), am_ok 74 q.1 q.2.1 q.2.2 from
  am_fc (am_okgf 56 (by decide +kernel) (am_mem 216 (by decide +kernel))) (
  am_fc (am_okgf 56 (by decide +kernel) (am_mem 216 (by decide +kernel))) (
  am_fc (am_okgf 21 (by decide +kernel) (am_mem 215 (by decide +kernel))) (
  am_fc (am_okgf 56 (by decide +kernel) (am_mem 216 (by decide +kernel))) (
  am_fc (am_okgf 56 (by decide +kernel) (am_mem 216 (by decide +kernel))) (
  am_fc (am_okpf 56 (by decide +kernel) (am_mem 216 (by decide +kernel))) (
  am_fn))))))
def am_t74 : List (Nat × Instr × Nat) := am_p74_0 ++ (am_l74_0)
theorem am_ot74 : ∀ q ∈ am_t74, am_ok 74 q.1 q.2.1 q.2.2 := List.forall_mem_append.mpr ⟨am_op74_0, am_ol74_0⟩
def am_p75_0 : List (Nat × Instr × Nat) := [(0, .aload_n 0, 1), (4, .ifCond .le 29, 3), (7, .aload_n 0, 1), (11, .bipush 80, 2), (13, .if_icmp .gt 20, 3), (16, .aload_n 0, 1), (20, .aload_n 0, 1), (24, .iconst 1, 1), (25, .isub, 1), (26, .iaload, 1), (30, .goto 4, 3), (33, .iconst 0, 1), (34, .ireturn, 1)]
theorem am_op75_0 : ∀ q ∈ am_p75_0, am_ok 75 q.1 q.2.1 q.2.2 := am_okps (by decide +kernel)
def am_l75_0 : List (Nat × Instr × Nat) := [(1, .getfield 70050, 3), (8, .getfield 70050, 3), (17, .getfield 70042, 3), (21, .getfield 70050, 3), (27, .invokestatic 71, 3)]
theorem am_ol75_0 : ∀ q ∈ am_l75_0, am_ok 75 q.1 q.2.1 q.2.2 := show ∀ q ∈ ([(1, .getfield 70050, 3), (8, .getfield 70050, 3), (17, .getfield 70042, 3), (21, .getfield 70050, 3), (27, .invokestatic 71, 3)] : List (Nat × Instr × Nat)), am_ok 75 q.1 q.2.1 q.2.2 from
  am_fc (am_okgf 56 (by decide +kernel) (am_mem 216 (by decide +kernel))) (
  am_fc (am_okgf 56 (by decide +kernel) (am_mem 216 (by decide +kernel))) (
  am_fc (am_okgf 21 (by decide +kernel) (am_mem 215 (by decide +kernel))) (
  am_fc (am_okgf 56 (by decide +kernel) (am_mem 216 (by decide +kernel))) (
  am_fc (am_oks 59 (by decide +kernel) (by decide) (am_mem 984 (by decide +kernel)) (Or.inl (am_mem 983 (by decide +kernel)))) (
  am_fn)))))
def am_t75 : List (Nat × Instr × Nat) := am_p75_0 ++ (am_l75_0)
theorem am_ot75 : ∀ q ∈ am_t75, am_ok 75 q.1 q.2.1 q.2.2 := List.forall_mem_append.mpr ⟨am_op75_0, am_ol75_0⟩
def am_p76_0 : List (Nat × Instr × Nat) := [(0, .iconst 0, 1), (1, .istore_n 2, 1), (2, .iload_n 2, 1), (3, .bipush 80, 2), (5, .if_icmp .ge 47, 3), (8, .aload_n 0, 1), (12, .ifCond .le 40, 3), (15, .aload_n 0, 1), (19, .iload_n 1, 1), (20, .if_icmp .lt 32, 3), (23, .aload_n 0, 1), (24, .dup, 1), (28, .iconst 1, 1), (29, .isub, 1), (33, .aload_n 0, 1), (34, .aload_n 0, 1), (38, .aload_n 0, 1), (42, .iaload, 1), (46, .iinc 2 1, 3), (49, .goto (-47), 3), (52, .return_, 1)]
theorem am_op76_0 : ∀ q ∈ am_p76_0, am_ok 76 q.1 q.2.1 q.2.2 := am_okps (by decide +kernel)
def am_l76_0 : List (Nat × Instr × Nat) := [(9, .getfield 70050, 3), (16, .invokevirtual 75, 3), (25, .getfield 70050, 3), (30, .putfield 70050, 3), (35, .getfield 70042, 3), (39, .getfield 70050, 3), (43, .invokevirtual 73, 3)]
theorem am_ol76_0 : ∀ q ∈ am_l76_0, am_ok 76 q.1 q.2.1 q.2.2 := show ∀ q ∈ ([(9, .getfield 70050, 3), (16, .invokevirtual 75, 3), (25, .getfield 70050, 3), (30, .putfield 70050, 3), (35, .getfield 70042, 3), (39, .getfield 70050, 3), (43, .invokevirtual 73, 3)] : List (Nat × Instr × Nat)), am_ok 76 q.1 q.2.1 q.2.2 from
  am_fc (am_okgf 56 (by decide +kernel) (am_mem 216 (by decide +kernel))) (
  am_fc (am_okv 63 (by decide +kernel) (by decide) (am_mem 979 (by decide +kernel)) (am_mem 980 (by decide +kernel)) (am_mem 981 (by decide +kernel))) (
  am_fc (am_okgf 56 (by decide +kernel) (am_mem 216 (by decide +kernel))) (
  am_fc (am_okpf 56 (by decide +kernel) (am_mem 216 (by decide +kernel))) (
  am_fc (am_okgf 21 (by decide +kernel) (am_mem 215 (by decide +kernel))) (
  am_fc (am_okgf 56 (by decide +kernel) (am_mem 216 (by decide +kernel))) (
  am_fc (am_okv 67 (by decide +kernel) (by decide) (am_mem 986 (by decide +kernel)) (am_mem 958 (by decide +kernel)) (am_mem 959 (by decide +kernel))) (
  am_fn)))))))
def am_t76 : List (Nat × Instr × Nat) := am_p76_0 ++ (am_l76_0)
theorem am_ot76 : ∀ q ∈ am_t76, am_ok 76 q.1 q.2.1 q.2.2 := List.forall_mem_append.mpr ⟨am_op76_0, am_ol76_0⟩
def am_p77_0 : List (Nat × Instr × Nat) := [(0, .aload_n 0, 1), (4, .ifCond .le 20, 3), (7, .aload_n 0, 1), (11, .ifCond .ne 13, 3), (14, .aload_n 0, 1), (15, .dup, 1), (19, .iconst 1, 1), (20, .isub, 1), (24, .return_, 1)]
theorem am_op77_0 : ∀ q ∈ am_p77_0, am_ok 77 q.1 q.2.1 q.2.2 := am_okps (by decide +kernel)
def am_l77_0 : List (Nat × Instr × Nat) := [(1, .getfield 70050, 3), (8, .invokevirtual 75, 3), (16, .getfield 70050, 3), (21, .putfield 70050, 3)]
theorem am_ol77_0 : ∀ q ∈ am_l77_0, am_ok 77 q.1 q.2.1 q.2.2 := show ∀ q ∈ ([(1, .getfield 70050, 3), (8, .invokevirtual 75, 3), (16, .getfield 70050, 3), (21, .putfield 70050, 3)] : List (Nat × Instr × Nat)), am_ok 77 q.1 q.2.1 q.2.2 from
  am_fc (am_okgf 56 (by decide +kernel) (am_mem 216 (by decide +kernel))) (
  am_fc (am_okv 63 (by decide +kernel) (by decide) (am_mem 979 (by decide +kernel)) (am_mem 980 (by decide +kernel)) (am_mem 981 (by decide +kernel))) (
  am_fc (am_okgf 56 (by decide +kernel) (am_mem 216 (by decide +kernel))) (
  am_fc (am_okpf 56 (by decide +kernel) (am_mem 216 (by decide +kernel))) (
  am_fn))))
def am_t77 : List (Nat × Instr × Nat) := am_p77_0 ++ (am_l77_0)
theorem am_ot77 : ∀ q ∈ am_t77, am_ok 77 q.1 q.2.1 q.2.2 := List.forall_mem_append.mpr ⟨am_op77_0, am_ol77_0⟩
def am_p78_0 : List (Nat × Instr × Nat) := [(0, .iload_n 1, 1), (1, .ifCond .ge 17, 3), (4, .iload_n 1, 1), (5, .bipush (-7), 2), (7, .if_icmp .lt 11, 3), (10, .aload_n 0, 1), (14, .iload_n 1, 1), (15, .ineg, 1), (16, .iload_n 2, 1), (17, .iastore, 1), (18, .return_, 1)]
theorem am_op78_0 : ∀ q ∈ am_p78_0, am_ok 78 q.1 q.2.1 q.2.2 := am_okps (by decide +kernel)
def am_l78_0 : List (Nat × Instr × Nat) := [(11, .getfield 70022, 3)]
theorem am_ol78_0 : ∀ q ∈ am_l78_0, am_ok 78 q.1 q.2.1 q.2.2 := show ∀ q ∈ ([(11, .getfield 70022, 3)] : List (Nat × Instr × Nat)), am_ok 78 q.1 q.2.1 q.2.2 from
  am_fc (am_okgf 15 (by decide +kernel) (am_mem 213 (by decide +kernel))) (
  am_fn)
def am_t78 : List (Nat × Instr × Nat) := am_p78_0 ++ (am_l78_0)
theorem am_ot78 : ∀ q ∈ am_t78, am_ok 78 q.1 q.2.1 q.2.2 := List.forall_mem_append.mpr ⟨am_op78_0, am_ol78_0⟩
def am_p79_0 : List (Nat × Instr × Nat) := [(0, .iconst 0, 1), (1, .istore_n 1, 1), (2, .iconst 0, 1), (3, .istore_n 2, 1), (4, .iload_n 2, 1), (5, .aload_n 0, 1), (9, .if_icmp .ge 134, 3), (12, .iload_n 2, 1), (13, .sipush 700, 3), (16, .if_icmp .ge 127, 3), (19, .aload_n 0, 1), (23, .iload_n 2, 1), (24, .iaload, 1), (25, .istore_n 3, 1), (26, .iload_n 3, 1), (27, .bipush (-7), 2), (29, .if_icmp .lt 36, 3), (32, .iload_n 1, 1), (33, .bipush 40, 2), (35, .if_icmp .ge 102, 3), (38, .aload_n 0, 1), (42, .iload_n 1, 1), (43, .iload_n 3, 1), (44, .ifCond .lt 7, 3), (47, .iload_n 3, 1), (48, .goto 10, 3), (51, .aload_n 0, 1), (55, .iload_n 3, 1), (56, .ineg, 1), (57, .iaload, 1), (58, .iastore, 1), (59, .iinc 1 1, 3), (62, .goto 75, 3), (65, .iload_n 3, 1), (66, .bipush (-8), 2), (68, .if_icmp .ne 35, 3), (71, .iload_n 1, 1), (72, .iconst 1, 1), (73, .if_icmp .lt 64, 3), (76, .aload_n 0, 1), (80, .iload_n 1, 1), (81, .iconst 1, 1), (82, .isub, 1), (83, .aload_n 0, 1), (87, .iload_n 1, 1), (88, .iconst 1, 1), (89, .isub, 1), (90, .iaload, 1), (91, .ifCond .ne 7, 3), (94, .iconst 1, 1), (95, .goto 4, 3), (98, .iconst 0, 1), (99, .iastore, 1), (100, .goto 37, 3), (103, .iload_n 1, 1), (104, .iconst 2, 1), (105, .if_icmp .lt 32, 3), (108, .iinc 1 (-1), 3), (111, .aload_n 0, 1), (115, .iload_n 1, 1), (116, .iconst 1, 1), (117, .isub, 1), (118, .iload_n 3, 1), (119, .aload_n 0, 1), (123, .iload_n 1, 1), (124, .iconst 1, 1), (125, .isub, 1), (126, .iaload, 1), (127, .aload_n 0, 1), (131, .iload_n 1, 1), (132, .iaload, 1), (136, .iastore, 1), (137, .iinc 2 1, 3), (140, .goto (-136), 3), (143, .iload_n 1, 1), (144, .iconst 1, 1), (145, .if_icmp .lt 12, 3), (148, .aload_n 0, 1), (152, .iconst 0, 1), (153, .iaload, 1), (154, .goto 4, 3), (157, .iconst 0, 1), (158, .ireturn, 1)]
theorem am_op79_0 : ∀ q ∈ am_p79_0, am_ok 79 q.1 q.2.1 q.2.2 := am_okps (by decide +kernel)
def am_l79_0 : List (Nat × Instr × Nat) := [(6, .getfield 70010, 3), (20, .getfield 70002, 3), (39, .getfield 70032, 3), (52, .getfield 70022, 3), (77, .getfield 70032, 3), (84, .getfield 70032, 3), (112, .getfield 70032, 3), (120, .getfield 70032, 3), (128, .getfield 70032, 3), (133, .invokestatic 80, 3), (149, .getfield 70032, 3)]
theorem am_ol79_0 : ∀ q ∈ am_l79_0, am_ok 79 q.1 q.2.1 q.2.2 := show ∀ q ∈ ([(6, .getfield 70010, 3), (20, .getfield 70002, 3), (39, .getfield 70032, 3), (52, .getfield 70022, 3), (77, .getfield 70032, 3), (84, .getfield 70032, 3), (112, .getfield 70032, 3), (120, .getfield 70032, 3), (128, .getfield 70032, 3), (133, .invokestatic 80, 3), (149, .getfield 70032, 3)] : List (Nat × Instr × Nat)), am_ok 79 q.1 q.2.1 q.2.2 from
  am_fc (am_okgf 52 (by decide +kernel) (am_mem 212 (by decide +kernel))) (
  am_fc (am_okgf 9 (by decide +kernel) (am_mem 211 (by decide +kernel))) (
  am_fc (am_okgf 18 (by decide +kernel) (am_mem 214 (by decide +kernel))) (
  am_fc (am_okgf 15 (by decide +kernel) (am_mem 213 (by decide +kernel))) (
  am_fc (am_okgf 18 (by decide +kernel) (am_mem 214 (by decide +kernel))) (
  am_fc (am_okgf 18 (by decide +kernel) (am_mem 214 (by decide +kernel))) (
  am_fc (am_okgf 18 (by decide +kernel) (am_mem 214 (by decide +kernel))) (
  am_fc (am_okgf 18 (by decide +kernel) (am_mem 214 (by decide +kernel))) (
  am_fc (am_okgf 18 (by decide +kernel) (am_mem 214 (by decide +kernel))) (
  am_fc (am_oks 71 (by decide +kernel) (by decide) (am_mem 616 (by decide +kernel)) (Or.inl (am_mem 615 (by decide +kernel)))) (
  am_fc (am_okgf 18 (by decide +kernel) (am_mem 214 (by decide +kernel))) (
  am_fn)))))))))))
def am_t79 : List (Nat × Instr × Nat) := am_p79_0 ++ (am_l79_0)
theorem am_ot79 : ∀ q ∈ am_t79, am_ok 79 q.1 q.2.1 q.2.2 := List.forall_mem_append.mpr ⟨am_op79_0, am_ol79_0⟩
def am_p80_0 : List (Nat × Instr × Nat) := [(0, .iload_n 0, 1), (1, .tableswitch 105 (-15) (-9) #[101, 97, 93, 82, 71, 57, 43], 43), (44, .iload_n 1, 1), (45, .ifCond .ne 7, 3), (48, .iload_n 2, 1), (49, .ifCond .eq 7, 3), (52, .iconst 1, 1), (53, .goto 4, 3), (56, .iconst 0, 1), (57, .ireturn, 1), (58, .iload_n 1, 1), (59, .ifCond .eq 11, 3), (62, .iload_n 2, 1), (63, .ifCond .eq 7, 3), (66, .iconst 1, 1), (67, .goto 4, 3), (70, .iconst 0, 1), (71, .ireturn, 1), (72, .iload_n 1, 1), (73, .iload_n 2, 1), (74, .if_icmp .ge 7, 3), (77, .iconst 1, 1), (78, .goto 4, 3), (81, .iconst 0, 1), (82, .ireturn, 1), (83, .iload_n 1, 1), (84, .iload_n 2, 1), (85, .if_icmp .ne 7, 3), (88, .iconst 1, 1), (89, .goto 4, 3), (92, .iconst 0, 1), (93, .ireturn, 1), (94, .iload_n 1, 1), (95, .iload_n 2, 1), (96, .iadd, 1), (97, .ireturn, 1), (98, .iload_n 1, 1), (99, .iload_n 2, 1), (100, .isub, 1), (101, .ireturn, 1), (102, .iload_n 1, 1), (103, .iload_n 2, 1), (104, .imul, 1), (105, .ireturn, 1), (106, .iload_n 2, 1), (107, .ifCond .ne 7, 3), (110, .iconst 0, 1), (111, .goto 6, 3), (114, .iload_n 1, 1), (115, .iload_n 2, 1), (116, .idiv, 1), (117, .ireturn, 1)]
theorem am_op80_0 : ∀ q ∈ am_p80_0, am_ok 80 q.1 q.2.1 q.2.2 := am_okps (by decide +kernel)
def am_t80 : List (Nat × Instr × Nat) := am_p80_0
theorem am_ot80 : ∀ q ∈ am_t80, am_ok 80 q.1 q.2.1 q.2.2 := am_op80_0
