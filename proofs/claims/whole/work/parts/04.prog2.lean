/-! The resolved instructions of the methods, by program, and that they stand there. -/
def am_p163_0 : List (Nat × Instr × Nat) := [(0, .bipush 24, 2), (2, .istore_n 2, 1), (3, .iload_n 2, 1), (4, .ifCond .lt 35, 3), (7, .aload_n 0, 1), (11, .aload_n 0, 1), (15, .iload_n 1, 1), (16, .iload_n 2, 1), (17, .ishr, 1), (18, .sipush 255, 3), (21, .iand, 1), (22, .iastore, 1), (23, .aload_n 0, 1), (24, .dup, 1), (28, .iconst 1, 1), (29, .iadd, 1), (33, .iinc 2 (-8), 3), (36, .goto (-33), 3), (39, .return_, 1)]
theorem am_op163_0 : ∀ q ∈ am_p163_0, am_ok 163 q.1 q.2.1 q.2.2 := am_okps (by decide +kernel)
def am_l163_0 : List (Nat × Instr × Nat) := [(8, .getfield 110122, 3), (12, .getfield 110130, 3), (25, .getfield 110130, 3), (30, .putfield 110130, 3)]
theorem am_ol163_0 : ∀ q ∈ am_l163_0, am_ok 163 q.1 q.2.1 q.2.2 := show ∀ q ∈ ([(8, .getfield 110122, 3), (12, .getfield 110130, 3), (25, .getfield 110130, 3), (30, .putfield 110130, 3)] : List (Nat × Instr × Nat)), am_ok 163 q.1 q.2.1 q.2.2 from
  am_fc (am_okgf 32 (by decide +kernel) (am_mem 1406 (by decide +kernel))) (
  am_fc (am_okgf 132 (by decide +kernel) (am_mem 1407 (by decide +kernel))) (
  am_fc (am_okgf 132 (by decide +kernel) (am_mem 1407 (by decide +kernel))) (
  am_fc (am_okpf 132 (by decide +kernel) (am_mem 1407 (by decide +kernel))) (
  am_fn))))
def am_t163 : List (Nat × Instr × Nat) := am_p163_0 ++ (am_l163_0)
theorem am_ot163 : ∀ q ∈ am_t163, am_ok 163 q.1 q.2.1 q.2.2 := List.forall_mem_append.mpr ⟨am_op163_0, am_ol163_0⟩
def am_p164_0 : List (Nat × Instr × Nat) := [(0, .iload_n 1, 1), (1, .aload_n 0, 1), (5, .if_icmp .ge 12, 3), (8, .aload_n 0, 1), (12, .iload_n 1, 1), (13, .iaload, 1), (14, .goto 4, 3), (17, .iconst 0, 1), (18, .ireturn, 1)]
theorem am_op164_0 : ∀ q ∈ am_p164_0, am_ok 164 q.1 q.2.1 q.2.2 := am_okps (by decide +kernel)
def am_l164_0 : List (Nat × Instr × Nat) := [(2, .getfield 110170, 3), (9, .getfield 110122, 3)]
theorem am_ol164_0 : ∀ q ∈ am_l164_0, am_ok 164 q.1 q.2.1 q.2.2 := show ∀ q ∈ ([(2, .getfield 110170, 3), (9, .getfield 110122, 3)] : List (Nat × Instr × Nat)), am_ok 164 q.1 q.2.1 q.2.2 from
  am_fc (am_okgf 139 (by decide +kernel) (am_mem 1411 (by decide +kernel))) (
  am_fc (am_okgf 32 (by decide +kernel) (am_mem 1406 (by decide +kernel))) (
  am_fn))
def am_t164 : List (Nat × Instr × Nat) := am_p164_0 ++ (am_l164_0)
theorem am_ot164 : ∀ q ∈ am_t164, am_ok 164 q.1 q.2.1 q.2.2 := List.forall_mem_append.mpr ⟨am_op164_0, am_ol164_0⟩
def am_p165_0 : List (Nat × Instr × Nat) := [(0, .iload_n 0, 1), (1, .bipush 97, 2), (3, .if_icmp .lt 13, 3), (6, .iload_n 0, 1), (7, .bipush 122, 2), (9, .if_icmp .gt 7, 3), (12, .iconst 1, 1), (13, .goto 4, 3), (16, .iconst 0, 1), (17, .ireturn, 1)]
theorem am_op165_0 : ∀ q ∈ am_p165_0, am_ok 165 q.1 q.2.1 q.2.2 := am_okps (by decide +kernel)
def am_t165 : List (Nat × Instr × Nat) := am_p165_0
theorem am_ot165 : ∀ q ∈ am_t165, am_ok 165 q.1 q.2.1 q.2.2 := am_op165_0
def am_p166_0 : List (Nat × Instr × Nat) := [(0, .iload_n 0, 1), (1, .bipush 48, 2), (3, .if_icmp .lt 13, 3), (6, .iload_n 0, 1), (7, .bipush 57, 2), (9, .if_icmp .gt 7, 3), (12, .iconst 1, 1), (13, .goto 4, 3), (16, .iconst 0, 1), (17, .ireturn, 1)]
theorem am_op166_0 : ∀ q ∈ am_p166_0, am_ok 166 q.1 q.2.1 q.2.2 := am_okps (by decide +kernel)
def am_t166 : List (Nat × Instr × Nat) := am_p166_0
theorem am_ot166 : ∀ q ∈ am_t166, am_ok 166 q.1 q.2.1 q.2.2 := am_op166_0
def am_p167_0 : List (Nat × Instr × Nat) := [(0, .aload_n 0, 1), (4, .aload_n 0, 1), (8, .if_icmp .ge 42, 3), (11, .aload_n 0, 1), (12, .aload_n 0, 1), (19, .bipush 32, 2), (21, .if_icmp .eq 16, 3), (24, .aload_n 0, 1), (25, .aload_n 0, 1), (32, .bipush 10, 2), (34, .if_icmp .ne 16, 3), (37, .aload_n 0, 1), (38, .dup, 1), (42, .iconst 1, 1), (43, .iadd, 1), (47, .goto (-47), 3), (50, .aload_n 0, 1), (51, .aload_n 0, 1), (58, .aload_n 0, 1), (59, .lconst 0, 1), (63, .aload_n 0, 1), (64, .iconst 0, 1), (68, .aload_n 0, 1), (69, .aload_n 0, 1), (76, .istore_n 1, 1), (77, .aload_n 0, 1), (78, .iload_n 1, 1), (82, .aload_n 0, 1), (86, .aload_n 0, 1), (90, .if_icmp .lt 11, 3), (93, .aload_n 0, 1), (94, .iconst 0, 1), (98, .goto 233, 3), (101, .iload_n 1, 1), (105, .ifCond .eq 75, 3), (108, .aload_n 0, 1), (109, .aload_n 0, 1), (119, .ifCond .eq 53, 3), (122, .aload_n 0, 1), (126, .aload_n 0, 1), (130, .isub, 1), (131, .bipush 6, 2), (133, .if_icmp .ge 26, 3), (136, .aload_n 0, 1), (137, .aload_n 0, 1), (141, .iconst 5, 1), (142, .lshl, 1), (143, .aload_n 0, 1), (144, .aload_n 0, 1), (151, .bipush 96, 2), (153, .isub, 1), (154, .i2l, 1), (155, .lor, 1), (159, .aload_n 0, 1), (160, .dup, 1), (164, .iconst 1, 1), (165, .iadd, 1), (169, .goto (-61), 3), (172, .aload_n 0, 1), (173, .iconst 1, 1), (177, .goto 154, 3), (180, .iload_n 1, 1), (184, .ifCond .eq 74, 3), (187, .aload_n 0, 1), (188, .aload_n 0, 1), (198, .ifCond .eq 52, 3), (201, .aload_n 0, 1), (205, .aload_n 0, 1), (209, .isub, 1), (210, .iconst 4, 1), (211, .if_icmp .ge 26, 3), (214, .aload_n 0, 1), (215, .bipush 10, 2), (217, .aload_n 0, 1), (221, .imul, 1), (222, .aload_n 0, 1), (223, .aload_n 0, 1), (230, .iadd, 1), (231, .bipush 48, 2), (233, .isub, 1), (237, .aload_n 0, 1), (238, .dup, 1), (242, .iconst 1, 1), (243, .iadd, 1), (247, .goto (-60), 3), (250, .aload_n 0, 1), (251, .iconst 2, 1), (255, .goto 76, 3), (258, .aload_n 0, 1), (259, .dup, 1), (263, .iconst 1, 1), (264, .iadd, 1), (268, .aload_n 0, 1), (269, .iload_n 1, 1), (270, .bipush 59, 2), (272, .if_icmp .eq 51, 3), (275, .iload_n 1, 1), (276, .bipush 40, 2), (278, .if_icmp .eq 45, 3), (281, .iload_n 1, 1), (282, .bipush 41, 2), (284, .if_icmp .eq 39, 3), (287, .iload_n 1, 1), (288, .bipush 43, 2), (290, .if_icmp .eq 33, 3), (293, .iload_n 1, 1), (294, .bipush 45, 2), (296, .if_icmp .eq 27, 3), (299, .iload_n 1, 1), (300, .bipush 42, 2), (302, .if_icmp .eq 21, 3), (305, .iload_n 1, 1), (306, .bipush 47, 2), (308, .if_icmp .eq 15, 3), (311, .iload_n 1, 1), (312, .bipush 60, 2), (314, .if_icmp .eq 9, 3), (317, .iload_n 1, 1), (318, .bipush 61, 2), (320, .if_icmp .ne 7, 3)]
theorem am_op167_0 : ∀ q ∈ am_p167_0, am_ok 167 q.1 q.2.1 q.2.2 := am_okps (by decide +kernel)
def am_p167_1 : List (Nat × Instr × Nat) := [(323, .iconst 3, 1), (324, .goto 4, 3), (327, .iconst 4, 1), (331, .aload_n 0, 1), (332, .aload_n 0, 1), (336, .aload_n 0, 1), (340, .isub, 1), (344, .return_, 1)]
theorem am_op167_1 : ∀ q ∈ am_p167_1, am_ok 167 q.1 q.2.1 q.2.2 := am_okps (by decide +kernel)
def am_l167_0 : List (Nat × Instr × Nat) := [(1, .getfield 110180, 3), (5, .getfield 110170, 3), (13, .getfield 110180, 3), (16, .invokevirtual 164, 3), (26, .getfield 110180, 3), (29, .invokevirtual 164, 3), (39, .getfield 110180, 3), (44, .putfield 110180, 3), (52, .getfield 110180, 3), (55, .putfield 110200, 3), (60, .putfield 110243, 3), (65, .putfield 110220, 3), (70, .getfield 110180, 3), (73, .invokevirtual 164, 3), (79, .putfield 110230, 3), (83, .getfield 110180, 3), (87, .getfield 110170, 3), (95, .putfield 110190, 3), (102, .invokestatic 165, 3), (110, .getfield 110180, 3), (113, .invokevirtual 164, 3), (116, .invokestatic 165, 3), (123, .getfield 110180, 3), (127, .getfield 110200, 3), (138, .getfield 110243, 3), (145, .getfield 110180, 3), (148, .invokevirtual 164, 3), (156, .putfield 110243, 3), (161, .getfield 110180, 3), (166, .putfield 110180, 3), (174, .putfield 110190, 3), (181, .invokestatic 166, 3), (189, .getfield 110180, 3), (192, .invokevirtual 164, 3), (195, .invokestatic 166, 3), (202, .getfield 110180, 3), (206, .getfield 110200, 3), (218, .getfield 110220, 3), (224, .getfield 110180, 3), (227, .invokevirtual 164, 3)]
theorem am_ol167_0 : ∀ q ∈ am_l167_0, am_ok 167 q.1 q.2.1 q.2.2 := show ∀ q ∈ ([(1, .getfield 110180, 3), (5, .getfield 110170, 3), (13, .getfield 110180, 3), (16, .invokevirtual 164, 3), (26, .getfield 110180, 3), (29, .invokevirtual 164, 3), (39, .getfield 110180, 3), (44, .putfield 110180, 3), (52, .getfield 110180, 3), (55, .putfield 110200, 3), (60, .putfield 110243, 3), (65, .putfield 110220, 3), (70, .getfield 110180, 3), (73, .invokevirtual 164, 3), (79, .putfield 110230, 3), (83, .getfield 110180, 3), (87, .getfield 110170, 3), (95, .putfield 110190, 3), (102, .invokestatic 165, 3), (110, .getfield 110180, 3), (113, .invokevirtual 164, 3), (116, .invokestatic 165, 3), (123, .getfield 110180, 3), (127, .getfield 110200, 3), (138, .getfield 110243, 3), (145, .getfield 110180, 3), (148, .invokevirtual 164, 3), (156, .putfield 110243, 3), (161, .getfield 110180, 3), (166, .putfield 110180, 3), (174, .putfield 110190, 3), (181, .invokestatic 166, 3), (189, .getfield 110180, 3), (192, .invokevirtual 164, 3), (195, .invokestatic 166, 3), (202, .getfield 110180, 3), (206, .getfield 110200, 3), (218, .getfield 110220, 3), (224, .getfield 110180, 3), (227, .invokevirtual 164, 3)] : List (Nat × Instr × Nat)), am_ok 167 q.1 q.2.1 q.2.2 from
  am_fc (am_okgf 142 (by decide +kernel) (am_mem 1412 (by decide +kernel))) (
  am_fc (am_okgf 139 (by decide +kernel) (am_mem 1411 (by decide +kernel))) (
  am_fc (am_okgf 142 (by decide +kernel) (am_mem 1412 (by decide +kernel))) (
  am_fc (am_okv 145 (by decide +kernel) (by decide) (am_mem 1623 (by decide +kernel)) (am_mem 1625 (by decide +kernel)) (am_mem 45 (by decide +kernel))) (
  am_fc (am_okgf 142 (by decide +kernel) (am_mem 1412 (by decide +kernel))) (
  am_fc (am_okv 145 (by decide +kernel) (by decide) (am_mem 1623 (by decide +kernel)) (am_mem 1625 (by decide +kernel)) (am_mem 45 (by decide +kernel))) (
  am_fc (am_okgf 142 (by decide +kernel) (am_mem 1412 (by decide +kernel))) (
  am_fc (am_okpf 142 (by decide +kernel) (am_mem 1412 (by decide +kernel))) (
  am_fc (am_okgf 142 (by decide +kernel) (am_mem 1412 (by decide +kernel))) (
  am_fc (am_okpf 149 (by decide +kernel) (am_mem 1414 (by decide +kernel))) (
  am_fc (am_okpf 152 (by decide +kernel) (am_mem 1418 (by decide +kernel))) (
  am_fc (am_okpf 156 (by decide +kernel) (am_mem 1416 (by decide +kernel))) (
  am_fc (am_okgf 142 (by decide +kernel) (am_mem 1412 (by decide +kernel))) (
  am_fc (am_okv 145 (by decide +kernel) (by decide) (am_mem 1623 (by decide +kernel)) (am_mem 1625 (by decide +kernel)) (am_mem 45 (by decide +kernel))) (
  am_fc (am_okpf 159 (by decide +kernel) (am_mem 1417 (by decide +kernel))) (
  am_fc (am_okgf 142 (by decide +kernel) (am_mem 1412 (by decide +kernel))) (
  am_fc (am_okgf 139 (by decide +kernel) (am_mem 1411 (by decide +kernel))) (
  am_fc (am_okpf 162 (by decide +kernel) (am_mem 1413 (by decide +kernel))) (
  am_fc (am_oks 165 (by decide +kernel) (by decide) (am_mem 1628 (by decide +kernel)) (Or.inl (am_mem 1627 (by decide +kernel)))) (
  am_fc (am_okgf 142 (by decide +kernel) (am_mem 1412 (by decide +kernel))) (
  am_fc (am_okv 145 (by decide +kernel) (by decide) (am_mem 1623 (by decide +kernel)) (am_mem 1625 (by decide +kernel)) (am_mem 45 (by decide +kernel))) (
  am_fc (am_oks 165 (by decide +kernel) (by decide) (am_mem 1628 (by decide +kernel)) (Or.inl (am_mem 1627 (by decide +kernel)))) (
  am_fc (am_okgf 142 (by decide +kernel) (am_mem 1412 (by decide +kernel))) (
  am_fc (am_okgf 149 (by decide +kernel) (am_mem 1414 (by decide +kernel))) (
  am_fc (am_okgf 152 (by decide +kernel) (am_mem 1418 (by decide +kernel))) (
  am_fc (am_okgf 142 (by decide +kernel) (am_mem 1412 (by decide +kernel))) (
  am_fc (am_okv 145 (by decide +kernel) (by decide) (am_mem 1623 (by decide +kernel)) (am_mem 1625 (by decide +kernel)) (am_mem 45 (by decide +kernel))) (
  am_fc (am_okpf 152 (by decide +kernel) (am_mem 1418 (by decide +kernel))) (
  am_fc (am_okgf 142 (by decide +kernel) (am_mem 1412 (by decide +kernel))) (
  am_fc (am_okpf 142 (by decide +kernel) (am_mem 1412 (by decide +kernel))) (
  am_fc (am_okpf 162 (by decide +kernel) (am_mem 1413 (by decide +kernel))) (
  am_fc (am_oks 169 (by decide +kernel) (by decide) (am_mem 1631 (by decide +kernel)) (Or.inl (am_mem 1630 (by decide +kernel)))) (
  am_fc (am_okgf 142 (by decide +kernel) (am_mem 1412 (by decide +kernel))) (
  am_fc (am_okv 145 (by decide +kernel) (by decide) (am_mem 1623 (by decide +kernel)) (am_mem 1625 (by decide +kernel)) (am_mem 45 (by decide +kernel))) (
  am_fc (am_oks 169 (by decide +kernel) (by decide) (am_mem 1631 (by decide +kernel)) (Or.inl (am_mem 1630 (by decide +kernel)))) (
  am_fc (am_okgf 142 (by decide +kernel) (am_mem 1412 (by decide +kernel))) (
  am_fc (am_okgf 149 (by decide +kernel) (am_mem 1414 (by decide +kernel))) (
  am_fc (am_okgf 156 (by decide +kernel) (am_mem 1416 (by decide +kernel))) (
  am_fc (am_okgf 142 (by decide +kernel) (am_mem 1412 (by decide +kernel))) (
  am_fc (am_okv 145 (by decide +kernel) (by decide) (am_mem 1623 (by decide +kernel)) (am_mem 1625 (by decide +kernel)) (am_mem 45 (by decide +kernel))) (
  am_fn))))))))))))))))))))))))))))))))))))))))
def am_l167_1 : List (Nat × Instr × Nat) := [(234, .putfield 110220, 3), (239, .getfield 110180, 3), (244, .putfield 110180, 3), (252, .putfield 110190, 3), (260, .getfield 110180, 3), (265, .putfield 110180, 3), (328, .putfield 110190, 3), (333, .getfield 110180, 3), (337, .getfield 110200, 3), (341, .putfield 110210, 3)]
theorem am_ol167_1 : ∀ q ∈ am_l167_1, am_ok 167 q.1 q.2.1 q.2.2 := show ∀ q ∈ ([(234, .putfield 110220, 3), (239, .getfield 110180, 3), (244, .putfield 110180, 3), (252, .putfield 110190, 3), (260, .getfield 110180, 3), (265, .putfield 110180, 3), (328, .putfield 110190, 3), (333, .getfield 110180, 3), (337, .getfield 110200, 3), (341, .putfield 110210, 3)] : List (Nat × Instr × Nat)), am_ok 167 q.1 q.2.1 q.2.2 from
  am_fc (am_okpf 156 (by decide +kernel) (am_mem 1416 (by decide +kernel))) (
  am_fc (am_okgf 142 (by decide +kernel) (am_mem 1412 (by decide +kernel))) (
  am_fc (am_okpf 142 (by decide +kernel) (am_mem 1412 (by decide +kernel))) (
  am_fc (am_okpf 162 (by decide +kernel) (am_mem 1413 (by decide +kernel))) (
  am_fc (am_okgf 142 (by decide +kernel) (am_mem 1412 (by decide +kernel))) (
  am_fc (am_okpf 142 (by decide +kernel) (am_mem 1412 (by decide +kernel))) (
  am_fc (am_okpf 162 (by decide +kernel) (am_mem 1413 (by decide +kernel))) (
  am_fc (am_okgf 142 (by decide +kernel) (am_mem 1412 (by decide +kernel))) (
  am_fc (am_okgf 149 (by decide +kernel) (am_mem 1414 (by decide +kernel))) (
  am_fc (am_okpf 172 (by decide +kernel) (am_mem 1415 (by decide +kernel))) (
  am_fn))))))))))
def am_t167 : List (Nat × Instr × Nat) := am_p167_0 ++ (am_p167_1 ++ (am_l167_0 ++ (am_l167_1)))
theorem am_ot167 : ∀ q ∈ am_t167, am_ok 167 q.1 q.2.1 q.2.2 := List.forall_mem_append.mpr ⟨am_op167_0, List.forall_mem_append.mpr ⟨am_op167_1, List.forall_mem_append.mpr ⟨am_ol167_0, am_ol167_1⟩⟩⟩
def am_p168_0 : List (Nat × Instr × Nat) := [(0, .iload_n 0, 1), (1, .i2l, 1), (5, .lsub, 1), (6, .iconst 5, 1), (7, .lshl, 1), (8, .iload_n 1, 1), (9, .bipush 96, 2), (11, .isub, 1), (12, .i2l, 1), (13, .lor, 1), (14, .lstore 6, 2), (16, .iload_n 2, 1), (17, .ifCond .eq 15, 3), (20, .lload 6, 2), (22, .iconst 5, 1), (23, .lshl, 1), (24, .iload_n 2, 1), (25, .bipush 96, 2), (27, .isub, 1), (28, .i2l, 1), (29, .lor, 1), (30, .lstore 6, 2), (32, .iload_n 3, 1), (33, .ifCond .eq 15, 3), (36, .lload 6, 2), (38, .iconst 5, 1), (39, .lshl, 1), (40, .iload_n 3, 1), (41, .bipush 96, 2), (43, .isub, 1), (44, .i2l, 1), (45, .lor, 1), (46, .lstore 6, 2), (48, .iload 4, 2), (50, .ifCond .eq 16, 3), (53, .lload 6, 2), (55, .iconst 5, 1), (56, .lshl, 1), (57, .iload 4, 2), (59, .bipush 96, 2), (61, .isub, 1), (62, .i2l, 1), (63, .lor, 1), (64, .lstore 6, 2), (66, .iload 5, 2), (68, .ifCond .eq 16, 3), (71, .lload 6, 2), (73, .iconst 5, 1), (74, .lshl, 1), (75, .iload 5, 2), (77, .bipush 96, 2), (79, .isub, 1), (80, .i2l, 1), (81, .lor, 1), (82, .lstore 6, 2), (84, .lload 6, 2), (86, .lreturn, 1)]
theorem am_op168_0 : ∀ q ∈ am_p168_0, am_ok 168 q.1 q.2.1 q.2.2 := am_okps (by decide +kernel)
def am_l168_0 : List (Nat × Instr × Nat) := [(2, .ldc2_w 96, 3)]
theorem am_ol168_0 : ∀ q ∈ am_l168_0, am_ok 168 q.1 q.2.1 q.2.2 := show ∀ q ∈ ([(2, .ldc2_w 96, 3)] : List (Nat × Instr × Nat)), am_ok 168 q.1 q.2.1 q.2.2 from
  am_fc (am_okl2 175 (by decide +kernel) (am_mem 1651 (by decide +kernel))) (
  am_fn)
def am_t168 : List (Nat × Instr × Nat) := am_p168_0 ++ (am_l168_0)
theorem am_ot168 : ∀ q ∈ am_t168, am_ok 168 q.1 q.2.1 q.2.2 := List.forall_mem_append.mpr ⟨am_op168_0, am_ol168_0⟩
def am_p169_0 : List (Nat × Instr × Nat) := [(0, .iload_n 0, 1), (1, .tableswitch 288 0 14 #[75, 89, 105, 118, 132, 147, 162, 175, 191, 205, 219, 233, 248, 263, 276], 75), (76, .bipush 115, 2), (78, .bipush 97, 2), (80, .bipush 108, 2), (82, .bipush 116, 2), (84, .iconst 0, 1), (85, .iconst 0, 1), (89, .lreturn, 1), (90, .bipush 119, 2), (92, .bipush 101, 2), (94, .bipush 105, 2), (96, .bipush 103, 2), (98, .bipush 104, 2), (100, .bipush 116, 2), (105, .lreturn, 1), (106, .bipush 97, 2), (108, .bipush 103, 2), (110, .bipush 101, 2), (112, .iconst 0, 1), (113, .iconst 0, 1), (114, .iconst 0, 1), (118, .lreturn, 1), (119, .bipush 116, 2), (121, .bipush 111, 2), (123, .bipush 108, 2), (125, .bipush 100, 2), (127, .iconst 0, 1), (128, .iconst 0, 1), (132, .lreturn, 1), (133, .bipush 102, 2), (135, .bipush 97, 2), (137, .bipush 99, 2), (139, .bipush 116, 2), (141, .bipush 115, 2), (143, .iconst 0, 1), (147, .lreturn, 1), (148, .bipush 116, 2), (150, .bipush 97, 2), (152, .bipush 98, 2), (154, .bipush 108, 2), (156, .bipush 101, 2), (158, .iconst 0, 1), (162, .lreturn, 1), (163, .bipush 100, 2), (165, .bipush 97, 2), (167, .bipush 121, 2), (169, .iconst 0, 1), (170, .iconst 0, 1), (171, .iconst 0, 1), (175, .lreturn, 1), (176, .bipush 112, 2), (178, .bipush 101, 2), (180, .bipush 114, 2), (182, .bipush 115, 2), (184, .bipush 111, 2), (186, .bipush 110, 2), (191, .lreturn, 1), (192, .bipush 102, 2), (194, .bipush 97, 2), (196, .bipush 99, 2), (198, .bipush 116, 2), (200, .iconst 0, 1), (201, .iconst 0, 1), (205, .lreturn, 1), (206, .bipush 100, 2), (208, .bipush 101, 2), (210, .bipush 98, 2), (212, .bipush 116, 2), (214, .iconst 0, 1), (215, .iconst 0, 1), (219, .lreturn, 1), (220, .bipush 116, 2), (222, .bipush 97, 2), (224, .bipush 108, 2), (226, .bipush 107, 2), (228, .iconst 0, 1), (229, .iconst 0, 1), (233, .lreturn, 1), (234, .bipush 112, 2), (236, .bipush 114, 2), (238, .bipush 105, 2), (240, .bipush 99, 2), (242, .bipush 101, 2), (244, .iconst 0, 1), (248, .lreturn, 1), (249, .bipush 107, 2), (251, .bipush 101, 2), (253, .bipush 101, 2), (255, .bipush 112, 2), (257, .bipush 115, 2), (259, .iconst 0, 1), (263, .lreturn, 1), (264, .bipush 97, 2), (266, .bipush 110, 2), (268, .bipush 100, 2), (270, .iconst 0, 1), (271, .iconst 0, 1), (272, .iconst 0, 1), (276, .lreturn, 1), (277, .bipush 111, 2), (279, .bipush 114, 2), (281, .iconst 0, 1), (282, .iconst 0, 1), (283, .iconst 0, 1), (284, .iconst 0, 1), (288, .lreturn, 1), (289, .bipush 110, 2), (291, .bipush 111, 2), (293, .bipush 116, 2), (295, .iconst 0, 1), (296, .iconst 0, 1), (297, .iconst 0, 1), (301, .lreturn, 1)]
theorem am_op169_0 : ∀ q ∈ am_p169_0, am_ok 169 q.1 q.2.1 q.2.2 := am_okps (by decide +kernel)
def am_l169_0 : List (Nat × Instr × Nat) := [(86, .invokestatic 168, 3), (102, .invokestatic 168, 3), (115, .invokestatic 168, 3), (129, .invokestatic 168, 3), (144, .invokestatic 168, 3), (159, .invokestatic 168, 3), (172, .invokestatic 168, 3), (188, .invokestatic 168, 3), (202, .invokestatic 168, 3), (216, .invokestatic 168, 3), (230, .invokestatic 168, 3), (245, .invokestatic 168, 3), (260, .invokestatic 168, 3), (273, .invokestatic 168, 3), (285, .invokestatic 168, 3), (298, .invokestatic 168, 3)]
theorem am_ol169_0 : ∀ q ∈ am_l169_0, am_ok 169 q.1 q.2.1 q.2.2 := show ∀ q ∈ ([(86, .invokestatic 168, 3), (102, .invokestatic 168, 3), (115, .invokestatic 168, 3), (129, .invokestatic 168, 3), (144, .invokestatic 168, 3), (159, .invokestatic 168, 3), (172, .invokestatic 168, 3), (188, .invokestatic 168, 3), (202, .invokestatic 168, 3), (216, .invokestatic 168, 3), (230, .invokestatic 168, 3), (245, .invokestatic 168, 3), (260, .invokestatic 168, 3), (273, .invokestatic 168, 3), (285, .invokestatic 168, 3), (298, .invokestatic 168, 3)] : List (Nat × Instr × Nat)), am_ok 169 q.1 q.2.1 q.2.2 from
  am_fc (am_oks 177 (by decide +kernel) (by decide) (am_mem 1649 (by decide +kernel)) (Or.inl (am_mem 1648 (by decide +kernel)))) (
  am_fc (am_oks 177 (by decide +kernel) (by decide) (am_mem 1649 (by decide +kernel)) (Or.inl (am_mem 1648 (by decide +kernel)))) (
  am_fc (am_oks 177 (by decide +kernel) (by decide) (am_mem 1649 (by decide +kernel)) (Or.inl (am_mem 1648 (by decide +kernel)))) (
  am_fc (am_oks 177 (by decide +kernel) (by decide) (am_mem 1649 (by decide +kernel)) (Or.inl (am_mem 1648 (by decide +kernel)))) (
  am_fc (am_oks 177 (by decide +kernel) (by decide) (am_mem 1649 (by decide +kernel)) (Or.inl (am_mem 1648 (by decide +kernel)))) (
  am_fc (am_oks 177 (by decide +kernel) (by decide) (am_mem 1649 (by decide +kernel)) (Or.inl (am_mem 1648 (by decide +kernel)))) (
  am_fc (am_oks 177 (by decide +kernel) (by decide) (am_mem 1649 (by decide +kernel)) (Or.inl (am_mem 1648 (by decide +kernel)))) (
  am_fc (am_oks 177 (by decide +kernel) (by decide) (am_mem 1649 (by decide +kernel)) (Or.inl (am_mem 1648 (by decide +kernel)))) (
  am_fc (am_oks 177 (by decide +kernel) (by decide) (am_mem 1649 (by decide +kernel)) (Or.inl (am_mem 1648 (by decide +kernel)))) (
  am_fc (am_oks 177 (by decide +kernel) (by decide) (am_mem 1649 (by decide +kernel)) (Or.inl (am_mem 1648 (by decide +kernel)))) (
  am_fc (am_oks 177 (by decide +kernel) (by decide) (am_mem 1649 (by decide +kernel)) (Or.inl (am_mem 1648 (by decide +kernel)))) (
  am_fc (am_oks 177 (by decide +kernel) (by decide) (am_mem 1649 (by decide +kernel)) (Or.inl (am_mem 1648 (by decide +kernel)))) (
  am_fc (am_oks 177 (by decide +kernel) (by decide) (am_mem 1649 (by decide +kernel)) (Or.inl (am_mem 1648 (by decide +kernel)))) (
  am_fc (am_oks 177 (by decide +kernel) (by decide) (am_mem 1649 (by decide +kernel)) (Or.inl (am_mem 1648 (by decide +kernel)))) (
  am_fc (am_oks 177 (by decide +kernel) (by decide) (am_mem 1649 (by decide +kernel)) (Or.inl (am_mem 1648 (by decide +kernel)))) (
  am_fc (am_oks 177 (by decide +kernel) (by decide) (am_mem 1649 (by decide +kernel)) (Or.inl (am_mem 1648 (by decide +kernel)))) (
  am_fn))))))))))))))))
def am_t169 : List (Nat × Instr × Nat) := am_p169_0 ++ (am_l169_0)
theorem am_ot169 : ∀ q ∈ am_t169, am_ok 169 q.1 q.2.1 q.2.2 := List.forall_mem_append.mpr ⟨am_op169_0, am_ol169_0⟩
def am_p170_0 : List (Nat × Instr × Nat) := [(0, .aload_n 0, 1), (4, .iconst 1, 1), (5, .if_icmp .ne 12, 3), (8, .aload_n 0, 1), (12, .bipush 6, 2), (14, .if_icmp .le 5, 3), (17, .iconst (-1), 1), (18, .ireturn, 1), (19, .iconst 0, 1), (20, .istore_n 1, 1), (21, .iload_n 1, 1), (22, .bipush 16, 2), (24, .if_icmp .ge 23, 3), (27, .iload_n 1, 1), (31, .aload_n 0, 1), (35, .lcmp, 1), (36, .ifCond .ne 5, 3), (39, .iload_n 1, 1), (40, .ireturn, 1), (41, .iinc 1 1, 3), (44, .goto (-23), 3), (47, .iconst (-1), 1), (48, .ireturn, 1)]
theorem am_op170_0 : ∀ q ∈ am_p170_0, am_ok 170 q.1 q.2.1 q.2.2 := am_okps (by decide +kernel)
def am_l170_0 : List (Nat × Instr × Nat) := [(1, .getfield 110190, 3), (9, .getfield 110210, 3), (28, .invokestatic 169, 3), (32, .getfield 110243, 3)]
theorem am_ol170_0 : ∀ q ∈ am_l170_0, am_ok 170 q.1 q.2.1 q.2.2 := show ∀ q ∈ ([(1, .getfield 110190, 3), (9, .getfield 110210, 3), (28, .invokestatic 169, 3), (32, .getfield 110243, 3)] : List (Nat × Instr × Nat)), am_ok 170 q.1 q.2.1 q.2.2 from
  am_fc (am_okgf 162 (by decide +kernel) (am_mem 1413 (by decide +kernel))) (
  am_fc (am_okgf 172 (by decide +kernel) (am_mem 1415 (by decide +kernel))) (
  am_fc (am_oks 181 (by decide +kernel) (by decide) (am_mem 1646 (by decide +kernel)) (Or.inl (am_mem 1645 (by decide +kernel)))) (
  am_fc (am_okgf 152 (by decide +kernel) (am_mem 1418 (by decide +kernel))) (
  am_fn))))
def am_t170 : List (Nat × Instr × Nat) := am_p170_0 ++ (am_l170_0)
theorem am_ot170 : ∀ q ∈ am_t170, am_ok 170 q.1 q.2.1 q.2.2 := List.forall_mem_append.mpr ⟨am_op170_0, am_ol170_0⟩
def am_p171_0 : List (Nat × Instr × Nat) := [(0, .aload_n 0, 1), (4, .ifCond .eq 4, 3), (7, .return_, 1), (8, .aload_n 0, 1), (9, .iload_n 1, 1), (13, .aload_n 0, 1), (14, .aload_n 0, 1), (21, .return_, 1)]
theorem am_op171_0 : ∀ q ∈ am_p171_0, am_ok 171 q.1 q.2.1 q.2.2 := am_okps (by decide +kernel)
def am_l171_0 : List (Nat × Instr × Nat) := [(1, .getfield 110140, 3), (10, .putfield 110140, 3), (15, .getfield 110200, 3), (18, .putfield 110150, 3)]
theorem am_ol171_0 : ∀ q ∈ am_l171_0, am_ok 171 q.1 q.2.1 q.2.2 := show ∀ q ∈ ([(1, .getfield 110140, 3), (10, .putfield 110140, 3), (15, .getfield 110200, 3), (18, .putfield 110150, 3)] : List (Nat × Instr × Nat)), am_ok 171 q.1 q.2.1 q.2.2 from
  am_fc (am_okgf 185 (by decide +kernel) (am_mem 1408 (by decide +kernel))) (
  am_fc (am_okpf 185 (by decide +kernel) (am_mem 1408 (by decide +kernel))) (
  am_fc (am_okgf 149 (by decide +kernel) (am_mem 1414 (by decide +kernel))) (
  am_fc (am_okpf 35 (by decide +kernel) (am_mem 1409 (by decide +kernel))) (
  am_fn))))
def am_t171 : List (Nat × Instr × Nat) := am_p171_0 ++ (am_l171_0)
theorem am_ot171 : ∀ q ∈ am_t171, am_ok 171 q.1 q.2.1 q.2.2 := List.forall_mem_append.mpr ⟨am_op171_0, am_ol171_0⟩
def am_p172_0 : List (Nat × Instr × Nat) := [(0, .aload_n 0, 1), (4, .ifCond .ne 7, 3), (7, .iconst 1, 1), (8, .goto 4, 3), (11, .iconst 0, 1), (12, .ireturn, 1)]
theorem am_op172_0 : ∀ q ∈ am_p172_0, am_ok 172 q.1 q.2.1 q.2.2 := am_okps (by decide +kernel)
def am_l172_0 : List (Nat × Instr × Nat) := [(1, .getfield 110140, 3)]
theorem am_ol172_0 : ∀ q ∈ am_l172_0, am_ok 172 q.1 q.2.1 q.2.2 := show ∀ q ∈ ([(1, .getfield 110140, 3)] : List (Nat × Instr × Nat)), am_ok 172 q.1 q.2.1 q.2.2 from
  am_fc (am_okgf 185 (by decide +kernel) (am_mem 1408 (by decide +kernel))) (
  am_fn)
def am_t172 : List (Nat × Instr × Nat) := am_p172_0 ++ (am_l172_0)
theorem am_ot172 : ∀ q ∈ am_t172, am_ok 172 q.1 q.2.1 q.2.2 := List.forall_mem_append.mpr ⟨am_op172_0, am_ol172_0⟩
def am_p173_0 : List (Nat × Instr × Nat) := [(0, .aload_n 0, 1), (4, .iconst 3, 1), (5, .if_icmp .ne 15, 3), (8, .aload_n 0, 1), (12, .iload_n 1, 1), (13, .if_icmp .ne 7, 3), (16, .iconst 1, 1), (17, .goto 4, 3), (20, .iconst 0, 1), (21, .ireturn, 1)]
theorem am_op173_0 : ∀ q ∈ am_p173_0, am_ok 173 q.1 q.2.1 q.2.2 := am_okps (by decide +kernel)
def am_l173_0 : List (Nat × Instr × Nat) := [(1, .getfield 110190, 3), (9, .getfield 110230, 3)]
theorem am_ol173_0 : ∀ q ∈ am_l173_0, am_ok 173 q.1 q.2.1 q.2.2 := show ∀ q ∈ ([(1, .getfield 110190, 3), (9, .getfield 110230, 3)] : List (Nat × Instr × Nat)), am_ok 173 q.1 q.2.1 q.2.2 from
  am_fc (am_okgf 162 (by decide +kernel) (am_mem 1413 (by decide +kernel))) (
  am_fc (am_okgf 159 (by decide +kernel) (am_mem 1417 (by decide +kernel))) (
  am_fn))
def am_t173 : List (Nat × Instr × Nat) := am_p173_0 ++ (am_l173_0)
theorem am_ot173 : ∀ q ∈ am_t173, am_ok 173 q.1 q.2.1 q.2.2 := List.forall_mem_append.mpr ⟨am_op173_0, am_ol173_0⟩
def am_p174_0 : List (Nat × Instr × Nat) := [(0, .aload_n 0, 1), (4, .ifCond .ne 4, 3), (7, .return_, 1), (8, .iload_n 1, 1), (9, .ifCond .eq 10, 3), (12, .aload_n 0, 1), (16, .goto 8, 3), (19, .aload_n 0, 1), (20, .iconst 1, 1), (24, .return_, 1)]
theorem am_op174_0 : ∀ q ∈ am_p174_0, am_ok 174 q.1 q.2.1 q.2.2 := am_okps (by decide +kernel)
def am_l174_0 : List (Nat × Instr × Nat) := [(1, .invokevirtual 172, 3), (13, .invokevirtual 167, 3), (21, .invokevirtual 171, 3)]
theorem am_ol174_0 : ∀ q ∈ am_l174_0, am_ok 174 q.1 q.2.1 q.2.2 := show ∀ q ∈ ([(1, .invokevirtual 172, 3), (13, .invokevirtual 167, 3), (21, .invokevirtual 171, 3)] : List (Nat × Instr × Nat)), am_ok 174 q.1 q.2.1 q.2.2 from
  am_fc (am_okv 188 (by decide +kernel) (by decide) (am_mem 1633 (by decide +kernel)) (am_mem 1635 (by decide +kernel)) (am_mem 46 (by decide +kernel))) (
  am_fc (am_okv 192 (by decide +kernel) (by decide) (am_mem 1619 (by decide +kernel)) (am_mem 1621 (by decide +kernel)) (am_mem 44 (by decide +kernel))) (
  am_fc (am_okv 195 (by decide +kernel) (by decide) (am_mem 1652 (by decide +kernel)) (am_mem 1654 (by decide +kernel)) (am_mem 49 (by decide +kernel))) (
  am_fn)))
def am_t174 : List (Nat × Instr × Nat) := am_p174_0 ++ (am_l174_0)
theorem am_ot174 : ∀ q ∈ am_t174, am_ok 174 q.1 q.2.1 q.2.2 := List.forall_mem_append.mpr ⟨am_op174_0, am_ol174_0⟩
def am_p175_0 : List (Nat × Instr × Nat) := [(0, .aload_n 0, 1), (4, .ifCond .ne 5, 3), (7, .iconst 0, 1), (8, .ireturn, 1), (9, .aload_n 0, 1), (13, .iconst 2, 1), (14, .if_icmp .eq 11, 3), (17, .aload_n 0, 1), (18, .iconst 1, 1), (22, .goto 32, 3), (25, .aload_n 0, 1), (29, .iconst 4, 1), (30, .if_icmp .gt 19, 3), (33, .aload_n 0, 1), (37, .iload_n 1, 1), (38, .if_icmp .lt 11, 3), (41, .aload_n 0, 1), (45, .iload_n 2, 1), (46, .if_icmp .le 8, 3), (49, .aload_n 0, 1), (50, .iconst 2, 1), (54, .aload_n 0, 1), (58, .istore_n 3, 1), (59, .aload_n 0, 1), (63, .ifCond .eq 7, 3), (66, .aload_n 0, 1), (70, .iload_n 3, 1), (71, .ireturn, 1)]
theorem am_op175_0 : ∀ q ∈ am_p175_0, am_ok 175 q.1 q.2.1 q.2.2 := am_okps (by decide +kernel)
def am_l175_0 : List (Nat × Instr × Nat) := [(1, .invokevirtual 172, 3), (10, .getfield 110190, 3), (19, .invokevirtual 171, 3), (26, .getfield 110210, 3), (34, .getfield 110220, 3), (42, .getfield 110220, 3), (51, .invokevirtual 171, 3), (55, .getfield 110220, 3), (60, .invokevirtual 172, 3), (67, .invokevirtual 167, 3)]
theorem am_ol175_0 : ∀ q ∈ am_l175_0, am_ok 175 q.1 q.2.1 q.2.2 := show ∀ q ∈ ([(1, .invokevirtual 172, 3), (10, .getfield 110190, 3), (19, .invokevirtual 171, 3), (26, .getfield 110210, 3), (34, .getfield 110220, 3), (42, .getfield 110220, 3), (51, .invokevirtual 171, 3), (55, .getfield 110220, 3), (60, .invokevirtual 172, 3), (67, .invokevirtual 167, 3)] : List (Nat × Instr × Nat)), am_ok 175 q.1 q.2.1 q.2.2 from
  am_fc (am_okv 188 (by decide +kernel) (by decide) (am_mem 1633 (by decide +kernel)) (am_mem 1635 (by decide +kernel)) (am_mem 46 (by decide +kernel))) (
  am_fc (am_okgf 162 (by decide +kernel) (am_mem 1413 (by decide +kernel))) (
  am_fc (am_okv 195 (by decide +kernel) (by decide) (am_mem 1652 (by decide +kernel)) (am_mem 1654 (by decide +kernel)) (am_mem 49 (by decide +kernel))) (
  am_fc (am_okgf 172 (by decide +kernel) (am_mem 1415 (by decide +kernel))) (
  am_fc (am_okgf 156 (by decide +kernel) (am_mem 1416 (by decide +kernel))) (
  am_fc (am_okgf 156 (by decide +kernel) (am_mem 1416 (by decide +kernel))) (
  am_fc (am_okv 195 (by decide +kernel) (by decide) (am_mem 1652 (by decide +kernel)) (am_mem 1654 (by decide +kernel)) (am_mem 49 (by decide +kernel))) (
  am_fc (am_okgf 156 (by decide +kernel) (am_mem 1416 (by decide +kernel))) (
  am_fc (am_okv 188 (by decide +kernel) (by decide) (am_mem 1633 (by decide +kernel)) (am_mem 1635 (by decide +kernel)) (am_mem 46 (by decide +kernel))) (
  am_fc (am_okv 192 (by decide +kernel) (by decide) (am_mem 1619 (by decide +kernel)) (am_mem 1621 (by decide +kernel)) (am_mem 44 (by decide +kernel))) (
  am_fn))))))))))
def am_t175 : List (Nat × Instr × Nat) := am_p175_0 ++ (am_l175_0)
theorem am_ot175 : ∀ q ∈ am_t175, am_ok 175 q.1 q.2.1 q.2.2 := List.forall_mem_append.mpr ⟨am_op175_0, am_ol175_0⟩
def am_p176_0 : List (Nat × Instr × Nat) := [(0, .aload_n 0, 1), (4, .ifCond .ne 5, 3), (7, .iconst 0, 1), (8, .ireturn, 1), (9, .aload_n 0, 1), (13, .iconst 2, 1), (14, .if_icmp .eq 11, 3), (17, .aload_n 0, 1), (18, .iconst 1, 1), (22, .goto 35, 3), (25, .aload_n 0, 1), (29, .iconst 4, 1), (30, .if_icmp .le 11, 3), (33, .aload_n 0, 1), (34, .iconst 2, 1), (38, .goto 19, 3), (41, .aload_n 0, 1), (45, .aload_n 0, 1), (49, .if_icmp .lt 8, 3), (52, .aload_n 0, 1), (53, .iconst 3, 1), (57, .aload_n 0, 1), (61, .ireturn, 1)]
theorem am_op176_0 : ∀ q ∈ am_p176_0, am_ok 176 q.1 q.2.1 q.2.2 := am_okps (by decide +kernel)
def am_l176_0 : List (Nat × Instr × Nat) := [(1, .invokevirtual 172, 3), (10, .getfield 110190, 3), (19, .invokevirtual 171, 3), (26, .getfield 110210, 3), (35, .invokevirtual 171, 3), (42, .getfield 110220, 3), (46, .getfield 110250, 3), (54, .invokevirtual 171, 3), (58, .getfield 110220, 3)]
theorem am_ol176_0 : ∀ q ∈ am_l176_0, am_ok 176 q.1 q.2.1 q.2.2 := show ∀ q ∈ ([(1, .invokevirtual 172, 3), (10, .getfield 110190, 3), (19, .invokevirtual 171, 3), (26, .getfield 110210, 3), (35, .invokevirtual 171, 3), (42, .getfield 110220, 3), (46, .getfield 110250, 3), (54, .invokevirtual 171, 3), (58, .getfield 110220, 3)] : List (Nat × Instr × Nat)), am_ok 176 q.1 q.2.1 q.2.2 from
  am_fc (am_okv 188 (by decide +kernel) (by decide) (am_mem 1633 (by decide +kernel)) (am_mem 1635 (by decide +kernel)) (am_mem 46 (by decide +kernel))) (
  am_fc (am_okgf 162 (by decide +kernel) (am_mem 1413 (by decide +kernel))) (
  am_fc (am_okv 195 (by decide +kernel) (by decide) (am_mem 1652 (by decide +kernel)) (am_mem 1654 (by decide +kernel)) (am_mem 49 (by decide +kernel))) (
  am_fc (am_okgf 172 (by decide +kernel) (am_mem 1415 (by decide +kernel))) (
  am_fc (am_okv 195 (by decide +kernel) (by decide) (am_mem 1652 (by decide +kernel)) (am_mem 1654 (by decide +kernel)) (am_mem 49 (by decide +kernel))) (
  am_fc (am_okgf 156 (by decide +kernel) (am_mem 1416 (by decide +kernel))) (
  am_fc (am_okgf 198 (by decide +kernel) (am_mem 1419 (by decide +kernel))) (
  am_fc (am_okv 195 (by decide +kernel) (by decide) (am_mem 1652 (by decide +kernel)) (am_mem 1654 (by decide +kernel)) (am_mem 49 (by decide +kernel))) (
  am_fc (am_okgf 156 (by decide +kernel) (am_mem 1416 (by decide +kernel))) (
  am_fn)))))))))
def am_t176 : List (Nat × Instr × Nat) := am_p176_0 ++ (am_l176_0)
theorem am_ot176 : ∀ q ∈ am_t176, am_ok 176 q.1 q.2.1 q.2.2 := List.forall_mem_append.mpr ⟨am_op176_0, am_ol176_0⟩
def am_p177_0 : List (Nat × Instr × Nat) := [(0, .aload_n 0, 1), (4, .aload_n 0, 1), (8, .iload_n 1, 1), (9, .iastore, 1), (10, .aload_n 0, 1), (11, .dup, 1), (15, .iconst 1, 1), (16, .iadd, 1), (20, .return_, 1)]
theorem am_op177_0 : ∀ q ∈ am_p177_0, am_ok 177 q.1 q.2.1 q.2.2 := am_okps (by decide +kernel)
def am_l177_0 : List (Nat × Instr × Nat) := [(1, .getfield 110382, 3), (5, .getfield 110300, 3), (12, .getfield 110300, 3), (17, .putfield 110300, 3)]
theorem am_ol177_0 : ∀ q ∈ am_l177_0, am_ok 177 q.1 q.2.1 q.2.2 := show ∀ q ∈ ([(1, .getfield 110382, 3), (5, .getfield 110300, 3), (12, .getfield 110300, 3), (17, .putfield 110300, 3)] : List (Nat × Instr × Nat)), am_ok 177 q.1 q.2.1 q.2.2 from
  am_fc (am_okgf 56 (by decide +kernel) (am_mem 1432 (by decide +kernel))) (
  am_fc (am_okgf 201 (by decide +kernel) (am_mem 1424 (by decide +kernel))) (
  am_fc (am_okgf 201 (by decide +kernel) (am_mem 1424 (by decide +kernel))) (
  am_fc (am_okpf 201 (by decide +kernel) (am_mem 1424 (by decide +kernel))) (
  am_fn))))
def am_t177 : List (Nat × Instr × Nat) := am_p177_0 ++ (am_l177_0)
theorem am_ot177 : ∀ q ∈ am_t177, am_ok 177 q.1 q.2.1 q.2.2 := List.forall_mem_append.mpr ⟨am_op177_0, am_ol177_0⟩
def am_p178_0 : List (Nat × Instr × Nat) := [(0, .iload_n 0, 1), (1, .bipush 14, 2), (3, .if_icmp .lt 7, 3), (6, .iconst 1, 1), (7, .goto 4, 3), (10, .iconst 0, 1), (11, .ireturn, 1)]
theorem am_op178_0 : ∀ q ∈ am_p178_0, am_ok 178 q.1 q.2.1 q.2.2 := am_okps (by decide +kernel)
def am_t178 : List (Nat × Instr × Nat) := am_p178_0
theorem am_ot178 : ∀ q ∈ am_t178, am_ok 178 q.1 q.2.1 q.2.2 := am_op178_0
def am_p179_0 : List (Nat × Instr × Nat) := [(0, .iload_n 0, 1), (1, .iconst 5, 1), (2, .if_icmp .ne 7, 3), (5, .iconst 1, 1), (6, .goto 55, 3), (9, .iload_n 0, 1), (10, .iconst 4, 1), (11, .if_icmp .ne 7, 3), (14, .iconst 2, 1), (15, .goto 46, 3), (18, .iload_n 0, 1), (19, .iconst 3, 1), (20, .if_icmp .ne 7, 3), (23, .iconst 3, 1), (24, .goto 37, 3), (27, .iload_n 0, 1), (28, .bipush 6, 2), (30, .if_icmp .eq 9, 3), (33, .iload_n 0, 1), (34, .bipush 7, 2), (36, .if_icmp .ne 7, 3), (39, .iconst 4, 1), (40, .goto 21, 3), (43, .iload_n 0, 1), (44, .bipush 8, 2), (46, .if_icmp .eq 9, 3), (49, .iload_n 0, 1), (50, .bipush 9, 2), (52, .if_icmp .ne 7, 3), (55, .iconst 5, 1), (56, .goto 5, 3), (59, .bipush 6, 2), (61, .ireturn, 1)]
theorem am_op179_0 : ∀ q ∈ am_p179_0, am_ok 179 q.1 q.2.1 q.2.2 := am_okps (by decide +kernel)
def am_t179 : List (Nat × Instr × Nat) := am_p179_0
theorem am_ot179 : ∀ q ∈ am_t179, am_ok 179 q.1 q.2.1 q.2.2 := am_op179_0
def am_p180_0 : List (Nat × Instr × Nat) := [(0, .aload_n 0, 1), (4, .ifCond .le 64, 3), (7, .aload_n 0, 1), (11, .aload_n 0, 1), (15, .iconst 1, 1), (16, .isub, 1), (17, .iaload, 1), (21, .ifCond .ne 47, 3), (24, .aload_n 0, 1), (28, .aload_n 0, 1), (32, .iconst 1, 1), (33, .isub, 1), (34, .iaload, 1), (38, .iload_n 1, 1), (39, .if_icmp .lt 29, 3), (42, .aload_n 0, 1), (43, .dup, 1), (47, .iconst 1, 1), (48, .isub, 1), (52, .aload_n 0, 1), (53, .aload_n 0, 1), (57, .aload_n 0, 1), (61, .iaload, 1), (65, .goto (-65), 3), (68, .return_, 1)]
theorem am_op180_0 : ∀ q ∈ am_p180_0, am_ok 180 q.1 q.2.1 q.2.2 := am_okps (by decide +kernel)
def am_l180_0 : List (Nat × Instr × Nat) := [(1, .getfield 110310, 3), (8, .getfield 110392, 3), (12, .getfield 110310, 3), (18, .invokestatic 178, 3), (25, .getfield 110392, 3), (29, .getfield 110310, 3), (35, .invokestatic 179, 3), (44, .getfield 110310, 3), (49, .putfield 110310, 3), (54, .getfield 110392, 3), (58, .getfield 110310, 3), (62, .invokevirtual 177, 3)]
theorem am_ol180_0 : ∀ q ∈ am_l180_0, am_ok 180 q.1 q.2.1 q.2.2 := show ∀ q ∈ ([(1, .getfield 110310, 3), (8, .getfield 110392, 3), (12, .getfield 110310, 3), (18, .invokestatic 178, 3), (25, .getfield 110392, 3), (29, .getfield 110310, 3), (35, .invokestatic 179, 3), (44, .getfield 110310, 3), (49, .putfield 110310, 3), (54, .getfield 110392, 3), (58, .getfield 110310, 3), (62, .invokevirtual 177, 3)] : List (Nat × Instr × Nat)), am_ok 180 q.1 q.2.1 q.2.2 from
  am_fc (am_okgf 204 (by decide +kernel) (am_mem 1425 (by decide +kernel))) (
  am_fc (am_okgf 59 (by decide +kernel) (am_mem 1433 (by decide +kernel))) (
  am_fc (am_okgf 204 (by decide +kernel) (am_mem 1425 (by decide +kernel))) (
  am_fc (am_oks 207 (by decide +kernel) (by decide) (am_mem 1709 (by decide +kernel)) (Or.inl (am_mem 1708 (by decide +kernel)))) (
  am_fc (am_okgf 59 (by decide +kernel) (am_mem 1433 (by decide +kernel))) (
  am_fc (am_okgf 204 (by decide +kernel) (am_mem 1425 (by decide +kernel))) (
  am_fc (am_oks 210 (by decide +kernel) (by decide) (am_mem 1712 (by decide +kernel)) (Or.inl (am_mem 1711 (by decide +kernel)))) (
  am_fc (am_okgf 204 (by decide +kernel) (am_mem 1425 (by decide +kernel))) (
  am_fc (am_okpf 204 (by decide +kernel) (am_mem 1425 (by decide +kernel))) (
  am_fc (am_okgf 59 (by decide +kernel) (am_mem 1433 (by decide +kernel))) (
  am_fc (am_okgf 204 (by decide +kernel) (am_mem 1425 (by decide +kernel))) (
  am_fc (am_okv 213 (by decide +kernel) (by decide) (am_mem 1700 (by decide +kernel)) (am_mem 1702 (by decide +kernel)) (am_mem 61 (by decide +kernel))) (
  am_fn))))))))))))
def am_t180 : List (Nat × Instr × Nat) := am_p180_0 ++ (am_l180_0)
theorem am_ot180 : ∀ q ∈ am_t180, am_ok 180 q.1 q.2.1 q.2.2 := List.forall_mem_append.mpr ⟨am_op180_0, am_ol180_0⟩
def am_p181_0 : List (Nat × Instr × Nat) := [(0, .aload_n 0, 1), (4, .aload_n 0, 1), (8, .iload_n 1, 1), (9, .iastore, 1), (10, .aload_n 0, 1), (11, .dup, 1), (15, .iconst 1, 1), (16, .iadd, 1), (20, .return_, 1)]
theorem am_op181_0 : ∀ q ∈ am_p181_0, am_ok 181 q.1 q.2.1 q.2.2 := am_okps (by decide +kernel)
def am_l181_0 : List (Nat × Instr × Nat) := [(1, .getfield 110392, 3), (5, .getfield 110310, 3), (12, .getfield 110310, 3), (17, .putfield 110310, 3)]
theorem am_ol181_0 : ∀ q ∈ am_l181_0, am_ok 181 q.1 q.2.1 q.2.2 := show ∀ q ∈ ([(1, .getfield 110392, 3), (5, .getfield 110310, 3), (12, .getfield 110310, 3), (17, .putfield 110310, 3)] : List (Nat × Instr × Nat)), am_ok 181 q.1 q.2.1 q.2.2 from
  am_fc (am_okgf 59 (by decide +kernel) (am_mem 1433 (by decide +kernel))) (
  am_fc (am_okgf 204 (by decide +kernel) (am_mem 1425 (by decide +kernel))) (
  am_fc (am_okgf 204 (by decide +kernel) (am_mem 1425 (by decide +kernel))) (
  am_fc (am_okpf 204 (by decide +kernel) (am_mem 1425 (by decide +kernel))) (
  am_fn))))
def am_t181 : List (Nat × Instr × Nat) := am_p181_0 ++ (am_l181_0)
theorem am_ot181 : ∀ q ∈ am_t181, am_ok 181 q.1 q.2.1 q.2.2 := List.forall_mem_append.mpr ⟨am_op181_0, am_ol181_0⟩
def am_p182_0 : List (Nat × Instr × Nat) := [(0, .aload_n 0, 1), (4, .ifCond .ne 4, 3), (7, .return_, 1), (8, .aload_n 0, 1), (12, .iconst 2, 1), (13, .if_icmp .ne 32, 3), (16, .aload_n 0, 1), (20, .iconst 4, 1), (21, .if_icmp .le 8, 3), (24, .aload_n 0, 1), (25, .iconst 2, 1), (29, .aload_n 0, 1), (30, .iconst 1, 1), (34, .aload_n 0, 1), (35, .aload_n 0, 1), (42, .goto 49, 3), (45, .aload_n 0, 1), (49, .iconst 1, 1), (50, .if_icmp .ne 36, 3), (53, .aload_n 0, 1), (57, .istore_n 1, 1), (58, .iload_n 1, 1), (59, .ifCond .lt 9, 3), (62, .iload_n 1, 1), (63, .bipush 6, 2), (65, .if_icmp .le 8, 3), (68, .aload_n 0, 1), (69, .iconst 3, 1), (73, .aload_n 0, 1), (74, .iconst 2, 1), (78, .aload_n 0, 1), (79, .iload_n 1, 1), (83, .goto 8, 3), (86, .aload_n 0, 1), (87, .iconst 1, 1), (91, .aload_n 0, 1), (95, .ifCond .eq 7, 3), (98, .aload_n 0, 1), (102, .return_, 1)]
theorem am_op182_0 : ∀ q ∈ am_p182_0, am_ok 182 q.1 q.2.1 q.2.2 := am_okps (by decide +kernel)
def am_l182_0 : List (Nat × Instr × Nat) := [(1, .invokevirtual 172, 3), (9, .getfield 110190, 3), (17, .getfield 110210, 3), (26, .invokevirtual 171, 3), (31, .invokevirtual 177, 3), (36, .getfield 110220, 3), (39, .invokevirtual 177, 3), (46, .getfield 110190, 3), (54, .invokevirtual 170, 3), (70, .invokevirtual 171, 3), (75, .invokevirtual 177, 3), (80, .invokevirtual 177, 3), (88, .invokevirtual 171, 3), (92, .invokevirtual 172, 3), (99, .invokevirtual 167, 3)]
theorem am_ol182_0 : ∀ q ∈ am_l182_0, am_ok 182 q.1 q.2.1 q.2.2 := show ∀ q ∈ ([(1, .invokevirtual 172, 3), (9, .getfield 110190, 3), (17, .getfield 110210, 3), (26, .invokevirtual 171, 3), (31, .invokevirtual 177, 3), (36, .getfield 110220, 3), (39, .invokevirtual 177, 3), (46, .getfield 110190, 3), (54, .invokevirtual 170, 3), (70, .invokevirtual 171, 3), (75, .invokevirtual 177, 3), (80, .invokevirtual 177, 3), (88, .invokevirtual 171, 3), (92, .invokevirtual 172, 3), (99, .invokevirtual 167, 3)] : List (Nat × Instr × Nat)), am_ok 182 q.1 q.2.1 q.2.2 from
  am_fc (am_okv 188 (by decide +kernel) (by decide) (am_mem 1633 (by decide +kernel)) (am_mem 1635 (by decide +kernel)) (am_mem 46 (by decide +kernel))) (
  am_fc (am_okgf 162 (by decide +kernel) (am_mem 1413 (by decide +kernel))) (
  am_fc (am_okgf 172 (by decide +kernel) (am_mem 1415 (by decide +kernel))) (
  am_fc (am_okv 195 (by decide +kernel) (by decide) (am_mem 1652 (by decide +kernel)) (am_mem 1654 (by decide +kernel)) (am_mem 49 (by decide +kernel))) (
  am_fc (am_okv 213 (by decide +kernel) (by decide) (am_mem 1700 (by decide +kernel)) (am_mem 1702 (by decide +kernel)) (am_mem 61 (by decide +kernel))) (
  am_fc (am_okgf 156 (by decide +kernel) (am_mem 1416 (by decide +kernel))) (
  am_fc (am_okv 213 (by decide +kernel) (by decide) (am_mem 1700 (by decide +kernel)) (am_mem 1702 (by decide +kernel)) (am_mem 61 (by decide +kernel))) (
  am_fc (am_okgf 162 (by decide +kernel) (am_mem 1413 (by decide +kernel))) (
  am_fc (am_okv 216 (by decide +kernel) (by decide) (am_mem 1641 (by decide +kernel)) (am_mem 1643 (by decide +kernel)) (am_mem 48 (by decide +kernel))) (
  am_fc (am_okv 195 (by decide +kernel) (by decide) (am_mem 1652 (by decide +kernel)) (am_mem 1654 (by decide +kernel)) (am_mem 49 (by decide +kernel))) (
  am_fc (am_okv 213 (by decide +kernel) (by decide) (am_mem 1700 (by decide +kernel)) (am_mem 1702 (by decide +kernel)) (am_mem 61 (by decide +kernel))) (
  am_fc (am_okv 213 (by decide +kernel) (by decide) (am_mem 1700 (by decide +kernel)) (am_mem 1702 (by decide +kernel)) (am_mem 61 (by decide +kernel))) (
  am_fc (am_okv 195 (by decide +kernel) (by decide) (am_mem 1652 (by decide +kernel)) (am_mem 1654 (by decide +kernel)) (am_mem 49 (by decide +kernel))) (
  am_fc (am_okv 188 (by decide +kernel) (by decide) (am_mem 1633 (by decide +kernel)) (am_mem 1635 (by decide +kernel)) (am_mem 46 (by decide +kernel))) (
  am_fc (am_okv 192 (by decide +kernel) (by decide) (am_mem 1619 (by decide +kernel)) (am_mem 1621 (by decide +kernel)) (am_mem 44 (by decide +kernel))) (
  am_fn)))))))))))))))
def am_t182 : List (Nat × Instr × Nat) := am_p182_0 ++ (am_l182_0)
theorem am_ot182 : ∀ q ∈ am_t182, am_ok 182 q.1 q.2.1 q.2.2 := List.forall_mem_append.mpr ⟨am_op182_0, am_ol182_0⟩
def am_p183_0 : List (Nat × Instr × Nat) := [(0, .aload_n 0, 1), (4, .bipush 6, 2), (6, .if_icmp .ge 24, 3), (9, .aload_n 0, 1), (10, .dup, 1), (14, .iconst 1, 1), (15, .iadd, 1), (19, .aload_n 0, 1), (23, .aload_n 0, 1), (27, .iconst 0, 1), (28, .bastore, 1), (29, .return_, 1), (30, .aload_n 0, 1), (31, .aload_n 0, 1), (35, .iconst 2, 1), (36, .if_icmp .eq 20, 3), (39, .aload_n 0, 1), (43, .iconst 1, 1), (44, .if_icmp .eq 12, 3), (47, .aload_n 0, 1), (48, .bipush 40, 2), (53, .ifCond .eq 7, 3), (56, .iconst 2, 1), (57, .goto 4, 3), (60, .iconst 1, 1), (64, .return_, 1)]
theorem am_op183_0 : ∀ q ∈ am_p183_0, am_ok 183 q.1 q.2.1 q.2.2 := am_okps (by decide +kernel)
def am_l183_0 : List (Nat × Instr × Nat) := [(1, .getfield 110320, 3), (11, .getfield 110320, 3), (16, .putfield 110320, 3), (20, .getfield 110402, 3), (24, .getfield 110320, 3), (32, .getfield 110190, 3), (40, .getfield 110190, 3), (50, .invokevirtual 173, 3), (61, .invokevirtual 171, 3)]
theorem am_ol183_0 : ∀ q ∈ am_l183_0, am_ok 183 q.1 q.2.1 q.2.2 := show ∀ q ∈ ([(1, .getfield 110320, 3), (11, .getfield 110320, 3), (16, .putfield 110320, 3), (20, .getfield 110402, 3), (24, .getfield 110320, 3), (32, .getfield 110190, 3), (40, .getfield 110190, 3), (50, .invokevirtual 173, 3), (61, .invokevirtual 171, 3)] : List (Nat × Instr × Nat)), am_ok 183 q.1 q.2.1 q.2.2 from
  am_fc (am_okgf 220 (by decide +kernel) (am_mem 1426 (by decide +kernel))) (
  am_fc (am_okgf 220 (by decide +kernel) (am_mem 1426 (by decide +kernel))) (
  am_fc (am_okpf 220 (by decide +kernel) (am_mem 1426 (by decide +kernel))) (
  am_fc (am_okgf 62 (by decide +kernel) (am_mem 1434 (by decide +kernel))) (
  am_fc (am_okgf 220 (by decide +kernel) (am_mem 1426 (by decide +kernel))) (
  am_fc (am_okgf 162 (by decide +kernel) (am_mem 1413 (by decide +kernel))) (
  am_fc (am_okgf 162 (by decide +kernel) (am_mem 1413 (by decide +kernel))) (
  am_fc (am_okv 223 (by decide +kernel) (by decide) (am_mem 1684 (by decide +kernel)) (am_mem 1686 (by decide +kernel)) (am_mem 57 (by decide +kernel))) (
  am_fc (am_okv 195 (by decide +kernel) (by decide) (am_mem 1652 (by decide +kernel)) (am_mem 1654 (by decide +kernel)) (am_mem 49 (by decide +kernel))) (
  am_fn)))))))))
def am_t183 : List (Nat × Instr × Nat) := am_p183_0 ++ (am_l183_0)
theorem am_ot183 : ∀ q ∈ am_t183, am_ok 183 q.1 q.2.1 q.2.2 := List.forall_mem_append.mpr ⟨am_op183_0, am_ol183_0⟩
def am_p184_0 : List (Nat × Instr × Nat) := [(0, .iload_n 1, 1), (1, .istore_n 2, 1), (2, .iconst 1, 1), (3, .istore_n 3, 1), (4, .iload_n 3, 1), (5, .ifCond .eq 115, 3), (8, .aload_n 0, 1), (12, .ifCond .eq 108, 3), (15, .iconst 0, 1), (16, .istore 4, 2), (18, .aload_n 0, 1), (22, .ifCond .eq 53, 3), (25, .iload_n 2, 1), (26, .ifCond .eq 49, 3), (29, .aload_n 0, 1), (33, .bipush 15, 2), (35, .if_icmp .ne 40, 3), (38, .iload 4, 2), (40, .bipush 6, 2), (42, .if_icmp .ne 8, 3), (45, .aload_n 0, 1), (46, .iconst 2, 1), (50, .iinc 4 1, 3), (53, .aload_n 0, 1), (57, .ifCond .ne 6, 3), (60, .goto (-42), 3), (63, .aload_n 0, 1), (64, .iconst 3, 1), (68, .aload_n 0, 1), (72, .goto (-54), 3), (75, .aload_n 0, 1), (79, .ifCond .eq 16, 3), (82, .aload_n 0, 1), (83, .bipush 40, 2), (88, .ifCond .eq 7, 3), (91, .iconst 1, 1), (92, .goto 4, 3), (95, .iconst 0, 1), (96, .istore_n 3, 1), (97, .iload_n 3, 1), (98, .ifCond .eq 19, 3), (101, .aload_n 0, 1), (102, .bipush 14, 2), (107, .aload_n 0, 1), (111, .aload_n 0, 1), (115, .iconst 1, 1), (116, .istore_n 2, 1), (117, .goto (-113), 3), (120, .aload_n 0, 1), (124, .return_, 1)]
theorem am_op184_0 : ∀ q ∈ am_p184_0, am_ok 184 q.1 q.2.1 q.2.2 := am_okps (by decide +kernel)
def am_l184_0 : List (Nat × Instr × Nat) := [(9, .invokevirtual 172, 3), (19, .invokevirtual 172, 3), (30, .invokevirtual 170, 3), (47, .invokevirtual 171, 3), (54, .invokevirtual 172, 3), (65, .invokevirtual 181, 3), (69, .invokevirtual 167, 3), (76, .invokevirtual 172, 3), (85, .invokevirtual 173, 3), (104, .invokevirtual 181, 3), (108, .invokevirtual 167, 3), (112, .invokevirtual 183, 3), (121, .invokevirtual 182, 3)]
theorem am_ol184_0 : ∀ q ∈ am_l184_0, am_ok 184 q.1 q.2.1 q.2.2 := show ∀ q ∈ ([(9, .invokevirtual 172, 3), (19, .invokevirtual 172, 3), (30, .invokevirtual 170, 3), (47, .invokevirtual 171, 3), (54, .invokevirtual 172, 3), (65, .invokevirtual 181, 3), (69, .invokevirtual 167, 3), (76, .invokevirtual 172, 3), (85, .invokevirtual 173, 3), (104, .invokevirtual 181, 3), (108, .invokevirtual 167, 3), (112, .invokevirtual 183, 3), (121, .invokevirtual 182, 3)] : List (Nat × Instr × Nat)), am_ok 184 q.1 q.2.1 q.2.2 from
  am_fc (am_okv 188 (by decide +kernel) (by decide) (am_mem 1633 (by decide +kernel)) (am_mem 1635 (by decide +kernel)) (am_mem 46 (by decide +kernel))) (
  am_fc (am_okv 188 (by decide +kernel) (by decide) (am_mem 1633 (by decide +kernel)) (am_mem 1635 (by decide +kernel)) (am_mem 46 (by decide +kernel))) (
  am_fc (am_okv 216 (by decide +kernel) (by decide) (am_mem 1641 (by decide +kernel)) (am_mem 1643 (by decide +kernel)) (am_mem 48 (by decide +kernel))) (
  am_fc (am_okv 195 (by decide +kernel) (by decide) (am_mem 1652 (by decide +kernel)) (am_mem 1654 (by decide +kernel)) (am_mem 49 (by decide +kernel))) (
  am_fc (am_okv 188 (by decide +kernel) (by decide) (am_mem 1633 (by decide +kernel)) (am_mem 1635 (by decide +kernel)) (am_mem 46 (by decide +kernel))) (
  am_fc (am_okv 226 (by decide +kernel) (by decide) (am_mem 1692 (by decide +kernel)) (am_mem 1694 (by decide +kernel)) (am_mem 59 (by decide +kernel))) (
  am_fc (am_okv 192 (by decide +kernel) (by decide) (am_mem 1619 (by decide +kernel)) (am_mem 1621 (by decide +kernel)) (am_mem 44 (by decide +kernel))) (
  am_fc (am_okv 188 (by decide +kernel) (by decide) (am_mem 1633 (by decide +kernel)) (am_mem 1635 (by decide +kernel)) (am_mem 46 (by decide +kernel))) (
  am_fc (am_okv 223 (by decide +kernel) (by decide) (am_mem 1684 (by decide +kernel)) (am_mem 1686 (by decide +kernel)) (am_mem 57 (by decide +kernel))) (
  am_fc (am_okv 226 (by decide +kernel) (by decide) (am_mem 1692 (by decide +kernel)) (am_mem 1694 (by decide +kernel)) (am_mem 59 (by decide +kernel))) (
  am_fc (am_okv 192 (by decide +kernel) (by decide) (am_mem 1619 (by decide +kernel)) (am_mem 1621 (by decide +kernel)) (am_mem 44 (by decide +kernel))) (
  am_fc (am_okv 229 (by decide +kernel) (by decide) (am_mem 1680 (by decide +kernel)) (am_mem 1682 (by decide +kernel)) (am_mem 56 (by decide +kernel))) (
  am_fc (am_okv 232 (by decide +kernel) (by decide) (am_mem 1696 (by decide +kernel)) (am_mem 1698 (by decide +kernel)) (am_mem 60 (by decide +kernel))) (
  am_fn)))))))))))))
def am_t184 : List (Nat × Instr × Nat) := am_p184_0 ++ (am_l184_0)
theorem am_ot184 : ∀ q ∈ am_t184, am_ok 184 q.1 q.2.1 q.2.2 := List.forall_mem_append.mpr ⟨am_op184_0, am_ol184_0⟩
def am_p185_0 : List (Nat × Instr × Nat) := [(0, .aload_n 0, 1), (4, .iconst 1, 1), (5, .isub, 1), (6, .istore_n 1, 1), (7, .iload_n 1, 1), (8, .ifCond .lt 21, 3), (11, .aload_n 0, 1), (15, .iload_n 1, 1), (16, .iaload, 1), (20, .ifCond .ne 9, 3), (23, .iinc 1 (-1), 3), (26, .goto (-19), 3), (29, .iload_n 1, 1), (30, .ifCond .lt 7, 3), (33, .iconst 1, 1), (34, .goto 4, 3), (37, .iconst 0, 1), (38, .ireturn, 1)]
theorem am_op185_0 : ∀ q ∈ am_p185_0, am_ok 185 q.1 q.2.1 q.2.2 := am_okps (by decide +kernel)
def am_l185_0 : List (Nat × Instr × Nat) := [(1, .getfield 110310, 3), (12, .getfield 110392, 3), (17, .invokestatic 178, 3)]
theorem am_ol185_0 : ∀ q ∈ am_l185_0, am_ok 185 q.1 q.2.1 q.2.2 := show ∀ q ∈ ([(1, .getfield 110310, 3), (12, .getfield 110392, 3), (17, .invokestatic 178, 3)] : List (Nat × Instr × Nat)), am_ok 185 q.1 q.2.1 q.2.2 from
  am_fc (am_okgf 204 (by decide +kernel) (am_mem 1425 (by decide +kernel))) (
  am_fc (am_okgf 59 (by decide +kernel) (am_mem 1433 (by decide +kernel))) (
  am_fc (am_oks 207 (by decide +kernel) (by decide) (am_mem 1709 (by decide +kernel)) (Or.inl (am_mem 1708 (by decide +kernel)))) (
  am_fn)))
def am_t185 : List (Nat × Instr × Nat) := am_p185_0 ++ (am_l185_0)
theorem am_ot185 : ∀ q ∈ am_t185, am_ok 185 q.1 q.2.1 q.2.2 := List.forall_mem_append.mpr ⟨am_op185_0, am_ol185_0⟩
def am_p186_0 : List (Nat × Instr × Nat) := [(0, .aload_n 0, 1), (1, .iconst 0, 1), (5, .aload_n 0, 1), (6, .dup, 1), (10, .iconst 1, 1), (11, .isub, 1), (15, .aload_n 0, 1), (16, .dup, 1), (20, .iconst 1, 1), (21, .isub, 1), (25, .aload_n 0, 1), (29, .return_, 1)]
theorem am_op186_0 : ∀ q ∈ am_p186_0, am_ok 186 q.1 q.2.1 q.2.2 := am_okps (by decide +kernel)
def am_l186_0 : List (Nat × Instr × Nat) := [(2, .invokevirtual 180, 3), (7, .getfield 110310, 3), (12, .putfield 110310, 3), (17, .getfield 110320, 3), (22, .putfield 110320, 3), (26, .invokevirtual 167, 3)]
theorem am_ol186_0 : ∀ q ∈ am_l186_0, am_ok 186 q.1 q.2.1 q.2.2 := show ∀ q ∈ ([(2, .invokevirtual 180, 3), (7, .getfield 110310, 3), (12, .putfield 110310, 3), (17, .getfield 110320, 3), (22, .putfield 110320, 3), (26, .invokevirtual 167, 3)] : List (Nat × Instr × Nat)), am_ok 186 q.1 q.2.1 q.2.2 from
  am_fc (am_okv 235 (by decide +kernel) (by decide) (am_mem 1704 (by decide +kernel)) (am_mem 1706 (by decide +kernel)) (am_mem 62 (by decide +kernel))) (
  am_fc (am_okgf 204 (by decide +kernel) (am_mem 1425 (by decide +kernel))) (
  am_fc (am_okpf 204 (by decide +kernel) (am_mem 1425 (by decide +kernel))) (
  am_fc (am_okgf 220 (by decide +kernel) (am_mem 1426 (by decide +kernel))) (
  am_fc (am_okpf 220 (by decide +kernel) (am_mem 1426 (by decide +kernel))) (
  am_fc (am_okv 192 (by decide +kernel) (by decide) (am_mem 1619 (by decide +kernel)) (am_mem 1621 (by decide +kernel)) (am_mem 44 (by decide +kernel))) (
  am_fn))))))
def am_t186 : List (Nat × Instr × Nat) := am_p186_0 ++ (am_l186_0)
theorem am_ot186 : ∀ q ∈ am_t186, am_ok 186 q.1 q.2.1 q.2.2 := List.forall_mem_append.mpr ⟨am_op186_0, am_ol186_0⟩
def am_p187_0 : List (Nat × Instr × Nat) := [(0, .aload_n 0, 1), (4, .ifCond .ne 4, 3), (7, .return_, 1), (8, .aload_n 0, 1), (9, .iconst 0, 1), (13, .aload_n 0, 1), (14, .iconst 0, 1), (18, .aload_n 0, 1), (22, .aload_n 0, 1), (23, .iconst 1, 1), (27, .iconst 1, 1), (28, .istore_n 1, 1), (29, .iload_n 1, 1), (30, .ifCond .eq 295, 3), (33, .aload_n 0, 1), (37, .ifCond .eq 288, 3), (40, .aload_n 0, 1), (44, .istore_n 2, 1), (45, .iload_n 2, 1), (46, .bipush 13, 2), (48, .if_icmp .eq 9, 3), (51, .iload_n 2, 1), (52, .bipush 14, 2), (54, .if_icmp .ne 55, 3), (57, .aload_n 0, 1), (58, .iload_n 2, 1), (59, .bipush 13, 2), (61, .if_icmp .ne 7, 3), (64, .iconst 2, 1), (65, .goto 4, 3), (68, .iconst 1, 1), (72, .aload_n 0, 1), (73, .iload_n 2, 1), (74, .bipush 13, 2), (76, .if_icmp .ne 7, 3), (79, .iconst 4, 1), (80, .goto 4, 3), (83, .iconst 5, 1), (87, .aload_n 0, 1), (91, .aload_n 0, 1), (95, .iconst 0, 1), (96, .bastore, 1), (97, .aload_n 0, 1), (101, .aload_n 0, 1), (102, .iconst 1, 1), (106, .goto 216, 3), (109, .aload_n 0, 1), (110, .bipush 60, 2), (115, .ifCond .ne 12, 3), (118, .aload_n 0, 1), (119, .bipush 61, 2), (124, .ifCond .eq 62, 3), (127, .aload_n 0, 1), (131, .aload_n 0, 1), (135, .baload, 1), (136, .ifCond .ne 50, 3), (139, .aload_n 0, 1), (140, .iconst 4, 1), (144, .aload_n 0, 1), (145, .aload_n 0, 1), (146, .bipush 60, 2), (151, .ifCond .eq 8, 3), (154, .bipush 6, 2), (156, .goto 5, 3), (159, .bipush 7, 2), (164, .aload_n 0, 1), (168, .aload_n 0, 1), (172, .iconst 1, 1), (173, .bastore, 1), (174, .aload_n 0, 1), (178, .aload_n 0, 1), (179, .iconst 0, 1), (183, .goto 139, 3), (186, .aload_n 0, 1), (187, .bipush 43, 2), (192, .ifCond .ne 12, 3), (195, .aload_n 0, 1), (196, .bipush 45, 2), (201, .ifCond .eq 40, 3), (204, .aload_n 0, 1), (205, .iconst 5, 1), (209, .aload_n 0, 1), (210, .aload_n 0, 1), (211, .bipush 43, 2), (216, .ifCond .eq 8, 3), (219, .bipush 8, 2), (221, .goto 5, 3), (224, .bipush 9, 2), (229, .aload_n 0, 1), (233, .aload_n 0, 1), (234, .iconst 0, 1), (238, .goto 84, 3), (241, .aload_n 0, 1), (242, .bipush 42, 2), (247, .ifCond .ne 12, 3), (250, .aload_n 0, 1), (251, .bipush 47, 2), (256, .ifCond .eq 41, 3), (259, .aload_n 0, 1), (260, .bipush 6, 2), (265, .aload_n 0, 1), (266, .aload_n 0, 1), (267, .bipush 42, 2), (272, .ifCond .eq 8, 3), (275, .bipush 10, 2), (277, .goto 5, 3), (280, .bipush 11, 2), (285, .aload_n 0, 1), (289, .aload_n 0, 1), (290, .iconst 0, 1), (294, .goto 28, 3), (297, .aload_n 0, 1), (298, .bipush 41, 2), (303, .ifCond .eq 17, 3), (306, .aload_n 0, 1), (310, .ifCond .eq 10, 3), (313, .aload_n 0, 1), (317, .goto 5, 3), (320, .iconst 0, 1), (321, .istore_n 1, 1)]
theorem am_op187_0 : ∀ q ∈ am_p187_0, am_ok 187 q.1 q.2.1 q.2.2 := am_okps (by decide +kernel)
def am_p187_1 : List (Nat × Instr × Nat) := [(322, .goto (-293), 3), (325, .aload_n 0, 1), (329, .ifCond .eq 16, 3), (332, .aload_n 0, 1), (336, .iconst 1, 1), (337, .if_icmp .le 8, 3), (340, .aload_n 0, 1), (341, .iconst 1, 1), (345, .aload_n 0, 1), (346, .iconst 0, 1), (350, .aload_n 0, 1), (351, .iconst 0, 1), (355, .return_, 1)]
theorem am_op187_1 : ∀ q ∈ am_p187_1, am_ok 187 q.1 q.2.1 q.2.2 := am_okps (by decide +kernel)
def am_l187_0 : List (Nat × Instr × Nat) := [(1, .invokevirtual 172, 3), (10, .putfield 110310, 3), (15, .putfield 110320, 3), (19, .invokevirtual 183, 3), (24, .invokevirtual 184, 3), (34, .invokevirtual 172, 3), (41, .invokevirtual 170, 3), (69, .invokevirtual 180, 3), (84, .invokevirtual 181, 3), (88, .getfield 110402, 3), (92, .getfield 110320, 3), (98, .invokevirtual 167, 3), (103, .invokevirtual 184, 3), (112, .invokevirtual 173, 3), (121, .invokevirtual 173, 3), (128, .getfield 110402, 3), (132, .getfield 110320, 3), (141, .invokevirtual 180, 3), (148, .invokevirtual 173, 3), (161, .invokevirtual 181, 3), (165, .getfield 110402, 3), (169, .getfield 110320, 3), (175, .invokevirtual 167, 3), (180, .invokevirtual 184, 3), (189, .invokevirtual 173, 3), (198, .invokevirtual 173, 3), (206, .invokevirtual 180, 3), (213, .invokevirtual 173, 3), (226, .invokevirtual 181, 3), (230, .invokevirtual 167, 3), (235, .invokevirtual 184, 3), (244, .invokevirtual 173, 3), (253, .invokevirtual 173, 3), (262, .invokevirtual 180, 3), (269, .invokevirtual 173, 3), (282, .invokevirtual 181, 3), (286, .invokevirtual 167, 3), (291, .invokevirtual 184, 3), (300, .invokevirtual 173, 3), (307, .invokevirtual 185, 3)]
theorem am_ol187_0 : ∀ q ∈ am_l187_0, am_ok 187 q.1 q.2.1 q.2.2 := show ∀ q ∈ ([(1, .invokevirtual 172, 3), (10, .putfield 110310, 3), (15, .putfield 110320, 3), (19, .invokevirtual 183, 3), (24, .invokevirtual 184, 3), (34, .invokevirtual 172, 3), (41, .invokevirtual 170, 3), (69, .invokevirtual 180, 3), (84, .invokevirtual 181, 3), (88, .getfield 110402, 3), (92, .getfield 110320, 3), (98, .invokevirtual 167, 3), (103, .invokevirtual 184, 3), (112, .invokevirtual 173, 3), (121, .invokevirtual 173, 3), (128, .getfield 110402, 3), (132, .getfield 110320, 3), (141, .invokevirtual 180, 3), (148, .invokevirtual 173, 3), (161, .invokevirtual 181, 3), (165, .getfield 110402, 3), (169, .getfield 110320, 3), (175, .invokevirtual 167, 3), (180, .invokevirtual 184, 3), (189, .invokevirtual 173, 3), (198, .invokevirtual 173, 3), (206, .invokevirtual 180, 3), (213, .invokevirtual 173, 3), (226, .invokevirtual 181, 3), (230, .invokevirtual 167, 3), (235, .invokevirtual 184, 3), (244, .invokevirtual 173, 3), (253, .invokevirtual 173, 3), (262, .invokevirtual 180, 3), (269, .invokevirtual 173, 3), (282, .invokevirtual 181, 3), (286, .invokevirtual 167, 3), (291, .invokevirtual 184, 3), (300, .invokevirtual 173, 3), (307, .invokevirtual 185, 3)] : List (Nat × Instr × Nat)), am_ok 187 q.1 q.2.1 q.2.2 from
  am_fc (am_okv 188 (by decide +kernel) (by decide) (am_mem 1633 (by decide +kernel)) (am_mem 1635 (by decide +kernel)) (am_mem 46 (by decide +kernel))) (
  am_fc (am_okpf 204 (by decide +kernel) (am_mem 1425 (by decide +kernel))) (
  am_fc (am_okpf 220 (by decide +kernel) (am_mem 1426 (by decide +kernel))) (
  am_fc (am_okv 229 (by decide +kernel) (by decide) (am_mem 1680 (by decide +kernel)) (am_mem 1682 (by decide +kernel)) (am_mem 56 (by decide +kernel))) (
  am_fc (am_okv 238 (by decide +kernel) (by decide) (am_mem 1688 (by decide +kernel)) (am_mem 1690 (by decide +kernel)) (am_mem 58 (by decide +kernel))) (
  am_fc (am_okv 188 (by decide +kernel) (by decide) (am_mem 1633 (by decide +kernel)) (am_mem 1635 (by decide +kernel)) (am_mem 46 (by decide +kernel))) (
  am_fc (am_okv 216 (by decide +kernel) (by decide) (am_mem 1641 (by decide +kernel)) (am_mem 1643 (by decide +kernel)) (am_mem 48 (by decide +kernel))) (
  am_fc (am_okv 235 (by decide +kernel) (by decide) (am_mem 1704 (by decide +kernel)) (am_mem 1706 (by decide +kernel)) (am_mem 62 (by decide +kernel))) (
  am_fc (am_okv 226 (by decide +kernel) (by decide) (am_mem 1692 (by decide +kernel)) (am_mem 1694 (by decide +kernel)) (am_mem 59 (by decide +kernel))) (
  am_fc (am_okgf 62 (by decide +kernel) (am_mem 1434 (by decide +kernel))) (
  am_fc (am_okgf 220 (by decide +kernel) (am_mem 1426 (by decide +kernel))) (
  am_fc (am_okv 192 (by decide +kernel) (by decide) (am_mem 1619 (by decide +kernel)) (am_mem 1621 (by decide +kernel)) (am_mem 44 (by decide +kernel))) (
  am_fc (am_okv 238 (by decide +kernel) (by decide) (am_mem 1688 (by decide +kernel)) (am_mem 1690 (by decide +kernel)) (am_mem 58 (by decide +kernel))) (
  am_fc (am_okv 223 (by decide +kernel) (by decide) (am_mem 1684 (by decide +kernel)) (am_mem 1686 (by decide +kernel)) (am_mem 57 (by decide +kernel))) (
  am_fc (am_okv 223 (by decide +kernel) (by decide) (am_mem 1684 (by decide +kernel)) (am_mem 1686 (by decide +kernel)) (am_mem 57 (by decide +kernel))) (
  am_fc (am_okgf 62 (by decide +kernel) (am_mem 1434 (by decide +kernel))) (
  am_fc (am_okgf 220 (by decide +kernel) (am_mem 1426 (by decide +kernel))) (
  am_fc (am_okv 235 (by decide +kernel) (by decide) (am_mem 1704 (by decide +kernel)) (am_mem 1706 (by decide +kernel)) (am_mem 62 (by decide +kernel))) (
  am_fc (am_okv 223 (by decide +kernel) (by decide) (am_mem 1684 (by decide +kernel)) (am_mem 1686 (by decide +kernel)) (am_mem 57 (by decide +kernel))) (
  am_fc (am_okv 226 (by decide +kernel) (by decide) (am_mem 1692 (by decide +kernel)) (am_mem 1694 (by decide +kernel)) (am_mem 59 (by decide +kernel))) (
  am_fc (am_okgf 62 (by decide +kernel) (am_mem 1434 (by decide +kernel))) (
  am_fc (am_okgf 220 (by decide +kernel) (am_mem 1426 (by decide +kernel))) (
  am_fc (am_okv 192 (by decide +kernel) (by decide) (am_mem 1619 (by decide +kernel)) (am_mem 1621 (by decide +kernel)) (am_mem 44 (by decide +kernel))) (
  am_fc (am_okv 238 (by decide +kernel) (by decide) (am_mem 1688 (by decide +kernel)) (am_mem 1690 (by decide +kernel)) (am_mem 58 (by decide +kernel))) (
  am_fc (am_okv 223 (by decide +kernel) (by decide) (am_mem 1684 (by decide +kernel)) (am_mem 1686 (by decide +kernel)) (am_mem 57 (by decide +kernel))) (
  am_fc (am_okv 223 (by decide +kernel) (by decide) (am_mem 1684 (by decide +kernel)) (am_mem 1686 (by decide +kernel)) (am_mem 57 (by decide +kernel))) (
  am_fc (am_okv 235 (by decide +kernel) (by decide) (am_mem 1704 (by decide +kernel)) (am_mem 1706 (by decide +kernel)) (am_mem 62 (by decide +kernel))) (
  am_fc (am_okv 223 (by decide +kernel) (by decide) (am_mem 1684 (by decide +kernel)) (am_mem 1686 (by decide +kernel)) (am_mem 57 (by decide +kernel))) (
  am_fc (am_okv 226 (by decide +kernel) (by decide) (am_mem 1692 (by decide +kernel)) (am_mem 1694 (by decide +kernel)) (am_mem 59 (by decide +kernel))) (
  am_fc (am_okv 192 (by decide +kernel) (by decide) (am_mem 1619 (by decide +kernel)) (am_mem 1621 (by decide +kernel)) (am_mem 44 (by decide +kernel))) (
  am_fc (am_okv 238 (by decide +kernel) (by decide) (am_mem 1688 (by decide +kernel)) (am_mem 1690 (by decide +kernel)) (am_mem 58 (by decide +kernel))) (
  am_fc (am_okv 223 (by decide +kernel) (by decide) (am_mem 1684 (by decide +kernel)) (am_mem 1686 (by decide +kernel)) (am_mem 57 (by decide +kernel))) (
  am_fc (am_okv 223 (by decide +kernel) (by decide) (am_mem 1684 (by decide +kernel)) (am_mem 1686 (by decide +kernel)) (am_mem 57 (by decide +kernel))) (
  am_fc (am_okv 235 (by decide +kernel) (by decide) (am_mem 1704 (by decide +kernel)) (am_mem 1706 (by decide +kernel)) (am_mem 62 (by decide +kernel))) (
  am_fc (am_okv 223 (by decide +kernel) (by decide) (am_mem 1684 (by decide +kernel)) (am_mem 1686 (by decide +kernel)) (am_mem 57 (by decide +kernel))) (
  am_fc (am_okv 226 (by decide +kernel) (by decide) (am_mem 1692 (by decide +kernel)) (am_mem 1694 (by decide +kernel)) (am_mem 59 (by decide +kernel))) (
  am_fc (am_okv 192 (by decide +kernel) (by decide) (am_mem 1619 (by decide +kernel)) (am_mem 1621 (by decide +kernel)) (am_mem 44 (by decide +kernel))) (
  am_fc (am_okv 238 (by decide +kernel) (by decide) (am_mem 1688 (by decide +kernel)) (am_mem 1690 (by decide +kernel)) (am_mem 58 (by decide +kernel))) (
  am_fc (am_okv 223 (by decide +kernel) (by decide) (am_mem 1684 (by decide +kernel)) (am_mem 1686 (by decide +kernel)) (am_mem 57 (by decide +kernel))) (
  am_fc (am_okv 242 (by decide +kernel) (by decide) (am_mem 1714 (by decide +kernel)) (am_mem 1716 (by decide +kernel)) (am_mem 63 (by decide +kernel))) (
  am_fn))))))))))))))))))))))))))))))))))))))))
def am_l187_1 : List (Nat × Instr × Nat) := [(314, .invokevirtual 186, 3), (326, .invokevirtual 172, 3), (333, .getfield 110320, 3), (342, .invokevirtual 171, 3), (347, .invokevirtual 180, 3), (352, .invokevirtual 177, 3)]
theorem am_ol187_1 : ∀ q ∈ am_l187_1, am_ok 187 q.1 q.2.1 q.2.2 := show ∀ q ∈ ([(314, .invokevirtual 186, 3), (326, .invokevirtual 172, 3), (333, .getfield 110320, 3), (342, .invokevirtual 171, 3), (347, .invokevirtual 180, 3), (352, .invokevirtual 177, 3)] : List (Nat × Instr × Nat)), am_ok 187 q.1 q.2.1 q.2.2 from
  am_fc (am_okv 245 (by decide +kernel) (by decide) (am_mem 1718 (by decide +kernel)) (am_mem 1720 (by decide +kernel)) (am_mem 64 (by decide +kernel))) (
  am_fc (am_okv 188 (by decide +kernel) (by decide) (am_mem 1633 (by decide +kernel)) (am_mem 1635 (by decide +kernel)) (am_mem 46 (by decide +kernel))) (
  am_fc (am_okgf 220 (by decide +kernel) (am_mem 1426 (by decide +kernel))) (
  am_fc (am_okv 195 (by decide +kernel) (by decide) (am_mem 1652 (by decide +kernel)) (am_mem 1654 (by decide +kernel)) (am_mem 49 (by decide +kernel))) (
  am_fc (am_okv 235 (by decide +kernel) (by decide) (am_mem 1704 (by decide +kernel)) (am_mem 1706 (by decide +kernel)) (am_mem 62 (by decide +kernel))) (
  am_fc (am_okv 213 (by decide +kernel) (by decide) (am_mem 1700 (by decide +kernel)) (am_mem 1702 (by decide +kernel)) (am_mem 61 (by decide +kernel))) (
  am_fn))))))
def am_t187 : List (Nat × Instr × Nat) := am_p187_0 ++ (am_p187_1 ++ (am_l187_0 ++ (am_l187_1)))
theorem am_ot187 : ∀ q ∈ am_t187, am_ok 187 q.1 q.2.1 q.2.2 := List.forall_mem_append.mpr ⟨am_op187_0, List.forall_mem_append.mpr ⟨am_op187_1, List.forall_mem_append.mpr ⟨am_ol187_0, am_ol187_1⟩⟩⟩
def am_p188_0 : List (Nat × Instr × Nat) := [(0, .aload_n 0, 1), (4, .bipush 10, 2), (6, .if_icmp .ne 8, 3), (9, .aload_n 0, 1), (10, .iconst 2, 1), (14, .aload_n 0, 1), (18, .ifCond .ne 4, 3), (21, .return_, 1), (22, .aload_n 0, 1), (26, .bipush 6, 2), (28, .aload_n 0, 1), (32, .imul, 1), (33, .istore_n 1, 1), (34, .aload_n 0, 1), (38, .iload_n 1, 1), (39, .aload_n 0, 1), (40, .iconst 0, 1), (41, .sipush 400, 3), (47, .iastore, 1), (48, .aload_n 0, 1), (52, .iload_n 1, 1), (53, .iconst 1, 1), (54, .iadd, 1), (55, .aload_n 0, 1), (56, .iconst 1, 1), (57, .bipush 9, 2), (62, .iastore, 1), (63, .aload_n 0, 1), (67, .iload_n 1, 1), (68, .iconst 2, 1), (69, .iadd, 1), (70, .iconst 0, 1), (71, .iastore, 1), (72, .iconst 3, 1), (73, .istore_n 2, 1), (74, .iload_n 2, 1), (75, .bipush 6, 2), (77, .if_icmp .ge 18, 3), (80, .aload_n 0, 1), (84, .iload_n 1, 1), (85, .iload_n 2, 1), (86, .iadd, 1), (87, .iconst (-1), 1), (88, .iastore, 1), (89, .iinc 2 1, 3), (92, .goto (-18), 3), (95, .iconst 1, 1), (96, .istore_n 2, 1), (97, .iload_n 2, 1), (98, .ifCond .eq 86, 3), (101, .aload_n 0, 1), (105, .ifCond .eq 79, 3), (108, .aload_n 0, 1), (112, .istore_n 3, 1), (113, .aload_n 0, 1), (117, .ifCond .eq 24, 3), (120, .aload_n 0, 1), (124, .iload_n 1, 1), (125, .iconst 2, 1), (126, .iadd, 1), (127, .iaload, 1), (128, .iload_n 3, 1), (129, .ishr, 1), (130, .iconst 1, 1), (131, .iand, 1), (132, .iconst 1, 1), (133, .if_icmp .ne 8, 3), (136, .aload_n 0, 1), (137, .iconst 4, 1), (141, .aload_n 0, 1), (145, .ifCond .ne 4, 3), (148, .return_, 1), (149, .aload_n 0, 1), (153, .iload_n 1, 1), (154, .iconst 2, 1), (155, .iadd, 1), (156, .dup2, 1), (157, .iaload, 1), (158, .iconst 1, 1), (159, .iload_n 3, 1), (160, .ishl, 1), (161, .ior, 1), (162, .iastore, 1), (163, .aload_n 0, 1), (167, .aload_n 0, 1), (171, .iconst 2, 1), (172, .if_icmp .ne 7, 3), (175, .iconst 1, 1), (176, .goto 4, 3), (179, .iconst 0, 1), (180, .istore_n 2, 1), (181, .goto (-84), 3), (184, .aload_n 0, 1), (188, .ifCond .eq 109, 3), (191, .aload_n 0, 1), (195, .bipush 9, 2), (197, .if_icmp .ne 100, 3), (200, .aload_n 0, 1), (204, .aload_n 0, 1), (208, .iload_n 1, 1), (209, .iconst 3, 1), (210, .iadd, 1), (211, .aload_n 0, 1), (215, .iastore, 1), (216, .aload_n 0, 1), (220, .ifCond .eq 7, 3), (223, .aload_n 0, 1), (227, .aload_n 0, 1), (231, .iload_n 1, 1), (232, .iconst 4, 1), (233, .iadd, 1), (234, .aload_n 0, 1), (238, .iastore, 1), (239, .aload_n 0, 1), (243, .ifCond .eq 27, 3), (246, .aload_n 0, 1), (250, .iload_n 1, 1), (251, .iconst 4, 1), (252, .iadd, 1), (253, .iaload, 1)]
theorem am_op188_0 : ∀ q ∈ am_p188_0, am_ok 188 q.1 q.2.1 q.2.2 := am_okps (by decide +kernel)
def am_p188_1 : List (Nat × Instr × Nat) := [(254, .aload_n 0, 1), (258, .iload_n 1, 1), (259, .iconst 3, 1), (260, .iadd, 1), (261, .iaload, 1), (262, .if_icmp .ne 8, 3), (265, .aload_n 0, 1), (266, .iconst 4, 1), (270, .aload_n 0, 1), (274, .ifCond .eq 7, 3), (277, .aload_n 0, 1), (281, .aload_n 0, 1), (285, .iload_n 1, 1), (286, .iconst 5, 1), (287, .iadd, 1), (288, .aload_n 0, 1), (289, .iconst 1, 1), (290, .sipush 999, 3), (296, .iastore, 1), (297, .aload_n 0, 1), (301, .ifCond .eq 13, 3), (304, .aload_n 0, 1), (305, .dup, 1), (309, .iconst 1, 1), (310, .iadd, 1), (314, .return_, 1)]
theorem am_op188_1 : ∀ q ∈ am_p188_1, am_ok 188 q.1 q.2.1 q.2.2 := am_okps (by decide +kernel)
def am_l188_0 : List (Nat × Instr × Nat) := [(1, .getfield 110260, 3), (11, .invokevirtual 171, 3), (15, .invokevirtual 172, 3), (23, .invokevirtual 167, 3), (29, .getfield 110260, 3), (35, .getfield 110332, 3), (44, .invokevirtual 175, 3), (49, .getfield 110332, 3), (59, .invokevirtual 175, 3), (64, .getfield 110332, 3), (81, .getfield 110332, 3), (102, .invokevirtual 172, 3), (109, .invokevirtual 176, 3), (114, .invokevirtual 172, 3), (121, .getfield 110332, 3), (138, .invokevirtual 171, 3), (142, .invokevirtual 172, 3), (150, .getfield 110332, 3), (164, .invokevirtual 167, 3), (168, .getfield 110190, 3), (185, .invokevirtual 172, 3), (192, .invokevirtual 170, 3), (201, .invokevirtual 167, 3), (205, .getfield 110332, 3), (212, .invokevirtual 176, 3), (217, .invokevirtual 172, 3), (224, .invokevirtual 167, 3), (228, .getfield 110332, 3), (235, .invokevirtual 176, 3), (240, .invokevirtual 172, 3), (247, .getfield 110332, 3), (255, .getfield 110332, 3), (267, .invokevirtual 171, 3), (271, .invokevirtual 172, 3), (278, .invokevirtual 167, 3), (282, .getfield 110332, 3), (293, .invokevirtual 175, 3), (298, .invokevirtual 172, 3), (306, .getfield 110260, 3), (311, .putfield 110260, 3)]
theorem am_ol188_0 : ∀ q ∈ am_l188_0, am_ok 188 q.1 q.2.1 q.2.2 := show ∀ q ∈ ([(1, .getfield 110260, 3), (11, .invokevirtual 171, 3), (15, .invokevirtual 172, 3), (23, .invokevirtual 167, 3), (29, .getfield 110260, 3), (35, .getfield 110332, 3), (44, .invokevirtual 175, 3), (49, .getfield 110332, 3), (59, .invokevirtual 175, 3), (64, .getfield 110332, 3), (81, .getfield 110332, 3), (102, .invokevirtual 172, 3), (109, .invokevirtual 176, 3), (114, .invokevirtual 172, 3), (121, .getfield 110332, 3), (138, .invokevirtual 171, 3), (142, .invokevirtual 172, 3), (150, .getfield 110332, 3), (164, .invokevirtual 167, 3), (168, .getfield 110190, 3), (185, .invokevirtual 172, 3), (192, .invokevirtual 170, 3), (201, .invokevirtual 167, 3), (205, .getfield 110332, 3), (212, .invokevirtual 176, 3), (217, .invokevirtual 172, 3), (224, .invokevirtual 167, 3), (228, .getfield 110332, 3), (235, .invokevirtual 176, 3), (240, .invokevirtual 172, 3), (247, .getfield 110332, 3), (255, .getfield 110332, 3), (267, .invokevirtual 171, 3), (271, .invokevirtual 172, 3), (278, .invokevirtual 167, 3), (282, .getfield 110332, 3), (293, .invokevirtual 175, 3), (298, .invokevirtual 172, 3), (306, .getfield 110260, 3), (311, .putfield 110260, 3)] : List (Nat × Instr × Nat)), am_ok 188 q.1 q.2.1 q.2.2 from
  am_fc (am_okgf 248 (by decide +kernel) (am_mem 1420 (by decide +kernel))) (
  am_fc (am_okv 195 (by decide +kernel) (by decide) (am_mem 1652 (by decide +kernel)) (am_mem 1654 (by decide +kernel)) (am_mem 49 (by decide +kernel))) (
  am_fc (am_okv 188 (by decide +kernel) (by decide) (am_mem 1633 (by decide +kernel)) (am_mem 1635 (by decide +kernel)) (am_mem 46 (by decide +kernel))) (
  am_fc (am_okv 192 (by decide +kernel) (by decide) (am_mem 1619 (by decide +kernel)) (am_mem 1621 (by decide +kernel)) (am_mem 44 (by decide +kernel))) (
  am_fc (am_okgf 248 (by decide +kernel) (am_mem 1420 (by decide +kernel))) (
  am_fc (am_okgf 41 (by decide +kernel) (am_mem 1427 (by decide +kernel))) (
  am_fc (am_okv 251 (by decide +kernel) (by decide) (am_mem 1656 (by decide +kernel)) (am_mem 1658 (by decide +kernel)) (am_mem 50 (by decide +kernel))) (
  am_fc (am_okgf 41 (by decide +kernel) (am_mem 1427 (by decide +kernel))) (
  am_fc (am_okv 251 (by decide +kernel) (by decide) (am_mem 1656 (by decide +kernel)) (am_mem 1658 (by decide +kernel)) (am_mem 50 (by decide +kernel))) (
  am_fc (am_okgf 41 (by decide +kernel) (am_mem 1427 (by decide +kernel))) (
  am_fc (am_okgf 41 (by decide +kernel) (am_mem 1427 (by decide +kernel))) (
  am_fc (am_okv 188 (by decide +kernel) (by decide) (am_mem 1633 (by decide +kernel)) (am_mem 1635 (by decide +kernel)) (am_mem 46 (by decide +kernel))) (
  am_fc (am_okv 255 (by decide +kernel) (by decide) (am_mem 1664 (by decide +kernel)) (am_mem 1666 (by decide +kernel)) (am_mem 52 (by decide +kernel))) (
  am_fc (am_okv 188 (by decide +kernel) (by decide) (am_mem 1633 (by decide +kernel)) (am_mem 1635 (by decide +kernel)) (am_mem 46 (by decide +kernel))) (
  am_fc (am_okgf 41 (by decide +kernel) (am_mem 1427 (by decide +kernel))) (
  am_fc (am_okv 195 (by decide +kernel) (by decide) (am_mem 1652 (by decide +kernel)) (am_mem 1654 (by decide +kernel)) (am_mem 49 (by decide +kernel))) (
  am_fc (am_okv 188 (by decide +kernel) (by decide) (am_mem 1633 (by decide +kernel)) (am_mem 1635 (by decide +kernel)) (am_mem 46 (by decide +kernel))) (
  am_fc (am_okgf 41 (by decide +kernel) (am_mem 1427 (by decide +kernel))) (
  am_fc (am_okv 192 (by decide +kernel) (by decide) (am_mem 1619 (by decide +kernel)) (am_mem 1621 (by decide +kernel)) (am_mem 44 (by decide +kernel))) (
  am_fc (am_okgf 162 (by decide +kernel) (am_mem 1413 (by decide +kernel))) (
  am_fc (am_okv 188 (by decide +kernel) (by decide) (am_mem 1633 (by decide +kernel)) (am_mem 1635 (by decide +kernel)) (am_mem 46 (by decide +kernel))) (
  am_fc (am_okv 216 (by decide +kernel) (by decide) (am_mem 1641 (by decide +kernel)) (am_mem 1643 (by decide +kernel)) (am_mem 48 (by decide +kernel))) (
  am_fc (am_okv 192 (by decide +kernel) (by decide) (am_mem 1619 (by decide +kernel)) (am_mem 1621 (by decide +kernel)) (am_mem 44 (by decide +kernel))) (
  am_fc (am_okgf 41 (by decide +kernel) (am_mem 1427 (by decide +kernel))) (
  am_fc (am_okv 255 (by decide +kernel) (by decide) (am_mem 1664 (by decide +kernel)) (am_mem 1666 (by decide +kernel)) (am_mem 52 (by decide +kernel))) (
  am_fc (am_okv 188 (by decide +kernel) (by decide) (am_mem 1633 (by decide +kernel)) (am_mem 1635 (by decide +kernel)) (am_mem 46 (by decide +kernel))) (
  am_fc (am_okv 192 (by decide +kernel) (by decide) (am_mem 1619 (by decide +kernel)) (am_mem 1621 (by decide +kernel)) (am_mem 44 (by decide +kernel))) (
  am_fc (am_okgf 41 (by decide +kernel) (am_mem 1427 (by decide +kernel))) (
  am_fc (am_okv 255 (by decide +kernel) (by decide) (am_mem 1664 (by decide +kernel)) (am_mem 1666 (by decide +kernel)) (am_mem 52 (by decide +kernel))) (
  am_fc (am_okv 188 (by decide +kernel) (by decide) (am_mem 1633 (by decide +kernel)) (am_mem 1635 (by decide +kernel)) (am_mem 46 (by decide +kernel))) (
  am_fc (am_okgf 41 (by decide +kernel) (am_mem 1427 (by decide +kernel))) (
  am_fc (am_okgf 41 (by decide +kernel) (am_mem 1427 (by decide +kernel))) (
  am_fc (am_okv 195 (by decide +kernel) (by decide) (am_mem 1652 (by decide +kernel)) (am_mem 1654 (by decide +kernel)) (am_mem 49 (by decide +kernel))) (
  am_fc (am_okv 188 (by decide +kernel) (by decide) (am_mem 1633 (by decide +kernel)) (am_mem 1635 (by decide +kernel)) (am_mem 46 (by decide +kernel))) (
  am_fc (am_okv 192 (by decide +kernel) (by decide) (am_mem 1619 (by decide +kernel)) (am_mem 1621 (by decide +kernel)) (am_mem 44 (by decide +kernel))) (
  am_fc (am_okgf 41 (by decide +kernel) (am_mem 1427 (by decide +kernel))) (
  am_fc (am_okv 251 (by decide +kernel) (by decide) (am_mem 1656 (by decide +kernel)) (am_mem 1658 (by decide +kernel)) (am_mem 50 (by decide +kernel))) (
  am_fc (am_okv 188 (by decide +kernel) (by decide) (am_mem 1633 (by decide +kernel)) (am_mem 1635 (by decide +kernel)) (am_mem 46 (by decide +kernel))) (
  am_fc (am_okgf 248 (by decide +kernel) (am_mem 1420 (by decide +kernel))) (
  am_fc (am_okpf 248 (by decide +kernel) (am_mem 1420 (by decide +kernel))) (
  am_fn))))))))))))))))))))))))))))))))))))))))
def am_t188 : List (Nat × Instr × Nat) := am_p188_0 ++ (am_p188_1 ++ (am_l188_0))
theorem am_ot188 : ∀ q ∈ am_t188, am_ok 188 q.1 q.2.1 q.2.2 := List.forall_mem_append.mpr ⟨am_op188_0, List.forall_mem_append.mpr ⟨am_op188_1, am_ol188_0⟩⟩
def am_p189_0 : List (Nat × Instr × Nat) := [(0, .aload_n 0, 1), (4, .bipush 10, 2), (6, .if_icmp .ne 8, 3), (9, .aload_n 0, 1), (10, .iconst 2, 1), (14, .aload_n 0, 1), (18, .ifCond .ne 4, 3), (21, .return_, 1), (22, .aload_n 0, 1), (26, .aload_n 0, 1), (30, .istore_n 1, 1), (31, .aload_n 0, 1), (35, .ifCond .eq 7, 3), (38, .aload_n 0, 1), (42, .aload_n 0, 1), (46, .istore_n 2, 1), (47, .iload_n 1, 1), (48, .iload_n 2, 1), (49, .if_icmp .ne 7, 3), (52, .iconst 1, 1), (53, .goto 4, 3), (56, .iconst 0, 1), (57, .istore_n 3, 1), (58, .iconst 0, 1), (59, .istore 4, 2), (61, .iload 4, 2), (63, .aload_n 0, 1), (67, .if_icmp .ge 75, 3), (70, .iload_n 3, 1), (71, .ifCond .ne 59, 3), (74, .aload_n 0, 1), (78, .iconst 2, 1), (79, .iload 4, 2), (81, .imul, 1), (82, .iaload, 1), (83, .iload_n 1, 1), (84, .if_icmp .ne 18, 3), (87, .aload_n 0, 1), (91, .iconst 2, 1), (92, .iload 4, 2), (94, .imul, 1), (95, .iconst 1, 1), (96, .iadd, 1), (97, .iaload, 1), (98, .iload_n 2, 1), (99, .if_icmp .eq 31, 3), (102, .aload_n 0, 1), (106, .iconst 2, 1), (107, .iload 4, 2), (109, .imul, 1), (110, .iaload, 1), (111, .iload_n 2, 1), (112, .if_icmp .ne 22, 3), (115, .aload_n 0, 1), (119, .iconst 2, 1), (120, .iload 4, 2), (122, .imul, 1), (123, .iconst 1, 1), (124, .iadd, 1), (125, .iaload, 1), (126, .iload_n 1, 1), (127, .if_icmp .ne 7, 3), (130, .iconst 1, 1), (131, .goto 4, 3), (134, .iconst 0, 1), (135, .istore_n 3, 1), (136, .iinc 4 1, 3), (139, .goto (-78), 3), (142, .aload_n 0, 1), (146, .ifCond .eq 12, 3), (149, .iload_n 3, 1), (150, .ifCond .eq 8, 3), (153, .aload_n 0, 1), (154, .iconst 4, 1), (158, .aload_n 0, 1), (162, .ifCond .ne 4, 3), (165, .return_, 1), (166, .aload_n 0, 1), (170, .iconst 2, 1), (171, .aload_n 0, 1), (175, .imul, 1), (176, .iload_n 1, 1), (177, .iastore, 1), (178, .aload_n 0, 1), (182, .iconst 2, 1), (183, .aload_n 0, 1), (187, .imul, 1), (188, .iconst 1, 1), (189, .iadd, 1), (190, .iload_n 2, 1), (191, .iastore, 1), (192, .aload_n 0, 1), (193, .dup, 1), (197, .iconst 1, 1), (198, .iadd, 1), (202, .aload_n 0, 1), (206, .return_, 1)]
theorem am_op189_0 : ∀ q ∈ am_p189_0, am_ok 189 q.1 q.2.1 q.2.2 := am_okps (by decide +kernel)
def am_l189_0 : List (Nat × Instr × Nat) := [(1, .getfield 110270, 3), (11, .invokevirtual 171, 3), (15, .invokevirtual 172, 3), (23, .invokevirtual 167, 3), (27, .invokevirtual 176, 3), (32, .invokevirtual 172, 3), (39, .invokevirtual 167, 3), (43, .invokevirtual 176, 3), (64, .getfield 110270, 3), (75, .getfield 110342, 3), (88, .getfield 110342, 3), (103, .getfield 110342, 3), (116, .getfield 110342, 3), (143, .invokevirtual 172, 3), (155, .invokevirtual 171, 3), (159, .invokevirtual 172, 3), (167, .getfield 110342, 3), (172, .getfield 110270, 3), (179, .getfield 110342, 3), (184, .getfield 110270, 3), (194, .getfield 110270, 3), (199, .putfield 110270, 3), (203, .invokevirtual 167, 3)]
theorem am_ol189_0 : ∀ q ∈ am_l189_0, am_ok 189 q.1 q.2.1 q.2.2 := show ∀ q ∈ ([(1, .getfield 110270, 3), (11, .invokevirtual 171, 3), (15, .invokevirtual 172, 3), (23, .invokevirtual 167, 3), (27, .invokevirtual 176, 3), (32, .invokevirtual 172, 3), (39, .invokevirtual 167, 3), (43, .invokevirtual 176, 3), (64, .getfield 110270, 3), (75, .getfield 110342, 3), (88, .getfield 110342, 3), (103, .getfield 110342, 3), (116, .getfield 110342, 3), (143, .invokevirtual 172, 3), (155, .invokevirtual 171, 3), (159, .invokevirtual 172, 3), (167, .getfield 110342, 3), (172, .getfield 110270, 3), (179, .getfield 110342, 3), (184, .getfield 110270, 3), (194, .getfield 110270, 3), (199, .putfield 110270, 3), (203, .invokevirtual 167, 3)] : List (Nat × Instr × Nat)), am_ok 189 q.1 q.2.1 q.2.2 from
  am_fc (am_okgf 258 (by decide +kernel) (am_mem 1421 (by decide +kernel))) (
  am_fc (am_okv 195 (by decide +kernel) (by decide) (am_mem 1652 (by decide +kernel)) (am_mem 1654 (by decide +kernel)) (am_mem 49 (by decide +kernel))) (
  am_fc (am_okv 188 (by decide +kernel) (by decide) (am_mem 1633 (by decide +kernel)) (am_mem 1635 (by decide +kernel)) (am_mem 46 (by decide +kernel))) (
  am_fc (am_okv 192 (by decide +kernel) (by decide) (am_mem 1619 (by decide +kernel)) (am_mem 1621 (by decide +kernel)) (am_mem 44 (by decide +kernel))) (
  am_fc (am_okv 255 (by decide +kernel) (by decide) (am_mem 1664 (by decide +kernel)) (am_mem 1666 (by decide +kernel)) (am_mem 52 (by decide +kernel))) (
  am_fc (am_okv 188 (by decide +kernel) (by decide) (am_mem 1633 (by decide +kernel)) (am_mem 1635 (by decide +kernel)) (am_mem 46 (by decide +kernel))) (
  am_fc (am_okv 192 (by decide +kernel) (by decide) (am_mem 1619 (by decide +kernel)) (am_mem 1621 (by decide +kernel)) (am_mem 44 (by decide +kernel))) (
  am_fc (am_okv 255 (by decide +kernel) (by decide) (am_mem 1664 (by decide +kernel)) (am_mem 1666 (by decide +kernel)) (am_mem 52 (by decide +kernel))) (
  am_fc (am_okgf 258 (by decide +kernel) (am_mem 1421 (by decide +kernel))) (
  am_fc (am_okgf 44 (by decide +kernel) (am_mem 1428 (by decide +kernel))) (
  am_fc (am_okgf 44 (by decide +kernel) (am_mem 1428 (by decide +kernel))) (
  am_fc (am_okgf 44 (by decide +kernel) (am_mem 1428 (by decide +kernel))) (
  am_fc (am_okgf 44 (by decide +kernel) (am_mem 1428 (by decide +kernel))) (
  am_fc (am_okv 188 (by decide +kernel) (by decide) (am_mem 1633 (by decide +kernel)) (am_mem 1635 (by decide +kernel)) (am_mem 46 (by decide +kernel))) (
  am_fc (am_okv 195 (by decide +kernel) (by decide) (am_mem 1652 (by decide +kernel)) (am_mem 1654 (by decide +kernel)) (am_mem 49 (by decide +kernel))) (
  am_fc (am_okv 188 (by decide +kernel) (by decide) (am_mem 1633 (by decide +kernel)) (am_mem 1635 (by decide +kernel)) (am_mem 46 (by decide +kernel))) (
  am_fc (am_okgf 44 (by decide +kernel) (am_mem 1428 (by decide +kernel))) (
  am_fc (am_okgf 258 (by decide +kernel) (am_mem 1421 (by decide +kernel))) (
  am_fc (am_okgf 44 (by decide +kernel) (am_mem 1428 (by decide +kernel))) (
  am_fc (am_okgf 258 (by decide +kernel) (am_mem 1421 (by decide +kernel))) (
  am_fc (am_okgf 258 (by decide +kernel) (am_mem 1421 (by decide +kernel))) (
  am_fc (am_okpf 258 (by decide +kernel) (am_mem 1421 (by decide +kernel))) (
  am_fc (am_okv 192 (by decide +kernel) (by decide) (am_mem 1619 (by decide +kernel)) (am_mem 1621 (by decide +kernel)) (am_mem 44 (by decide +kernel))) (
  am_fn)))))))))))))))))))))))
def am_t189 : List (Nat × Instr × Nat) := am_p189_0 ++ (am_l189_0)
theorem am_ot189 : ∀ q ∈ am_t189, am_ok 189 q.1 q.2.1 q.2.2 := List.forall_mem_append.mpr ⟨am_op189_0, am_ol189_0⟩
def am_p190_0 : List (Nat × Instr × Nat) := [(0, .aload_n 0, 1), (4, .bipush 8, 2), (6, .if_icmp .ne 8, 3), (9, .aload_n 0, 1), (10, .iconst 2, 1), (14, .aload_n 0, 1), (18, .ifCond .ne 4, 3), (21, .return_, 1), (22, .aload_n 0, 1), (26, .aload_n 0, 1), (30, .iconst 2, 1), (31, .if_icmp .eq 11, 3), (34, .aload_n 0, 1), (35, .iconst 1, 1), (39, .goto 26, 3), (42, .aload_n 0, 1), (46, .iconst 4, 1), (47, .if_icmp .gt 13, 3), (50, .aload_n 0, 1), (54, .sipush 400, 3), (57, .if_icmp .le 8, 3), (60, .aload_n 0, 1), (61, .iconst 2, 1), (65, .iconst 0, 1), (66, .istore_n 1, 1), (67, .iload_n 1, 1), (68, .aload_n 0, 1), (72, .if_icmp .ge 36, 3), (75, .aload_n 0, 1), (79, .ifCond .eq 29, 3), (82, .aload_n 0, 1), (86, .iconst 2, 1), (87, .iload_n 1, 1), (88, .imul, 1), (89, .iaload, 1), (90, .aload_n 0, 1), (94, .if_icmp .ne 8, 3), (97, .aload_n 0, 1), (98, .iconst 4, 1), (102, .iinc 1 1, 3), (105, .goto (-38), 3), (108, .aload_n 0, 1), (112, .ifCond .ne 4, 3), (115, .return_, 1), (116, .aload_n 0, 1), (120, .iconst 2, 1), (121, .aload_n 0, 1), (125, .imul, 1), (126, .aload_n 0, 1), (130, .iastore, 1), (131, .aload_n 0, 1), (135, .aload_n 0, 1), (139, .iconst 2, 1), (140, .aload_n 0, 1), (144, .imul, 1), (145, .iconst 1, 1), (146, .iadd, 1), (147, .aload_n 0, 1), (148, .iconst 0, 1), (149, .bipush 99, 2), (154, .iastore, 1), (155, .aload_n 0, 1), (159, .ifCond .eq 13, 3), (162, .aload_n 0, 1), (163, .dup, 1), (167, .iconst 1, 1), (168, .iadd, 1), (172, .return_, 1)]
theorem am_op190_0 : ∀ q ∈ am_p190_0, am_ok 190 q.1 q.2.1 q.2.2 := am_okps (by decide +kernel)
def am_l190_0 : List (Nat × Instr × Nat) := [(1, .getfield 110280, 3), (11, .invokevirtual 171, 3), (15, .invokevirtual 172, 3), (23, .invokevirtual 167, 3), (27, .getfield 110190, 3), (36, .invokevirtual 171, 3), (43, .getfield 110210, 3), (51, .getfield 110220, 3), (62, .invokevirtual 171, 3), (69, .getfield 110280, 3), (76, .invokevirtual 172, 3), (83, .getfield 110352, 3), (91, .getfield 110220, 3), (99, .invokevirtual 171, 3), (109, .invokevirtual 172, 3), (117, .getfield 110352, 3), (122, .getfield 110280, 3), (127, .getfield 110220, 3), (132, .invokevirtual 167, 3), (136, .getfield 110352, 3), (141, .getfield 110280, 3), (151, .invokevirtual 175, 3), (156, .invokevirtual 172, 3), (164, .getfield 110280, 3), (169, .putfield 110280, 3)]
theorem am_ol190_0 : ∀ q ∈ am_l190_0, am_ok 190 q.1 q.2.1 q.2.2 := show ∀ q ∈ ([(1, .getfield 110280, 3), (11, .invokevirtual 171, 3), (15, .invokevirtual 172, 3), (23, .invokevirtual 167, 3), (27, .getfield 110190, 3), (36, .invokevirtual 171, 3), (43, .getfield 110210, 3), (51, .getfield 110220, 3), (62, .invokevirtual 171, 3), (69, .getfield 110280, 3), (76, .invokevirtual 172, 3), (83, .getfield 110352, 3), (91, .getfield 110220, 3), (99, .invokevirtual 171, 3), (109, .invokevirtual 172, 3), (117, .getfield 110352, 3), (122, .getfield 110280, 3), (127, .getfield 110220, 3), (132, .invokevirtual 167, 3), (136, .getfield 110352, 3), (141, .getfield 110280, 3), (151, .invokevirtual 175, 3), (156, .invokevirtual 172, 3), (164, .getfield 110280, 3), (169, .putfield 110280, 3)] : List (Nat × Instr × Nat)), am_ok 190 q.1 q.2.1 q.2.2 from
  am_fc (am_okgf 261 (by decide +kernel) (am_mem 1422 (by decide +kernel))) (
  am_fc (am_okv 195 (by decide +kernel) (by decide) (am_mem 1652 (by decide +kernel)) (am_mem 1654 (by decide +kernel)) (am_mem 49 (by decide +kernel))) (
  am_fc (am_okv 188 (by decide +kernel) (by decide) (am_mem 1633 (by decide +kernel)) (am_mem 1635 (by decide +kernel)) (am_mem 46 (by decide +kernel))) (
  am_fc (am_okv 192 (by decide +kernel) (by decide) (am_mem 1619 (by decide +kernel)) (am_mem 1621 (by decide +kernel)) (am_mem 44 (by decide +kernel))) (
  am_fc (am_okgf 162 (by decide +kernel) (am_mem 1413 (by decide +kernel))) (
  am_fc (am_okv 195 (by decide +kernel) (by decide) (am_mem 1652 (by decide +kernel)) (am_mem 1654 (by decide +kernel)) (am_mem 49 (by decide +kernel))) (
  am_fc (am_okgf 172 (by decide +kernel) (am_mem 1415 (by decide +kernel))) (
  am_fc (am_okgf 156 (by decide +kernel) (am_mem 1416 (by decide +kernel))) (
  am_fc (am_okv 195 (by decide +kernel) (by decide) (am_mem 1652 (by decide +kernel)) (am_mem 1654 (by decide +kernel)) (am_mem 49 (by decide +kernel))) (
  am_fc (am_okgf 261 (by decide +kernel) (am_mem 1422 (by decide +kernel))) (
  am_fc (am_okv 188 (by decide +kernel) (by decide) (am_mem 1633 (by decide +kernel)) (am_mem 1635 (by decide +kernel)) (am_mem 46 (by decide +kernel))) (
  am_fc (am_okgf 47 (by decide +kernel) (am_mem 1429 (by decide +kernel))) (
  am_fc (am_okgf 156 (by decide +kernel) (am_mem 1416 (by decide +kernel))) (
  am_fc (am_okv 195 (by decide +kernel) (by decide) (am_mem 1652 (by decide +kernel)) (am_mem 1654 (by decide +kernel)) (am_mem 49 (by decide +kernel))) (
  am_fc (am_okv 188 (by decide +kernel) (by decide) (am_mem 1633 (by decide +kernel)) (am_mem 1635 (by decide +kernel)) (am_mem 46 (by decide +kernel))) (
  am_fc (am_okgf 47 (by decide +kernel) (am_mem 1429 (by decide +kernel))) (
  am_fc (am_okgf 261 (by decide +kernel) (am_mem 1422 (by decide +kernel))) (
  am_fc (am_okgf 156 (by decide +kernel) (am_mem 1416 (by decide +kernel))) (
  am_fc (am_okv 192 (by decide +kernel) (by decide) (am_mem 1619 (by decide +kernel)) (am_mem 1621 (by decide +kernel)) (am_mem 44 (by decide +kernel))) (
  am_fc (am_okgf 47 (by decide +kernel) (am_mem 1429 (by decide +kernel))) (
  am_fc (am_okgf 261 (by decide +kernel) (am_mem 1422 (by decide +kernel))) (
  am_fc (am_okv 251 (by decide +kernel) (by decide) (am_mem 1656 (by decide +kernel)) (am_mem 1658 (by decide +kernel)) (am_mem 50 (by decide +kernel))) (
  am_fc (am_okv 188 (by decide +kernel) (by decide) (am_mem 1633 (by decide +kernel)) (am_mem 1635 (by decide +kernel)) (am_mem 46 (by decide +kernel))) (
  am_fc (am_okgf 261 (by decide +kernel) (am_mem 1422 (by decide +kernel))) (
  am_fc (am_okpf 261 (by decide +kernel) (am_mem 1422 (by decide +kernel))) (
  am_fn)))))))))))))))))))))))))
def am_t190 : List (Nat × Instr × Nat) := am_p190_0 ++ (am_l190_0)
theorem am_ot190 : ∀ q ∈ am_t190, am_ok 190 q.1 q.2.1 q.2.2 := List.forall_mem_append.mpr ⟨am_op190_0, am_ol190_0⟩
def am_p191_0 : List (Nat × Instr × Nat) := [(0, .aload_n 0, 1), (4, .istore_n 1, 1), (5, .iload_n 1, 1), (6, .bipush 7, 2), (8, .if_icmp .ne 81, 3), (11, .aload_n 0, 1), (15, .bipush 6, 2), (17, .if_icmp .ne 8, 3), (20, .aload_n 0, 1), (21, .iconst 2, 1), (25, .aload_n 0, 1), (29, .ifCond .ne 4, 3), (32, .return_, 1), (33, .aload_n 0, 1), (37, .aload_n 0, 1), (41, .aload_n 0, 1), (45, .aload_n 0, 1), (46, .iconst 0, 1), (47, .sipush 9999, 3), (53, .iastore, 1), (54, .aload_n 0, 1), (58, .aload_n 0, 1), (62, .aload_n 0, 1), (63, .iconst 0, 1), (64, .iconst 3, 1), (68, .iastore, 1), (69, .aload_n 0, 1), (73, .ifCond .eq 106, 3), (76, .aload_n 0, 1), (77, .dup, 1), (81, .iconst 1, 1), (82, .iadd, 1), (86, .goto 93, 3), (89, .iload_n 1, 1), (90, .bipush 8, 2), (92, .if_icmp .ne 10, 3), (95, .aload_n 0, 1), (99, .goto 80, 3), (102, .iload_n 1, 1), (103, .bipush 10, 2), (105, .if_icmp .ne 10, 3), (108, .aload_n 0, 1), (112, .goto 67, 3), (115, .iload_n 1, 1), (116, .bipush 11, 2), (118, .if_icmp .ne 10, 3), (121, .aload_n 0, 1), (125, .goto 54, 3), (128, .iload_n 1, 1), (129, .bipush 12, 2), (131, .if_icmp .ne 43, 3), (134, .aload_n 0, 1), (138, .iconst (-1), 1), (139, .if_icmp .eq 8, 3), (142, .aload_n 0, 1), (143, .iconst 5, 1), (147, .aload_n 0, 1), (151, .ifCond .ne 4, 3), (154, .return_, 1), (155, .aload_n 0, 1), (159, .aload_n 0, 1), (160, .aload_n 0, 1), (167, .aload_n 0, 1), (171, .goto 8, 3), (174, .aload_n 0, 1), (175, .iconst 1, 1), (179, .aload_n 0, 1), (180, .aload_n 0, 1), (181, .bipush 59, 2), (189, .return_, 1)]
theorem am_op191_0 : ∀ q ∈ am_p191_0, am_ok 191 q.1 q.2.1 q.2.2 := am_okps (by decide +kernel)
def am_l191_0 : List (Nat × Instr × Nat) := [(1, .invokevirtual 170, 3), (12, .getfield 110250, 3), (22, .invokevirtual 171, 3), (26, .invokevirtual 172, 3), (34, .invokevirtual 167, 3), (38, .getfield 110362, 3), (42, .getfield 110250, 3), (50, .invokevirtual 175, 3), (55, .getfield 110372, 3), (59, .getfield 110250, 3), (65, .invokevirtual 175, 3), (70, .invokevirtual 172, 3), (78, .getfield 110250, 3), (83, .putfield 110250, 3), (96, .invokevirtual 188, 3), (109, .invokevirtual 189, 3), (122, .invokevirtual 190, 3), (135, .getfield 110290, 3), (144, .invokevirtual 171, 3), (148, .invokevirtual 172, 3), (156, .invokevirtual 167, 3), (161, .getfield 110300, 3), (164, .putfield 110290, 3), (168, .invokevirtual 187, 3), (176, .invokevirtual 171, 3), (183, .invokevirtual 173, 3), (186, .invokevirtual 174, 3)]
theorem am_ol191_0 : ∀ q ∈ am_l191_0, am_ok 191 q.1 q.2.1 q.2.2 := show ∀ q ∈ ([(1, .invokevirtual 170, 3), (12, .getfield 110250, 3), (22, .invokevirtual 171, 3), (26, .invokevirtual 172, 3), (34, .invokevirtual 167, 3), (38, .getfield 110362, 3), (42, .getfield 110250, 3), (50, .invokevirtual 175, 3), (55, .getfield 110372, 3), (59, .getfield 110250, 3), (65, .invokevirtual 175, 3), (70, .invokevirtual 172, 3), (78, .getfield 110250, 3), (83, .putfield 110250, 3), (96, .invokevirtual 188, 3), (109, .invokevirtual 189, 3), (122, .invokevirtual 190, 3), (135, .getfield 110290, 3), (144, .invokevirtual 171, 3), (148, .invokevirtual 172, 3), (156, .invokevirtual 167, 3), (161, .getfield 110300, 3), (164, .putfield 110290, 3), (168, .invokevirtual 187, 3), (176, .invokevirtual 171, 3), (183, .invokevirtual 173, 3), (186, .invokevirtual 174, 3)] : List (Nat × Instr × Nat)), am_ok 191 q.1 q.2.1 q.2.2 from
  am_fc (am_okv 216 (by decide +kernel) (by decide) (am_mem 1641 (by decide +kernel)) (am_mem 1643 (by decide +kernel)) (am_mem 48 (by decide +kernel))) (
  am_fc (am_okgf 198 (by decide +kernel) (am_mem 1419 (by decide +kernel))) (
  am_fc (am_okv 195 (by decide +kernel) (by decide) (am_mem 1652 (by decide +kernel)) (am_mem 1654 (by decide +kernel)) (am_mem 49 (by decide +kernel))) (
  am_fc (am_okv 188 (by decide +kernel) (by decide) (am_mem 1633 (by decide +kernel)) (am_mem 1635 (by decide +kernel)) (am_mem 46 (by decide +kernel))) (
  am_fc (am_okv 192 (by decide +kernel) (by decide) (am_mem 1619 (by decide +kernel)) (am_mem 1621 (by decide +kernel)) (am_mem 44 (by decide +kernel))) (
  am_fc (am_okgf 50 (by decide +kernel) (am_mem 1430 (by decide +kernel))) (
  am_fc (am_okgf 198 (by decide +kernel) (am_mem 1419 (by decide +kernel))) (
  am_fc (am_okv 251 (by decide +kernel) (by decide) (am_mem 1656 (by decide +kernel)) (am_mem 1658 (by decide +kernel)) (am_mem 50 (by decide +kernel))) (
  am_fc (am_okgf 53 (by decide +kernel) (am_mem 1431 (by decide +kernel))) (
  am_fc (am_okgf 198 (by decide +kernel) (am_mem 1419 (by decide +kernel))) (
  am_fc (am_okv 251 (by decide +kernel) (by decide) (am_mem 1656 (by decide +kernel)) (am_mem 1658 (by decide +kernel)) (am_mem 50 (by decide +kernel))) (
  am_fc (am_okv 188 (by decide +kernel) (by decide) (am_mem 1633 (by decide +kernel)) (am_mem 1635 (by decide +kernel)) (am_mem 46 (by decide +kernel))) (
  am_fc (am_okgf 198 (by decide +kernel) (am_mem 1419 (by decide +kernel))) (
  am_fc (am_okpf 198 (by decide +kernel) (am_mem 1419 (by decide +kernel))) (
  am_fc (am_okv 264 (by decide +kernel) (by decide) (am_mem 1660 (by decide +kernel)) (am_mem 1662 (by decide +kernel)) (am_mem 51 (by decide +kernel))) (
  am_fc (am_okv 267 (by decide +kernel) (by decide) (am_mem 1668 (by decide +kernel)) (am_mem 1670 (by decide +kernel)) (am_mem 53 (by decide +kernel))) (
  am_fc (am_okv 270 (by decide +kernel) (by decide) (am_mem 1672 (by decide +kernel)) (am_mem 1674 (by decide +kernel)) (am_mem 54 (by decide +kernel))) (
  am_fc (am_okgf 273 (by decide +kernel) (am_mem 1423 (by decide +kernel))) (
  am_fc (am_okv 195 (by decide +kernel) (by decide) (am_mem 1652 (by decide +kernel)) (am_mem 1654 (by decide +kernel)) (am_mem 49 (by decide +kernel))) (
  am_fc (am_okv 188 (by decide +kernel) (by decide) (am_mem 1633 (by decide +kernel)) (am_mem 1635 (by decide +kernel)) (am_mem 46 (by decide +kernel))) (
  am_fc (am_okv 192 (by decide +kernel) (by decide) (am_mem 1619 (by decide +kernel)) (am_mem 1621 (by decide +kernel)) (am_mem 44 (by decide +kernel))) (
  am_fc (am_okgf 201 (by decide +kernel) (am_mem 1424 (by decide +kernel))) (
  am_fc (am_okpf 273 (by decide +kernel) (am_mem 1423 (by decide +kernel))) (
  am_fc (am_okv 276 (by decide +kernel) (by decide) (am_mem 1676 (by decide +kernel)) (am_mem 1678 (by decide +kernel)) (am_mem 55 (by decide +kernel))) (
  am_fc (am_okv 195 (by decide +kernel) (by decide) (am_mem 1652 (by decide +kernel)) (am_mem 1654 (by decide +kernel)) (am_mem 49 (by decide +kernel))) (
  am_fc (am_okv 223 (by decide +kernel) (by decide) (am_mem 1684 (by decide +kernel)) (am_mem 1686 (by decide +kernel)) (am_mem 57 (by decide +kernel))) (
  am_fc (am_okv 279 (by decide +kernel) (by decide) (am_mem 1722 (by decide +kernel)) (am_mem 1724 (by decide +kernel)) (am_mem 65 (by decide +kernel))) (
  am_fn)))))))))))))))))))))))))))
def am_t191 : List (Nat × Instr × Nat) := am_p191_0 ++ (am_l191_0)
theorem am_ot191 : ∀ q ∈ am_t191, am_ok 191 q.1 q.2.1 q.2.2 := List.forall_mem_append.mpr ⟨am_op191_0, am_ol191_0⟩
def am_p192_0 : List (Nat × Instr × Nat) := [(0, .aload_n 0, 1), (1, .iconst 0, 1), (5, .aload_n 0, 1), (6, .iload_n 1, 1), (7, .ifCond .lt 15, 3), (10, .iload_n 1, 1), (11, .aload_n 0, 1), (15, .if_icmp .gt 7, 3), (18, .iconst 1, 1), (19, .goto 4, 3), (22, .iconst 0, 1), (23, .iconst 1, 1), (27, .ifCond .ne 5, 3), (30, .iconst 0, 1), (31, .ireturn, 1), (32, .aload_n 0, 1), (33, .iconst 0, 1), (37, .aload_n 0, 1), (38, .iconst (-1), 1), (42, .aload_n 0, 1), (43, .iconst 0, 1), (47, .aload_n 0, 1), (48, .iload_n 1, 1), (52, .aload_n 0, 1), (53, .iconst 0, 1), (57, .aload_n 0, 1), (58, .iconst 0, 1), (62, .aload_n 0, 1), (63, .iconst 0, 1), (67, .aload_n 0, 1), (68, .iconst 0, 1), (72, .aload_n 0, 1), (73, .iconst 0, 1), (77, .aload_n 0, 1), (78, .iconst (-1), 1), (82, .aload_n 0, 1), (83, .iconst 0, 1), (87, .aload_n 0, 1), (91, .aload_n 0, 1), (95, .ifCond .eq 17, 3), (98, .aload_n 0, 1), (102, .ifCond .eq 10, 3), (105, .aload_n 0, 1), (109, .goto (-18), 3), (112, .aload_n 0, 1), (116, .ifCond .ne 18, 3), (119, .aload_n 0, 1), (123, .iconst 0, 1), (124, .dup2, 1), (125, .iaload, 1), (126, .iconst 1, 1), (127, .iadd, 1), (128, .iastore, 1), (129, .aload_n 0, 1), (133, .ireturn, 1), (134, .aload_n 0, 1), (135, .aload_n 0, 1), (142, .aload_n 0, 1), (143, .aload_n 0, 1), (150, .aload_n 0, 1), (151, .aload_n 0, 1), (158, .aload_n 0, 1), (159, .aload_n 0, 1), (166, .aload_n 0, 1), (167, .aload_n 0, 1), (174, .aload_n 0, 1), (175, .aload_n 0, 1), (179, .aload_n 0, 1), (186, .aload_n 0, 1), (187, .aload_n 0, 1), (191, .aload_n 0, 1), (198, .aload_n 0, 1), (199, .aload_n 0, 1), (203, .aload_n 0, 1), (210, .aload_n 0, 1), (211, .aload_n 0, 1), (215, .aload_n 0, 1), (222, .aload_n 0, 1), (223, .aload_n 0, 1), (227, .aload_n 0, 1), (234, .aload_n 0, 1), (235, .aload_n 0, 1), (239, .aload_n 0, 1), (246, .aload_n 0, 1), (250, .aload_n 0, 1), (251, .iconst 0, 1), (255, .aload_n 0, 1), (256, .iconst (-1), 1), (260, .aload_n 0, 1), (261, .iconst 0, 1), (265, .aload_n 0, 1), (266, .iconst 0, 1), (270, .iconst 0, 1), (271, .ireturn, 1)]
theorem am_op192_0 : ∀ q ∈ am_p192_0, am_ok 192 q.1 q.2.1 q.2.2 := am_okps (by decide +kernel)
def am_l192_0 : List (Nat × Instr × Nat) := [(2, .putfield 110000, 3), (12, .getfield 110130, 3), (24, .invokevirtual 158, 3), (34, .putfield 110130, 3), (39, .putfield 110150, 3), (44, .putfield 110140, 3), (49, .putfield 110170, 3), (54, .putfield 110180, 3), (59, .putfield 110250, 3), (64, .putfield 110260, 3), (69, .putfield 110270, 3), (74, .putfield 110280, 3), (79, .putfield 110290, 3), (84, .putfield 110300, 3), (88, .invokevirtual 167, 3), (92, .invokevirtual 172, 3), (99, .getfield 110190, 3), (106, .invokevirtual 191, 3), (113, .invokevirtual 172, 3), (120, .getfield 110162, 3), (130, .getfield 110140, 3), (136, .getfield 110250, 3), (139, .putfield 110010, 3), (144, .getfield 110260, 3), (147, .putfield 110020, 3), (152, .getfield 110270, 3), (155, .putfield 110030, 3), (160, .getfield 110280, 3), (163, .putfield 110040, 3), (168, .getfield 110290, 3), (171, .putfield 110050, 3), (176, .getfield 110332, 3), (180, .getfield 110062, 3), (183, .invokevirtual 160, 3), (188, .getfield 110342, 3), (192, .getfield 110072, 3), (195, .invokevirtual 160, 3), (200, .getfield 110352, 3), (204, .getfield 110082, 3), (207, .invokevirtual 160, 3)]
theorem am_ol192_0 : ∀ q ∈ am_l192_0, am_ok 192 q.1 q.2.1 q.2.2 := show ∀ q ∈ ([(2, .putfield 110000, 3), (12, .getfield 110130, 3), (24, .invokevirtual 158, 3), (34, .putfield 110130, 3), (39, .putfield 110150, 3), (44, .putfield 110140, 3), (49, .putfield 110170, 3), (54, .putfield 110180, 3), (59, .putfield 110250, 3), (64, .putfield 110260, 3), (69, .putfield 110270, 3), (74, .putfield 110280, 3), (79, .putfield 110290, 3), (84, .putfield 110300, 3), (88, .invokevirtual 167, 3), (92, .invokevirtual 172, 3), (99, .getfield 110190, 3), (106, .invokevirtual 191, 3), (113, .invokevirtual 172, 3), (120, .getfield 110162, 3), (130, .getfield 110140, 3), (136, .getfield 110250, 3), (139, .putfield 110010, 3), (144, .getfield 110260, 3), (147, .putfield 110020, 3), (152, .getfield 110270, 3), (155, .putfield 110030, 3), (160, .getfield 110280, 3), (163, .putfield 110040, 3), (168, .getfield 110290, 3), (171, .putfield 110050, 3), (176, .getfield 110332, 3), (180, .getfield 110062, 3), (183, .invokevirtual 160, 3), (188, .getfield 110342, 3), (192, .getfield 110072, 3), (195, .invokevirtual 160, 3), (200, .getfield 110352, 3), (204, .getfield 110082, 3), (207, .invokevirtual 160, 3)] : List (Nat × Instr × Nat)), am_ok 192 q.1 q.2.1 q.2.2 from
  am_fc (am_okpf 129 (by decide +kernel) (am_mem 1394 (by decide +kernel))) (
  am_fc (am_okgf 132 (by decide +kernel) (am_mem 1407 (by decide +kernel))) (
  am_fc (am_okv 282 (by decide +kernel) (by decide) (am_mem 1615 (by decide +kernel)) (am_mem 1617 (by decide +kernel)) (am_mem 43 (by decide +kernel))) (
  am_fc (am_okpf 132 (by decide +kernel) (am_mem 1407 (by decide +kernel))) (
  am_fc (am_okpf 35 (by decide +kernel) (am_mem 1409 (by decide +kernel))) (
  am_fc (am_okpf 185 (by decide +kernel) (am_mem 1408 (by decide +kernel))) (
  am_fc (am_okpf 139 (by decide +kernel) (am_mem 1411 (by decide +kernel))) (
  am_fc (am_okpf 142 (by decide +kernel) (am_mem 1412 (by decide +kernel))) (
  am_fc (am_okpf 198 (by decide +kernel) (am_mem 1419 (by decide +kernel))) (
  am_fc (am_okpf 248 (by decide +kernel) (am_mem 1420 (by decide +kernel))) (
  am_fc (am_okpf 258 (by decide +kernel) (am_mem 1421 (by decide +kernel))) (
  am_fc (am_okpf 261 (by decide +kernel) (am_mem 1422 (by decide +kernel))) (
  am_fc (am_okpf 273 (by decide +kernel) (am_mem 1423 (by decide +kernel))) (
  am_fc (am_okpf 201 (by decide +kernel) (am_mem 1424 (by decide +kernel))) (
  am_fc (am_okv 192 (by decide +kernel) (by decide) (am_mem 1619 (by decide +kernel)) (am_mem 1621 (by decide +kernel)) (am_mem 44 (by decide +kernel))) (
  am_fc (am_okv 188 (by decide +kernel) (by decide) (am_mem 1633 (by decide +kernel)) (am_mem 1635 (by decide +kernel)) (am_mem 46 (by decide +kernel))) (
  am_fc (am_okgf 162 (by decide +kernel) (am_mem 1413 (by decide +kernel))) (
  am_fc (am_okv 286 (by decide +kernel) (by decide) (am_mem 1637 (by decide +kernel)) (am_mem 1639 (by decide +kernel)) (am_mem 47 (by decide +kernel))) (
  am_fc (am_okv 188 (by decide +kernel) (by decide) (am_mem 1633 (by decide +kernel)) (am_mem 1635 (by decide +kernel)) (am_mem 46 (by decide +kernel))) (
  am_fc (am_okgf 38 (by decide +kernel) (am_mem 1410 (by decide +kernel))) (
  am_fc (am_okgf 185 (by decide +kernel) (am_mem 1408 (by decide +kernel))) (
  am_fc (am_okgf 198 (by decide +kernel) (am_mem 1419 (by decide +kernel))) (
  am_fc (am_okpf 289 (by decide +kernel) (am_mem 1395 (by decide +kernel))) (
  am_fc (am_okgf 248 (by decide +kernel) (am_mem 1420 (by decide +kernel))) (
  am_fc (am_okpf 292 (by decide +kernel) (am_mem 1396 (by decide +kernel))) (
  am_fc (am_okgf 258 (by decide +kernel) (am_mem 1421 (by decide +kernel))) (
  am_fc (am_okpf 295 (by decide +kernel) (am_mem 1397 (by decide +kernel))) (
  am_fc (am_okgf 261 (by decide +kernel) (am_mem 1422 (by decide +kernel))) (
  am_fc (am_okpf 298 (by decide +kernel) (am_mem 1398 (by decide +kernel))) (
  am_fc (am_okgf 273 (by decide +kernel) (am_mem 1423 (by decide +kernel))) (
  am_fc (am_okpf 9 (by decide +kernel) (am_mem 1399 (by decide +kernel))) (
  am_fc (am_okgf 41 (by decide +kernel) (am_mem 1427 (by decide +kernel))) (
  am_fc (am_okgf 13 (by decide +kernel) (am_mem 1400 (by decide +kernel))) (
  am_fc (am_okv 301 (by decide +kernel) (by decide) (am_mem 1726 (by decide +kernel)) (am_mem 1728 (by decide +kernel)) (am_mem 66 (by decide +kernel))) (
  am_fc (am_okgf 44 (by decide +kernel) (am_mem 1428 (by decide +kernel))) (
  am_fc (am_okgf 17 (by decide +kernel) (am_mem 1401 (by decide +kernel))) (
  am_fc (am_okv 301 (by decide +kernel) (by decide) (am_mem 1726 (by decide +kernel)) (am_mem 1728 (by decide +kernel)) (am_mem 66 (by decide +kernel))) (
  am_fc (am_okgf 47 (by decide +kernel) (am_mem 1429 (by decide +kernel))) (
  am_fc (am_okgf 20 (by decide +kernel) (am_mem 1402 (by decide +kernel))) (
  am_fc (am_okv 301 (by decide +kernel) (by decide) (am_mem 1726 (by decide +kernel)) (am_mem 1728 (by decide +kernel)) (am_mem 66 (by decide +kernel))) (
  am_fn))))))))))))))))))))))))))))))))))))))))
def am_l192_1 : List (Nat × Instr × Nat) := [(212, .getfield 110362, 3), (216, .getfield 110092, 3), (219, .invokevirtual 160, 3), (224, .getfield 110372, 3), (228, .getfield 110102, 3), (231, .invokevirtual 160, 3), (236, .getfield 110382, 3), (240, .getfield 110112, 3), (243, .invokevirtual 160, 3), (247, .invokevirtual 194, 3), (252, .putfield 110590, 3), (257, .putfield 110510, 3), (262, .putfield 110581, 3), (267, .putfield 110621, 3)]
theorem am_ol192_1 : ∀ q ∈ am_l192_1, am_ok 192 q.1 q.2.1 q.2.2 := show ∀ q ∈ ([(212, .getfield 110362, 3), (216, .getfield 110092, 3), (219, .invokevirtual 160, 3), (224, .getfield 110372, 3), (228, .getfield 110102, 3), (231, .invokevirtual 160, 3), (236, .getfield 110382, 3), (240, .getfield 110112, 3), (243, .invokevirtual 160, 3), (247, .invokevirtual 194, 3), (252, .putfield 110590, 3), (257, .putfield 110510, 3), (262, .putfield 110581, 3), (267, .putfield 110621, 3)] : List (Nat × Instr × Nat)), am_ok 192 q.1 q.2.1 q.2.2 from
  am_fc (am_okgf 50 (by decide +kernel) (am_mem 1430 (by decide +kernel))) (
  am_fc (am_okgf 23 (by decide +kernel) (am_mem 1403 (by decide +kernel))) (
  am_fc (am_okv 301 (by decide +kernel) (by decide) (am_mem 1726 (by decide +kernel)) (am_mem 1728 (by decide +kernel)) (am_mem 66 (by decide +kernel))) (
  am_fc (am_okgf 53 (by decide +kernel) (am_mem 1431 (by decide +kernel))) (
  am_fc (am_okgf 26 (by decide +kernel) (am_mem 1404 (by decide +kernel))) (
  am_fc (am_okv 301 (by decide +kernel) (by decide) (am_mem 1726 (by decide +kernel)) (am_mem 1728 (by decide +kernel)) (am_mem 66 (by decide +kernel))) (
  am_fc (am_okgf 56 (by decide +kernel) (am_mem 1432 (by decide +kernel))) (
  am_fc (am_okgf 29 (by decide +kernel) (am_mem 1405 (by decide +kernel))) (
  am_fc (am_okv 301 (by decide +kernel) (by decide) (am_mem 1726 (by decide +kernel)) (am_mem 1728 (by decide +kernel)) (am_mem 66 (by decide +kernel))) (
  am_fc (am_okv 126 (by decide +kernel) (by decide) (am_mem 1390 (by decide +kernel)) (am_mem 1392 (by decide +kernel)) (am_mem 41 (by decide +kernel))) (
  am_fc (am_okpf 305 (by decide +kernel) (am_mem 1453 (by decide +kernel))) (
  am_fc (am_okpf 93 (by decide +kernel) (am_mem 1445 (by decide +kernel))) (
  am_fc (am_okpf 308 (by decide +kernel) (am_mem 1452 (by decide +kernel))) (
  am_fc (am_okpf 312 (by decide +kernel) (am_mem 1456 (by decide +kernel))) (
  am_fn))))))))))))))
def am_t192 : List (Nat × Instr × Nat) := am_p192_0 ++ (am_l192_0 ++ (am_l192_1))
theorem am_ot192 : ∀ q ∈ am_t192, am_ok 192 q.1 q.2.1 q.2.2 := List.forall_mem_append.mpr ⟨am_op192_0, List.forall_mem_append.mpr ⟨am_ol192_0, am_ol192_1⟩⟩
def am_p193_0 : List (Nat × Instr × Nat) := [(0, .aload_n 0, 1), (1, .iconst 0, 1), (5, .aload_n 0, 1), (9, .ireturn, 1)]
theorem am_op193_0 : ∀ q ∈ am_p193_0, am_ok 193 q.1 q.2.1 q.2.2 := am_okps (by decide +kernel)
def am_l193_0 : List (Nat × Instr × Nat) := [(2, .putfield 110000, 3), (6, .getfield 110150, 3)]
theorem am_ol193_0 : ∀ q ∈ am_l193_0, am_ok 193 q.1 q.2.1 q.2.2 := show ∀ q ∈ ([(2, .putfield 110000, 3), (6, .getfield 110150, 3)] : List (Nat × Instr × Nat)), am_ok 193 q.1 q.2.1 q.2.2 from
  am_fc (am_okpf 129 (by decide +kernel) (am_mem 1394 (by decide +kernel))) (
  am_fc (am_okgf 35 (by decide +kernel) (am_mem 1409 (by decide +kernel))) (
  am_fn))
def am_t193 : List (Nat × Instr × Nat) := am_p193_0 ++ (am_l193_0)
theorem am_ot193 : ∀ q ∈ am_t193, am_ok 193 q.1 q.2.1 q.2.2 := List.forall_mem_append.mpr ⟨am_op193_0, am_ol193_0⟩
def am_p194_0 : List (Nat × Instr × Nat) := [(0, .iconst 0, 1), (1, .istore_n 1, 1), (2, .iload_n 1, 1), (3, .sipush 139, 3), (6, .if_icmp .ge 32, 3), (9, .aload_n 0, 1), (13, .iload_n 1, 1), (14, .iload_n 1, 1), (15, .bipush 19, 2), (17, .if_icmp .lt 13, 3), (20, .iload_n 1, 1), (21, .bipush 79, 2), (23, .if_icmp .ge 7, 3), (26, .iconst (-1), 1), (27, .goto 4, 3), (30, .iconst 0, 1), (31, .iastore, 1), (32, .iinc 1 1, 3), (35, .goto (-33), 3), (38, .iconst 0, 1), (39, .istore_n 1, 1), (40, .iload_n 1, 1), (41, .aload_n 0, 1), (45, .if_icmp .ge 38, 3), (48, .aload_n 0, 1), (52, .iconst 1, 1), (53, .iload_n 1, 1), (54, .iadd, 1), (55, .aload_n 0, 1), (59, .iload_n 1, 1), (60, .iaload, 1), (61, .iastore, 1), (62, .aload_n 0, 1), (66, .bipush 7, 2), (68, .iload_n 1, 1), (69, .iadd, 1), (70, .aload_n 0, 1), (74, .iload_n 1, 1), (75, .iaload, 1), (76, .iastore, 1), (77, .iinc 1 1, 3), (80, .goto (-40), 3), (83, .aload_n 0, 1), (84, .iconst 0, 1), (88, .return_, 1)]
theorem am_op194_0 : ∀ q ∈ am_p194_0, am_ok 194 q.1 q.2.1 q.2.2 := am_okps (by decide +kernel)
def am_l194_0 : List (Nat × Instr × Nat) := [(10, .getfield 110412, 3), (42, .getfield 110010, 3), (49, .getfield 110412, 3), (56, .getfield 110092, 3), (63, .getfield 110412, 3), (71, .getfield 110102, 3), (85, .putfield 110440, 3)]
theorem am_ol194_0 : ∀ q ∈ am_l194_0, am_ok 194 q.1 q.2.1 q.2.2 := show ∀ q ∈ ([(10, .getfield 110412, 3), (42, .getfield 110010, 3), (49, .getfield 110412, 3), (56, .getfield 110092, 3), (63, .getfield 110412, 3), (71, .getfield 110102, 3), (85, .putfield 110440, 3)] : List (Nat × Instr × Nat)), am_ok 194 q.1 q.2.1 q.2.2 from
  am_fc (am_okgf 66 (by decide +kernel) (am_mem 1435 (by decide +kernel))) (
  am_fc (am_okgf 289 (by decide +kernel) (am_mem 1395 (by decide +kernel))) (
  am_fc (am_okgf 66 (by decide +kernel) (am_mem 1435 (by decide +kernel))) (
  am_fc (am_okgf 23 (by decide +kernel) (am_mem 1403 (by decide +kernel))) (
  am_fc (am_okgf 66 (by decide +kernel) (am_mem 1435 (by decide +kernel))) (
  am_fc (am_okgf 26 (by decide +kernel) (am_mem 1404 (by decide +kernel))) (
  am_fc (am_okpf 315 (by decide +kernel) (am_mem 1438 (by decide +kernel))) (
  am_fn)))))))
def am_t194 : List (Nat × Instr × Nat) := am_p194_0 ++ (am_l194_0)
theorem am_ot194 : ∀ q ∈ am_t194, am_ok 194 q.1 q.2.1 q.2.2 := List.forall_mem_append.mpr ⟨am_op194_0, am_ol194_0⟩
def am_p195_0 : List (Nat × Instr × Nat) := [(0, .aload_n 0, 1), (4, .bipush 40, 2), (6, .if_icmp .ne 46, 3), (9, .sipush 139, 3), (12, .istore_n 1, 1), (13, .iload_n 1, 1), (14, .sipush 5560, 3), (17, .if_icmp .ge 25, 3), (20, .aload_n 0, 1), (24, .iload_n 1, 1), (25, .sipush 139, 3), (28, .isub, 1), (29, .aload_n 0, 1), (33, .iload_n 1, 1), (34, .iaload, 1), (35, .iastore, 1), (36, .iinc 1 1, 3), (39, .goto (-26), 3), (42, .aload_n 0, 1), (43, .dup, 1), (47, .iconst 1, 1), (48, .isub, 1), (52, .iconst 0, 1), (53, .istore_n 1, 1), (54, .iload_n 1, 1), (55, .sipush 139, 3), (58, .if_icmp .ge 30, 3), (61, .aload_n 0, 1), (65, .sipush 139, 3), (68, .aload_n 0, 1), (72, .imul, 1), (73, .iload_n 1, 1), (74, .iadd, 1), (75, .aload_n 0, 1), (79, .iload_n 1, 1), (80, .iaload, 1), (81, .iastore, 1), (82, .iinc 1 1, 3), (85, .goto (-31), 3), (88, .aload_n 0, 1), (89, .dup, 1), (93, .iconst 1, 1), (94, .iadd, 1), (98, .return_, 1)]
theorem am_op195_0 : ∀ q ∈ am_p195_0, am_ok 195 q.1 q.2.1 q.2.2 := am_okps (by decide +kernel)
def am_l195_0 : List (Nat × Instr × Nat) := [(1, .getfield 110440, 3), (21, .getfield 110432, 3), (30, .getfield 110432, 3), (44, .getfield 110440, 3), (49, .putfield 110440, 3), (62, .getfield 110432, 3), (69, .getfield 110440, 3), (76, .getfield 110412, 3), (90, .getfield 110440, 3), (95, .putfield 110440, 3)]
theorem am_ol195_0 : ∀ q ∈ am_l195_0, am_ok 195 q.1 q.2.1 q.2.2 := show ∀ q ∈ ([(1, .getfield 110440, 3), (21, .getfield 110432, 3), (30, .getfield 110432, 3), (44, .getfield 110440, 3), (49, .putfield 110440, 3), (62, .getfield 110432, 3), (69, .getfield 110440, 3), (76, .getfield 110412, 3), (90, .getfield 110440, 3), (95, .putfield 110440, 3)] : List (Nat × Instr × Nat)), am_ok 195 q.1 q.2.1 q.2.2 from
  am_fc (am_okgf 315 (by decide +kernel) (am_mem 1438 (by decide +kernel))) (
  am_fc (am_okgf 72 (by decide +kernel) (am_mem 1437 (by decide +kernel))) (
  am_fc (am_okgf 72 (by decide +kernel) (am_mem 1437 (by decide +kernel))) (
  am_fc (am_okgf 315 (by decide +kernel) (am_mem 1438 (by decide +kernel))) (
  am_fc (am_okpf 315 (by decide +kernel) (am_mem 1438 (by decide +kernel))) (
  am_fc (am_okgf 72 (by decide +kernel) (am_mem 1437 (by decide +kernel))) (
  am_fc (am_okgf 315 (by decide +kernel) (am_mem 1438 (by decide +kernel))) (
  am_fc (am_okgf 66 (by decide +kernel) (am_mem 1435 (by decide +kernel))) (
  am_fc (am_okgf 315 (by decide +kernel) (am_mem 1438 (by decide +kernel))) (
  am_fc (am_okpf 315 (by decide +kernel) (am_mem 1438 (by decide +kernel))) (
  am_fn))))))))))
def am_t195 : List (Nat × Instr × Nat) := am_p195_0 ++ (am_l195_0)
theorem am_ot195 : ∀ q ∈ am_t195, am_ok 195 q.1 q.2.1 q.2.2 := List.forall_mem_append.mpr ⟨am_op195_0, am_ol195_0⟩
def am_p196_0 : List (Nat × Instr × Nat) := [(0, .aload_n 0, 1), (4, .iload_n 1, 1), (5, .dup2, 1), (6, .iaload, 1), (7, .iconst 1, 1), (8, .iadd, 1), (9, .iastore, 1), (10, .iconst (-1), 1), (11, .ireturn, 1)]
theorem am_op196_0 : ∀ q ∈ am_p196_0, am_ok 196 q.1 q.2.1 q.2.2 := am_okps (by decide +kernel)
def am_l196_0 : List (Nat × Instr × Nat) := [(1, .getfield 110162, 3)]
theorem am_ol196_0 : ∀ q ∈ am_l196_0, am_ok 196 q.1 q.2.1 q.2.2 := show ∀ q ∈ ([(1, .getfield 110162, 3)] : List (Nat × Instr × Nat)), am_ok 196 q.1 q.2.1 q.2.2 from
  am_fc (am_okgf 38 (by decide +kernel) (am_mem 1410 (by decide +kernel))) (
  am_fn)
def am_t196 : List (Nat × Instr × Nat) := am_p196_0 ++ (am_l196_0)
theorem am_ot196 : ∀ q ∈ am_t196, am_ok 196 q.1 q.2.1 q.2.2 := List.forall_mem_append.mpr ⟨am_op196_0, am_ol196_0⟩
def am_p197_0 : List (Nat × Instr × Nat) := [(0, .aload_n 0, 1), (1, .iconst 0, 1), (5, .aload_n 0, 1), (9, .ifCond .ne 5, 3), (12, .iconst (-1), 1), (13, .ireturn, 1), (14, .aload_n 0, 1), (15, .dup, 1), (19, .iconst 1, 1), (20, .isub, 1), (24, .iconst 0, 1), (25, .istore_n 1, 1), (26, .iload_n 1, 1), (27, .sipush 139, 3), (30, .if_icmp .ge 30, 3), (33, .aload_n 0, 1), (37, .iload_n 1, 1), (38, .aload_n 0, 1), (42, .sipush 139, 3), (45, .aload_n 0, 1), (49, .imul, 1), (50, .iload_n 1, 1), (51, .iadd, 1), (52, .iaload, 1), (53, .iastore, 1), (54, .iinc 1 1, 3), (57, .goto (-31), 3), (60, .aload_n 0, 1), (64, .ireturn, 1)]
theorem am_op197_0 : ∀ q ∈ am_p197_0, am_ok 197 q.1 q.2.1 q.2.2 := am_okps (by decide +kernel)
def am_l197_0 : List (Nat × Instr × Nat) := [(2, .putfield 110000, 3), (6, .getfield 110440, 3), (16, .getfield 110440, 3), (21, .putfield 110440, 3), (34, .getfield 110412, 3), (39, .getfield 110432, 3), (46, .getfield 110440, 3), (61, .getfield 110440, 3)]
theorem am_ol197_0 : ∀ q ∈ am_l197_0, am_ok 197 q.1 q.2.1 q.2.2 := show ∀ q ∈ ([(2, .putfield 110000, 3), (6, .getfield 110440, 3), (16, .getfield 110440, 3), (21, .putfield 110440, 3), (34, .getfield 110412, 3), (39, .getfield 110432, 3), (46, .getfield 110440, 3), (61, .getfield 110440, 3)] : List (Nat × Instr × Nat)), am_ok 197 q.1 q.2.1 q.2.2 from
  am_fc (am_okpf 129 (by decide +kernel) (am_mem 1394 (by decide +kernel))) (
  am_fc (am_okgf 315 (by decide +kernel) (am_mem 1438 (by decide +kernel))) (
  am_fc (am_okgf 315 (by decide +kernel) (am_mem 1438 (by decide +kernel))) (
  am_fc (am_okpf 315 (by decide +kernel) (am_mem 1438 (by decide +kernel))) (
  am_fc (am_okgf 66 (by decide +kernel) (am_mem 1435 (by decide +kernel))) (
  am_fc (am_okgf 72 (by decide +kernel) (am_mem 1437 (by decide +kernel))) (
  am_fc (am_okgf 315 (by decide +kernel) (am_mem 1438 (by decide +kernel))) (
  am_fc (am_okgf 315 (by decide +kernel) (am_mem 1438 (by decide +kernel))) (
  am_fn))))))))
def am_t197 : List (Nat × Instr × Nat) := am_p197_0 ++ (am_l197_0)
theorem am_ot197 : ∀ q ∈ am_t197, am_ok 197 q.1 q.2.1 q.2.2 := List.forall_mem_append.mpr ⟨am_op197_0, am_ol197_0⟩
def am_p198_0 : List (Nat × Instr × Nat) := [(0, .iconst (-1), 1), (1, .istore_n 2, 1), (2, .iconst 0, 1), (3, .istore_n 3, 1), (4, .iload_n 3, 1), (5, .aload_n 0, 1), (9, .if_icmp .ge 47, 3), (12, .aload_n 0, 1), (16, .iconst 2, 1), (17, .iload_n 3, 1), (18, .imul, 1), (19, .iaload, 1), (20, .iload_n 1, 1), (21, .if_icmp .gt 29, 3), (24, .iload_n 2, 1), (25, .iconst (-1), 1), (26, .if_icmp .eq 22, 3), (29, .aload_n 0, 1), (33, .iconst 2, 1), (34, .iload_n 3, 1), (35, .imul, 1), (36, .iaload, 1), (37, .aload_n 0, 1), (41, .iconst 2, 1), (42, .iload_n 2, 1), (43, .imul, 1), (44, .iaload, 1), (45, .if_icmp .le 5, 3), (48, .iload_n 3, 1), (49, .istore_n 2, 1), (50, .iinc 3 1, 3), (53, .goto (-49), 3), (56, .iload_n 2, 1), (57, .iconst (-1), 1), (58, .if_icmp .ne 7, 3), (61, .iconst 5, 1), (62, .goto 13, 3), (65, .aload_n 0, 1), (69, .iconst 2, 1), (70, .iload_n 2, 1), (71, .imul, 1), (72, .iconst 1, 1), (73, .iadd, 1), (74, .iaload, 1), (75, .ireturn, 1)]
theorem am_op198_0 : ∀ q ∈ am_p198_0, am_ok 198 q.1 q.2.1 q.2.2 := am_okps (by decide +kernel)
def am_l198_0 : List (Nat × Instr × Nat) := [(6, .getfield 110040, 3), (13, .getfield 110082, 3), (30, .getfield 110082, 3), (38, .getfield 110082, 3), (66, .getfield 110082, 3)]
theorem am_ol198_0 : ∀ q ∈ am_l198_0, am_ok 198 q.1 q.2.1 q.2.2 := show ∀ q ∈ ([(6, .getfield 110040, 3), (13, .getfield 110082, 3), (30, .getfield 110082, 3), (38, .getfield 110082, 3), (66, .getfield 110082, 3)] : List (Nat × Instr × Nat)), am_ok 198 q.1 q.2.1 q.2.2 from
  am_fc (am_okgf 298 (by decide +kernel) (am_mem 1398 (by decide +kernel))) (
  am_fc (am_okgf 20 (by decide +kernel) (am_mem 1402 (by decide +kernel))) (
  am_fc (am_okgf 20 (by decide +kernel) (am_mem 1402 (by decide +kernel))) (
  am_fc (am_okgf 20 (by decide +kernel) (am_mem 1402 (by decide +kernel))) (
  am_fc (am_okgf 20 (by decide +kernel) (am_mem 1402 (by decide +kernel))) (
  am_fn)))))
def am_t198 : List (Nat × Instr × Nat) := am_p198_0 ++ (am_l198_0)
theorem am_ot198 : ∀ q ∈ am_t198, am_ok 198 q.1 q.2.1 q.2.2 := List.forall_mem_append.mpr ⟨am_op198_0, am_ol198_0⟩
def am_p199_0 : List (Nat × Instr × Nat) := [(0, .aload_n 0, 1), (1, .bipush 19, 2), (3, .bipush 10, 2), (5, .iload_n 1, 1), (6, .imul, 1), (7, .iadd, 1), (8, .iload_n 2, 1), (9, .iadd, 1), (10, .iaload, 1), (11, .iconst (-1), 1), (12, .if_icmp .eq 7, 3), (15, .iconst 1, 1), (16, .goto 4, 3), (19, .iconst 0, 1), (20, .ireturn, 1)]
theorem am_op199_0 : ∀ q ∈ am_p199_0, am_ok 199 q.1 q.2.1 q.2.2 := am_okps (by decide +kernel)
def am_t199 : List (Nat × Instr × Nat) := am_p199_0
theorem am_ot199 : ∀ q ∈ am_t199, am_ok 199 q.1 q.2.1 q.2.2 := am_op199_0
def am_p200_0 : List (Nat × Instr × Nat) := [(0, .iconst 0, 1), (1, .istore_n 3, 1), (2, .iconst 0, 1), (3, .istore 4, 2), (5, .iload 4, 2), (7, .aload_n 0, 1), (11, .if_icmp .ge 30, 3), (14, .iload_n 3, 1), (15, .aload_n 1, 1), (16, .iload_n 2, 1), (17, .iload 4, 2), (22, .ifCond .eq 10, 3), (25, .iconst 1, 1), (26, .iload 4, 2), (28, .ishl, 1), (29, .goto 4, 3), (32, .iconst 0, 1), (33, .ior, 1), (34, .istore_n 3, 1), (35, .iinc 4 1, 3), (38, .goto (-33), 3), (41, .iload_n 3, 1), (42, .ireturn, 1)]
theorem am_op200_0 : ∀ q ∈ am_p200_0, am_ok 200 q.1 q.2.1 q.2.2 := am_okps (by decide +kernel)
def am_l200_0 : List (Nat × Instr × Nat) := [(8, .getfield 110020, 3), (19, .invokestatic 199, 3)]
theorem am_ol200_0 : ∀ q ∈ am_l200_0, am_ok 200 q.1 q.2.1 q.2.2 := show ∀ q ∈ ([(8, .getfield 110020, 3), (19, .invokestatic 199, 3)] : List (Nat × Instr × Nat)), am_ok 200 q.1 q.2.1 q.2.2 from
  am_fc (am_okgf 292 (by decide +kernel) (am_mem 1396 (by decide +kernel))) (
  am_fc (am_oks 318 (by decide +kernel) (by decide) (am_mem 1758 (by decide +kernel)) (Or.inl (am_mem 1757 (by decide +kernel)))) (
  am_fn))
def am_t200 : List (Nat × Instr × Nat) := am_p200_0 ++ (am_l200_0)
theorem am_ot200 : ∀ q ∈ am_t200, am_ok 200 q.1 q.2.1 q.2.2 := List.forall_mem_append.mpr ⟨am_op200_0, am_ol200_0⟩
def am_p201_0 : List (Nat × Instr × Nat) := [(0, .iconst 0, 1), (1, .istore_n 3, 1), (2, .iconst 0, 1), (3, .istore 4, 2), (5, .iload 4, 2), (7, .aload_n 0, 1), (11, .if_icmp .ge 30, 3), (14, .iload_n 3, 1), (15, .aload_n 1, 1), (16, .iload 4, 2), (18, .iload_n 2, 1), (22, .ifCond .eq 10, 3), (25, .iconst 1, 1), (26, .iload 4, 2), (28, .ishl, 1), (29, .goto 4, 3), (32, .iconst 0, 1), (33, .ior, 1), (34, .istore_n 3, 1), (35, .iinc 4 1, 3), (38, .goto (-33), 3), (41, .iload_n 3, 1), (42, .ireturn, 1)]
theorem am_op201_0 : ∀ q ∈ am_p201_0, am_ok 201 q.1 q.2.1 q.2.2 := am_okps (by decide +kernel)
def am_l201_0 : List (Nat × Instr × Nat) := [(8, .getfield 110010, 3), (19, .invokestatic 199, 3)]
theorem am_ol201_0 : ∀ q ∈ am_l201_0, am_ok 201 q.1 q.2.1 q.2.2 := show ∀ q ∈ ([(8, .getfield 110010, 3), (19, .invokestatic 199, 3)] : List (Nat × Instr × Nat)), am_ok 201 q.1 q.2.1 q.2.2 from
  am_fc (am_okgf 289 (by decide +kernel) (am_mem 1395 (by decide +kernel))) (
  am_fc (am_oks 318 (by decide +kernel) (by decide) (am_mem 1758 (by decide +kernel)) (Or.inl (am_mem 1757 (by decide +kernel)))) (
  am_fn))
def am_t201 : List (Nat × Instr × Nat) := am_p201_0 ++ (am_l201_0)
theorem am_ot201 : ∀ q ∈ am_t201, am_ok 201 q.1 q.2.1 q.2.2 := List.forall_mem_append.mpr ⟨am_op201_0, am_ol201_0⟩
def am_p202_0 : List (Nat × Instr × Nat) := [(0, .iconst 0, 1), (1, .istore_n 2, 1), (2, .iconst 0, 1), (3, .istore_n 3, 1), (4, .iload_n 3, 1), (5, .aload_n 0, 1), (9, .if_icmp .ge 21, 3), (12, .iload_n 2, 1), (13, .aload_n 0, 1), (14, .aload_n 1, 1), (15, .iload_n 3, 1), (22, .iadd, 1), (23, .istore_n 2, 1), (24, .iinc 3 1, 3), (27, .goto (-23), 3), (30, .iload_n 2, 1), (31, .ireturn, 1)]
theorem am_op202_0 : ∀ q ∈ am_p202_0, am_ok 202 q.1 q.2.1 q.2.2 := am_okps (by decide +kernel)
def am_l202_0 : List (Nat × Instr × Nat) := [(6, .getfield 110010, 3), (16, .invokevirtual 200, 3), (19, .invokestatic 161, 3)]
theorem am_ol202_0 : ∀ q ∈ am_l202_0, am_ok 202 q.1 q.2.1 q.2.2 := show ∀ q ∈ ([(6, .getfield 110010, 3), (16, .invokevirtual 200, 3), (19, .invokestatic 161, 3)] : List (Nat × Instr × Nat)), am_ok 202 q.1 q.2.1 q.2.2 from
  am_fc (am_okgf 289 (by decide +kernel) (am_mem 1395 (by decide +kernel))) (
  am_fc (am_okv 322 (by decide +kernel) (by decide) (am_mem 1753 (by decide +kernel)) (am_mem 1755 (by decide +kernel)) (am_mem 69 (by decide +kernel))) (
  am_fc (am_oks 326 (by decide +kernel) (by decide) (am_mem 1761 (by decide +kernel)) (Or.inl (am_mem 1760 (by decide +kernel)))) (
  am_fn)))
def am_t202 : List (Nat × Instr × Nat) := am_p202_0 ++ (am_l202_0)
theorem am_ot202 : ∀ q ∈ am_t202, am_ok 202 q.1 q.2.1 q.2.2 := List.forall_mem_append.mpr ⟨am_op202_0, am_ol202_0⟩
def am_p203_0 : List (Nat × Instr × Nat) := [(0, .aload_n 0, 1), (1, .iconst 0, 1), (5, .aload_n 0, 1), (6, .iload_n 1, 1), (7, .iconst 0, 1), (8, .bipush 12, 2), (13, .iconst 1, 1), (17, .ifCond .ne 5, 3), (20, .iconst 0, 1), (21, .ireturn, 1), (22, .iload_n 1, 1), (23, .tableswitch 127 0 12 #[65, 70, 75, 80, 85, 92, 103, 108, 113, 127, 127, 127, 118], 65), (88, .aload_n 0, 1), (92, .ireturn, 1), (93, .aload_n 0, 1), (97, .ireturn, 1), (98, .aload_n 0, 1), (102, .ireturn, 1), (103, .aload_n 0, 1), (107, .ireturn, 1), (108, .aload_n 0, 1), (112, .iconst 0, 1), (113, .iaload, 1), (114, .ireturn, 1), (115, .aload_n 0, 1), (116, .aload_n 0, 1), (120, .iconst 0, 1), (121, .iaload, 1), (125, .ireturn, 1), (126, .aload_n 0, 1), (130, .ireturn, 1), (131, .aload_n 0, 1), (135, .ireturn, 1), (136, .aload_n 0, 1), (140, .ireturn, 1), (141, .aload_n 0, 1), (142, .aload_n 0, 1), (149, .ireturn, 1), (150, .aload_n 0, 1), (154, .iload_n 1, 1), (155, .bipush 9, 2), (157, .isub, 1), (158, .iaload, 1), (159, .ireturn, 1)]
theorem am_op203_0 : ∀ q ∈ am_p203_0, am_ok 203 q.1 q.2.1 q.2.2 := am_okps (by decide +kernel)
def am_l203_0 : List (Nat × Instr × Nat) := [(2, .putfield 110000, 3), (10, .invokestatic 159, 3), (14, .invokevirtual 158, 3), (89, .getfield 110010, 3), (94, .getfield 110020, 3), (99, .getfield 110030, 3), (104, .getfield 110040, 3), (109, .getfield 110412, 3), (117, .getfield 110412, 3), (122, .invokevirtual 198, 3), (127, .getfield 110440, 3), (132, .getfield 110590, 3), (137, .getfield 110130, 3), (143, .getfield 110412, 3), (146, .invokevirtual 202, 3), (151, .getfield 110162, 3)]
theorem am_ol203_0 : ∀ q ∈ am_l203_0, am_ok 203 q.1 q.2.1 q.2.2 := show ∀ q ∈ ([(2, .putfield 110000, 3), (10, .invokestatic 159, 3), (14, .invokevirtual 158, 3), (89, .getfield 110010, 3), (94, .getfield 110020, 3), (99, .getfield 110030, 3), (104, .getfield 110040, 3), (109, .getfield 110412, 3), (117, .getfield 110412, 3), (122, .invokevirtual 198, 3), (127, .getfield 110440, 3), (132, .getfield 110590, 3), (137, .getfield 110130, 3), (143, .getfield 110412, 3), (146, .invokevirtual 202, 3), (151, .getfield 110162, 3)] : List (Nat × Instr × Nat)), am_ok 203 q.1 q.2.1 q.2.2 from
  am_fc (am_okpf 129 (by decide +kernel) (am_mem 1394 (by decide +kernel))) (
  am_fc (am_oks 329 (by decide +kernel) (by decide) (am_mem 1743 (by decide +kernel)) (Or.inl (am_mem 1742 (by decide +kernel)))) (
  am_fc (am_okv 282 (by decide +kernel) (by decide) (am_mem 1615 (by decide +kernel)) (am_mem 1617 (by decide +kernel)) (am_mem 43 (by decide +kernel))) (
  am_fc (am_okgf 289 (by decide +kernel) (am_mem 1395 (by decide +kernel))) (
  am_fc (am_okgf 292 (by decide +kernel) (am_mem 1396 (by decide +kernel))) (
  am_fc (am_okgf 295 (by decide +kernel) (am_mem 1397 (by decide +kernel))) (
  am_fc (am_okgf 298 (by decide +kernel) (am_mem 1398 (by decide +kernel))) (
  am_fc (am_okgf 66 (by decide +kernel) (am_mem 1435 (by decide +kernel))) (
  am_fc (am_okgf 66 (by decide +kernel) (am_mem 1435 (by decide +kernel))) (
  am_fc (am_okv 333 (by decide +kernel) (by decide) (am_mem 1745 (by decide +kernel)) (am_mem 1747 (by decide +kernel)) (am_mem 67 (by decide +kernel))) (
  am_fc (am_okgf 315 (by decide +kernel) (am_mem 1438 (by decide +kernel))) (
  am_fc (am_okgf 305 (by decide +kernel) (am_mem 1453 (by decide +kernel))) (
  am_fc (am_okgf 132 (by decide +kernel) (am_mem 1407 (by decide +kernel))) (
  am_fc (am_okgf 66 (by decide +kernel) (am_mem 1435 (by decide +kernel))) (
  am_fc (am_okv 336 (by decide +kernel) (by decide) (am_mem 1749 (by decide +kernel)) (am_mem 1751 (by decide +kernel)) (am_mem 68 (by decide +kernel))) (
  am_fc (am_okgf 38 (by decide +kernel) (am_mem 1410 (by decide +kernel))) (
  am_fn))))))))))))))))
def am_t203 : List (Nat × Instr × Nat) := am_p203_0 ++ (am_l203_0)
theorem am_ot203 : ∀ q ∈ am_t203, am_ok 203 q.1 q.2.1 q.2.2 := List.forall_mem_append.mpr ⟨am_op203_0, am_ol203_0⟩
def am_p204_0 : List (Nat × Instr × Nat) := [(0, .aload_n 0, 1), (1, .iload_n 1, 1), (2, .ifCond .lt 15, 3), (5, .iload_n 1, 1), (6, .aload_n 0, 1), (10, .if_icmp .ge 7, 3), (13, .iconst 1, 1), (14, .goto 4, 3), (17, .iconst 0, 1), (18, .iconst 1, 1), (22, .ireturn, 1)]
theorem am_op204_0 : ∀ q ∈ am_p204_0, am_ok 204 q.1 q.2.1 q.2.2 := am_okps (by decide +kernel)
def am_l204_0 : List (Nat × Instr × Nat) := [(7, .getfield 110010, 3), (19, .invokevirtual 158, 3)]
theorem am_ol204_0 : ∀ q ∈ am_l204_0, am_ok 204 q.1 q.2.1 q.2.2 := show ∀ q ∈ ([(7, .getfield 110010, 3), (19, .invokevirtual 158, 3)] : List (Nat × Instr × Nat)), am_ok 204 q.1 q.2.1 q.2.2 from
  am_fc (am_okgf 289 (by decide +kernel) (am_mem 1395 (by decide +kernel))) (
  am_fc (am_okv 282 (by decide +kernel) (by decide) (am_mem 1615 (by decide +kernel)) (am_mem 1617 (by decide +kernel)) (am_mem 43 (by decide +kernel))) (
  am_fn))
def am_t204 : List (Nat × Instr × Nat) := am_p204_0 ++ (am_l204_0)
theorem am_ot204 : ∀ q ∈ am_t204, am_ok 204 q.1 q.2.1 q.2.2 := List.forall_mem_append.mpr ⟨am_op204_0, am_ol204_0⟩
def am_p205_0 : List (Nat × Instr × Nat) := [(0, .aload_n 0, 1), (1, .iload_n 1, 1), (2, .ifCond .lt 15, 3), (5, .iload_n 1, 1), (6, .aload_n 0, 1), (10, .if_icmp .ge 7, 3), (13, .iconst 1, 1), (14, .goto 4, 3), (17, .iconst 0, 1), (18, .iconst 1, 1), (22, .ireturn, 1)]
theorem am_op205_0 : ∀ q ∈ am_p205_0, am_ok 205 q.1 q.2.1 q.2.2 := am_okps (by decide +kernel)
def am_l205_0 : List (Nat × Instr × Nat) := [(7, .getfield 110020, 3), (19, .invokevirtual 158, 3)]
theorem am_ol205_0 : ∀ q ∈ am_l205_0, am_ok 205 q.1 q.2.1 q.2.2 := show ∀ q ∈ ([(7, .getfield 110020, 3), (19, .invokevirtual 158, 3)] : List (Nat × Instr × Nat)), am_ok 205 q.1 q.2.1 q.2.2 from
  am_fc (am_okgf 292 (by decide +kernel) (am_mem 1396 (by decide +kernel))) (
  am_fc (am_okv 282 (by decide +kernel) (by decide) (am_mem 1615 (by decide +kernel)) (am_mem 1617 (by decide +kernel)) (am_mem 43 (by decide +kernel))) (
  am_fn))
def am_t205 : List (Nat × Instr × Nat) := am_p205_0 ++ (am_l205_0)
theorem am_ot205 : ∀ q ∈ am_t205, am_ok 205 q.1 q.2.1 q.2.2 := List.forall_mem_append.mpr ⟨am_op205_0, am_ol205_0⟩
def am_p206_0 : List (Nat × Instr × Nat) := [(0, .aload_n 0, 1), (1, .iload_n 1, 1), (2, .iconst 0, 1), (3, .iload_n 2, 1), (7, .iconst 1, 1), (11, .ireturn, 1)]
theorem am_op206_0 : ∀ q ∈ am_p206_0, am_ok 206 q.1 q.2.1 q.2.2 := am_okps (by decide +kernel)
def am_l206_0 : List (Nat × Instr × Nat) := [(4, .invokestatic 159, 3), (8, .invokevirtual 158, 3)]
theorem am_ol206_0 : ∀ q ∈ am_l206_0, am_ok 206 q.1 q.2.1 q.2.2 := show ∀ q ∈ ([(4, .invokestatic 159, 3), (8, .invokevirtual 158, 3)] : List (Nat × Instr × Nat)), am_ok 206 q.1 q.2.1 q.2.2 from
  am_fc (am_oks 329 (by decide +kernel) (by decide) (am_mem 1743 (by decide +kernel)) (Or.inl (am_mem 1742 (by decide +kernel)))) (
  am_fc (am_okv 282 (by decide +kernel) (by decide) (am_mem 1615 (by decide +kernel)) (am_mem 1617 (by decide +kernel)) (am_mem 43 (by decide +kernel))) (
  am_fn))
def am_t206 : List (Nat × Instr × Nat) := am_p206_0 ++ (am_l206_0)
theorem am_ot206 : ∀ q ∈ am_t206, am_ok 206 q.1 q.2.1 q.2.2 := List.forall_mem_append.mpr ⟨am_op206_0, am_ol206_0⟩
def am_p207_0 : List (Nat × Instr × Nat) := [(0, .aload_n 0, 1), (1, .iconst 0, 1), (5, .aload_n 0, 1), (6, .iload_n 1, 1), (10, .ifCond .eq 12, 3), (13, .aload_n 0, 1), (14, .iload_n 2, 1), (15, .iconst 3, 1), (19, .ifCond .ne 5, 3), (22, .iconst 0, 1), (23, .ireturn, 1), (24, .iload_n 2, 1), (25, .ifCond .ne 14, 3), (28, .aload_n 0, 1), (32, .iconst 1, 1), (33, .iload_n 1, 1), (34, .iadd, 1), (35, .iaload, 1), (36, .goto 46, 3), (39, .iload_n 2, 1), (40, .iconst 1, 1), (41, .if_icmp .ne 15, 3), (44, .aload_n 0, 1), (48, .bipush 7, 2), (50, .iload_n 1, 1), (51, .iadd, 1), (52, .iaload, 1), (53, .goto 29, 3), (56, .iload_n 2, 1), (57, .iconst 2, 1), (58, .if_icmp .ne 15, 3), (61, .aload_n 0, 1), (65, .bipush 13, 2), (67, .iload_n 1, 1), (68, .iadd, 1), (69, .iaload, 1), (70, .goto 12, 3), (73, .aload_n 0, 1), (74, .aload_n 0, 1), (78, .iload_n 1, 1), (82, .ireturn, 1)]
theorem am_op207_0 : ∀ q ∈ am_p207_0, am_ok 207 q.1 q.2.1 q.2.2 := am_okps (by decide +kernel)
def am_l207_0 : List (Nat × Instr × Nat) := [(2, .putfield 110000, 3), (7, .invokevirtual 204, 3), (16, .invokevirtual 206, 3), (29, .getfield 110412, 3), (45, .getfield 110412, 3), (62, .getfield 110412, 3), (75, .getfield 110412, 3), (79, .invokevirtual 200, 3)]
theorem am_ol207_0 : ∀ q ∈ am_l207_0, am_ok 207 q.1 q.2.1 q.2.2 := show ∀ q ∈ ([(2, .putfield 110000, 3), (7, .invokevirtual 204, 3), (16, .invokevirtual 206, 3), (29, .getfield 110412, 3), (45, .getfield 110412, 3), (62, .getfield 110412, 3), (75, .getfield 110412, 3), (79, .invokevirtual 200, 3)] : List (Nat × Instr × Nat)), am_ok 207 q.1 q.2.1 q.2.2 from
  am_fc (am_okpf 129 (by decide +kernel) (am_mem 1394 (by decide +kernel))) (
  am_fc (am_okv 340 (by decide +kernel) (by decide) (am_mem 1767 (by decide +kernel)) (am_mem 1769 (by decide +kernel)) (am_mem 70 (by decide +kernel))) (
  am_fc (am_okv 343 (by decide +kernel) (by decide) (am_mem 1771 (by decide +kernel)) (am_mem 1773 (by decide +kernel)) (am_mem 71 (by decide +kernel))) (
  am_fc (am_okgf 66 (by decide +kernel) (am_mem 1435 (by decide +kernel))) (
  am_fc (am_okgf 66 (by decide +kernel) (am_mem 1435 (by decide +kernel))) (
  am_fc (am_okgf 66 (by decide +kernel) (am_mem 1435 (by decide +kernel))) (
  am_fc (am_okgf 66 (by decide +kernel) (am_mem 1435 (by decide +kernel))) (
  am_fc (am_okv 322 (by decide +kernel) (by decide) (am_mem 1753 (by decide +kernel)) (am_mem 1755 (by decide +kernel)) (am_mem 69 (by decide +kernel))) (
  am_fn))))))))
def am_t207 : List (Nat × Instr × Nat) := am_p207_0 ++ (am_l207_0)
theorem am_ot207 : ∀ q ∈ am_t207, am_ok 207 q.1 q.2.1 q.2.2 := List.forall_mem_append.mpr ⟨am_op207_0, am_ol207_0⟩
def am_p208_0 : List (Nat × Instr × Nat) := [(0, .aload_n 0, 1), (1, .iconst 0, 1), (5, .aload_n 0, 1), (6, .iload_n 1, 1), (10, .ifCond .eq 13, 3), (13, .aload_n 0, 1), (14, .iload_n 2, 1), (15, .bipush 6, 2), (20, .ifCond .ne 5, 3), (23, .iconst 0, 1), (24, .ireturn, 1), (25, .iload_n 2, 1), (26, .iconst 3, 1), (27, .if_icmp .ne 15, 3), (30, .aload_n 0, 1), (31, .aload_n 0, 1), (35, .iload_n 1, 1), (39, .goto 25, 3), (42, .aload_n 0, 1), (46, .bipush 6, 2), (48, .iload_n 1, 1), (49, .imul, 1), (50, .iload_n 2, 1), (51, .iconst 3, 1), (52, .if_icmp .ge 7, 3), (55, .iload_n 2, 1), (56, .goto 6, 3), (59, .iload_n 2, 1), (60, .iconst 1, 1), (61, .isub, 1), (62, .iadd, 1), (63, .iaload, 1), (64, .ireturn, 1)]
theorem am_op208_0 : ∀ q ∈ am_p208_0, am_ok 208 q.1 q.2.1 q.2.2 := am_okps (by decide +kernel)
def am_l208_0 : List (Nat × Instr × Nat) := [(2, .putfield 110000, 3), (7, .invokevirtual 205, 3), (17, .invokevirtual 206, 3), (32, .getfield 110412, 3), (36, .invokevirtual 201, 3), (43, .getfield 110062, 3)]
theorem am_ol208_0 : ∀ q ∈ am_l208_0, am_ok 208 q.1 q.2.1 q.2.2 := show ∀ q ∈ ([(2, .putfield 110000, 3), (7, .invokevirtual 205, 3), (17, .invokevirtual 206, 3), (32, .getfield 110412, 3), (36, .invokevirtual 201, 3), (43, .getfield 110062, 3)] : List (Nat × Instr × Nat)), am_ok 208 q.1 q.2.1 q.2.2 from
  am_fc (am_okpf 129 (by decide +kernel) (am_mem 1394 (by decide +kernel))) (
  am_fc (am_okv 347 (by decide +kernel) (by decide) (am_mem 1779 (by decide +kernel)) (am_mem 1781 (by decide +kernel)) (am_mem 72 (by decide +kernel))) (
  am_fc (am_okv 343 (by decide +kernel) (by decide) (am_mem 1771 (by decide +kernel)) (am_mem 1773 (by decide +kernel)) (am_mem 71 (by decide +kernel))) (
  am_fc (am_okgf 66 (by decide +kernel) (am_mem 1435 (by decide +kernel))) (
  am_fc (am_okv 350 (by decide +kernel) (by decide) (am_mem 1783 (by decide +kernel)) (am_mem 1785 (by decide +kernel)) (am_mem 73 (by decide +kernel))) (
  am_fc (am_okgf 13 (by decide +kernel) (am_mem 1400 (by decide +kernel))) (
  am_fn))))))
def am_t208 : List (Nat × Instr × Nat) := am_p208_0 ++ (am_l208_0)
theorem am_ot208 : ∀ q ∈ am_t208, am_ok 208 q.1 q.2.1 q.2.2 := List.forall_mem_append.mpr ⟨am_op208_0, am_ol208_0⟩
def am_p209_0 : List (Nat × Instr × Nat) := [(0, .aload_n 0, 1), (1, .iconst 0, 1), (5, .aload_n 0, 1), (6, .iload_n 1, 1), (10, .ifCond .eq 11, 3), (13, .aload_n 0, 1), (14, .iload_n 2, 1), (18, .ifCond .ne 5, 3), (21, .iconst 0, 1), (22, .ireturn, 1), (23, .aload_n 0, 1), (27, .bipush 19, 2), (29, .bipush 10, 2), (31, .iload_n 1, 1), (32, .imul, 1), (33, .iadd, 1), (34, .iload_n 2, 1), (35, .iadd, 1), (36, .iaload, 1), (37, .istore_n 3, 1), (38, .iload_n 3, 1), (39, .iconst (-1), 1), (40, .if_icmp .eq 28, 3), (43, .aload_n 0, 1), (47, .bipush 79, 2), (49, .bipush 10, 2), (51, .iload_n 1, 1), (52, .imul, 1), (53, .iadd, 1), (54, .iload_n 2, 1), (55, .iadd, 1), (56, .iaload, 1), (57, .iconst 1, 1), (58, .if_icmp .ne 10, 3), (61, .bipush (-2), 2), (63, .iload_n 3, 1), (64, .isub, 1), (65, .goto 4, 3), (68, .iload_n 3, 1), (69, .ireturn, 1)]
theorem am_op209_0 : ∀ q ∈ am_p209_0, am_ok 209 q.1 q.2.1 q.2.2 := am_okps (by decide +kernel)
def am_l209_0 : List (Nat × Instr × Nat) := [(2, .putfield 110000, 3), (7, .invokevirtual 204, 3), (15, .invokevirtual 205, 3), (24, .getfield 110412, 3), (44, .getfield 110412, 3)]
theorem am_ol209_0 : ∀ q ∈ am_l209_0, am_ok 209 q.1 q.2.1 q.2.2 := show ∀ q ∈ ([(2, .putfield 110000, 3), (7, .invokevirtual 204, 3), (15, .invokevirtual 205, 3), (24, .getfield 110412, 3), (44, .getfield 110412, 3)] : List (Nat × Instr × Nat)), am_ok 209 q.1 q.2.1 q.2.2 from
  am_fc (am_okpf 129 (by decide +kernel) (am_mem 1394 (by decide +kernel))) (
  am_fc (am_okv 340 (by decide +kernel) (by decide) (am_mem 1767 (by decide +kernel)) (am_mem 1769 (by decide +kernel)) (am_mem 70 (by decide +kernel))) (
  am_fc (am_okv 347 (by decide +kernel) (by decide) (am_mem 1779 (by decide +kernel)) (am_mem 1781 (by decide +kernel)) (am_mem 72 (by decide +kernel))) (
  am_fc (am_okgf 66 (by decide +kernel) (am_mem 1435 (by decide +kernel))) (
  am_fc (am_okgf 66 (by decide +kernel) (am_mem 1435 (by decide +kernel))) (
  am_fn)))))
def am_t209 : List (Nat × Instr × Nat) := am_p209_0 ++ (am_l209_0)
theorem am_ot209 : ∀ q ∈ am_t209, am_ok 209 q.1 q.2.1 q.2.2 := List.forall_mem_append.mpr ⟨am_op209_0, am_ol209_0⟩
def am_p210_0 : List (Nat × Instr × Nat) := [(0, .iload_n 0, 1), (1, .tableswitch 105 4 10 #[43, 57, 71, 82, 93, 97, 101], 43), (44, .iload_n 1, 1), (45, .ifCond .eq 11, 3), (48, .iload_n 2, 1), (49, .ifCond .eq 7, 3), (52, .iconst 1, 1), (53, .goto 4, 3), (56, .iconst 0, 1), (57, .ireturn, 1), (58, .iload_n 1, 1), (59, .ifCond .ne 7, 3), (62, .iload_n 2, 1), (63, .ifCond .eq 7, 3), (66, .iconst 1, 1), (67, .goto 4, 3), (70, .iconst 0, 1), (71, .ireturn, 1), (72, .iload_n 1, 1), (73, .iload_n 2, 1), (74, .if_icmp .ge 7, 3), (77, .iconst 1, 1), (78, .goto 4, 3), (81, .iconst 0, 1), (82, .ireturn, 1), (83, .iload_n 1, 1), (84, .iload_n 2, 1), (85, .if_icmp .ne 7, 3), (88, .iconst 1, 1), (89, .goto 4, 3), (92, .iconst 0, 1), (93, .ireturn, 1), (94, .iload_n 1, 1), (95, .iload_n 2, 1), (96, .iadd, 1), (97, .ireturn, 1), (98, .iload_n 1, 1), (99, .iload_n 2, 1), (100, .isub, 1), (101, .ireturn, 1), (102, .iload_n 1, 1), (103, .iload_n 2, 1), (104, .imul, 1), (105, .ireturn, 1), (106, .iload_n 2, 1), (107, .ifCond .ne 7, 3), (110, .iconst 0, 1), (111, .goto 6, 3), (114, .iload_n 1, 1), (115, .iload_n 2, 1), (116, .idiv, 1), (117, .ireturn, 1)]
theorem am_op210_0 : ∀ q ∈ am_p210_0, am_ok 210 q.1 q.2.1 q.2.2 := am_okps (by decide +kernel)
def am_t210 : List (Nat × Instr × Nat) := am_p210_0
theorem am_ot210 : ∀ q ∈ am_t210, am_ok 210 q.1 q.2.1 q.2.2 := am_op210_0
def am_p211_0 : List (Nat × Instr × Nat) := [(0, .iconst 0, 1), (1, .istore_n 1, 1), (2, .aload_n 0, 1), (6, .istore_n 2, 1), (7, .aload_n 0, 1), (11, .iload_n 2, 1), (12, .iaload, 1), (13, .ifCond .eq 127, 3), (16, .aload_n 0, 1), (20, .iload_n 2, 1), (21, .iaload, 1), (22, .istore_n 3, 1), (23, .iinc 2 1, 3), (26, .iload_n 3, 1), (27, .iconst 1, 1), (28, .if_icmp .eq 8, 3), (31, .iload_n 3, 1), (32, .iconst 2, 1), (33, .if_icmp .ne 43, 3), (36, .aload_n 0, 1), (40, .iload_n 1, 1), (41, .iload_n 3, 1), (42, .iconst 1, 1), (43, .if_icmp .ne 12, 3), (46, .aload_n 0, 1), (50, .iload_n 2, 1), (51, .iaload, 1), (52, .goto 14, 3), (55, .aload_n 0, 1), (59, .aload_n 0, 1), (63, .iload_n 2, 1), (64, .iaload, 1), (65, .iaload, 1), (66, .iastore, 1), (67, .iinc 2 1, 3), (70, .iinc 1 1, 3), (73, .goto 64, 3), (76, .iload_n 3, 1), (77, .iconst 3, 1), (78, .if_icmp .ne 30, 3), (81, .aload_n 0, 1), (85, .iload_n 1, 1), (86, .iconst 1, 1), (87, .isub, 1), (88, .aload_n 0, 1), (92, .iload_n 1, 1), (93, .iconst 1, 1), (94, .isub, 1), (95, .iaload, 1), (96, .ifCond .ne 7, 3), (99, .iconst 1, 1), (100, .goto 4, 3), (103, .iconst 0, 1), (104, .iastore, 1), (105, .goto 32, 3), (108, .iinc 1 (-1), 3), (111, .aload_n 0, 1), (115, .iload_n 1, 1), (116, .iconst 1, 1), (117, .isub, 1), (118, .iload_n 3, 1), (119, .aload_n 0, 1), (123, .iload_n 1, 1), (124, .iconst 1, 1), (125, .isub, 1), (126, .iaload, 1), (127, .aload_n 0, 1), (131, .iload_n 1, 1), (132, .iaload, 1), (136, .iastore, 1), (137, .goto (-130), 3), (140, .aload_n 0, 1), (144, .iconst 0, 1), (145, .iaload, 1), (146, .ireturn, 1)]
theorem am_op211_0 : ∀ q ∈ am_p211_0, am_ok 211 q.1 q.2.1 q.2.2 := am_okps (by decide +kernel)
def am_l211_0 : List (Nat × Instr × Nat) := [(3, .getfield 110050, 3), (8, .getfield 110112, 3), (17, .getfield 110112, 3), (37, .getfield 110462, 3), (47, .getfield 110112, 3), (56, .getfield 110452, 3), (60, .getfield 110112, 3), (82, .getfield 110462, 3), (89, .getfield 110462, 3), (112, .getfield 110462, 3), (120, .getfield 110462, 3), (128, .getfield 110462, 3), (133, .invokestatic 210, 3), (141, .getfield 110462, 3)]
theorem am_ol211_0 : ∀ q ∈ am_l211_0, am_ok 211 q.1 q.2.1 q.2.2 := show ∀ q ∈ ([(3, .getfield 110050, 3), (8, .getfield 110112, 3), (17, .getfield 110112, 3), (37, .getfield 110462, 3), (47, .getfield 110112, 3), (56, .getfield 110452, 3), (60, .getfield 110112, 3), (82, .getfield 110462, 3), (89, .getfield 110462, 3), (112, .getfield 110462, 3), (120, .getfield 110462, 3), (128, .getfield 110462, 3), (133, .invokestatic 210, 3), (141, .getfield 110462, 3)] : List (Nat × Instr × Nat)), am_ok 211 q.1 q.2.1 q.2.2 from
  am_fc (am_okgf 9 (by decide +kernel) (am_mem 1399 (by decide +kernel))) (
  am_fc (am_okgf 29 (by decide +kernel) (am_mem 1405 (by decide +kernel))) (
  am_fc (am_okgf 29 (by decide +kernel) (am_mem 1405 (by decide +kernel))) (
  am_fc (am_okgf 78 (by decide +kernel) (am_mem 1440 (by decide +kernel))) (
  am_fc (am_okgf 29 (by decide +kernel) (am_mem 1405 (by decide +kernel))) (
  am_fc (am_okgf 75 (by decide +kernel) (am_mem 1439 (by decide +kernel))) (
  am_fc (am_okgf 29 (by decide +kernel) (am_mem 1405 (by decide +kernel))) (
  am_fc (am_okgf 78 (by decide +kernel) (am_mem 1440 (by decide +kernel))) (
  am_fc (am_okgf 78 (by decide +kernel) (am_mem 1440 (by decide +kernel))) (
  am_fc (am_okgf 78 (by decide +kernel) (am_mem 1440 (by decide +kernel))) (
  am_fc (am_okgf 78 (by decide +kernel) (am_mem 1440 (by decide +kernel))) (
  am_fc (am_okgf 78 (by decide +kernel) (am_mem 1440 (by decide +kernel))) (
  am_fc (am_oks 353 (by decide +kernel) (by decide) (am_mem 1840 (by decide +kernel)) (Or.inl (am_mem 1839 (by decide +kernel)))) (
  am_fc (am_okgf 78 (by decide +kernel) (am_mem 1440 (by decide +kernel))) (
  am_fn))))))))))))))
def am_t211 : List (Nat × Instr × Nat) := am_p211_0 ++ (am_l211_0)
theorem am_ot211 : ∀ q ∈ am_t211, am_ok 211 q.1 q.2.1 q.2.2 := List.forall_mem_append.mpr ⟨am_op211_0, am_ol211_0⟩
def am_p212_0 : List (Nat × Instr × Nat) := [(0, .iconst 2, 1), (1, .iload 4, 2), (3, .imul, 1), (4, .istore 7, 2), (6, .aload_n 0, 1), (10, .iconst (-1), 1), (11, .if_icmp .eq 96, 3), (14, .aload_n 0, 1), (18, .iconst 0, 1), (19, .iload 4, 2), (21, .iastore, 1), (22, .aload_n 0, 1), (26, .iconst 1, 1), (27, .aload_n 0, 1), (31, .bipush 6, 2), (33, .iload_n 3, 1), (34, .imul, 1), (35, .iconst 1, 1), (36, .iadd, 1), (37, .iaload, 1), (38, .iastore, 1), (39, .aload_n 0, 1), (43, .iconst 2, 1), (44, .aload_n 1, 1), (45, .iconst 0, 1), (46, .iaload, 1), (47, .aload_n 0, 1), (51, .bipush 6, 2), (53, .iload_n 3, 1), (54, .imul, 1), (55, .iaload, 1), (56, .isub, 1), (57, .iastore, 1), (58, .aload_n 0, 1), (62, .iconst 3, 1), (63, .aload_n 1, 1), (64, .bipush 79, 2), (66, .bipush 10, 2), (68, .iload_n 2, 1), (69, .imul, 1), (70, .iadd, 1), (71, .iload_n 3, 1), (72, .iadd, 1), (73, .iaload, 1), (74, .iastore, 1), (75, .aload_n 0, 1), (79, .iconst 4, 1), (80, .iload 5, 2), (82, .iastore, 1), (83, .aload_n 0, 1), (87, .iconst 5, 1), (88, .iload 6, 2), (90, .iastore, 1), (91, .aload_n 0, 1), (95, .bipush 6, 2), (97, .aload_n 1, 1), (98, .iconst 0, 1), (99, .iaload, 1), (100, .iastore, 1), (101, .aload_n 0, 1), (105, .istore 7, 2), (107, .iload 7, 2), (109, .ifCond .ge 7, 3), (112, .iconst 0, 1), (113, .goto 17, 3), (116, .iload 7, 2), (118, .bipush 99, 2), (120, .if_icmp .le 8, 3), (123, .bipush 99, 2), (125, .goto 5, 3), (128, .iload 7, 2), (130, .ireturn, 1)]
theorem am_op212_0 : ∀ q ∈ am_p212_0, am_ok 212 q.1 q.2.1 q.2.2 := am_okps (by decide +kernel)
def am_l212_0 : List (Nat × Instr × Nat) := [(7, .getfield 110050, 3), (15, .getfield 110452, 3), (23, .getfield 110452, 3), (28, .getfield 110062, 3), (40, .getfield 110452, 3), (48, .getfield 110062, 3), (59, .getfield 110452, 3), (76, .getfield 110452, 3), (84, .getfield 110452, 3), (92, .getfield 110452, 3), (102, .invokevirtual 211, 3)]
theorem am_ol212_0 : ∀ q ∈ am_l212_0, am_ok 212 q.1 q.2.1 q.2.2 := show ∀ q ∈ ([(7, .getfield 110050, 3), (15, .getfield 110452, 3), (23, .getfield 110452, 3), (28, .getfield 110062, 3), (40, .getfield 110452, 3), (48, .getfield 110062, 3), (59, .getfield 110452, 3), (76, .getfield 110452, 3), (84, .getfield 110452, 3), (92, .getfield 110452, 3), (102, .invokevirtual 211, 3)] : List (Nat × Instr × Nat)), am_ok 212 q.1 q.2.1 q.2.2 from
  am_fc (am_okgf 9 (by decide +kernel) (am_mem 1399 (by decide +kernel))) (
  am_fc (am_okgf 75 (by decide +kernel) (am_mem 1439 (by decide +kernel))) (
  am_fc (am_okgf 75 (by decide +kernel) (am_mem 1439 (by decide +kernel))) (
  am_fc (am_okgf 13 (by decide +kernel) (am_mem 1400 (by decide +kernel))) (
  am_fc (am_okgf 75 (by decide +kernel) (am_mem 1439 (by decide +kernel))) (
  am_fc (am_okgf 13 (by decide +kernel) (am_mem 1400 (by decide +kernel))) (
  am_fc (am_okgf 75 (by decide +kernel) (am_mem 1439 (by decide +kernel))) (
  am_fc (am_okgf 75 (by decide +kernel) (am_mem 1439 (by decide +kernel))) (
  am_fc (am_okgf 75 (by decide +kernel) (am_mem 1439 (by decide +kernel))) (
  am_fc (am_okgf 75 (by decide +kernel) (am_mem 1439 (by decide +kernel))) (
  am_fc (am_okv 357 (by decide +kernel) (by decide) (am_mem 1835 (by decide +kernel)) (am_mem 1837 (by decide +kernel)) (am_mem 81 (by decide +kernel))) (
  am_fn)))))))))))
def am_t212 : List (Nat × Instr × Nat) := am_p212_0 ++ (am_l212_0)
theorem am_ot212 : ∀ q ∈ am_t212, am_ok 212 q.1 q.2.1 q.2.2 := List.forall_mem_append.mpr ⟨am_op212_0, am_ol212_0⟩
def am_p213_0 : List (Nat × Instr × Nat) := [(0, .aload_n 0, 1), (1, .aload_n 1, 1), (2, .iload_n 2, 1), (9, .istore 5, 2), (11, .iconst 0, 1), (12, .istore 6, 2), (14, .iload 6, 2), (16, .aload_n 0, 1), (20, .if_icmp .ge 72, 3), (23, .aload_n 1, 1), (24, .iload_n 2, 1), (25, .iload 6, 2), (30, .ifCond .ne 6, 3), (33, .goto 53, 3), (36, .aload_n 1, 1), (37, .iconst 0, 1), (38, .iaload, 1), (39, .aload_n 0, 1), (40, .aload_n 1, 1), (41, .iload_n 2, 1), (42, .iload 6, 2), (44, .iload_n 3, 1), (45, .iload 5, 2), (47, .iload 4, 2), (52, .iadd, 1), (53, .istore 7, 2), (55, .iload 7, 2), (57, .aload_n 1, 1), (58, .bipush 19, 2), (60, .bipush 10, 2), (62, .iload_n 2, 1), (63, .imul, 1), (64, .iadd, 1), (65, .iload 6, 2), (67, .iadd, 1), (68, .iaload, 1), (69, .if_icmp .le 17, 3), (72, .aload_n 1, 1), (73, .bipush 19, 2), (75, .bipush 10, 2), (77, .iload_n 2, 1), (78, .imul, 1), (79, .iadd, 1), (80, .iload 6, 2), (82, .iadd, 1), (83, .iload 7, 2), (85, .iastore, 1), (86, .iinc 6 1, 3), (89, .goto (-75), 3), (92, .return_, 1)]
theorem am_op213_0 : ∀ q ∈ am_p213_0, am_ok 213 q.1 q.2.1 q.2.2 := am_okps (by decide +kernel)
def am_l213_0 : List (Nat × Instr × Nat) := [(3, .invokevirtual 200, 3), (6, .invokestatic 161, 3), (17, .getfield 110020, 3), (27, .invokestatic 199, 3), (49, .invokevirtual 212, 3)]
theorem am_ol213_0 : ∀ q ∈ am_l213_0, am_ok 213 q.1 q.2.1 q.2.2 := show ∀ q ∈ ([(3, .invokevirtual 200, 3), (6, .invokestatic 161, 3), (17, .getfield 110020, 3), (27, .invokestatic 199, 3), (49, .invokevirtual 212, 3)] : List (Nat × Instr × Nat)), am_ok 213 q.1 q.2.1 q.2.2 from
  am_fc (am_okv 322 (by decide +kernel) (by decide) (am_mem 1753 (by decide +kernel)) (am_mem 1755 (by decide +kernel)) (am_mem 69 (by decide +kernel))) (
  am_fc (am_oks 326 (by decide +kernel) (by decide) (am_mem 1761 (by decide +kernel)) (Or.inl (am_mem 1760 (by decide +kernel)))) (
  am_fc (am_okgf 292 (by decide +kernel) (am_mem 1396 (by decide +kernel))) (
  am_fc (am_oks 318 (by decide +kernel) (by decide) (am_mem 1758 (by decide +kernel)) (Or.inl (am_mem 1757 (by decide +kernel)))) (
  am_fc (am_okv 360 (by decide +kernel) (by decide) (am_mem 1831 (by decide +kernel)) (am_mem 1833 (by decide +kernel)) (am_mem 80 (by decide +kernel))) (
  am_fn)))))
def am_t213 : List (Nat × Instr × Nat) := am_p213_0 ++ (am_l213_0)
theorem am_ot213 : ∀ q ∈ am_t213, am_ok 213 q.1 q.2.1 q.2.2 := List.forall_mem_append.mpr ⟨am_op213_0, am_ol213_0⟩
def am_p214_0 : List (Nat × Instr × Nat) := [(0, .iconst 0, 1), (1, .istore_n 3, 1), (2, .iconst 0, 1), (3, .istore 4, 2), (5, .iload 4, 2), (7, .aload_n 0, 1), (11, .if_icmp .ge 69, 3), (14, .aload_n 1, 1), (15, .iload_n 2, 1), (16, .iload 4, 2), (21, .ifCond .eq 53, 3), (24, .aload_n 1, 1), (25, .bipush 19, 2), (27, .bipush 10, 2), (29, .iload_n 2, 1), (30, .imul, 1), (31, .iadd, 1), (32, .iload 4, 2), (34, .iadd, 1), (35, .iaload, 1), (36, .aload_n 1, 1), (37, .iconst 0, 1), (38, .iaload, 1), (39, .if_icmp .lt 6, 3), (42, .goto 32, 3), (45, .aload_n 1, 1), (46, .bipush 19, 2), (48, .bipush 10, 2), (50, .iload_n 2, 1), (51, .imul, 1), (52, .iadd, 1), (53, .iload 4, 2), (55, .iadd, 1), (56, .iconst (-1), 1), (57, .iastore, 1), (58, .aload_n 1, 1), (59, .bipush 79, 2), (61, .bipush 10, 2), (63, .iload_n 2, 1), (64, .imul, 1), (65, .iadd, 1), (66, .iload 4, 2), (68, .iadd, 1), (69, .iconst 0, 1), (70, .iastore, 1), (71, .iinc 3 1, 3), (74, .iinc 4 1, 3), (77, .goto (-72), 3), (80, .iload_n 3, 1), (81, .ireturn, 1)]
theorem am_op214_0 : ∀ q ∈ am_p214_0, am_ok 214 q.1 q.2.1 q.2.2 := am_okps (by decide +kernel)
def am_l214_0 : List (Nat × Instr × Nat) := [(8, .getfield 110020, 3), (18, .invokestatic 199, 3)]
theorem am_ol214_0 : ∀ q ∈ am_l214_0, am_ok 214 q.1 q.2.1 q.2.2 := show ∀ q ∈ ([(8, .getfield 110020, 3), (18, .invokestatic 199, 3)] : List (Nat × Instr × Nat)), am_ok 214 q.1 q.2.1 q.2.2 from
  am_fc (am_okgf 292 (by decide +kernel) (am_mem 1396 (by decide +kernel))) (
  am_fc (am_oks 318 (by decide +kernel) (by decide) (am_mem 1758 (by decide +kernel)) (Or.inl (am_mem 1757 (by decide +kernel)))) (
  am_fn))
def am_t214 : List (Nat × Instr × Nat) := am_p214_0 ++ (am_l214_0)
theorem am_ot214 : ∀ q ∈ am_t214, am_ok 214 q.1 q.2.1 q.2.2 := List.forall_mem_append.mpr ⟨am_op214_0, am_ol214_0⟩
def am_p215_0 : List (Nat × Instr × Nat) := [(0, .aload_n 0, 1), (1, .aload_n 1, 1), (2, .iconst 0, 1), (3, .iaload, 1), (7, .istore_n 2, 1), (8, .iconst 0, 1), (9, .istore_n 3, 1), (10, .iload_n 3, 1), (11, .iconst 4, 1), (12, .if_icmp .ge 23, 3), (15, .aload_n 0, 1), (19, .iload_n 3, 1), (20, .iconst 0, 1), (21, .iastore, 1), (22, .aload_n 0, 1), (26, .iload_n 3, 1), (27, .iconst 0, 1), (28, .iastore, 1), (29, .iinc 3 1, 3), (32, .goto (-22), 3), (35, .iconst 0, 1), (36, .istore_n 3, 1), (37, .iload_n 3, 1), (38, .aload_n 0, 1), (42, .if_icmp .ge 105, 3), (45, .iload_n 3, 1), (46, .aload_n 0, 1), (50, .if_icmp .eq 11, 3), (53, .aload_n 0, 1), (57, .iconst (-1), 1), (58, .if_icmp .eq 7, 3), (61, .iconst 0, 1), (62, .goto 9, 3), (65, .aload_n 1, 1), (66, .bipush 13, 2), (68, .iload_n 3, 1), (69, .iadd, 1), (70, .iaload, 1), (71, .istore 4, 2), (73, .iload_n 2, 1), (74, .ifCond .le 24, 3), (77, .iload 4, 2), (79, .aload_n 1, 1), (80, .iconst 1, 1), (81, .iload_n 3, 1), (82, .iadd, 1), (83, .iaload, 1), (84, .iload_n 2, 1), (85, .idiv, 1), (86, .if_icmp .le 12, 3), (89, .aload_n 1, 1), (90, .iconst 1, 1), (91, .iload_n 3, 1), (92, .iadd, 1), (93, .iaload, 1), (94, .iload_n 2, 1), (95, .idiv, 1), (96, .istore 4, 2), (98, .aload_n 1, 1), (99, .iconst 1, 1), (100, .iload_n 3, 1), (101, .iadd, 1), (102, .dup2, 1), (103, .iaload, 1), (104, .iload 4, 2), (106, .iload_n 2, 1), (107, .imul, 1), (108, .isub, 1), (109, .iastore, 1), (110, .aload_n 0, 1), (114, .aload_n 1, 1), (115, .bipush 7, 2), (117, .iload_n 3, 1), (118, .iadd, 1), (119, .iaload, 1), (120, .dup2, 1), (121, .iaload, 1), (122, .iload 4, 2), (124, .iadd, 1), (125, .iastore, 1), (126, .aload_n 0, 1), (130, .aload_n 1, 1), (131, .bipush 7, 2), (133, .iload_n 3, 1), (134, .iadd, 1), (135, .iaload, 1), (136, .dup2, 1), (137, .iaload, 1), (138, .iconst 1, 1), (139, .iadd, 1), (140, .iastore, 1), (141, .iinc 3 1, 3), (144, .goto (-107), 3), (147, .iconst 0, 1), (148, .istore_n 3, 1), (149, .iload_n 3, 1), (150, .aload_n 0, 1), (154, .if_icmp .ge 105, 3), (157, .aload_n 0, 1), (161, .bipush 6, 2), (163, .iload_n 3, 1), (164, .imul, 1), (165, .iaload, 1), (166, .aload_n 1, 1), (167, .iconst 0, 1), (168, .iaload, 1), (169, .if_icmp .eq 6, 3), (172, .goto 81, 3), (175, .iconst 0, 1), (176, .istore 4, 2), (178, .iload 4, 2), (180, .aload_n 0, 1), (184, .if_icmp .ge 69, 3), (187, .aload_n 0, 1), (191, .bipush 6, 2), (193, .iload_n 3, 1), (194, .imul, 1), (195, .iconst 2, 1), (196, .iadd, 1), (197, .iaload, 1)]
theorem am_op215_0 : ∀ q ∈ am_p215_0, am_ok 215 q.1 q.2.1 q.2.2 := am_okps (by decide +kernel)
def am_p215_1 : List (Nat × Instr × Nat) := [(198, .iload 4, 2), (200, .ishr, 1), (201, .iconst 1, 1), (202, .iand, 1), (203, .ifCond .ne 6, 3), (206, .goto 41, 3), (209, .aload_n 1, 1), (210, .iload 4, 2), (212, .iload_n 3, 1), (216, .ifCond .ne 18, 3), (219, .aload_n 1, 1), (220, .bipush 19, 2), (222, .bipush 10, 2), (224, .iload 4, 2), (226, .imul, 1), (227, .iadd, 1), (228, .iload_n 3, 1), (229, .iadd, 1), (230, .aload_n 1, 1), (231, .iconst 0, 1), (232, .iaload, 1), (233, .iastore, 1), (234, .aload_n 1, 1), (235, .bipush 79, 2), (237, .bipush 10, 2), (239, .iload 4, 2), (241, .imul, 1), (242, .iadd, 1), (243, .iload_n 3, 1), (244, .iadd, 1), (245, .iconst 0, 1), (246, .iastore, 1), (247, .iinc 4 1, 3), (250, .goto (-72), 3), (253, .iinc 3 1, 3), (256, .goto (-107), 3), (259, .iconst 0, 1), (260, .istore_n 3, 1), (261, .iload_n 3, 1), (262, .aload_n 0, 1), (266, .if_icmp .ge 87, 3), (269, .aload_n 1, 1), (270, .bipush 7, 2), (272, .iload_n 3, 1), (273, .iadd, 1), (274, .iaload, 1), (275, .istore 4, 2), (277, .aload_n 0, 1), (281, .iconst (-1), 1), (282, .if_icmp .eq 25, 3), (285, .aload_n 0, 1), (286, .aload_n 1, 1), (287, .iload_n 3, 1), (288, .aload_n 0, 1), (292, .aload_n 0, 1), (296, .idiv, 1), (297, .aload_n 0, 1), (304, .goto 43, 3), (307, .aload_n 0, 1), (308, .aload_n 1, 1), (309, .iload_n 3, 1), (310, .iload_n 3, 1), (311, .aload_n 0, 1), (315, .if_icmp .ne 7, 3), (318, .iconst 0, 1), (319, .goto 18, 3), (322, .aload_n 0, 1), (326, .iload 4, 2), (328, .iaload, 1), (329, .aload_n 0, 1), (333, .iload 4, 2), (335, .iaload, 1), (336, .idiv, 1), (337, .aload_n 0, 1), (341, .iload 4, 2), (343, .iaload, 1), (347, .iinc 3 1, 3), (350, .goto (-89), 3), (353, .return_, 1)]
theorem am_op215_1 : ∀ q ∈ am_p215_1, am_ok 215 q.1 q.2.1 q.2.2 := am_okps (by decide +kernel)
def am_l215_0 : List (Nat × Instr × Nat) := [(4, .invokevirtual 198, 3), (16, .getfield 110472, 3), (23, .getfield 110482, 3), (39, .getfield 110010, 3), (47, .getfield 110490, 3), (54, .getfield 110500, 3), (111, .getfield 110472, 3), (127, .getfield 110482, 3), (151, .getfield 110020, 3), (158, .getfield 110062, 3), (181, .getfield 110010, 3), (188, .getfield 110062, 3), (213, .invokestatic 199, 3), (263, .getfield 110010, 3), (278, .getfield 110500, 3), (289, .getfield 110500, 3), (293, .getfield 110010, 3), (298, .getfield 110010, 3), (301, .invokevirtual 213, 3), (312, .getfield 110490, 3), (323, .getfield 110472, 3), (330, .getfield 110482, 3), (338, .getfield 110482, 3), (344, .invokevirtual 213, 3)]
theorem am_ol215_0 : ∀ q ∈ am_l215_0, am_ok 215 q.1 q.2.1 q.2.2 := show ∀ q ∈ ([(4, .invokevirtual 198, 3), (16, .getfield 110472, 3), (23, .getfield 110482, 3), (39, .getfield 110010, 3), (47, .getfield 110490, 3), (54, .getfield 110500, 3), (111, .getfield 110472, 3), (127, .getfield 110482, 3), (151, .getfield 110020, 3), (158, .getfield 110062, 3), (181, .getfield 110010, 3), (188, .getfield 110062, 3), (213, .invokestatic 199, 3), (263, .getfield 110010, 3), (278, .getfield 110500, 3), (289, .getfield 110500, 3), (293, .getfield 110010, 3), (298, .getfield 110010, 3), (301, .invokevirtual 213, 3), (312, .getfield 110490, 3), (323, .getfield 110472, 3), (330, .getfield 110482, 3), (338, .getfield 110482, 3), (344, .invokevirtual 213, 3)] : List (Nat × Instr × Nat)), am_ok 215 q.1 q.2.1 q.2.2 from
  am_fc (am_okv 333 (by decide +kernel) (by decide) (am_mem 1745 (by decide +kernel)) (am_mem 1747 (by decide +kernel)) (am_mem 67 (by decide +kernel))) (
  am_fc (am_okgf 81 (by decide +kernel) (am_mem 1441 (by decide +kernel))) (
  am_fc (am_okgf 84 (by decide +kernel) (am_mem 1442 (by decide +kernel))) (
  am_fc (am_okgf 289 (by decide +kernel) (am_mem 1395 (by decide +kernel))) (
  am_fc (am_okgf 87 (by decide +kernel) (am_mem 1443 (by decide +kernel))) (
  am_fc (am_okgf 90 (by decide +kernel) (am_mem 1444 (by decide +kernel))) (
  am_fc (am_okgf 81 (by decide +kernel) (am_mem 1441 (by decide +kernel))) (
  am_fc (am_okgf 84 (by decide +kernel) (am_mem 1442 (by decide +kernel))) (
  am_fc (am_okgf 292 (by decide +kernel) (am_mem 1396 (by decide +kernel))) (
  am_fc (am_okgf 13 (by decide +kernel) (am_mem 1400 (by decide +kernel))) (
  am_fc (am_okgf 289 (by decide +kernel) (am_mem 1395 (by decide +kernel))) (
  am_fc (am_okgf 13 (by decide +kernel) (am_mem 1400 (by decide +kernel))) (
  am_fc (am_oks 318 (by decide +kernel) (by decide) (am_mem 1758 (by decide +kernel)) (Or.inl (am_mem 1757 (by decide +kernel)))) (
  am_fc (am_okgf 289 (by decide +kernel) (am_mem 1395 (by decide +kernel))) (
  am_fc (am_okgf 90 (by decide +kernel) (am_mem 1444 (by decide +kernel))) (
  am_fc (am_okgf 90 (by decide +kernel) (am_mem 1444 (by decide +kernel))) (
  am_fc (am_okgf 289 (by decide +kernel) (am_mem 1395 (by decide +kernel))) (
  am_fc (am_okgf 289 (by decide +kernel) (am_mem 1395 (by decide +kernel))) (
  am_fc (am_okv 364 (by decide +kernel) (by decide) (am_mem 1827 (by decide +kernel)) (am_mem 1829 (by decide +kernel)) (am_mem 79 (by decide +kernel))) (
  am_fc (am_okgf 87 (by decide +kernel) (am_mem 1443 (by decide +kernel))) (
  am_fc (am_okgf 81 (by decide +kernel) (am_mem 1441 (by decide +kernel))) (
  am_fc (am_okgf 84 (by decide +kernel) (am_mem 1442 (by decide +kernel))) (
  am_fc (am_okgf 84 (by decide +kernel) (am_mem 1442 (by decide +kernel))) (
  am_fc (am_okv 364 (by decide +kernel) (by decide) (am_mem 1827 (by decide +kernel)) (am_mem 1829 (by decide +kernel)) (am_mem 79 (by decide +kernel))) (
  am_fn))))))))))))))))))))))))
def am_t215 : List (Nat × Instr × Nat) := am_p215_0 ++ (am_p215_1 ++ (am_l215_0))
theorem am_ot215 : ∀ q ∈ am_t215, am_ok 215 q.1 q.2.1 q.2.2 := List.forall_mem_append.mpr ⟨am_op215_0, List.forall_mem_append.mpr ⟨am_op215_1, am_ol215_0⟩⟩
