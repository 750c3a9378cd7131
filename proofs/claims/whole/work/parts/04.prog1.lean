/-! The resolved instructions of the methods, by program, and that they stand there. -/
def am_p81_0 : List (Nat × Instr × Nat) := [(0, .aload_n 0, 1), (4, .aload_n 0, 1), (5, .bipush 6, 2), (7, .newarray .int, 2), (12, .aload_n 0, 1), (13, .bipush 6, 2), (15, .newarray .int, 2), (20, .aload_n 0, 1), (21, .bipush 10, 2), (23, .newarray .int, 2), (28, .aload_n 0, 1), (29, .bipush 10, 2), (31, .newarray .int, 2), (36, .aload_n 0, 1), (37, .bipush 10, 2), (39, .newarray .int, 2), (44, .aload_n 0, 1), (45, .bipush 10, 2), (47, .newarray .int, 2), (52, .aload_n 0, 1), (53, .bipush 10, 2), (55, .newarray .int, 2), (60, .aload_n 0, 1), (61, .bipush 10, 2), (63, .newarray .int, 2), (68, .aload_n 0, 1), (69, .bipush 10, 2), (71, .newarray .int, 2), (76, .aload_n 0, 1), (77, .bipush 10, 2), (79, .newarray .int, 2), (84, .aload_n 0, 1), (85, .bipush 8, 2), (87, .newarray .int, 2), (92, .aload_n 0, 1), (93, .bipush 8, 2), (95, .newarray .int, 2), (100, .aload_n 0, 1), (104, .dup, 1), (111, .return_, 1)]
theorem am_op81_0 : ∀ q ∈ am_p81_0, am_ok 81 q.1 q.2.1 q.2.2 := am_okps (by decide +kernel)
def am_l81_0 : List (Nat × Instr × Nat) := [(1, .invokespecial 1000, 3), (9, .putfield 80052, 3), (17, .putfield 80062, 3), (25, .putfield 80072, 3), (33, .putfield 80082, 3), (41, .putfield 80092, 3), (49, .putfield 80102, 3), (57, .putfield 80112, 3), (65, .putfield 80122, 3), (73, .putfield 80132, 3), (81, .putfield 80142, 3), (89, .putfield 80152, 3), (97, .putfield 80162, 3), (101, .new 7, 3), (105, .invokespecial 68, 3), (108, .putfield 80172, 3)]
theorem am_ol81_0 : ∀ q ∈ am_l81_0, am_ok 81 q.1 q.2.1 q.2.2 := show ∀ q ∈ ([(1, .invokespecial 1000, 3), (9, .putfield 80052, 3), (17, .putfield 80062, 3), (25, .putfield 80072, 3), (33, .putfield 80082, 3), (41, .putfield 80092, 3), (49, .putfield 80102, 3), (57, .putfield 80112, 3), (65, .putfield 80122, 3), (73, .putfield 80132, 3), (81, .putfield 80142, 3), (89, .putfield 80152, 3), (97, .putfield 80162, 3), (101, .new 7, 3), (105, .invokespecial 68, 3), (108, .putfield 80172, 3)] : List (Nat × Instr × Nat)), am_ok 81 q.1 q.2.1 q.2.2 from
  am_fc (am_oki0 3 (by decide +kernel) (am_mem 204 (by decide +kernel))) (
  am_fc (am_okpf 9 (by decide +kernel) (am_mem 247 (by decide +kernel))) (
  am_fc (am_okpf 15 (by decide +kernel) (am_mem 250 (by decide +kernel))) (
  am_fc (am_okpf 18 (by decide +kernel) (am_mem 253 (by decide +kernel))) (
  am_fc (am_okpf 21 (by decide +kernel) (am_mem 257 (by decide +kernel))) (
  am_fc (am_okpf 24 (by decide +kernel) (am_mem 261 (by decide +kernel))) (
  am_fc (am_okpf 27 (by decide +kernel) (am_mem 265 (by decide +kernel))) (
  am_fc (am_okpf 30 (by decide +kernel) (am_mem 268 (by decide +kernel))) (
  am_fc (am_okpf 33 (by decide +kernel) (am_mem 271 (by decide +kernel))) (
  am_fc (am_okpf 36 (by decide +kernel) (am_mem 274 (by decide +kernel))) (
  am_fc (am_okpf 39 (by decide +kernel) (am_mem 277 (by decide +kernel))) (
  am_fc (am_okpf 42 (by decide +kernel) (am_mem 280 (by decide +kernel))) (
  am_fc (am_okpf 45 (by decide +kernel) (am_mem 282 (by decide +kernel))) (
  am_fc (am_okn 48 (by decide) (by decide +kernel) (am_mem 205 (by decide +kernel))) (
  am_fc (am_oki 50 (by decide +kernel) (by decide) (by decide +kernel) (am_mem 208 (by decide +kernel)) (Or.inr ⟨"SaltMinds", (am_mem 207 (by decide +kernel))⟩)) (
  am_fc (am_okpf 51 (by decide +kernel) (am_mem 284 (by decide +kernel))) (
  am_fn))))))))))))))))
def am_t81 : List (Nat × Instr × Nat) := am_p81_0 ++ (am_l81_0)
theorem am_ot81 : ∀ q ∈ am_t81, am_ok 81 q.1 q.2.1 q.2.2 := List.forall_mem_append.mpr ⟨am_op81_0, am_ol81_0⟩
def am_p82_0 : List (Nat × Instr × Nat) := [(0, .aload_n 0, 1), (1, .iconst 0, 1), (5, .aload_n 0, 1), (6, .iconst 0, 1), (10, .aload_n 0, 1), (11, .iconst 0, 1), (15, .aload_n 0, 1), (16, .iconst 0, 1), (20, .aload_n 0, 1), (21, .iconst 0, 1), (25, .aload_n 0, 1), (32, .return_, 1)]
theorem am_op82_0 : ∀ q ∈ am_p82_0, am_ok 82 q.1 q.2.1 q.2.2 := am_okps (by decide +kernel)
def am_l82_0 : List (Nat × Instr × Nat) := [(2, .putfield 80000, 3), (7, .putfield 80010, 3), (12, .putfield 80020, 3), (17, .putfield 80030, 3), (22, .putfield 80041, 3), (26, .getfield 80172, 3), (29, .invokevirtual 72, 3)]
theorem am_ol82_0 : ∀ q ∈ am_l82_0, am_ok 82 q.1 q.2.1 q.2.2 := show ∀ q ∈ ([(2, .putfield 80000, 3), (7, .putfield 80010, 3), (12, .putfield 80020, 3), (17, .putfield 80030, 3), (22, .putfield 80041, 3), (26, .getfield 80172, 3), (29, .invokevirtual 72, 3)] : List (Nat × Instr × Nat)), am_ok 82 q.1 q.2.1 q.2.2 from
  am_fc (am_okpf 55 (by decide +kernel) (am_mem 230 (by decide +kernel))) (
  am_fc (am_okpf 59 (by decide +kernel) (am_mem 234 (by decide +kernel))) (
  am_fc (am_okpf 62 (by decide +kernel) (am_mem 238 (by decide +kernel))) (
  am_fc (am_okpf 65 (by decide +kernel) (am_mem 241 (by decide +kernel))) (
  am_fc (am_okpf 68 (by decide +kernel) (am_mem 244 (by decide +kernel))) (
  am_fc (am_okgf 51 (by decide +kernel) (am_mem 284 (by decide +kernel))) (
  am_fc (am_okv 72 (by decide +kernel) (by decide) (am_mem 782 (by decide +kernel)) (am_mem 783 (by decide +kernel)) (am_mem 784 (by decide +kernel))) (
  am_fn)))))))
def am_t82 : List (Nat × Instr × Nat) := am_p82_0 ++ (am_l82_0)
theorem am_ot82 : ∀ q ∈ am_t82, am_ok 82 q.1 q.2.1 q.2.2 := List.forall_mem_append.mpr ⟨am_op82_0, am_ol82_0⟩
def am_p83_0 : List (Nat × Instr × Nat) := [(0, .iconst 1, 1), (1, .aload_n 0, 1), (5, .ishl, 1), (6, .iconst 1, 1), (7, .isub, 1), (8, .ireturn, 1)]
theorem am_op83_0 : ∀ q ∈ am_p83_0, am_ok 83 q.1 q.2.1 q.2.2 := am_okps (by decide +kernel)
def am_l83_0 : List (Nat × Instr × Nat) := [(2, .getfield 80010, 3)]
theorem am_ol83_0 : ∀ q ∈ am_l83_0, am_ok 83 q.1 q.2.1 q.2.2 := show ∀ q ∈ ([(2, .getfield 80010, 3)] : List (Nat × Instr × Nat)), am_ok 83 q.1 q.2.1 q.2.2 from
  am_fc (am_okgf 59 (by decide +kernel) (am_mem 234 (by decide +kernel))) (
  am_fn)
def am_t83 : List (Nat × Instr × Nat) := am_p83_0 ++ (am_l83_0)
theorem am_ot83 : ∀ q ∈ am_t83, am_ok 83 q.1 q.2.1 q.2.2 := List.forall_mem_append.mpr ⟨am_op83_0, am_ol83_0⟩
def am_p84_0 : List (Nat × Instr × Nat) := [(0, .iconst 0, 1), (1, .istore_n 2, 1), (2, .iconst 0, 1), (3, .istore_n 3, 1), (4, .iload_n 3, 1), (5, .aload_n 0, 1), (9, .if_icmp .ge 26, 3), (12, .iload_n 1, 1), (13, .iload_n 3, 1), (17, .ifCond .eq 12, 3), (20, .iload_n 2, 1), (21, .aload_n 0, 1), (25, .iload_n 3, 1), (26, .iaload, 1), (27, .iadd, 1), (28, .istore_n 2, 1), (29, .iinc 3 1, 3), (32, .goto (-28), 3), (35, .iload_n 2, 1), (36, .ireturn, 1)]
theorem am_op84_0 : ∀ q ∈ am_p84_0, am_ok 84 q.1 q.2.1 q.2.2 := am_okps (by decide +kernel)
def am_l84_0 : List (Nat × Instr × Nat) := [(6, .getfield 80010, 3), (14, .invokestatic 145, 3), (22, .getfield 80082, 3)]
theorem am_ol84_0 : ∀ q ∈ am_l84_0, am_ok 84 q.1 q.2.1 q.2.2 := show ∀ q ∈ ([(6, .getfield 80010, 3), (14, .invokestatic 145, 3), (22, .getfield 80082, 3)] : List (Nat × Instr × Nat)), am_ok 84 q.1 q.2.1 q.2.2 from
  am_fc (am_okgf 59 (by decide +kernel) (am_mem 234 (by decide +kernel))) (
  am_fc (am_oks 75 (by decide +kernel) (by decide) (am_mem 573 (by decide +kernel)) (Or.inr ⟨"SaltMinds", (am_mem 1191 (by decide +kernel))⟩)) (
  am_fc (am_okgf 21 (by decide +kernel) (am_mem 257 (by decide +kernel))) (
  am_fn)))
def am_t84 : List (Nat × Instr × Nat) := am_p84_0 ++ (am_l84_0)
theorem am_ot84 : ∀ q ∈ am_t84, am_ok 84 q.1 q.2.1 q.2.2 := List.forall_mem_append.mpr ⟨am_op84_0, am_ol84_0⟩
def am_p85_0 : List (Nat × Instr × Nat) := [(0, .iconst 0, 1), (1, .istore_n 2, 1), (2, .iload_n 2, 1), (3, .aload_n 0, 1), (7, .if_icmp .ge 21, 3), (10, .aload_n 0, 1), (14, .iload_n 2, 1), (15, .iaload, 1), (16, .iload_n 1, 1), (17, .if_icmp .ne 5, 3), (20, .iconst 1, 1), (21, .ireturn, 1), (22, .iinc 2 1, 3), (25, .goto (-23), 3), (28, .iconst 0, 1), (29, .ireturn, 1)]
theorem am_op85_0 : ∀ q ∈ am_p85_0, am_ok 85 q.1 q.2.1 q.2.2 := am_okps (by decide +kernel)
def am_l85_0 : List (Nat × Instr × Nat) := [(4, .getfield 80030, 3), (11, .getfield 80152, 3)]
theorem am_ol85_0 : ∀ q ∈ am_l85_0, am_ok 85 q.1 q.2.1 q.2.2 := show ∀ q ∈ ([(4, .getfield 80030, 3), (11, .getfield 80152, 3)] : List (Nat × Instr × Nat)), am_ok 85 q.1 q.2.1 q.2.2 from
  am_fc (am_okgf 65 (by decide +kernel) (am_mem 241 (by decide +kernel))) (
  am_fc (am_okgf 42 (by decide +kernel) (am_mem 280 (by decide +kernel))) (
  am_fn))
def am_t85 : List (Nat × Instr × Nat) := am_p85_0 ++ (am_l85_0)
theorem am_ot85 : ∀ q ∈ am_t85, am_ok 85 q.1 q.2.1 q.2.2 := List.forall_mem_append.mpr ⟨am_op85_0, am_ol85_0⟩
def am_p86_0 : List (Nat × Instr × Nat) := [(0, .iconst (-1), 1), (1, .istore_n 2, 1), (2, .iconst 5, 1), (3, .istore_n 3, 1), (4, .iconst 0, 1), (5, .istore 4, 2), (7, .iload 4, 2), (9, .aload_n 0, 1), (13, .if_icmp .ge 47, 3), (16, .aload_n 0, 1), (20, .iload 4, 2), (22, .iaload, 1), (23, .iload_n 1, 1), (24, .if_icmp .gt 30, 3), (27, .aload_n 0, 1), (31, .iload 4, 2), (33, .iaload, 1), (34, .iload_n 2, 1), (35, .if_icmp .le 19, 3), (38, .aload_n 0, 1), (42, .iload 4, 2), (44, .iaload, 1), (45, .istore_n 2, 1), (46, .aload_n 0, 1), (50, .iload 4, 2), (52, .iaload, 1), (53, .istore_n 3, 1), (54, .iinc 4 1, 3), (57, .goto (-50), 3), (60, .iload_n 3, 1), (61, .ireturn, 1)]
theorem am_op86_0 : ∀ q ∈ am_p86_0, am_ok 86 q.1 q.2.1 q.2.2 := am_okps (by decide +kernel)
def am_l86_0 : List (Nat × Instr × Nat) := [(10, .getfield 80030, 3), (17, .getfield 80152, 3), (28, .getfield 80152, 3), (39, .getfield 80152, 3), (47, .getfield 80162, 3)]
theorem am_ol86_0 : ∀ q ∈ am_l86_0, am_ok 86 q.1 q.2.1 q.2.2 := show ∀ q ∈ ([(10, .getfield 80030, 3), (17, .getfield 80152, 3), (28, .getfield 80152, 3), (39, .getfield 80152, 3), (47, .getfield 80162, 3)] : List (Nat × Instr × Nat)), am_ok 86 q.1 q.2.1 q.2.2 from
  am_fc (am_okgf 65 (by decide +kernel) (am_mem 241 (by decide +kernel))) (
  am_fc (am_okgf 42 (by decide +kernel) (am_mem 280 (by decide +kernel))) (
  am_fc (am_okgf 42 (by decide +kernel) (am_mem 280 (by decide +kernel))) (
  am_fc (am_okgf 42 (by decide +kernel) (am_mem 280 (by decide +kernel))) (
  am_fc (am_okgf 45 (by decide +kernel) (am_mem 282 (by decide +kernel))) (
  am_fn)))))
def am_t86 : List (Nat × Instr × Nat) := am_p86_0 ++ (am_l86_0)
theorem am_ot86 : ∀ q ∈ am_t86, am_ok 86 q.1 q.2.1 q.2.2 := List.forall_mem_append.mpr ⟨am_op86_0, am_ol86_0⟩
def am_p87_0 : List (Nat × Instr × Nat) := [(0, .iconst 0, 1), (1, .istore_n 2, 1), (2, .iconst 0, 1), (3, .istore_n 3, 1), (4, .iload_n 3, 1), (5, .aload_n 0, 1), (9, .if_icmp .ge 51, 3), (12, .aload_n 0, 1), (16, .iload_n 3, 1), (17, .iaload, 1), (18, .iload_n 1, 1), (19, .if_icmp .ne 14, 3), (22, .iload_n 2, 1), (23, .iconst 1, 1), (24, .aload_n 0, 1), (28, .iload_n 3, 1), (29, .iaload, 1), (30, .ishl, 1), (31, .ior, 1), (32, .istore_n 2, 1), (33, .aload_n 0, 1), (37, .iload_n 3, 1), (38, .iaload, 1), (39, .iload_n 1, 1), (40, .if_icmp .ne 14, 3), (43, .iload_n 2, 1), (44, .iconst 1, 1), (45, .aload_n 0, 1), (49, .iload_n 3, 1), (50, .iaload, 1), (51, .ishl, 1), (52, .ior, 1), (53, .istore_n 2, 1), (54, .iinc 3 1, 3), (57, .goto (-53), 3), (60, .iload_n 2, 1), (61, .ireturn, 1)]
theorem am_op87_0 : ∀ q ∈ am_p87_0, am_ok 87 q.1 q.2.1 q.2.2 := am_okps (by decide +kernel)
def am_l87_0 : List (Nat × Instr × Nat) := [(6, .getfield 80020, 3), (13, .getfield 80132, 3), (25, .getfield 80142, 3), (34, .getfield 80142, 3), (46, .getfield 80132, 3)]
theorem am_ol87_0 : ∀ q ∈ am_l87_0, am_ok 87 q.1 q.2.1 q.2.2 := show ∀ q ∈ ([(6, .getfield 80020, 3), (13, .getfield 80132, 3), (25, .getfield 80142, 3), (34, .getfield 80142, 3), (46, .getfield 80132, 3)] : List (Nat × Instr × Nat)), am_ok 87 q.1 q.2.1 q.2.2 from
  am_fc (am_okgf 62 (by decide +kernel) (am_mem 238 (by decide +kernel))) (
  am_fc (am_okgf 36 (by decide +kernel) (am_mem 274 (by decide +kernel))) (
  am_fc (am_okgf 39 (by decide +kernel) (am_mem 277 (by decide +kernel))) (
  am_fc (am_okgf 39 (by decide +kernel) (am_mem 277 (by decide +kernel))) (
  am_fc (am_okgf 36 (by decide +kernel) (am_mem 274 (by decide +kernel))) (
  am_fn)))))
def am_t87 : List (Nat × Instr × Nat) := am_p87_0 ++ (am_l87_0)
theorem am_ot87 : ∀ q ∈ am_t87, am_ok 87 q.1 q.2.1 q.2.2 := List.forall_mem_append.mpr ⟨am_op87_0, am_ol87_0⟩
def am_p88_0 : List (Nat × Instr × Nat) := [(0, .iload_n 1, 1), (1, .istore_n 3, 1), (2, .iconst 0, 1), (3, .istore 4, 2), (5, .iload 4, 2), (7, .aload_n 0, 1), (11, .if_icmp .ge 34, 3), (14, .iload 4, 2), (16, .aload_n 2, 1), (17, .arraylength, 1), (18, .if_icmp .ge 27, 3), (21, .aload_n 2, 1), (22, .iload 4, 2), (24, .iload_n 1, 1), (25, .iload 4, 2), (30, .ifCond .eq 7, 3), (33, .iconst 0, 1), (34, .goto 4, 3), (37, .iconst (-1), 1), (38, .iastore, 1), (39, .iinc 4 1, 3), (42, .goto (-37), 3), (45, .iconst 1, 1), (46, .istore 4, 2), (48, .iload 4, 2), (50, .bipush 6, 2), (52, .if_icmp .ge 75, 3), (55, .iload_n 3, 1), (56, .istore 5, 2), (58, .iconst 0, 1), (59, .istore 6, 2), (61, .iload 6, 2), (63, .aload_n 0, 1), (67, .if_icmp .ge 51, 3), (70, .iload 6, 2), (72, .aload_n 2, 1), (73, .arraylength, 1), (74, .if_icmp .ge 44, 3), (77, .iload_n 3, 1), (78, .iload 6, 2), (83, .ifCond .ne 29, 3), (86, .aload_n 0, 1), (87, .iload 6, 2), (92, .iload_n 3, 1), (93, .iand, 1), (94, .ifCond .eq 18, 3), (97, .aload_n 2, 1), (98, .iload 6, 2), (100, .iload 4, 2), (102, .iastore, 1), (103, .iload 5, 2), (105, .iconst 1, 1), (106, .iload 6, 2), (108, .ishl, 1), (109, .ior, 1), (110, .istore 5, 2), (112, .iinc 6 1, 3), (115, .goto (-54), 3), (118, .iload 5, 2), (120, .istore_n 3, 1), (121, .iinc 4 1, 3), (124, .goto (-76), 3), (127, .return_, 1)]
theorem am_op88_0 : ∀ q ∈ am_p88_0, am_ok 88 q.1 q.2.1 q.2.2 := am_okps (by decide +kernel)
def am_l88_0 : List (Nat × Instr × Nat) := [(8, .getfield 80000, 3), (27, .invokestatic 145, 3), (64, .getfield 80000, 3), (80, .invokestatic 145, 3), (89, .invokevirtual 87, 3)]
theorem am_ol88_0 : ∀ q ∈ am_l88_0, am_ok 88 q.1 q.2.1 q.2.2 := show ∀ q ∈ ([(8, .getfield 80000, 3), (27, .invokestatic 145, 3), (64, .getfield 80000, 3), (80, .invokestatic 145, 3), (89, .invokevirtual 87, 3)] : List (Nat × Instr × Nat)), am_ok 88 q.1 q.2.1 q.2.2 from
  am_fc (am_okgf 55 (by decide +kernel) (am_mem 230 (by decide +kernel))) (
  am_fc (am_oks 75 (by decide +kernel) (by decide) (am_mem 573 (by decide +kernel)) (Or.inr ⟨"SaltMinds", (am_mem 1191 (by decide +kernel))⟩)) (
  am_fc (am_okgf 55 (by decide +kernel) (am_mem 230 (by decide +kernel))) (
  am_fc (am_oks 75 (by decide +kernel) (by decide) (am_mem 573 (by decide +kernel)) (Or.inr ⟨"SaltMinds", (am_mem 1191 (by decide +kernel))⟩)) (
  am_fc (am_okv 79 (by decide +kernel) (by decide) (am_mem 1228 (by decide +kernel)) (am_mem 904 (by decide +kernel)) (am_mem 905 (by decide +kernel))) (
  am_fn)))))
def am_t88 : List (Nat × Instr × Nat) := am_p88_0 ++ (am_l88_0)
theorem am_ot88 : ∀ q ∈ am_t88, am_ok 88 q.1 q.2.1 q.2.2 := List.forall_mem_append.mpr ⟨am_op88_0, am_ol88_0⟩
def am_p89_0 : List (Nat × Instr × Nat) := [(0, .iload_n 1, 1), (1, .ifCond .lt 20, 3), (4, .iload_n 1, 1), (5, .aload_n 0, 1), (9, .if_icmp .ge 12, 3), (12, .aload_n 0, 1), (16, .iload_n 1, 1), (17, .iaload, 1), (18, .ifCond .ge 5, 3), (21, .iconst 0, 1), (22, .ireturn, 1), (23, .iconst 1, 1), (24, .aload_n 0, 1), (28, .iload_n 1, 1), (29, .iaload, 1), (30, .ishl, 1), (31, .iconst 1, 1), (32, .aload_n 0, 1), (36, .iload_n 1, 1), (37, .iaload, 1), (38, .ishl, 1), (39, .ior, 1), (40, .istore_n 3, 1), (41, .iload_n 2, 1), (42, .iload_n 3, 1), (43, .iconst (-1), 1), (44, .ixor, 1), (45, .iand, 1), (46, .ifCond .ne 10, 3), (49, .iload_n 2, 1), (50, .iload_n 3, 1), (51, .iand, 1), (52, .iload_n 3, 1), (53, .if_icmp .ne 7, 3), (56, .iconst 1, 1), (57, .goto 4, 3), (60, .iconst 0, 1), (61, .ireturn, 1)]
theorem am_op89_0 : ∀ q ∈ am_p89_0, am_ok 89 q.1 q.2.1 q.2.2 := am_okps (by decide +kernel)
def am_l89_0 : List (Nat × Instr × Nat) := [(6, .getfield 80010, 3), (13, .getfield 80102, 3), (25, .getfield 80102, 3), (33, .getfield 80112, 3)]
theorem am_ol89_0 : ∀ q ∈ am_l89_0, am_ok 89 q.1 q.2.1 q.2.2 := show ∀ q ∈ ([(6, .getfield 80010, 3), (13, .getfield 80102, 3), (25, .getfield 80102, 3), (33, .getfield 80112, 3)] : List (Nat × Instr × Nat)), am_ok 89 q.1 q.2.1 q.2.2 from
  am_fc (am_okgf 59 (by decide +kernel) (am_mem 234 (by decide +kernel))) (
  am_fc (am_okgf 27 (by decide +kernel) (am_mem 265 (by decide +kernel))) (
  am_fc (am_okgf 27 (by decide +kernel) (am_mem 265 (by decide +kernel))) (
  am_fc (am_okgf 30 (by decide +kernel) (am_mem 268 (by decide +kernel))) (
  am_fn))))
def am_t89 : List (Nat × Instr × Nat) := am_p89_0 ++ (am_l89_0)
theorem am_ot89 : ∀ q ∈ am_t89, am_ok 89 q.1 q.2.1 q.2.2 := List.forall_mem_append.mpr ⟨am_op89_0, am_ol89_0⟩
def am_p90_0 : List (Nat × Instr × Nat) := [(0, .aload_n 0, 1), (4, .aload_n 0, 1), (5, .sipush 700, 3), (8, .newarray .int, 2), (13, .return_, 1)]
theorem am_op90_0 : ∀ q ∈ am_p90_0, am_ok 90 q.1 q.2.1 q.2.2 := am_okps (by decide +kernel)
def am_l90_0 : List (Nat × Instr × Nat) := [(1, .invokespecial 1000, 3), (10, .putfield 90002, 3)]
theorem am_ol90_0 : ∀ q ∈ am_l90_0, am_ok 90 q.1 q.2.1 q.2.2 := show ∀ q ∈ ([(1, .invokespecial 1000, 3), (10, .putfield 90002, 3)] : List (Nat × Instr × Nat)), am_ok 90 q.1 q.2.1 q.2.2 from
  am_fc (am_oki0 3 (by decide +kernel) (am_mem 147 (by decide +kernel))) (
  am_fc (am_okpf 9 (by decide +kernel) (am_mem 148 (by decide +kernel))) (
  am_fn))
def am_t90 : List (Nat × Instr × Nat) := am_p90_0 ++ (am_l90_0)
theorem am_ot90 : ∀ q ∈ am_t90, am_ok 90 q.1 q.2.1 q.2.2 := List.forall_mem_append.mpr ⟨am_op90_0, am_ol90_0⟩
def am_p91_0 : List (Nat × Instr × Nat) := [(0, .aload_n 0, 1), (4, .iload_n 1, 1), (5, .iadd, 1), (6, .sipush 700, 3), (9, .if_icmp .gt 7, 3), (12, .iconst 1, 1), (13, .goto 4, 3), (16, .iconst 0, 1), (17, .ireturn, 1)]
theorem am_op91_0 : ∀ q ∈ am_p91_0, am_ok 91 q.1 q.2.1 q.2.2 := am_okps (by decide +kernel)
def am_l91_0 : List (Nat × Instr × Nat) := [(1, .getfield 90010, 3)]
theorem am_ol91_0 : ∀ q ∈ am_l91_0, am_ok 91 q.1 q.2.1 q.2.2 := show ∀ q ∈ ([(1, .getfield 90010, 3)] : List (Nat × Instr × Nat)), am_ok 91 q.1 q.2.1 q.2.2 from
  am_fc (am_okgf 15 (by decide +kernel) (am_mem 149 (by decide +kernel))) (
  am_fn)
def am_t91 : List (Nat × Instr × Nat) := am_p91_0 ++ (am_l91_0)
theorem am_ot91 : ∀ q ∈ am_t91, am_ok 91 q.1 q.2.1 q.2.2 := List.forall_mem_append.mpr ⟨am_op91_0, am_ol91_0⟩
def am_p92_0 : List (Nat × Instr × Nat) := [(0, .bipush 24, 2), (2, .istore_n 2, 1), (3, .iload_n 2, 1), (4, .ifCond .lt 52, 3), (7, .aload_n 0, 1), (11, .ifCond .lt 39, 3), (14, .aload_n 0, 1), (18, .sipush 700, 3), (21, .if_icmp .ge 29, 3), (24, .aload_n 0, 1), (28, .aload_n 0, 1), (32, .iload_n 1, 1), (33, .iload_n 2, 1), (34, .ishr, 1), (35, .sipush 255, 3), (38, .iand, 1), (39, .iastore, 1), (40, .aload_n 0, 1), (41, .dup, 1), (45, .iconst 1, 1), (46, .iadd, 1), (50, .iinc 2 (-8), 3), (53, .goto (-50), 3), (56, .return_, 1)]
theorem am_op92_0 : ∀ q ∈ am_p92_0, am_ok 92 q.1 q.2.1 q.2.2 := am_okps (by decide +kernel)
def am_l92_0 : List (Nat × Instr × Nat) := [(8, .getfield 90010, 3), (15, .getfield 90010, 3), (25, .getfield 90002, 3), (29, .getfield 90010, 3), (42, .getfield 90010, 3), (47, .putfield 90010, 3)]
theorem am_ol92_0 : ∀ q ∈ am_l92_0, am_ok 92 q.1 q.2.1 q.2.2 := show ∀ q ∈ ([(8, .getfield 90010, 3), (15, .getfield 90010, 3), (25, .getfield 90002, 3), (29, .getfield 90010, 3), (42, .getfield 90010, 3), (47, .putfield 90010, 3)] : List (Nat × Instr × Nat)), am_ok 92 q.1 q.2.1 q.2.2 from
  am_fc (am_okgf 15 (by decide +kernel) (am_mem 149 (by decide +kernel))) (
  am_fc (am_okgf 15 (by decide +kernel) (am_mem 149 (by decide +kernel))) (
  am_fc (am_okgf 9 (by decide +kernel) (am_mem 148 (by decide +kernel))) (
  am_fc (am_okgf 15 (by decide +kernel) (am_mem 149 (by decide +kernel))) (
  am_fc (am_okgf 15 (by decide +kernel) (am_mem 149 (by decide +kernel))) (
  am_fc (am_okpf 15 (by decide +kernel) (am_mem 149 (by decide +kernel))) (
  am_fn))))))
def am_t92 : List (Nat × Instr × Nat) := am_p92_0 ++ (am_l92_0)
theorem am_ot92 : ∀ q ∈ am_t92, am_ok 92 q.1 q.2.1 q.2.2 := List.forall_mem_append.mpr ⟨am_op92_0, am_ol92_0⟩
def am_p93_0 : List (Nat × Instr × Nat) := [(0, .aload_n 0, 1), (1, .iload_n 1, 1), (5, .aload_n 0, 1), (6, .iconst 0, 1), (10, .aload_n 0, 1), (14, .return_, 1)]
theorem am_op93_0 : ∀ q ∈ am_p93_0, am_ok 93 q.1 q.2.1 q.2.2 := am_okps (by decide +kernel)
def am_l93_0 : List (Nat × Instr × Nat) := [(2, .putfield 90020, 3), (7, .putfield 90050, 3), (11, .invokevirtual 94, 3)]
theorem am_ol93_0 : ∀ q ∈ am_l93_0, am_ok 93 q.1 q.2.1 q.2.2 := show ∀ q ∈ ([(2, .putfield 90020, 3), (7, .putfield 90050, 3), (11, .invokevirtual 94, 3)] : List (Nat × Instr × Nat)), am_ok 93 q.1 q.2.1 q.2.2 from
  am_fc (am_okpf 19 (by decide +kernel) (am_mem 151 (by decide +kernel))) (
  am_fc (am_okpf 22 (by decide +kernel) (am_mem 156 (by decide +kernel))) (
  am_fc (am_okv 25 (by decide +kernel) (by decide) (am_mem 790 (by decide +kernel)) (am_mem 791 (by decide +kernel)) (am_mem 792 (by decide +kernel))) (
  am_fn)))
def am_t93 : List (Nat × Instr × Nat) := am_p93_0 ++ (am_l93_0)
theorem am_ot93 : ∀ q ∈ am_t93, am_ok 93 q.1 q.2.1 q.2.2 := List.forall_mem_append.mpr ⟨am_op93_0, am_ol93_0⟩
def am_p94_0 : List (Nat × Instr × Nat) := [(0, .aload_n 0, 1), (1, .aload_n 0, 1), (8, .iconst 0, 1), (9, .istore_n 1, 1), (10, .iload_n 1, 1), (11, .sipush 700, 3), (14, .if_icmp .ge 33, 3), (17, .aload_n 0, 1), (18, .aload_n 0, 1), (28, .ifCond .eq 19, 3), (31, .aload_n 0, 1), (32, .dup, 1), (36, .iconst 1, 1), (37, .iadd, 1), (41, .iinc 1 1, 3), (44, .goto (-34), 3), (47, .aload_n 0, 1), (48, .aload_n 0, 1), (55, .istore_n 1, 1), (56, .aload_n 0, 1), (57, .aload_n 0, 1), (61, .iconst 1, 1), (62, .iadd, 1), (66, .iload_n 1, 1), (67, .iconst (-1), 1), (68, .if_icmp .ne 19, 3), (71, .aload_n 0, 1), (72, .iconst 0, 1), (76, .aload_n 0, 1), (77, .aload_n 0, 1), (84, .goto 93, 3), (87, .iload_n 1, 1), (91, .ifCond .eq 50, 3), (94, .aload_n 0, 1), (95, .iconst 1, 1), (99, .iconst 0, 1), (100, .istore_n 2, 1), (101, .iload_n 2, 1), (102, .sipush 700, 3), (105, .if_icmp .ge 33, 3), (108, .aload_n 0, 1), (109, .aload_n 0, 1), (119, .ifCond .eq 19, 3), (122, .aload_n 0, 1), (123, .dup, 1), (127, .iconst 1, 1), (128, .iadd, 1), (132, .iinc 2 1, 3), (135, .goto (-34), 3), (138, .goto 39, 3), (141, .iload_n 1, 1), (145, .ifCond .eq 16, 3), (148, .aload_n 0, 1), (149, .iconst 2, 1), (153, .aload_n 0, 1), (154, .iload_n 1, 1), (158, .goto 19, 3), (161, .aload_n 0, 1), (162, .iload_n 1, 1), (166, .ifCond .eq 7, 3), (169, .iconst 3, 1), (170, .goto 4, 3), (173, .iconst 4, 1), (177, .return_, 1)]
theorem am_op94_0 : ∀ q ∈ am_p94_0, am_ok 94 q.1 q.2.1 q.2.2 := am_okps (by decide +kernel)
def am_l94_0 : List (Nat × Instr × Nat) := [(2, .getfield 90050, 3), (5, .putfield 90040, 3), (19, .getfield 90040, 3), (22, .invokevirtual 98, 3), (25, .invokestatic 99, 3), (33, .getfield 90040, 3), (38, .putfield 90040, 3), (49, .getfield 90040, 3), (52, .invokevirtual 98, 3), (58, .getfield 90040, 3), (63, .putfield 90050, 3), (73, .putfield 90030, 3), (78, .getfield 90040, 3), (81, .putfield 90050, 3), (88, .invokestatic 100, 3), (96, .putfield 90030, 3), (110, .getfield 90050, 3), (113, .invokevirtual 98, 3), (116, .invokestatic 100, 3), (124, .getfield 90050, 3), (129, .putfield 90050, 3), (142, .invokestatic 101, 3), (150, .putfield 90030, 3), (155, .invokevirtual 95, 3), (163, .invokestatic 102, 3), (174, .putfield 90030, 3)]
theorem am_ol94_0 : ∀ q ∈ am_l94_0, am_ok 94 q.1 q.2.1 q.2.2 := show ∀ q ∈ ([(2, .getfield 90050, 3), (5, .putfield 90040, 3), (19, .getfield 90040, 3), (22, .invokevirtual 98, 3), (25, .invokestatic 99, 3), (33, .getfield 90040, 3), (38, .putfield 90040, 3), (49, .getfield 90040, 3), (52, .invokevirtual 98, 3), (58, .getfield 90040, 3), (63, .putfield 90050, 3), (73, .putfield 90030, 3), (78, .getfield 90040, 3), (81, .putfield 90050, 3), (88, .invokestatic 100, 3), (96, .putfield 90030, 3), (110, .getfield 90050, 3), (113, .invokevirtual 98, 3), (116, .invokestatic 100, 3), (124, .getfield 90050, 3), (129, .putfield 90050, 3), (142, .invokestatic 101, 3), (150, .putfield 90030, 3), (155, .invokevirtual 95, 3), (163, .invokestatic 102, 3), (174, .putfield 90030, 3)] : List (Nat × Instr × Nat)), am_ok 94 q.1 q.2.1 q.2.2 from
  am_fc (am_okgf 22 (by decide +kernel) (am_mem 156 (by decide +kernel))) (
  am_fc (am_okpf 28 (by decide +kernel) (am_mem 154 (by decide +kernel))) (
  am_fc (am_okgf 28 (by decide +kernel) (am_mem 154 (by decide +kernel))) (
  am_fc (am_okv 31 (by decide +kernel) (by decide) (am_mem 794 (by decide +kernel)) (am_mem 796 (by decide +kernel)) (am_mem 8 (by decide +kernel))) (
  am_fc (am_oks 35 (by decide +kernel) (by decide) (am_mem 799 (by decide +kernel)) (Or.inl (am_mem 798 (by decide +kernel)))) (
  am_fc (am_okgf 28 (by decide +kernel) (am_mem 154 (by decide +kernel))) (
  am_fc (am_okpf 28 (by decide +kernel) (am_mem 154 (by decide +kernel))) (
  am_fc (am_okgf 28 (by decide +kernel) (am_mem 154 (by decide +kernel))) (
  am_fc (am_okv 31 (by decide +kernel) (by decide) (am_mem 794 (by decide +kernel)) (am_mem 796 (by decide +kernel)) (am_mem 8 (by decide +kernel))) (
  am_fc (am_okgf 28 (by decide +kernel) (am_mem 154 (by decide +kernel))) (
  am_fc (am_okpf 22 (by decide +kernel) (am_mem 156 (by decide +kernel))) (
  am_fc (am_okpf 39 (by decide +kernel) (am_mem 153 (by decide +kernel))) (
  am_fc (am_okgf 28 (by decide +kernel) (am_mem 154 (by decide +kernel))) (
  am_fc (am_okpf 22 (by decide +kernel) (am_mem 156 (by decide +kernel))) (
  am_fc (am_oks 42 (by decide +kernel) (by decide) (am_mem 802 (by decide +kernel)) (Or.inl (am_mem 801 (by decide +kernel)))) (
  am_fc (am_okpf 39 (by decide +kernel) (am_mem 153 (by decide +kernel))) (
  am_fc (am_okgf 22 (by decide +kernel) (am_mem 156 (by decide +kernel))) (
  am_fc (am_okv 31 (by decide +kernel) (by decide) (am_mem 794 (by decide +kernel)) (am_mem 796 (by decide +kernel)) (am_mem 8 (by decide +kernel))) (
  am_fc (am_oks 42 (by decide +kernel) (by decide) (am_mem 802 (by decide +kernel)) (Or.inl (am_mem 801 (by decide +kernel)))) (
  am_fc (am_okgf 22 (by decide +kernel) (am_mem 156 (by decide +kernel))) (
  am_fc (am_okpf 22 (by decide +kernel) (am_mem 156 (by decide +kernel))) (
  am_fc (am_oks 45 (by decide +kernel) (by decide) (am_mem 805 (by decide +kernel)) (Or.inl (am_mem 804 (by decide +kernel)))) (
  am_fc (am_okpf 39 (by decide +kernel) (am_mem 153 (by decide +kernel))) (
  am_fc (am_okv 48 (by decide +kernel) (by decide) (am_mem 807 (by decide +kernel)) (am_mem 809 (by decide +kernel)) (am_mem 9 (by decide +kernel))) (
  am_fc (am_oks 52 (by decide +kernel) (by decide) (am_mem 812 (by decide +kernel)) (Or.inl (am_mem 811 (by decide +kernel)))) (
  am_fc (am_okpf 39 (by decide +kernel) (am_mem 153 (by decide +kernel))) (
  am_fn))))))))))))))))))))))))))
def am_t94 : List (Nat × Instr × Nat) := am_p94_0 ++ (am_l94_0)
theorem am_ot94 : ∀ q ∈ am_t94, am_ok 94 q.1 q.2.1 q.2.2 := List.forall_mem_append.mpr ⟨am_op94_0, am_ol94_0⟩
def am_p95_0 : List (Nat × Instr × Nat) := [(0, .aload_n 0, 1), (1, .iload_n 1, 1), (2, .bipush 48, 2), (4, .isub, 1), (8, .iconst 0, 1), (9, .istore_n 2, 1), (10, .iload_n 2, 1), (11, .sipush 700, 3), (14, .if_icmp .ge 75, 3), (17, .aload_n 0, 1), (18, .aload_n 0, 1), (28, .ifCond .eq 61, 3), (31, .aload_n 0, 1), (32, .aload_n 0, 1), (36, .aload_n 0, 1), (40, .isub, 1), (41, .iconst 4, 1), (42, .if_icmp .lt 9, 3), (45, .sipush 10000, 3), (48, .goto 22, 3), (51, .aload_n 0, 1), (55, .bipush 10, 2), (57, .imul, 1), (58, .aload_n 0, 1), (59, .aload_n 0, 1), (66, .iadd, 1), (67, .bipush 48, 2), (69, .isub, 1), (73, .aload_n 0, 1), (74, .dup, 1), (78, .iconst 1, 1), (79, .iadd, 1), (83, .iinc 2 1, 3), (86, .goto (-76), 3), (89, .return_, 1)]
theorem am_op95_0 : ∀ q ∈ am_p95_0, am_ok 95 q.1 q.2.1 q.2.2 := am_okps (by decide +kernel)
def am_l95_0 : List (Nat × Instr × Nat) := [(5, .putfield 90060, 3), (19, .getfield 90050, 3), (22, .invokevirtual 98, 3), (25, .invokestatic 101, 3), (33, .getfield 90050, 3), (37, .getfield 90040, 3), (52, .getfield 90060, 3), (60, .getfield 90050, 3), (63, .invokevirtual 98, 3), (70, .putfield 90060, 3), (75, .getfield 90050, 3), (80, .putfield 90050, 3)]
theorem am_ol95_0 : ∀ q ∈ am_l95_0, am_ok 95 q.1 q.2.1 q.2.2 := show ∀ q ∈ ([(5, .putfield 90060, 3), (19, .getfield 90050, 3), (22, .invokevirtual 98, 3), (25, .invokestatic 101, 3), (33, .getfield 90050, 3), (37, .getfield 90040, 3), (52, .getfield 90060, 3), (60, .getfield 90050, 3), (63, .invokevirtual 98, 3), (70, .putfield 90060, 3), (75, .getfield 90050, 3), (80, .putfield 90050, 3)] : List (Nat × Instr × Nat)), am_ok 95 q.1 q.2.1 q.2.2 from
  am_fc (am_okpf 55 (by decide +kernel) (am_mem 157 (by decide +kernel))) (
  am_fc (am_okgf 22 (by decide +kernel) (am_mem 156 (by decide +kernel))) (
  am_fc (am_okv 31 (by decide +kernel) (by decide) (am_mem 794 (by decide +kernel)) (am_mem 796 (by decide +kernel)) (am_mem 8 (by decide +kernel))) (
  am_fc (am_oks 45 (by decide +kernel) (by decide) (am_mem 805 (by decide +kernel)) (Or.inl (am_mem 804 (by decide +kernel)))) (
  am_fc (am_okgf 22 (by decide +kernel) (am_mem 156 (by decide +kernel))) (
  am_fc (am_okgf 28 (by decide +kernel) (am_mem 154 (by decide +kernel))) (
  am_fc (am_okgf 55 (by decide +kernel) (am_mem 157 (by decide +kernel))) (
  am_fc (am_okgf 22 (by decide +kernel) (am_mem 156 (by decide +kernel))) (
  am_fc (am_okv 31 (by decide +kernel) (by decide) (am_mem 794 (by decide +kernel)) (am_mem 796 (by decide +kernel)) (am_mem 8 (by decide +kernel))) (
  am_fc (am_okpf 55 (by decide +kernel) (am_mem 157 (by decide +kernel))) (
  am_fc (am_okgf 22 (by decide +kernel) (am_mem 156 (by decide +kernel))) (
  am_fc (am_okpf 22 (by decide +kernel) (am_mem 156 (by decide +kernel))) (
  am_fn))))))))))))
def am_t95 : List (Nat × Instr × Nat) := am_p95_0 ++ (am_l95_0)
theorem am_ot95 : ∀ q ∈ am_t95, am_ok 95 q.1 q.2.1 q.2.2 := List.forall_mem_append.mpr ⟨am_op95_0, am_ol95_0⟩
def am_p96_0 : List (Nat × Instr × Nat) := [(0, .aload_n 0, 1), (4, .iconst 1, 1), (5, .if_icmp .ne 19, 3), (8, .aload_n 0, 1), (12, .aload_n 0, 1), (16, .isub, 1), (17, .aload_n 1, 1), (21, .if_icmp .eq 5, 3), (24, .iconst 0, 1), (25, .ireturn, 1), (26, .iconst 0, 1), (27, .istore_n 2, 1), (28, .iload_n 2, 1), (29, .aload_n 1, 1), (33, .if_icmp .ge 29, 3), (36, .aload_n 0, 1), (37, .aload_n 0, 1), (41, .iload_n 2, 1), (42, .iadd, 1), (46, .aload_n 1, 1), (47, .iload_n 2, 1), (51, .if_icmp .eq 5, 3), (54, .iconst 0, 1), (55, .ireturn, 1), (56, .iinc 2 1, 3), (59, .goto (-31), 3), (62, .iconst 1, 1), (63, .ireturn, 1)]
theorem am_op96_0 : ∀ q ∈ am_p96_0, am_ok 96 q.1 q.2.1 q.2.2 := am_okps (by decide +kernel)
def am_l96_0 : List (Nat × Instr × Nat) := [(1, .getfield 90030, 3), (9, .getfield 90050, 3), (13, .getfield 90040, 3), (18, .invokevirtual 1002, 3), (30, .invokevirtual 1002, 3), (38, .getfield 90040, 3), (43, .invokevirtual 98, 3), (48, .invokevirtual 1003, 3)]
theorem am_ol96_0 : ∀ q ∈ am_l96_0, am_ok 96 q.1 q.2.1 q.2.2 := show ∀ q ∈ ([(1, .getfield 90030, 3), (9, .getfield 90050, 3), (13, .getfield 90040, 3), (18, .invokevirtual 1002, 3), (30, .invokevirtual 1002, 3), (38, .getfield 90040, 3), (43, .invokevirtual 98, 3), (48, .invokevirtual 1003, 3)] : List (Nat × Instr × Nat)), am_ok 96 q.1 q.2.1 q.2.2 from
  am_fc (am_okgf 39 (by decide +kernel) (am_mem 153 (by decide +kernel))) (
  am_fc (am_okgf 22 (by decide +kernel) (am_mem 156 (by decide +kernel))) (
  am_fc (am_okgf 28 (by decide +kernel) (am_mem 154 (by decide +kernel))) (
  am_fc (am_okv2 58 (by decide +kernel) (am_mem 819 (by decide +kernel))) (
  am_fc (am_okv2 58 (by decide +kernel) (am_mem 819 (by decide +kernel))) (
  am_fc (am_okgf 28 (by decide +kernel) (am_mem 154 (by decide +kernel))) (
  am_fc (am_okv 31 (by decide +kernel) (by decide) (am_mem 794 (by decide +kernel)) (am_mem 796 (by decide +kernel)) (am_mem 8 (by decide +kernel))) (
  am_fc (am_okv3 63 (by decide +kernel) (am_mem 829 (by decide +kernel))) (
  am_fn))))))))
def am_t96 : List (Nat × Instr × Nat) := am_p96_0 ++ (am_l96_0)
theorem am_ot96 : ∀ q ∈ am_t96, am_ok 96 q.1 q.2.1 q.2.2 := List.forall_mem_append.mpr ⟨am_op96_0, am_ol96_0⟩
def am_p97_0 : List (Nat × Instr × Nat) := [(0, .aload_n 0, 1), (4, .iconst 3, 1), (5, .if_icmp .ne 19, 3), (8, .aload_n 0, 1), (9, .aload_n 0, 1), (16, .iload_n 1, 1), (17, .if_icmp .ne 7, 3), (20, .iconst 1, 1), (21, .goto 4, 3), (24, .iconst 0, 1), (25, .ireturn, 1)]
theorem am_op97_0 : ∀ q ∈ am_p97_0, am_ok 97 q.1 q.2.1 q.2.2 := am_okps (by decide +kernel)
def am_l97_0 : List (Nat × Instr × Nat) := [(1, .getfield 90030, 3), (10, .getfield 90040, 3), (13, .invokevirtual 98, 3)]
theorem am_ol97_0 : ∀ q ∈ am_l97_0, am_ok 97 q.1 q.2.1 q.2.2 := show ∀ q ∈ ([(1, .getfield 90030, 3), (10, .getfield 90040, 3), (13, .invokevirtual 98, 3)] : List (Nat × Instr × Nat)), am_ok 97 q.1 q.2.1 q.2.2 from
  am_fc (am_okgf 39 (by decide +kernel) (am_mem 153 (by decide +kernel))) (
  am_fc (am_okgf 28 (by decide +kernel) (am_mem 154 (by decide +kernel))) (
  am_fc (am_okv 31 (by decide +kernel) (by decide) (am_mem 794 (by decide +kernel)) (am_mem 796 (by decide +kernel)) (am_mem 8 (by decide +kernel))) (
  am_fn)))
def am_t97 : List (Nat × Instr × Nat) := am_p97_0 ++ (am_l97_0)
theorem am_ot97 : ∀ q ∈ am_t97, am_ok 97 q.1 q.2.1 q.2.2 := List.forall_mem_append.mpr ⟨am_op97_0, am_ol97_0⟩
def am_p98_0 : List (Nat × Instr × Nat) := [(0, .iload_n 1, 1), (1, .ifCond .lt 27, 3), (4, .iload_n 1, 1), (5, .aload_n 0, 1), (9, .if_icmp .ge 19, 3), (12, .iload_n 1, 1), (13, .sipush 700, 3), (16, .if_icmp .ge 12, 3), (19, .aload_n 0, 1), (23, .iload_n 1, 1), (24, .iaload, 1), (25, .goto 4, 3), (28, .iconst (-1), 1), (29, .ireturn, 1)]
theorem am_op98_0 : ∀ q ∈ am_p98_0, am_ok 98 q.1 q.2.1 q.2.2 := am_okps (by decide +kernel)
def am_l98_0 : List (Nat × Instr × Nat) := [(6, .getfield 90020, 3), (20, .getfield 90002, 3)]
theorem am_ol98_0 : ∀ q ∈ am_l98_0, am_ok 98 q.1 q.2.1 q.2.2 := show ∀ q ∈ ([(6, .getfield 90020, 3), (20, .getfield 90002, 3)] : List (Nat × Instr × Nat)), am_ok 98 q.1 q.2.1 q.2.2 from
  am_fc (am_okgf 19 (by decide +kernel) (am_mem 151 (by decide +kernel))) (
  am_fc (am_okgf 9 (by decide +kernel) (am_mem 148 (by decide +kernel))) (
  am_fn))
def am_t98 : List (Nat × Instr × Nat) := am_p98_0 ++ (am_l98_0)
theorem am_ot98 : ∀ q ∈ am_t98, am_ok 98 q.1 q.2.1 q.2.2 := List.forall_mem_append.mpr ⟨am_op98_0, am_ol98_0⟩
def am_p99_0 : List (Nat × Instr × Nat) := [(0, .iload_n 0, 1), (1, .bipush 32, 2), (3, .if_icmp .eq 9, 3), (6, .iload_n 0, 1), (7, .bipush 10, 2), (9, .if_icmp .ne 7, 3), (12, .iconst 1, 1), (13, .goto 4, 3), (16, .iconst 0, 1), (17, .ireturn, 1)]
theorem am_op99_0 : ∀ q ∈ am_p99_0, am_ok 99 q.1 q.2.1 q.2.2 := am_okps (by decide +kernel)
def am_t99 : List (Nat × Instr × Nat) := am_p99_0
theorem am_ot99 : ∀ q ∈ am_t99, am_ok 99 q.1 q.2.1 q.2.2 := am_op99_0
def am_p100_0 : List (Nat × Instr × Nat) := [(0, .iload_n 0, 1), (1, .bipush 97, 2), (3, .if_icmp .lt 13, 3), (6, .iload_n 0, 1), (7, .bipush 122, 2), (9, .if_icmp .gt 7, 3), (12, .iconst 1, 1), (13, .goto 4, 3), (16, .iconst 0, 1), (17, .ireturn, 1)]
theorem am_op100_0 : ∀ q ∈ am_p100_0, am_ok 100 q.1 q.2.1 q.2.2 := am_okps (by decide +kernel)
def am_t100 : List (Nat × Instr × Nat) := am_p100_0
theorem am_ot100 : ∀ q ∈ am_t100, am_ok 100 q.1 q.2.1 q.2.2 := am_op100_0
def am_p101_0 : List (Nat × Instr × Nat) := [(0, .iload_n 0, 1), (1, .bipush 48, 2), (3, .if_icmp .lt 13, 3), (6, .iload_n 0, 1), (7, .bipush 57, 2), (9, .if_icmp .gt 7, 3), (12, .iconst 1, 1), (13, .goto 4, 3), (16, .iconst 0, 1), (17, .ireturn, 1)]
theorem am_op101_0 : ∀ q ∈ am_p101_0, am_ok 101 q.1 q.2.1 q.2.2 := am_okps (by decide +kernel)
def am_t101 : List (Nat × Instr × Nat) := am_p101_0
theorem am_ot101 : ∀ q ∈ am_t101, am_ok 101 q.1 q.2.1 q.2.2 := am_op101_0
def am_p102_0 : List (Nat × Instr × Nat) := [(0, .iload_n 0, 1), (1, .bipush 59, 2), (3, .if_icmp .eq 51, 3), (6, .iload_n 0, 1), (7, .bipush 40, 2), (9, .if_icmp .eq 45, 3), (12, .iload_n 0, 1), (13, .bipush 41, 2), (15, .if_icmp .eq 39, 3), (18, .iload_n 0, 1), (19, .bipush 43, 2), (21, .if_icmp .eq 33, 3), (24, .iload_n 0, 1), (25, .bipush 45, 2), (27, .if_icmp .eq 27, 3), (30, .iload_n 0, 1), (31, .bipush 42, 2), (33, .if_icmp .eq 21, 3), (36, .iload_n 0, 1), (37, .bipush 47, 2), (39, .if_icmp .eq 15, 3), (42, .iload_n 0, 1), (43, .bipush 60, 2), (45, .if_icmp .eq 9, 3), (48, .iload_n 0, 1), (49, .bipush 61, 2), (51, .if_icmp .ne 7, 3), (54, .iconst 1, 1), (55, .goto 4, 3), (58, .iconst 0, 1), (59, .ireturn, 1)]
theorem am_op102_0 : ∀ q ∈ am_p102_0, am_ok 102 q.1 q.2.1 q.2.2 := am_okps (by decide +kernel)
def am_t102 : List (Nat × Instr × Nat) := am_p102_0
theorem am_ot102 : ∀ q ∈ am_t102, am_ok 102 q.1 q.2.1 q.2.2 := am_op102_0
def am_p103_0 : List (Nat × Instr × Nat) := [(0, .aload_n 0, 1), (4, .aload_n 0, 1), (8, .dup, 1), (15, .aload_n 0, 1), (19, .dup, 1), (26, .aload_n 0, 1), (30, .dup, 1), (37, .aload_n 0, 1), (41, .dup, 1), (48, .aload_n 0, 1), (52, .dup, 1), (59, .aload_n 0, 1), (63, .dup, 1), (70, .aload_n 0, 1), (74, .dup, 1), (81, .aload_n 0, 1), (85, .dup, 1), (92, .aload_n 0, 1), (96, .dup, 1), (103, .aload_n 0, 1), (107, .dup, 1), (114, .aload_n 0, 1), (115, .iconst 3, 1), (116, .newarray .int, 2), (121, .aload_n 0, 1), (122, .bipush 6, 2), (124, .newarray .int, 2), (129, .aload_n 0, 1), (130, .bipush 6, 2), (132, .newarray .int, 2), (137, .aload_n 0, 1), (141, .dup, 1), (148, .aload_n 0, 1), (152, .dup, 1), (159, .aload_n 0, 1), (163, .dup, 1), (170, .return_, 1)]
theorem am_op103_0 : ∀ q ∈ am_p103_0, am_ok 103 q.1 q.2.1 q.2.2 := am_okps (by decide +kernel)
def am_l103_0 : List (Nat × Instr × Nat) := [(1, .invokespecial 1000, 3), (5, .new 6, 3), (9, .invokespecial 49, 3), (12, .putfield 100002, 3), (16, .new 8, 3), (20, .invokespecial 81, 3), (23, .putfield 100012, 3), (27, .new 8, 3), (31, .invokespecial 81, 3), (34, .putfield 100022, 3), (38, .new 4, 3), (42, .invokespecial 17, 3), (45, .putfield 100032, 3), (49, .new 4, 3), (53, .invokespecial 17, 3), (56, .putfield 100042, 3), (60, .new 2, 3), (64, .invokespecial 7, 3), (67, .putfield 100052, 3), (71, .new 0, 3), (75, .invokespecial 0, 3), (78, .putfield 100062, 3), (82, .new 1, 3), (86, .invokespecial 4, 3), (89, .putfield 100072, 3), (93, .new 5, 3), (97, .invokespecial 44, 3), (100, .putfield 100082, 3), (104, .new 3, 3), (108, .invokespecial 11, 3), (111, .putfield 100092, 3), (118, .putfield 100102, 3), (126, .putfield 100112, 3), (134, .putfield 100122, 3), (138, .new 4, 3), (142, .invokespecial 17, 3), (145, .putfield 100132, 3), (149, .new 2, 3), (153, .invokespecial 7, 3), (156, .putfield 100142, 3)]
theorem am_ol103_0 : ∀ q ∈ am_l103_0, am_ok 103 q.1 q.2.1 q.2.2 := show ∀ q ∈ ([(1, .invokespecial 1000, 3), (5, .new 6, 3), (9, .invokespecial 49, 3), (12, .putfield 100002, 3), (16, .new 8, 3), (20, .invokespecial 81, 3), (23, .putfield 100012, 3), (27, .new 8, 3), (31, .invokespecial 81, 3), (34, .putfield 100022, 3), (38, .new 4, 3), (42, .invokespecial 17, 3), (45, .putfield 100032, 3), (49, .new 4, 3), (53, .invokespecial 17, 3), (56, .putfield 100042, 3), (60, .new 2, 3), (64, .invokespecial 7, 3), (67, .putfield 100052, 3), (71, .new 0, 3), (75, .invokespecial 0, 3), (78, .putfield 100062, 3), (82, .new 1, 3), (86, .invokespecial 4, 3), (89, .putfield 100072, 3), (93, .new 5, 3), (97, .invokespecial 44, 3), (100, .putfield 100082, 3), (104, .new 3, 3), (108, .invokespecial 11, 3), (111, .putfield 100092, 3), (118, .putfield 100102, 3), (126, .putfield 100112, 3), (134, .putfield 100122, 3), (138, .new 4, 3), (142, .invokespecial 17, 3), (145, .putfield 100132, 3), (149, .new 2, 3), (153, .invokespecial 7, 3), (156, .putfield 100142, 3)] : List (Nat × Instr × Nat)), am_ok 103 q.1 q.2.1 q.2.2 from
  am_fc (am_oki0 1 (by decide +kernel) (am_mem 133 (by decide +kernel))) (
  am_fc (am_okn 7 (by decide) (by decide +kernel) (am_mem 136 (by decide +kernel))) (
  am_fc (am_oki 9 (by decide +kernel) (by decide) (by decide +kernel) (am_mem 139 (by decide +kernel)) (Or.inr ⟨"SaltMinds", (am_mem 138 (by decide +kernel))⟩)) (
  am_fc (am_okpf 10 (by decide +kernel) (am_mem 462 (by decide +kernel))) (
  am_fc (am_okn 16 (by decide) (by decide +kernel) (am_mem 199 (by decide +kernel))) (
  am_fc (am_oki 18 (by decide +kernel) (by decide) (by decide +kernel) (am_mem 202 (by decide +kernel)) (Or.inr ⟨"SaltMinds", (am_mem 201 (by decide +kernel))⟩)) (
  am_fc (am_okpf 19 (by decide +kernel) (am_mem 463 (by decide +kernel))) (
  am_fc (am_okn 16 (by decide) (by decide +kernel) (am_mem 199 (by decide +kernel))) (
  am_fc (am_oki 18 (by decide +kernel) (by decide) (by decide +kernel) (am_mem 202 (by decide +kernel)) (Or.inr ⟨"SaltMinds", (am_mem 201 (by decide +kernel))⟩)) (
  am_fc (am_okpf 23 (by decide +kernel) (am_mem 464 (by decide +kernel))) (
  am_fc (am_okn 26 (by decide) (by decide +kernel) (am_mem 324 (by decide +kernel))) (
  am_fc (am_oki 28 (by decide +kernel) (by decide) (by decide +kernel) (am_mem 327 (by decide +kernel)) (Or.inl (am_mem 326 (by decide +kernel)))) (
  am_fc (am_okpf 29 (by decide +kernel) (am_mem 465 (by decide +kernel))) (
  am_fc (am_okn 26 (by decide) (by decide +kernel) (am_mem 324 (by decide +kernel))) (
  am_fc (am_oki 28 (by decide +kernel) (by decide) (by decide +kernel) (am_mem 327 (by decide +kernel)) (Or.inl (am_mem 326 (by decide +kernel)))) (
  am_fc (am_okpf 33 (by decide +kernel) (am_mem 466 (by decide +kernel))) (
  am_fc (am_okn 36 (by decide) (by decide +kernel) (am_mem 358 (by decide +kernel))) (
  am_fc (am_oki 38 (by decide +kernel) (by decide) (by decide +kernel) (am_mem 361 (by decide +kernel)) (Or.inr ⟨"SaltMinds", (am_mem 360 (by decide +kernel))⟩)) (
  am_fc (am_okpf 39 (by decide +kernel) (am_mem 467 (by decide +kernel))) (
  am_fc (am_okn 43 (by decide) (by decide +kernel) (am_mem 372 (by decide +kernel))) (
  am_fc (am_oki 45 (by decide +kernel) (by decide) (by decide +kernel) (am_mem 375 (by decide +kernel)) (Or.inr ⟨"SaltMinds", (am_mem 374 (by decide +kernel))⟩)) (
  am_fc (am_okpf 46 (by decide +kernel) (am_mem 468 (by decide +kernel))) (
  am_fc (am_okn 50 (by decide) (by decide +kernel) (am_mem 393 (by decide +kernel))) (
  am_fc (am_oki 52 (by decide +kernel) (by decide) (by decide +kernel) (am_mem 396 (by decide +kernel)) (Or.inl (am_mem 395 (by decide +kernel)))) (
  am_fc (am_okpf 53 (by decide +kernel) (am_mem 469 (by decide +kernel))) (
  am_fc (am_okn 57 (by decide) (by decide +kernel) (am_mem 420 (by decide +kernel))) (
  am_fc (am_oki 59 (by decide +kernel) (by decide) (by decide +kernel) (am_mem 423 (by decide +kernel)) (Or.inr ⟨"SaltMinds", (am_mem 422 (by decide +kernel))⟩)) (
  am_fc (am_okpf 60 (by decide +kernel) (am_mem 470 (by decide +kernel))) (
  am_fc (am_okn 64 (by decide) (by decide +kernel) (am_mem 444 (by decide +kernel))) (
  am_fc (am_oki 66 (by decide +kernel) (by decide) (by decide +kernel) (am_mem 447 (by decide +kernel)) (Or.inr ⟨"SaltMinds", (am_mem 446 (by decide +kernel))⟩)) (
  am_fc (am_okpf 67 (by decide +kernel) (am_mem 471 (by decide +kernel))) (
  am_fc (am_okpf 71 (by decide +kernel) (am_mem 472 (by decide +kernel))) (
  am_fc (am_okpf 75 (by decide +kernel) (am_mem 473 (by decide +kernel))) (
  am_fc (am_okpf 78 (by decide +kernel) (am_mem 474 (by decide +kernel))) (
  am_fc (am_okn 26 (by decide) (by decide +kernel) (am_mem 324 (by decide +kernel))) (
  am_fc (am_oki 28 (by decide +kernel) (by decide) (by decide +kernel) (am_mem 327 (by decide +kernel)) (Or.inl (am_mem 326 (by decide +kernel)))) (
  am_fc (am_okpf 81 (by decide +kernel) (am_mem 475 (by decide +kernel))) (
  am_fc (am_okn 36 (by decide) (by decide +kernel) (am_mem 358 (by decide +kernel))) (
  am_fc (am_oki 38 (by decide +kernel) (by decide) (by decide +kernel) (am_mem 361 (by decide +kernel)) (Or.inr ⟨"SaltMinds", (am_mem 360 (by decide +kernel))⟩)) (
  am_fc (am_okpf 84 (by decide +kernel) (am_mem 476 (by decide +kernel))) (
  am_fn))))))))))))))))))))))))))))))))))))))))
def am_l103_1 : List (Nat × Instr × Nat) := [(160, .new 0, 3), (164, .invokespecial 0, 3), (167, .putfield 100152, 3)]
theorem am_ol103_1 : ∀ q ∈ am_l103_1, am_ok 103 q.1 q.2.1 q.2.2 := show ∀ q ∈ ([(160, .new 0, 3), (164, .invokespecial 0, 3), (167, .putfield 100152, 3)] : List (Nat × Instr × Nat)), am_ok 103 q.1 q.2.1 q.2.2 from
  am_fc (am_okn 43 (by decide) (by decide +kernel) (am_mem 372 (by decide +kernel))) (
  am_fc (am_oki 45 (by decide +kernel) (by decide) (by decide +kernel) (am_mem 375 (by decide +kernel)) (Or.inr ⟨"SaltMinds", (am_mem 374 (by decide +kernel))⟩)) (
  am_fc (am_okpf 87 (by decide +kernel) (am_mem 477 (by decide +kernel))) (
  am_fn)))
def am_t103 : List (Nat × Instr × Nat) := am_p103_0 ++ (am_l103_0 ++ (am_l103_1))
theorem am_ot103 : ∀ q ∈ am_t103, am_ok 103 q.1 q.2.1 q.2.2 := List.forall_mem_append.mpr ⟨am_op103_0, List.forall_mem_append.mpr ⟨am_ol103_0, am_ol103_1⟩⟩
def am_p104_0 : List (Nat × Instr × Nat) := [(0, .aload_n 0, 1), (7, .astore 6, 2), (9, .aload 6, 2), (11, .bipush 20, 2), (16, .ifCond .ne 5, 3), (19, .iconst (-1), 1), (20, .ireturn, 1), (21, .aload 6, 2), (23, .iload_n 1, 1), (27, .aload 6, 2), (29, .iload_n 2, 1), (33, .aload 6, 2), (35, .iload_n 3, 1), (39, .aload 6, 2), (41, .iload 4, 2), (46, .aload 6, 2), (48, .iload 5, 2), (53, .aload 6, 2), (58, .ireturn, 1)]
theorem am_op104_0 : ∀ q ∈ am_p104_0, am_ok 104 q.1 q.2.1 q.2.2 := am_okps (by decide +kernel)
def am_l104_0 : List (Nat × Instr × Nat) := [(1, .getfield 100002, 3), (4, .getfield 60002, 3), (13, .invokevirtual 91, 3), (24, .invokevirtual 92, 3), (30, .invokevirtual 92, 3), (36, .invokevirtual 92, 3), (43, .invokevirtual 92, 3), (50, .invokevirtual 92, 3), (55, .getfield 90010, 3)]
theorem am_ol104_0 : ∀ q ∈ am_l104_0, am_ok 104 q.1 q.2.1 q.2.2 := show ∀ q ∈ ([(1, .getfield 100002, 3), (4, .getfield 60002, 3), (13, .invokevirtual 91, 3), (24, .invokevirtual 92, 3), (30, .invokevirtual 92, 3), (36, .invokevirtual 92, 3), (43, .invokevirtual 92, 3), (50, .invokevirtual 92, 3), (55, .getfield 90010, 3)] : List (Nat × Instr × Nat)), am_ok 104 q.1 q.2.1 q.2.2 from
  am_fc (am_okgf 10 (by decide +kernel) (am_mem 462 (by decide +kernel))) (
  am_fc (am_okgf 90 (by decide +kernel) (am_mem 176 (by decide +kernel))) (
  am_fc (am_okv 94 (by decide +kernel) (by decide) (am_mem 518 (by decide +kernel)) (am_mem 519 (by decide +kernel)) (am_mem 520 (by decide +kernel))) (
  am_fc (am_okv 100 (by decide +kernel) (by decide) (am_mem 522 (by decide +kernel)) (am_mem 523 (by decide +kernel)) (am_mem 524 (by decide +kernel))) (
  am_fc (am_okv 100 (by decide +kernel) (by decide) (am_mem 522 (by decide +kernel)) (am_mem 523 (by decide +kernel)) (am_mem 524 (by decide +kernel))) (
  am_fc (am_okv 100 (by decide +kernel) (by decide) (am_mem 522 (by decide +kernel)) (am_mem 523 (by decide +kernel)) (am_mem 524 (by decide +kernel))) (
  am_fc (am_okv 100 (by decide +kernel) (by decide) (am_mem 522 (by decide +kernel)) (am_mem 523 (by decide +kernel)) (am_mem 524 (by decide +kernel))) (
  am_fc (am_okv 100 (by decide +kernel) (by decide) (am_mem 522 (by decide +kernel)) (am_mem 523 (by decide +kernel)) (am_mem 524 (by decide +kernel))) (
  am_fc (am_okgf 104 (by decide +kernel) (am_mem 150 (by decide +kernel))) (
  am_fn)))))))))
def am_t104 : List (Nat × Instr × Nat) := am_p104_0 ++ (am_l104_0)
theorem am_ot104 : ∀ q ∈ am_t104, am_ok 104 q.1 q.2.1 q.2.2 := List.forall_mem_append.mpr ⟨am_op104_0, am_ol104_0⟩
def am_p105_0 : List (Nat × Instr × Nat) := [(0, .iload_n 1, 1), (1, .ifCond .lt 17, 3), (4, .iload_n 1, 1), (5, .aload_n 0, 1), (15, .if_icmp .le 13, 3), (28, .aload_n 0, 1), (32, .iload_n 1, 1), (33, .aload_n 0, 1), (40, .istore_n 2, 1), (41, .aload_n 0, 1), (48, .iconst 0, 1), (52, .iload_n 2, 1), (53, .ifCond .eq 15, 3), (56, .aload_n 0, 1), (60, .iconst 0, 1), (61, .dup2, 1), (62, .iaload, 1), (63, .iconst 1, 1), (64, .iadd, 1), (65, .iastore, 1), (66, .iload_n 2, 1), (67, .ireturn, 1), (68, .aload_n 0, 1), (72, .astore_n 3, 1), (73, .aload_n 0, 1), (74, .aload_n 0, 1), (81, .aload_n 0, 1), (82, .aload_n 3, 1), (86, .aload_n 0, 1), (90, .aload_n 0, 1), (97, .aload_n 0, 1), (101, .iconst 0, 1), (105, .aload_n 0, 1), (109, .iconst 0, 1), (113, .aload_n 0, 1), (117, .iconst 0, 1), (121, .aload_n 0, 1), (125, .iconst 0, 1), (129, .aload_n 0, 1), (130, .iconst 0, 1), (134, .iconst 0, 1), (135, .ireturn, 1)]
theorem am_op105_0 : ∀ q ∈ am_p105_0, am_ok 105 q.1 q.2.1 q.2.2 := am_okps (by decide +kernel)
def am_l105_0 : List (Nat × Instr × Nat) := [(6, .getfield 100002, 3), (9, .getfield 60002, 3), (12, .getfield 90010, 3), (18, .new 100, 3), (29, .getfield 100002, 3), (34, .getfield 100022, 3), (37, .invokevirtual 50, 3), (42, .getfield 100002, 3), (45, .getfield 60002, 3), (49, .putfield 90010, 3), (57, .getfield 100102, 3), (69, .getfield 100012, 3), (75, .getfield 100022, 3), (78, .putfield 100012, 3), (83, .putfield 100022, 3), (87, .getfield 100032, 3), (91, .getfield 100012, 3), (94, .invokevirtual 18, 3), (98, .getfield 100052, 3), (102, .putfield 20010, 3), (106, .getfield 100062, 3), (110, .putfield 30, 3), (114, .getfield 100072, 3), (118, .putfield 10040, 3), (122, .getfield 100082, 3), (126, .putfield 50031, 3), (131, .putfield 100161, 3)]
theorem am_ol105_0 : ∀ q ∈ am_l105_0, am_ok 105 q.1 q.2.1 q.2.2 := show ∀ q ∈ ([(6, .getfield 100002, 3), (9, .getfield 60002, 3), (12, .getfield 90010, 3), (18, .new 100, 3), (29, .getfield 100002, 3), (34, .getfield 100022, 3), (37, .invokevirtual 50, 3), (42, .getfield 100002, 3), (45, .getfield 60002, 3), (49, .putfield 90010, 3), (57, .getfield 100102, 3), (69, .getfield 100012, 3), (75, .getfield 100022, 3), (78, .putfield 100012, 3), (83, .putfield 100022, 3), (87, .getfield 100032, 3), (91, .getfield 100012, 3), (94, .invokevirtual 18, 3), (98, .getfield 100052, 3), (102, .putfield 20010, 3), (106, .getfield 100062, 3), (110, .putfield 30, 3), (114, .getfield 100072, 3), (118, .putfield 10040, 3), (122, .getfield 100082, 3), (126, .putfield 50031, 3), (131, .putfield 100161, 3)] : List (Nat × Instr × Nat)), am_ok 105 q.1 q.2.1 q.2.2 from
  am_fc (am_okgf 10 (by decide +kernel) (am_mem 462 (by decide +kernel))) (
  am_fc (am_okgf 90 (by decide +kernel) (am_mem 176 (by decide +kernel))) (
  am_fc (am_okgf 104 (by decide +kernel) (am_mem 150 (by decide +kernel))) (
  am_fc (am_okt 108 110 112 0 "the tape has not so many bytes" (by decide) (by decide +kernel) (by decide +kernel) (by decide +kernel) (by decide +kernel) (am_mem 707 (by decide +kernel)) (Or.inl ⟨rfl, rfl⟩) (by decide +kernel) (by decide +kernel) (by decide +kernel)) (
  am_fc (am_okgf 10 (by decide +kernel) (am_mem 462 (by decide +kernel))) (
  am_fc (am_okgf 23 (by decide +kernel) (am_mem 464 (by decide +kernel))) (
  am_fc (am_okv 115 (by decide +kernel) (by decide) (am_mem 774 (by decide +kernel)) (am_mem 775 (by decide +kernel)) (am_mem 776 (by decide +kernel))) (
  am_fc (am_okgf 10 (by decide +kernel) (am_mem 462 (by decide +kernel))) (
  am_fc (am_okgf 90 (by decide +kernel) (am_mem 176 (by decide +kernel))) (
  am_fc (am_okpf 104 (by decide +kernel) (am_mem 150 (by decide +kernel))) (
  am_fc (am_okgf 71 (by decide +kernel) (am_mem 472 (by decide +kernel))) (
  am_fc (am_okgf 19 (by decide +kernel) (am_mem 463 (by decide +kernel))) (
  am_fc (am_okgf 23 (by decide +kernel) (am_mem 464 (by decide +kernel))) (
  am_fc (am_okpf 19 (by decide +kernel) (am_mem 463 (by decide +kernel))) (
  am_fc (am_okpf 23 (by decide +kernel) (am_mem 464 (by decide +kernel))) (
  am_fc (am_okgf 29 (by decide +kernel) (am_mem 465 (by decide +kernel))) (
  am_fc (am_okgf 19 (by decide +kernel) (am_mem 463 (by decide +kernel))) (
  am_fc (am_okv 119 (by decide +kernel) (by decide) (am_mem 997 (by decide +kernel)) (am_mem 998 (by decide +kernel)) (am_mem 999 (by decide +kernel))) (
  am_fc (am_okgf 39 (by decide +kernel) (am_mem 467 (by decide +kernel))) (
  am_fc (am_okpf 123 (by decide +kernel) (am_mem 366 (by decide +kernel))) (
  am_fc (am_okgf 46 (by decide +kernel) (am_mem 468 (by decide +kernel))) (
  am_fc (am_okpf 126 (by decide +kernel) (am_mem 382 (by decide +kernel))) (
  am_fc (am_okgf 53 (by decide +kernel) (am_mem 469 (by decide +kernel))) (
  am_fc (am_okpf 129 (by decide +kernel) (am_mem 408 (by decide +kernel))) (
  am_fc (am_okgf 60 (by decide +kernel) (am_mem 470 (by decide +kernel))) (
  am_fc (am_okpf 132 (by decide +kernel) (am_mem 434 (by decide +kernel))) (
  am_fc (am_okpf 135 (by decide +kernel) (am_mem 478 (by decide +kernel))) (
  am_fn)))))))))))))))))))))))))))
def am_t105 : List (Nat × Instr × Nat) := am_p105_0 ++ (am_l105_0)
theorem am_ot105 : ∀ q ∈ am_t105, am_ok 105 q.1 q.2.1 q.2.2 := List.forall_mem_append.mpr ⟨am_op105_0, am_ol105_0⟩
def am_p106_0 : List (Nat × Instr × Nat) := [(0, .aload_n 0, 1), (7, .ireturn, 1)]
theorem am_op106_0 : ∀ q ∈ am_p106_0, am_ok 106 q.1 q.2.1 q.2.2 := am_okps (by decide +kernel)
def am_l106_0 : List (Nat × Instr × Nat) := [(1, .getfield 100002, 3), (4, .getfield 60020, 3)]
theorem am_ol106_0 : ∀ q ∈ am_l106_0, am_ok 106 q.1 q.2.1 q.2.2 := show ∀ q ∈ ([(1, .getfield 100002, 3), (4, .getfield 60020, 3)] : List (Nat × Instr × Nat)), am_ok 106 q.1 q.2.1 q.2.2 from
  am_fc (am_okgf 10 (by decide +kernel) (am_mem 462 (by decide +kernel))) (
  am_fc (am_okgf 138 (by decide +kernel) (am_mem 179 (by decide +kernel))) (
  am_fn))
def am_t106 : List (Nat × Instr × Nat) := am_p106_0 ++ (am_l106_0)
theorem am_ot106 : ∀ q ∈ am_t106, am_ok 106 q.1 q.2.1 q.2.2 := List.forall_mem_append.mpr ⟨am_op106_0, am_ol106_0⟩
def am_p107_0 : List (Nat × Instr × Nat) := [(0, .iload_n 1, 1), (1, .tableswitch 178 0 12 #[67, 75, 83, 91, 99, 107, 122, 130, 138, 149, 156, 163, 170], 67), (68, .aload_n 0, 1), (75, .ireturn, 1), (76, .aload_n 0, 1), (83, .ireturn, 1), (84, .aload_n 0, 1), (91, .ireturn, 1), (92, .aload_n 0, 1), (99, .ireturn, 1), (100, .aload_n 0, 1), (107, .ireturn, 1), (108, .aload_n 0, 1), (112, .aload_n 0, 1), (122, .ireturn, 1), (123, .aload_n 0, 1), (130, .ireturn, 1), (131, .aload_n 0, 1), (138, .ireturn, 1), (139, .aload_n 0, 1), (149, .ireturn, 1), (150, .aload_n 0, 1), (154, .iconst 0, 1), (155, .iaload, 1), (156, .ireturn, 1), (157, .aload_n 0, 1), (161, .iconst 1, 1), (162, .iaload, 1), (163, .ireturn, 1), (164, .aload_n 0, 1), (168, .iconst 2, 1), (169, .iaload, 1), (170, .ireturn, 1), (171, .aload_n 0, 1), (178, .ireturn, 1)]
theorem am_op107_0 : ∀ q ∈ am_p107_0, am_ok 107 q.1 q.2.1 q.2.2 := am_okps (by decide +kernel)
def am_l107_0 : List (Nat × Instr × Nat) := [(69, .getfield 100012, 3), (72, .getfield 80000, 3), (77, .getfield 100012, 3), (80, .getfield 80010, 3), (85, .getfield 100012, 3), (88, .getfield 80020, 3), (93, .getfield 100012, 3), (96, .getfield 80030, 3), (101, .getfield 100032, 3), (104, .getfield 40000, 3), (109, .getfield 100012, 3), (113, .getfield 100032, 3), (116, .getfield 40000, 3), (119, .invokevirtual 86, 3), (124, .getfield 100052, 3), (127, .getfield 20010, 3), (132, .getfield 100062, 3), (135, .getfield 30, 3), (140, .getfield 100002, 3), (143, .getfield 60002, 3), (146, .getfield 90010, 3), (151, .getfield 100102, 3), (158, .getfield 100102, 3), (165, .getfield 100102, 3), (172, .getfield 100032, 3), (175, .invokevirtual 31, 3), (179, .new 101, 3)]
theorem am_ol107_0 : ∀ q ∈ am_l107_0, am_ok 107 q.1 q.2.1 q.2.2 := show ∀ q ∈ ([(69, .getfield 100012, 3), (72, .getfield 80000, 3), (77, .getfield 100012, 3), (80, .getfield 80010, 3), (85, .getfield 100012, 3), (88, .getfield 80020, 3), (93, .getfield 100012, 3), (96, .getfield 80030, 3), (101, .getfield 100032, 3), (104, .getfield 40000, 3), (109, .getfield 100012, 3), (113, .getfield 100032, 3), (116, .getfield 40000, 3), (119, .invokevirtual 86, 3), (124, .getfield 100052, 3), (127, .getfield 20010, 3), (132, .getfield 100062, 3), (135, .getfield 30, 3), (140, .getfield 100002, 3), (143, .getfield 60002, 3), (146, .getfield 90010, 3), (151, .getfield 100102, 3), (158, .getfield 100102, 3), (165, .getfield 100102, 3), (172, .getfield 100032, 3), (175, .invokevirtual 31, 3), (179, .new 101, 3)] : List (Nat × Instr × Nat)), am_ok 107 q.1 q.2.1 q.2.2 from
  am_fc (am_okgf 19 (by decide +kernel) (am_mem 463 (by decide +kernel))) (
  am_fc (am_okgf 141 (by decide +kernel) (am_mem 232 (by decide +kernel))) (
  am_fc (am_okgf 19 (by decide +kernel) (am_mem 463 (by decide +kernel))) (
  am_fc (am_okgf 144 (by decide +kernel) (am_mem 236 (by decide +kernel))) (
  am_fc (am_okgf 19 (by decide +kernel) (am_mem 463 (by decide +kernel))) (
  am_fc (am_okgf 147 (by decide +kernel) (am_mem 240 (by decide +kernel))) (
  am_fc (am_okgf 19 (by decide +kernel) (am_mem 463 (by decide +kernel))) (
  am_fc (am_okgf 150 (by decide +kernel) (am_mem 242 (by decide +kernel))) (
  am_fc (am_okgf 29 (by decide +kernel) (am_mem 465 (by decide +kernel))) (
  am_fc (am_okgf 153 (by decide +kernel) (am_mem 332 (by decide +kernel))) (
  am_fc (am_okgf 19 (by decide +kernel) (am_mem 463 (by decide +kernel))) (
  am_fc (am_okgf 29 (by decide +kernel) (am_mem 465 (by decide +kernel))) (
  am_fc (am_okgf 153 (by decide +kernel) (am_mem 332 (by decide +kernel))) (
  am_fc (am_okv 156 (by decide +kernel) (by decide) (am_mem 1009 (by decide +kernel)) (am_mem 558 (by decide +kernel)) (am_mem 559 (by decide +kernel))) (
  am_fc (am_okgf 39 (by decide +kernel) (am_mem 467 (by decide +kernel))) (
  am_fc (am_okgf 123 (by decide +kernel) (am_mem 366 (by decide +kernel))) (
  am_fc (am_okgf 46 (by decide +kernel) (am_mem 468 (by decide +kernel))) (
  am_fc (am_okgf 126 (by decide +kernel) (am_mem 382 (by decide +kernel))) (
  am_fc (am_okgf 10 (by decide +kernel) (am_mem 462 (by decide +kernel))) (
  am_fc (am_okgf 90 (by decide +kernel) (am_mem 176 (by decide +kernel))) (
  am_fc (am_okgf 104 (by decide +kernel) (am_mem 150 (by decide +kernel))) (
  am_fc (am_okgf 71 (by decide +kernel) (am_mem 472 (by decide +kernel))) (
  am_fc (am_okgf 71 (by decide +kernel) (am_mem 472 (by decide +kernel))) (
  am_fc (am_okgf 71 (by decide +kernel) (am_mem 472 (by decide +kernel))) (
  am_fc (am_okgf 29 (by decide +kernel) (am_mem 465 (by decide +kernel))) (
  am_fc (am_okv 160 (by decide +kernel) (by decide) (am_mem 1010 (by decide +kernel)) (am_mem 1011 (by decide +kernel)) (am_mem 1012 (by decide +kernel))) (
  am_fc (am_okt 164 166 168 17 "no such count" (by decide) (by decide +kernel) (by decide +kernel) (by decide +kernel) (by decide +kernel) (am_mem 1014 (by decide +kernel)) (Or.inr ⟨rfl, rfl⟩) (by decide +kernel) (by decide +kernel) (by decide +kernel)) (
  am_fn)))))))))))))))))))))))))))
def am_t107 : List (Nat × Instr × Nat) := am_p107_0 ++ (am_l107_0)
theorem am_ot107 : ∀ q ∈ am_t107, am_ok 107 q.1 q.2.1 q.2.2 := List.forall_mem_append.mpr ⟨am_op107_0, am_ol107_0⟩
def am_p108_0 : List (Nat × Instr × Nat) := [(0, .aload_n 0, 1), (1, .iload_n 1, 1), (5, .iload_n 2, 1), (6, .tableswitch 69 0 3 #[30, 40, 50, 60], 30), (36, .aload_n 0, 1), (43, .iload_n 1, 1), (44, .iaload, 1), (45, .ireturn, 1), (46, .aload_n 0, 1), (53, .iload_n 1, 1), (54, .iaload, 1), (55, .ireturn, 1), (56, .aload_n 0, 1), (63, .iload_n 1, 1), (64, .iaload, 1), (65, .ireturn, 1), (66, .aload_n 0, 1), (70, .iload_n 1, 1), (74, .ireturn, 1)]
theorem am_op108_0 : ∀ q ∈ am_p108_0, am_ok 108 q.1 q.2.1 q.2.2 := am_okps (by decide +kernel)
def am_l108_0 : List (Nat × Instr × Nat) := [(2, .invokevirtual 142, 3), (37, .getfield 100032, 3), (40, .getfield 40012, 3), (47, .getfield 100032, 3), (50, .getfield 40022, 3), (57, .getfield 100032, 3), (60, .getfield 40032, 3), (67, .getfield 100032, 3), (71, .invokevirtual 28, 3), (75, .new 101, 3)]
theorem am_ol108_0 : ∀ q ∈ am_l108_0, am_ok 108 q.1 q.2.1 q.2.2 := show ∀ q ∈ ([(2, .invokevirtual 142, 3), (37, .getfield 100032, 3), (40, .getfield 40012, 3), (47, .getfield 100032, 3), (50, .getfield 40022, 3), (57, .getfield 100032, 3), (60, .getfield 40032, 3), (67, .getfield 100032, 3), (71, .invokevirtual 28, 3), (75, .new 101, 3)] : List (Nat × Instr × Nat)), am_ok 108 q.1 q.2.1 q.2.2 from
  am_fc (am_okv 169 (by decide +kernel) (by decide) (am_mem 1037 (by decide +kernel)) (am_mem 1039 (by decide +kernel)) (am_mem 26 (by decide +kernel))) (
  am_fc (am_okgf 29 (by decide +kernel) (am_mem 465 (by decide +kernel))) (
  am_fc (am_okgf 172 (by decide +kernel) (am_mem 335 (by decide +kernel))) (
  am_fc (am_okgf 29 (by decide +kernel) (am_mem 465 (by decide +kernel))) (
  am_fc (am_okgf 175 (by decide +kernel) (am_mem 337 (by decide +kernel))) (
  am_fc (am_okgf 29 (by decide +kernel) (am_mem 465 (by decide +kernel))) (
  am_fc (am_okgf 178 (by decide +kernel) (am_mem 339 (by decide +kernel))) (
  am_fc (am_okgf 29 (by decide +kernel) (am_mem 465 (by decide +kernel))) (
  am_fc (am_okv 181 (by decide +kernel) (by decide) (am_mem 673 (by decide +kernel)) (am_mem 602 (by decide +kernel)) (am_mem 603 (by decide +kernel))) (
  am_fc (am_okt 164 184 168 19 "no such thing of a person" (by decide) (by decide +kernel) (by decide +kernel) (by decide +kernel) (by decide +kernel) (am_mem 1014 (by decide +kernel)) (Or.inr ⟨rfl, rfl⟩) (by decide +kernel) (by decide +kernel) (by decide +kernel)) (
  am_fn))))))))))
def am_t108 : List (Nat × Instr × Nat) := am_p108_0 ++ (am_l108_0)
theorem am_ot108 : ∀ q ∈ am_t108, am_ok 108 q.1 q.2.1 q.2.2 := List.forall_mem_append.mpr ⟨am_op108_0, am_ol108_0⟩
def am_p109_0 : List (Nat × Instr × Nat) := [(0, .aload_n 0, 1), (1, .iload_n 1, 1), (5, .iload_n 2, 1), (6, .tableswitch 111 0 6 #[42, 52, 62, 72, 81, 91, 101], 42), (48, .aload_n 0, 1), (55, .iload_n 1, 1), (56, .iaload, 1), (57, .ireturn, 1), (58, .aload_n 0, 1), (65, .iload_n 1, 1), (66, .iaload, 1), (67, .ireturn, 1), (68, .aload_n 0, 1), (75, .iload_n 1, 1), (76, .iaload, 1), (77, .ireturn, 1), (78, .aload_n 0, 1), (82, .iload_n 1, 1), (86, .ireturn, 1), (87, .aload_n 0, 1), (94, .iload_n 1, 1), (95, .iaload, 1), (96, .ireturn, 1), (97, .aload_n 0, 1), (104, .iload_n 1, 1), (105, .iaload, 1), (106, .ireturn, 1), (107, .aload_n 0, 1), (114, .iload_n 1, 1), (115, .iaload, 1), (116, .ireturn, 1)]
theorem am_op109_0 : ∀ q ∈ am_p109_0, am_ok 109 q.1 q.2.1 q.2.2 := am_okps (by decide +kernel)
def am_l109_0 : List (Nat × Instr × Nat) := [(2, .invokevirtual 143, 3), (49, .getfield 100012, 3), (52, .getfield 80072, 3), (59, .getfield 100012, 3), (62, .getfield 80082, 3), (69, .getfield 100012, 3), (72, .getfield 80092, 3), (79, .getfield 100032, 3), (83, .invokevirtual 30, 3), (88, .getfield 100012, 3), (91, .getfield 80102, 3), (98, .getfield 100012, 3), (101, .getfield 80112, 3), (108, .getfield 100012, 3), (111, .getfield 80122, 3), (117, .new 101, 3)]
theorem am_ol109_0 : ∀ q ∈ am_l109_0, am_ok 109 q.1 q.2.1 q.2.2 := show ∀ q ∈ ([(2, .invokevirtual 143, 3), (49, .getfield 100012, 3), (52, .getfield 80072, 3), (59, .getfield 100012, 3), (62, .getfield 80082, 3), (69, .getfield 100012, 3), (72, .getfield 80092, 3), (79, .getfield 100032, 3), (83, .invokevirtual 30, 3), (88, .getfield 100012, 3), (91, .getfield 80102, 3), (98, .getfield 100012, 3), (101, .getfield 80112, 3), (108, .getfield 100012, 3), (111, .getfield 80122, 3), (117, .new 101, 3)] : List (Nat × Instr × Nat)), am_ok 109 q.1 q.2.1 q.2.2 from
  am_fc (am_okv 186 (by decide +kernel) (by decide) (am_mem 1050 (by decide +kernel)) (am_mem 1052 (by decide +kernel)) (am_mem 27 (by decide +kernel))) (
  am_fc (am_okgf 19 (by decide +kernel) (am_mem 463 (by decide +kernel))) (
  am_fc (am_okgf 189 (by decide +kernel) (am_mem 255 (by decide +kernel))) (
  am_fc (am_okgf 19 (by decide +kernel) (am_mem 463 (by decide +kernel))) (
  am_fc (am_okgf 192 (by decide +kernel) (am_mem 259 (by decide +kernel))) (
  am_fc (am_okgf 19 (by decide +kernel) (am_mem 463 (by decide +kernel))) (
  am_fc (am_okgf 195 (by decide +kernel) (am_mem 263 (by decide +kernel))) (
  am_fc (am_okgf 29 (by decide +kernel) (am_mem 465 (by decide +kernel))) (
  am_fc (am_okv 198 (by decide +kernel) (by decide) (am_mem 1055 (by decide +kernel)) (am_mem 1056 (by decide +kernel)) (am_mem 1057 (by decide +kernel))) (
  am_fc (am_okgf 19 (by decide +kernel) (am_mem 463 (by decide +kernel))) (
  am_fc (am_okgf 201 (by decide +kernel) (am_mem 267 (by decide +kernel))) (
  am_fc (am_okgf 19 (by decide +kernel) (am_mem 463 (by decide +kernel))) (
  am_fc (am_okgf 204 (by decide +kernel) (am_mem 270 (by decide +kernel))) (
  am_fc (am_okgf 19 (by decide +kernel) (am_mem 463 (by decide +kernel))) (
  am_fc (am_okgf 207 (by decide +kernel) (am_mem 273 (by decide +kernel))) (
  am_fc (am_okt 164 210 168 21 "no such thing of a fact" (by decide) (by decide +kernel) (by decide +kernel) (by decide +kernel) (by decide +kernel) (am_mem 1014 (by decide +kernel)) (Or.inr ⟨rfl, rfl⟩) (by decide +kernel) (by decide +kernel) (by decide +kernel)) (
  am_fn))))))))))))))))
def am_t109 : List (Nat × Instr × Nat) := am_p109_0 ++ (am_l109_0)
theorem am_ot109 : ∀ q ∈ am_t109, am_ok 109 q.1 q.2.1 q.2.2 := List.forall_mem_append.mpr ⟨am_op109_0, am_ol109_0⟩
def am_p110_0 : List (Nat × Instr × Nat) := [(0, .aload_n 0, 1), (1, .iload_n 1, 1), (5, .aload_n 0, 1), (6, .iload_n 2, 1), (10, .aload_n 0, 1), (14, .iload_n 1, 1), (15, .iload_n 2, 1), (19, .ireturn, 1)]
theorem am_op110_0 : ∀ q ∈ am_p110_0, am_ok 110 q.1 q.2.1 q.2.2 := am_okps (by decide +kernel)
def am_l110_0 : List (Nat × Instr × Nat) := [(2, .invokevirtual 142, 3), (7, .invokevirtual 143, 3), (11, .getfield 100032, 3), (16, .invokevirtual 23, 3)]
theorem am_ol110_0 : ∀ q ∈ am_l110_0, am_ok 110 q.1 q.2.1 q.2.2 := show ∀ q ∈ ([(2, .invokevirtual 142, 3), (7, .invokevirtual 143, 3), (11, .getfield 100032, 3), (16, .invokevirtual 23, 3)] : List (Nat × Instr × Nat)), am_ok 110 q.1 q.2.1 q.2.2 from
  am_fc (am_okv 169 (by decide +kernel) (by decide) (am_mem 1037 (by decide +kernel)) (am_mem 1039 (by decide +kernel)) (am_mem 26 (by decide +kernel))) (
  am_fc (am_okv 186 (by decide +kernel) (by decide) (am_mem 1050 (by decide +kernel)) (am_mem 1052 (by decide +kernel)) (am_mem 27 (by decide +kernel))) (
  am_fc (am_okgf 29 (by decide +kernel) (am_mem 465 (by decide +kernel))) (
  am_fc (am_okv 212 (by decide +kernel) (by decide) (am_mem 1067 (by decide +kernel)) (am_mem 580 (by decide +kernel)) (am_mem 581 (by decide +kernel))) (
  am_fn))))
def am_t110 : List (Nat × Instr × Nat) := am_p110_0 ++ (am_l110_0)
theorem am_ot110 : ∀ q ∈ am_t110, am_ok 110 q.1 q.2.1 q.2.2 := List.forall_mem_append.mpr ⟨am_op110_0, am_ol110_0⟩
def am_p111_0 : List (Nat × Instr × Nat) := [(0, .aload_n 0, 1), (1, .iload_n 1, 1), (5, .iload_n 2, 1), (6, .ifCond .lt 9, 3), (9, .iload_n 2, 1), (10, .bipush 20, 2), (12, .if_icmp .le 15, 3), (15, .aload_n 0, 1), (19, .iconst 1, 1), (20, .dup2, 1), (21, .iaload, 1), (22, .iconst 1, 1), (23, .iadd, 1), (24, .iastore, 1), (25, .iconst (-1), 1), (26, .ireturn, 1), (27, .aload_n 0, 1), (31, .aload_n 0, 1), (38, .aload_n 0, 1), (45, .iload_n 1, 1), (46, .iaload, 1), (47, .istore_n 3, 1), (48, .aload_n 0, 1), (55, .iload_n 1, 1), (56, .iload_n 2, 1), (57, .iastore, 1), (58, .iload_n 3, 1), (59, .ireturn, 1)]
theorem am_op111_0 : ∀ q ∈ am_p111_0, am_ok 111 q.1 q.2.1 q.2.2 := am_okps (by decide +kernel)
def am_l111_0 : List (Nat × Instr × Nat) := [(2, .invokevirtual 142, 3), (16, .getfield 100102, 3), (28, .getfield 100052, 3), (32, .getfield 100032, 3), (35, .invokevirtual 8, 3), (39, .getfield 100032, 3), (42, .getfield 40032, 3), (49, .getfield 100032, 3), (52, .getfield 40032, 3)]
theorem am_ol111_0 : ∀ q ∈ am_l111_0, am_ok 111 q.1 q.2.1 q.2.2 := show ∀ q ∈ ([(2, .invokevirtual 142, 3), (16, .getfield 100102, 3), (28, .getfield 100052, 3), (32, .getfield 100032, 3), (35, .invokevirtual 8, 3), (39, .getfield 100032, 3), (42, .getfield 40032, 3), (49, .getfield 100032, 3), (52, .getfield 40032, 3)] : List (Nat × Instr × Nat)), am_ok 111 q.1 q.2.1 q.2.2 from
  am_fc (am_okv 169 (by decide +kernel) (by decide) (am_mem 1037 (by decide +kernel)) (am_mem 1039 (by decide +kernel)) (am_mem 26 (by decide +kernel))) (
  am_fc (am_okgf 71 (by decide +kernel) (am_mem 472 (by decide +kernel))) (
  am_fc (am_okgf 39 (by decide +kernel) (am_mem 467 (by decide +kernel))) (
  am_fc (am_okgf 29 (by decide +kernel) (am_mem 465 (by decide +kernel))) (
  am_fc (am_okv 216 (by decide +kernel) (by decide) (am_mem 534 (by decide +kernel)) (am_mem 535 (by decide +kernel)) (am_mem 536 (by decide +kernel))) (
  am_fc (am_okgf 29 (by decide +kernel) (am_mem 465 (by decide +kernel))) (
  am_fc (am_okgf 178 (by decide +kernel) (am_mem 339 (by decide +kernel))) (
  am_fc (am_okgf 29 (by decide +kernel) (am_mem 465 (by decide +kernel))) (
  am_fc (am_okgf 178 (by decide +kernel) (am_mem 339 (by decide +kernel))) (
  am_fn)))))))))
def am_t111 : List (Nat × Instr × Nat) := am_p111_0 ++ (am_l111_0)
theorem am_ot111 : ∀ q ∈ am_t111, am_ok 111 q.1 q.2.1 q.2.2 := List.forall_mem_append.mpr ⟨am_op111_0, am_ol111_0⟩
def am_p112_0 : List (Nat × Instr × Nat) := [(0, .aload_n 0, 1), (1, .iload_n 1, 1), (5, .iload_n 2, 1), (6, .ifCond .lt 8, 3), (9, .iload_n 2, 1), (10, .iconst 4, 1), (11, .if_icmp .lt 15, 3), (14, .aload_n 0, 1), (18, .iconst 1, 1), (19, .dup2, 1), (20, .iaload, 1), (21, .iconst 1, 1), (22, .iadd, 1), (23, .iastore, 1), (24, .iconst (-1), 1), (25, .ireturn, 1), (26, .aload_n 0, 1), (30, .aload_n 0, 1), (37, .aload_n 0, 1), (44, .iload_n 1, 1), (45, .iaload, 1), (46, .istore_n 3, 1), (47, .aload_n 0, 1), (54, .iload_n 1, 1), (55, .iload_n 2, 1), (56, .iastore, 1), (57, .iload_n 3, 1), (58, .ireturn, 1)]
theorem am_op112_0 : ∀ q ∈ am_p112_0, am_ok 112 q.1 q.2.1 q.2.2 := am_okps (by decide +kernel)
def am_l112_0 : List (Nat × Instr × Nat) := [(2, .invokevirtual 142, 3), (15, .getfield 100102, 3), (27, .getfield 100052, 3), (31, .getfield 100032, 3), (34, .invokevirtual 8, 3), (38, .getfield 100032, 3), (41, .getfield 40022, 3), (48, .getfield 100032, 3), (51, .getfield 40022, 3)]
theorem am_ol112_0 : ∀ q ∈ am_l112_0, am_ok 112 q.1 q.2.1 q.2.2 := show ∀ q ∈ ([(2, .invokevirtual 142, 3), (15, .getfield 100102, 3), (27, .getfield 100052, 3), (31, .getfield 100032, 3), (34, .invokevirtual 8, 3), (38, .getfield 100032, 3), (41, .getfield 40022, 3), (48, .getfield 100032, 3), (51, .getfield 40022, 3)] : List (Nat × Instr × Nat)), am_ok 112 q.1 q.2.1 q.2.2 from
  am_fc (am_okv 169 (by decide +kernel) (by decide) (am_mem 1037 (by decide +kernel)) (am_mem 1039 (by decide +kernel)) (am_mem 26 (by decide +kernel))) (
  am_fc (am_okgf 71 (by decide +kernel) (am_mem 472 (by decide +kernel))) (
  am_fc (am_okgf 39 (by decide +kernel) (am_mem 467 (by decide +kernel))) (
  am_fc (am_okgf 29 (by decide +kernel) (am_mem 465 (by decide +kernel))) (
  am_fc (am_okv 216 (by decide +kernel) (by decide) (am_mem 534 (by decide +kernel)) (am_mem 535 (by decide +kernel)) (am_mem 536 (by decide +kernel))) (
  am_fc (am_okgf 29 (by decide +kernel) (am_mem 465 (by decide +kernel))) (
  am_fc (am_okgf 175 (by decide +kernel) (am_mem 337 (by decide +kernel))) (
  am_fc (am_okgf 29 (by decide +kernel) (am_mem 465 (by decide +kernel))) (
  am_fc (am_okgf 175 (by decide +kernel) (am_mem 337 (by decide +kernel))) (
  am_fn)))))))))
def am_t112 : List (Nat × Instr × Nat) := am_p112_0 ++ (am_l112_0)
theorem am_ot112 : ∀ q ∈ am_t112, am_ok 112 q.1 q.2.1 q.2.2 := List.forall_mem_append.mpr ⟨am_op112_0, am_ol112_0⟩
def am_p113_0 : List (Nat × Instr × Nat) := [(0, .aload_n 0, 1), (1, .iload_n 1, 1), (5, .aload_n 0, 1), (6, .iload_n 2, 1), (10, .aload_n 0, 1), (11, .iload_n 3, 1), (15, .aload_n 0, 1), (19, .iload_n 2, 1), (20, .iload_n 1, 1), (24, .ifCond .eq 15, 3), (27, .aload_n 0, 1), (31, .iload_n 3, 1), (32, .iload_n 1, 1), (36, .ifCond .eq 15, 3), (39, .aload_n 0, 1), (43, .iconst 1, 1), (44, .dup2, 1), (45, .iaload, 1), (46, .iconst 1, 1), (47, .iadd, 1), (48, .iastore, 1), (49, .iconst 0, 1), (50, .ireturn, 1), (51, .aload_n 0, 1), (55, .aload_n 0, 1), (62, .aload_n 0, 1), (66, .iload_n 3, 1), (67, .iload_n 1, 1), (71, .iconst 1, 1), (72, .ireturn, 1)]
theorem am_op113_0 : ∀ q ∈ am_p113_0, am_ok 113 q.1 q.2.1 q.2.2 := am_okps (by decide +kernel)
def am_l113_0 : List (Nat × Instr × Nat) := [(2, .invokevirtual 143, 3), (7, .invokevirtual 142, 3), (12, .invokevirtual 142, 3), (16, .getfield 100032, 3), (21, .invokevirtual 27, 3), (28, .getfield 100032, 3), (33, .invokevirtual 27, 3), (40, .getfield 100102, 3), (52, .getfield 100052, 3), (56, .getfield 100032, 3), (59, .invokevirtual 8, 3), (63, .getfield 100032, 3), (68, .invokevirtual 33, 3)]
theorem am_ol113_0 : ∀ q ∈ am_l113_0, am_ok 113 q.1 q.2.1 q.2.2 := show ∀ q ∈ ([(2, .invokevirtual 143, 3), (7, .invokevirtual 142, 3), (12, .invokevirtual 142, 3), (16, .getfield 100032, 3), (21, .invokevirtual 27, 3), (28, .getfield 100032, 3), (33, .invokevirtual 27, 3), (40, .getfield 100102, 3), (52, .getfield 100052, 3), (56, .getfield 100032, 3), (59, .invokevirtual 8, 3), (63, .getfield 100032, 3), (68, .invokevirtual 33, 3)] : List (Nat × Instr × Nat)), am_ok 113 q.1 q.2.1 q.2.2 from
  am_fc (am_okv 186 (by decide +kernel) (by decide) (am_mem 1050 (by decide +kernel)) (am_mem 1052 (by decide +kernel)) (am_mem 27 (by decide +kernel))) (
  am_fc (am_okv 169 (by decide +kernel) (by decide) (am_mem 1037 (by decide +kernel)) (am_mem 1039 (by decide +kernel)) (am_mem 26 (by decide +kernel))) (
  am_fc (am_okv 169 (by decide +kernel) (by decide) (am_mem 1037 (by decide +kernel)) (am_mem 1039 (by decide +kernel)) (am_mem 26 (by decide +kernel))) (
  am_fc (am_okgf 29 (by decide +kernel) (am_mem 465 (by decide +kernel))) (
  am_fc (am_okv 220 (by decide +kernel) (by decide) (am_mem 1089 (by decide +kernel)) (am_mem 630 (by decide +kernel)) (am_mem 631 (by decide +kernel))) (
  am_fc (am_okgf 29 (by decide +kernel) (am_mem 465 (by decide +kernel))) (
  am_fc (am_okv 220 (by decide +kernel) (by decide) (am_mem 1089 (by decide +kernel)) (am_mem 630 (by decide +kernel)) (am_mem 631 (by decide +kernel))) (
  am_fc (am_okgf 71 (by decide +kernel) (am_mem 472 (by decide +kernel))) (
  am_fc (am_okgf 39 (by decide +kernel) (am_mem 467 (by decide +kernel))) (
  am_fc (am_okgf 29 (by decide +kernel) (am_mem 465 (by decide +kernel))) (
  am_fc (am_okv 216 (by decide +kernel) (by decide) (am_mem 534 (by decide +kernel)) (am_mem 535 (by decide +kernel)) (am_mem 536 (by decide +kernel))) (
  am_fc (am_okgf 29 (by decide +kernel) (am_mem 465 (by decide +kernel))) (
  am_fc (am_okv 224 (by decide +kernel) (by decide) (am_mem 1090 (by decide +kernel)) (am_mem 1091 (by decide +kernel)) (am_mem 1092 (by decide +kernel))) (
  am_fn)))))))))))))
def am_t113 : List (Nat × Instr × Nat) := am_p113_0 ++ (am_l113_0)
theorem am_ot113 : ∀ q ∈ am_t113, am_ok 113 q.1 q.2.1 q.2.2 := List.forall_mem_append.mpr ⟨am_op113_0, am_ol113_0⟩
def am_p114_0 : List (Nat × Instr × Nat) := [(0, .iload_n 1, 1), (1, .iconst 1, 1), (2, .if_icmp .lt 9, 3), (5, .iload_n 1, 1), (6, .bipush 100, 2), (8, .if_icmp .le 15, 3), (11, .aload_n 0, 1), (15, .iconst 1, 1), (16, .dup2, 1), (17, .iaload, 1), (18, .iconst 1, 1), (19, .iadd, 1), (20, .iastore, 1), (21, .iconst (-1), 1), (22, .ireturn, 1), (23, .aload_n 0, 1), (27, .aload_n 0, 1), (34, .iconst 0, 1), (35, .istore_n 2, 1), (36, .iconst 0, 1), (37, .istore_n 3, 1), (38, .iload_n 3, 1), (39, .iload_n 1, 1), (40, .if_icmp .ge 24, 3), (43, .iload_n 2, 1), (44, .aload_n 0, 1), (48, .aload_n 0, 1), (52, .iconst (-1), 1), (56, .iadd, 1), (57, .istore_n 2, 1), (58, .iinc 3 1, 3), (61, .goto (-23), 3), (64, .iload_n 2, 1), (65, .ireturn, 1)]
theorem am_op114_0 : ∀ q ∈ am_p114_0, am_ok 114 q.1 q.2.1 q.2.2 := am_okps (by decide +kernel)
def am_l114_0 : List (Nat × Instr × Nat) := [(12, .getfield 100102, 3), (24, .getfield 100052, 3), (28, .getfield 100032, 3), (31, .invokevirtual 8, 3), (45, .getfield 100032, 3), (49, .getfield 100012, 3), (53, .invokevirtual 35, 3)]
theorem am_ol114_0 : ∀ q ∈ am_l114_0, am_ok 114 q.1 q.2.1 q.2.2 := show ∀ q ∈ ([(12, .getfield 100102, 3), (24, .getfield 100052, 3), (28, .getfield 100032, 3), (31, .invokevirtual 8, 3), (45, .getfield 100032, 3), (49, .getfield 100012, 3), (53, .invokevirtual 35, 3)] : List (Nat × Instr × Nat)), am_ok 114 q.1 q.2.1 q.2.2 from
  am_fc (am_okgf 71 (by decide +kernel) (am_mem 472 (by decide +kernel))) (
  am_fc (am_okgf 39 (by decide +kernel) (am_mem 467 (by decide +kernel))) (
  am_fc (am_okgf 29 (by decide +kernel) (am_mem 465 (by decide +kernel))) (
  am_fc (am_okv 216 (by decide +kernel) (by decide) (am_mem 534 (by decide +kernel)) (am_mem 535 (by decide +kernel)) (am_mem 536 (by decide +kernel))) (
  am_fc (am_okgf 29 (by decide +kernel) (am_mem 465 (by decide +kernel))) (
  am_fc (am_okgf 19 (by decide +kernel) (am_mem 463 (by decide +kernel))) (
  am_fc (am_okv 228 (by decide +kernel) (by decide) (am_mem 546 (by decide +kernel)) (am_mem 547 (by decide +kernel)) (am_mem 548 (by decide +kernel))) (
  am_fn)))))))
def am_t114 : List (Nat × Instr × Nat) := am_p114_0 ++ (am_l114_0)
theorem am_ot114 : ∀ q ∈ am_t114, am_ok 114 q.1 q.2.1 q.2.2 := List.forall_mem_append.mpr ⟨am_op114_0, am_ol114_0⟩
def am_p115_0 : List (Nat × Instr × Nat) := [(0, .aload_n 0, 1), (7, .ifCond .ne 5, 3), (10, .iconst (-1), 1), (11, .ireturn, 1), (12, .aload_n 0, 1), (16, .aload_n 0, 1), (23, .aload_n 0, 1), (30, .ireturn, 1)]
theorem am_op115_0 : ∀ q ∈ am_p115_0, am_ok 115 q.1 q.2.1 q.2.2 := am_okps (by decide +kernel)
def am_l115_0 : List (Nat × Instr × Nat) := [(1, .getfield 100052, 3), (4, .getfield 20010, 3), (13, .getfield 100052, 3), (17, .getfield 100032, 3), (20, .invokevirtual 9, 3), (24, .getfield 100052, 3), (27, .getfield 20010, 3)]
theorem am_ol115_0 : ∀ q ∈ am_l115_0, am_ok 115 q.1 q.2.1 q.2.2 := show ∀ q ∈ ([(1, .getfield 100052, 3), (4, .getfield 20010, 3), (13, .getfield 100052, 3), (17, .getfield 100032, 3), (20, .invokevirtual 9, 3), (24, .getfield 100052, 3), (27, .getfield 20010, 3)] : List (Nat × Instr × Nat)), am_ok 115 q.1 q.2.1 q.2.2 from
  am_fc (am_okgf 39 (by decide +kernel) (am_mem 467 (by decide +kernel))) (
  am_fc (am_okgf 123 (by decide +kernel) (am_mem 366 (by decide +kernel))) (
  am_fc (am_okgf 39 (by decide +kernel) (am_mem 467 (by decide +kernel))) (
  am_fc (am_okgf 29 (by decide +kernel) (am_mem 465 (by decide +kernel))) (
  am_fc (am_okv 232 (by decide +kernel) (by decide) (am_mem 637 (by decide +kernel)) (am_mem 638 (by decide +kernel)) (am_mem 639 (by decide +kernel))) (
  am_fc (am_okgf 39 (by decide +kernel) (am_mem 467 (by decide +kernel))) (
  am_fc (am_okgf 123 (by decide +kernel) (am_mem 366 (by decide +kernel))) (
  am_fn)))))))
def am_t115 : List (Nat × Instr × Nat) := am_p115_0 ++ (am_l115_0)
theorem am_ot115 : ∀ q ∈ am_t115, am_ok 115 q.1 q.2.1 q.2.2 := List.forall_mem_append.mpr ⟨am_op115_0, am_ol115_0⟩
def am_p116_0 : List (Nat × Instr × Nat) := [(0, .aload_n 0, 1), (1, .iload_n 1, 1), (5, .iload_n 2, 1), (6, .iconst 0, 1), (7, .bipush 100, 2), (12, .aload_n 0, 1), (13, .iload_n 2, 1), (14, .iconst (-1), 1), (18, .aload_n 0, 1), (22, .iload_n 1, 1), (26, .ireturn, 1)]
theorem am_op116_0 : ∀ q ∈ am_p116_0, am_ok 116 q.1 q.2.1 q.2.2 := am_okps (by decide +kernel)
def am_l116_0 : List (Nat × Instr × Nat) := [(2, .invokevirtual 143, 3), (9, .invokestatic 144, 3), (15, .invokevirtual 146, 3), (19, .getfield 100042, 3), (23, .invokevirtual 30, 3)]
theorem am_ol116_0 : ∀ q ∈ am_l116_0, am_ok 116 q.1 q.2.1 q.2.2 := show ∀ q ∈ ([(2, .invokevirtual 143, 3), (9, .invokestatic 144, 3), (15, .invokevirtual 146, 3), (19, .getfield 100042, 3), (23, .invokevirtual 30, 3)] : List (Nat × Instr × Nat)), am_ok 116 q.1 q.2.1 q.2.2 from
  am_fc (am_okv 186 (by decide +kernel) (by decide) (am_mem 1050 (by decide +kernel)) (am_mem 1052 (by decide +kernel)) (am_mem 27 (by decide +kernel))) (
  am_fc (am_oks 235 (by decide +kernel) (by decide) (am_mem 1102 (by decide +kernel)) (Or.inl (am_mem 1101 (by decide +kernel)))) (
  am_fc (am_okv 239 (by decide +kernel) (by decide) (am_mem 1105 (by decide +kernel)) (am_mem 1107 (by decide +kernel)) (am_mem 28 (by decide +kernel))) (
  am_fc (am_okgf 33 (by decide +kernel) (am_mem 466 (by decide +kernel))) (
  am_fc (am_okv 198 (by decide +kernel) (by decide) (am_mem 1055 (by decide +kernel)) (am_mem 1056 (by decide +kernel)) (am_mem 1057 (by decide +kernel))) (
  am_fn)))))
def am_t116 : List (Nat × Instr × Nat) := am_p116_0 ++ (am_l116_0)
theorem am_ot116 : ∀ q ∈ am_t116, am_ok 116 q.1 q.2.1 q.2.2 := List.forall_mem_append.mpr ⟨am_op116_0, am_ol116_0⟩
def am_p117_0 : List (Nat × Instr × Nat) := [(0, .iload_n 2, 1), (1, .ifCond .eq 18, 3), (4, .iload_n 2, 1), (5, .iconst 1, 1), (6, .if_icmp .eq 13, 3), (19, .iload_n 1, 1), (20, .iconst 0, 1), (21, .bipush 100, 2), (26, .aload_n 0, 1), (30, .aload_n 0, 1), (37, .aload_n 0, 1), (44, .istore_n 3, 1), (45, .iconst 1, 1), (46, .istore 4, 2), (48, .iload 4, 2), (50, .iload_n 1, 1), (51, .if_icmp .gt 63, 3), (54, .aload_n 0, 1), (58, .aload_n 0, 1), (62, .iconst (-1), 1), (66, .pop, 1), (67, .iload_n 3, 1), (68, .aload_n 0, 1), (75, .iconst (-1), 1), (76, .ixor, 1), (77, .iand, 1), (78, .istore 5, 2), (80, .iload 5, 2), (82, .ifCond .eq 18, 3), (85, .iload_n 2, 1), (86, .ifCond .ne 8, 3), (89, .iload 4, 2), (91, .goto 8, 3), (94, .iload 5, 2), (99, .ireturn, 1), (100, .aload_n 0, 1), (107, .istore_n 3, 1), (108, .iinc 4 1, 3), (111, .goto (-63), 3), (114, .iconst (-1), 1), (115, .ireturn, 1)]
theorem am_op117_0 : ∀ q ∈ am_p117_0, am_ok 117 q.1 q.2.1 q.2.2 := am_okps (by decide +kernel)
def am_l117_0 : List (Nat × Instr × Nat) := [(9, .new 101, 3), (23, .invokestatic 144, 3), (27, .getfield 100042, 3), (31, .getfield 100032, 3), (34, .invokevirtual 19, 3), (38, .getfield 100042, 3), (41, .invokevirtual 29, 3), (55, .getfield 100042, 3), (59, .getfield 100012, 3), (63, .invokevirtual 35, 3), (69, .getfield 100042, 3), (72, .invokevirtual 29, 3), (96, .invokestatic 267, 3), (101, .getfield 100042, 3), (104, .invokevirtual 29, 3)]
theorem am_ol117_0 : ∀ q ∈ am_l117_0, am_ok 117 q.1 q.2.1 q.2.2 := show ∀ q ∈ ([(9, .new 101, 3), (23, .invokestatic 144, 3), (27, .getfield 100042, 3), (31, .getfield 100032, 3), (34, .invokevirtual 19, 3), (38, .getfield 100042, 3), (41, .invokevirtual 29, 3), (55, .getfield 100042, 3), (59, .getfield 100012, 3), (63, .invokevirtual 35, 3), (69, .getfield 100042, 3), (72, .invokevirtual 29, 3), (96, .invokestatic 267, 3), (101, .getfield 100042, 3), (104, .invokevirtual 29, 3)] : List (Nat × Instr × Nat)), am_ok 117 q.1 q.2.1 q.2.2 from
  am_fc (am_okt 164 242 168 23 "no such thing of a blank" (by decide) (by decide +kernel) (by decide +kernel) (by decide +kernel) (by decide +kernel) (am_mem 1014 (by decide +kernel)) (Or.inr ⟨rfl, rfl⟩) (by decide +kernel) (by decide +kernel) (by decide +kernel)) (
  am_fc (am_oks 235 (by decide +kernel) (by decide) (am_mem 1102 (by decide +kernel)) (Or.inl (am_mem 1101 (by decide +kernel)))) (
  am_fc (am_okgf 33 (by decide +kernel) (am_mem 466 (by decide +kernel))) (
  am_fc (am_okgf 29 (by decide +kernel) (am_mem 465 (by decide +kernel))) (
  am_fc (am_okv 244 (by decide +kernel) (by decide) (am_mem 683 (by decide +kernel)) (am_mem 684 (by decide +kernel)) (am_mem 685 (by decide +kernel))) (
  am_fc (am_okgf 33 (by decide +kernel) (am_mem 466 (by decide +kernel))) (
  am_fc (am_okv 247 (by decide +kernel) (by decide) (am_mem 1117 (by decide +kernel)) (am_mem 1118 (by decide +kernel)) (am_mem 1119 (by decide +kernel))) (
  am_fc (am_okgf 33 (by decide +kernel) (am_mem 466 (by decide +kernel))) (
  am_fc (am_okgf 19 (by decide +kernel) (am_mem 463 (by decide +kernel))) (
  am_fc (am_okv 228 (by decide +kernel) (by decide) (am_mem 546 (by decide +kernel)) (am_mem 547 (by decide +kernel)) (am_mem 548 (by decide +kernel))) (
  am_fc (am_okgf 33 (by decide +kernel) (am_mem 466 (by decide +kernel))) (
  am_fc (am_okv 247 (by decide +kernel) (by decide) (am_mem 1117 (by decide +kernel)) (am_mem 1118 (by decide +kernel)) (am_mem 1119 (by decide +kernel))) (
  am_fc (am_oks 250 (by decide +kernel) (by decide) (am_mem 1122 (by decide +kernel)) (Or.inl (am_mem 1121 (by decide +kernel)))) (
  am_fc (am_okgf 33 (by decide +kernel) (am_mem 466 (by decide +kernel))) (
  am_fc (am_okv 247 (by decide +kernel) (by decide) (am_mem 1117 (by decide +kernel)) (am_mem 1118 (by decide +kernel)) (am_mem 1119 (by decide +kernel))) (
  am_fn)))))))))))))))
def am_t117 : List (Nat × Instr × Nat) := am_p117_0 ++ (am_l117_0)
theorem am_ot117 : ∀ q ∈ am_t117, am_ok 117 q.1 q.2.1 q.2.2 := List.forall_mem_append.mpr ⟨am_op117_0, am_ol117_0⟩
def am_p118_0 : List (Nat × Instr × Nat) := [(0, .aload_n 0, 1), (1, .iload_n 1, 1), (5, .aload_n 0, 1), (6, .iload_n 2, 1), (10, .iload_n 3, 1), (11, .iconst 1, 1), (12, .bipush 100, 2), (17, .aload_n 0, 1), (21, .iload_n 1, 1), (22, .iload_n 2, 1), (26, .ifCond .ne 5, 3), (29, .iconst (-1), 1), (30, .ireturn, 1), (31, .iconst 0, 1), (32, .istore 4, 2), (34, .iload 4, 2), (36, .bipush 20, 2), (38, .if_icmp .gt 27, 3), (41, .aload_n 0, 1), (42, .iload_n 1, 1), (43, .iload 4, 2), (45, .iload_n 3, 1), (49, .iload_n 2, 1), (53, .ifCond .eq 6, 3), (56, .iload 4, 2), (58, .ireturn, 1), (59, .iinc 4 1, 3), (62, .goto (-28), 3), (65, .iconst (-1), 1), (66, .ireturn, 1)]
theorem am_op118_0 : ∀ q ∈ am_p118_0, am_ok 118 q.1 q.2.1 q.2.2 := am_okps (by decide +kernel)
def am_l118_0 : List (Nat × Instr × Nat) := [(2, .invokevirtual 142, 3), (7, .invokevirtual 143, 3), (14, .invokestatic 144, 3), (18, .getfield 100032, 3), (23, .invokevirtual 27, 3), (46, .invokevirtual 147, 3), (50, .invokestatic 145, 3)]
theorem am_ol118_0 : ∀ q ∈ am_l118_0, am_ok 118 q.1 q.2.1 q.2.2 := show ∀ q ∈ ([(2, .invokevirtual 142, 3), (7, .invokevirtual 143, 3), (14, .invokestatic 144, 3), (18, .getfield 100032, 3), (23, .invokevirtual 27, 3), (46, .invokevirtual 147, 3), (50, .invokestatic 145, 3)] : List (Nat × Instr × Nat)), am_ok 118 q.1 q.2.1 q.2.2 from
  am_fc (am_okv 169 (by decide +kernel) (by decide) (am_mem 1037 (by decide +kernel)) (am_mem 1039 (by decide +kernel)) (am_mem 26 (by decide +kernel))) (
  am_fc (am_okv 186 (by decide +kernel) (by decide) (am_mem 1050 (by decide +kernel)) (am_mem 1052 (by decide +kernel)) (am_mem 27 (by decide +kernel))) (
  am_fc (am_oks 235 (by decide +kernel) (by decide) (am_mem 1102 (by decide +kernel)) (Or.inl (am_mem 1101 (by decide +kernel)))) (
  am_fc (am_okgf 29 (by decide +kernel) (am_mem 465 (by decide +kernel))) (
  am_fc (am_okv 220 (by decide +kernel) (by decide) (am_mem 1089 (by decide +kernel)) (am_mem 630 (by decide +kernel)) (am_mem 631 (by decide +kernel))) (
  am_fc (am_okv 255 (by decide +kernel) (by decide) (am_mem 657 (by decide +kernel)) (am_mem 659 (by decide +kernel)) (am_mem 6 (by decide +kernel))) (
  am_fc (am_oks 259 (by decide +kernel) (by decide) (am_mem 573 (by decide +kernel)) (Or.inl (am_mem 1132 (by decide +kernel)))) (
  am_fn)))))))
def am_t118 : List (Nat × Instr × Nat) := am_p118_0 ++ (am_l118_0)
theorem am_ot118 : ∀ q ∈ am_t118, am_ok 118 q.1 q.2.1 q.2.2 := List.forall_mem_append.mpr ⟨am_op118_0, am_ol118_0⟩
def am_p119_0 : List (Nat × Instr × Nat) := [(0, .aload_n 0, 1), (1, .iload_n 1, 1), (5, .iload_n 2, 1), (6, .aload_n 0, 1), (10, .iload_n 1, 1), (14, .iconst (-1), 1), (15, .ixor, 1), (16, .iand, 1), (17, .ifCond .eq 14, 3), (31, .iload_n 3, 1), (32, .iconst 1, 1), (33, .iconst 5, 1), (37, .aload_n 0, 1), (41, .aload_n 0, 1), (45, .aload_n 0, 1), (49, .iload_n 1, 1), (50, .iload_n 2, 1), (51, .iload_n 3, 1), (55, .ireturn, 1)]
theorem am_op119_0 : ∀ q ∈ am_p119_0, am_ok 119 q.1 q.2.1 q.2.2 := am_okps (by decide +kernel)
def am_l119_0 : List (Nat × Instr × Nat) := [(2, .invokevirtual 142, 3), (7, .getfield 100032, 3), (11, .invokevirtual 28, 3), (20, .new 110, 3), (34, .invokestatic 144, 3), (38, .getfield 100072, 3), (42, .getfield 100012, 3), (46, .getfield 100032, 3), (52, .invokevirtual 5, 3)]
theorem am_ol119_0 : ∀ q ∈ am_l119_0, am_ok 119 q.1 q.2.1 q.2.2 := show ∀ q ∈ ([(2, .invokevirtual 142, 3), (7, .getfield 100032, 3), (11, .invokevirtual 28, 3), (20, .new 110, 3), (34, .invokestatic 144, 3), (38, .getfield 100072, 3), (42, .getfield 100012, 3), (46, .getfield 100032, 3), (52, .invokevirtual 5, 3)] : List (Nat × Instr × Nat)), am_ok 119 q.1 q.2.1 q.2.2 from
  am_fc (am_okv 169 (by decide +kernel) (by decide) (am_mem 1037 (by decide +kernel)) (am_mem 1039 (by decide +kernel)) (am_mem 26 (by decide +kernel))) (
  am_fc (am_okgf 29 (by decide +kernel) (am_mem 465 (by decide +kernel))) (
  am_fc (am_okv 181 (by decide +kernel) (by decide) (am_mem 673 (by decide +kernel)) (am_mem 602 (by decide +kernel)) (am_mem 603 (by decide +kernel))) (
  am_fc (am_oktw 108 262 112 24 "facts that he doesn't recall" (by decide) (by decide +kernel) (by decide +kernel) (by decide +kernel) (by decide +kernel) (am_mem 707 (by decide +kernel)) (Or.inl ⟨rfl, rfl⟩) (by decide +kernel) (by decide +kernel) (by decide +kernel)) (
  am_fc (am_oks 235 (by decide +kernel) (by decide) (am_mem 1102 (by decide +kernel)) (Or.inl (am_mem 1101 (by decide +kernel)))) (
  am_fc (am_okgf 53 (by decide +kernel) (am_mem 469 (by decide +kernel))) (
  am_fc (am_okgf 19 (by decide +kernel) (am_mem 463 (by decide +kernel))) (
  am_fc (am_okgf 29 (by decide +kernel) (am_mem 465 (by decide +kernel))) (
  am_fc (am_okv 264 (by decide +kernel) (by decide) (am_mem 1141 (by decide +kernel)) (am_mem 1142 (by decide +kernel)) (am_mem 1143 (by decide +kernel))) (
  am_fn)))))))))
def am_t119 : List (Nat × Instr × Nat) := am_p119_0 ++ (am_l119_0)
theorem am_ot119 : ∀ q ∈ am_t119, am_ok 119 q.1 q.2.1 q.2.2 := List.forall_mem_append.mpr ⟨am_op119_0, am_ol119_0⟩
def am_p120_0 : List (Nat × Instr × Nat) := [(0, .iload_n 1, 1), (1, .ifCond .lt 14, 3), (4, .iload_n 1, 1), (5, .aload_n 0, 1), (12, .if_icmp .lt 14, 3), (26, .aload_n 0, 1), (33, .iload_n 1, 1), (34, .iaload, 1), (35, .ireturn, 1)]
theorem am_op120_0 : ∀ q ∈ am_p120_0, am_ok 120 q.1 q.2.1 q.2.2 := am_okps (by decide +kernel)
def am_l120_0 : List (Nat × Instr × Nat) := [(6, .getfield 100072, 3), (9, .getfield 10040, 3), (15, .new 111, 3), (27, .getfield 100072, 3), (30, .getfield 10022, 3)]
theorem am_ol120_0 : ∀ q ∈ am_l120_0, am_ok 120 q.1 q.2.1 q.2.2 := show ∀ q ∈ ([(6, .getfield 100072, 3), (9, .getfield 10040, 3), (15, .new 111, 3), (27, .getfield 100072, 3), (30, .getfield 10022, 3)] : List (Nat × Instr × Nat)), am_ok 120 q.1 q.2.1 q.2.2 from
  am_fc (am_okgf 53 (by decide +kernel) (am_mem 469 (by decide +kernel))) (
  am_fc (am_okgf 129 (by decide +kernel) (am_mem 408 (by decide +kernel))) (
  am_fc (am_oktw 164 268 168 25 "no such day of a row that is kept" (by decide) (by decide +kernel) (by decide +kernel) (by decide +kernel) (by decide +kernel) (am_mem 1014 (by decide +kernel)) (Or.inr ⟨rfl, rfl⟩) (by decide +kernel) (by decide +kernel) (by decide +kernel)) (
  am_fc (am_okgf 53 (by decide +kernel) (am_mem 469 (by decide +kernel))) (
  am_fc (am_okgf 270 (by decide +kernel) (am_mem 405 (by decide +kernel))) (
  am_fn)))))
def am_t120 : List (Nat × Instr × Nat) := am_p120_0 ++ (am_l120_0)
theorem am_ot120 : ∀ q ∈ am_t120, am_ok 120 q.1 q.2.1 q.2.2 := List.forall_mem_append.mpr ⟨am_op120_0, am_ol120_0⟩
def am_p121_0 : List (Nat × Instr × Nat) := [(0, .iload_n 1, 1), (1, .aload_n 0, 1), (8, .iconst (-1), 1), (9, .ixor, 1), (10, .iand, 1), (11, .ifCond .eq 14, 3), (25, .iload_n 2, 1), (26, .iconst 0, 1), (27, .bipush 20, 2), (32, .iload_n 3, 1), (33, .iconst 1, 1), (34, .bipush 100, 2), (39, .iconst 0, 1), (40, .istore 4, 2), (42, .iload 4, 2), (44, .aload_n 0, 1), (51, .if_icmp .ge 24, 3), (54, .aload_n 0, 1), (58, .iload 4, 2), (60, .aload_n 0, 1), (61, .iload 4, 2), (63, .iload_n 2, 1), (64, .iload_n 3, 1), (68, .iastore, 1), (69, .iinc 4 1, 3), (72, .goto (-30), 3), (75, .iconst (-1), 1), (76, .istore 4, 2), (78, .iconst 0, 1), (79, .istore 5, 2), (81, .iload 5, 2), (83, .iconst 1, 1), (84, .aload_n 0, 1), (91, .ishl, 1), (92, .if_icmp .ge 57, 3), (95, .iload 4, 2), (97, .iconst (-1), 1), (98, .if_icmp .eq 16, 3), (101, .iload 5, 2), (106, .iload 4, 2), (111, .if_icmp .ge 7, 3), (114, .iconst 1, 1), (115, .goto 4, 3), (118, .iconst 0, 1), (119, .istore 6, 2), (121, .iload 6, 2), (123, .ifCond .eq 20, 3), (126, .iload_n 1, 1), (127, .aload_n 0, 1), (128, .iload 5, 2), (133, .iconst (-1), 1), (134, .ixor, 1), (135, .iand, 1), (136, .ifCond .ne 7, 3), (139, .iload 5, 2), (141, .istore 4, 2), (143, .iinc 5 1, 3), (146, .goto (-65), 3), (149, .iload 4, 2), (151, .ireturn, 1)]
theorem am_op121_0 : ∀ q ∈ am_p121_0, am_ok 121 q.1 q.2.1 q.2.2 := am_okps (by decide +kernel)
def am_l121_0 : List (Nat × Instr × Nat) := [(2, .getfield 100012, 3), (5, .invokevirtual 83, 3), (14, .new 110, 3), (29, .invokestatic 144, 3), (36, .invokestatic 144, 3), (45, .getfield 100012, 3), (48, .getfield 80000, 3), (55, .getfield 100112, 3), (65, .invokevirtual 147, 3), (85, .getfield 100012, 3), (88, .getfield 80000, 3), (103, .invokestatic 268, 3), (108, .invokestatic 268, 3), (130, .invokevirtual 148, 3)]
theorem am_ol121_0 : ∀ q ∈ am_l121_0, am_ok 121 q.1 q.2.1 q.2.2 := show ∀ q ∈ ([(2, .getfield 100012, 3), (5, .invokevirtual 83, 3), (14, .new 110, 3), (29, .invokestatic 144, 3), (36, .invokestatic 144, 3), (45, .getfield 100012, 3), (48, .getfield 80000, 3), (55, .getfield 100112, 3), (65, .invokevirtual 147, 3), (85, .getfield 100012, 3), (88, .getfield 80000, 3), (103, .invokestatic 268, 3), (108, .invokestatic 268, 3), (130, .invokevirtual 148, 3)] : List (Nat × Instr × Nat)), am_ok 121 q.1 q.2.1 q.2.2 from
  am_fc (am_okgf 19 (by decide +kernel) (am_mem 463 (by decide +kernel))) (
  am_fc (am_okv 273 (by decide +kernel) (by decide) (am_mem 1170 (by decide +kernel)) (am_mem 1171 (by decide +kernel)) (am_mem 1172 (by decide +kernel))) (
  am_fc (am_oktw 108 276 112 26 "facts that there aren't" (by decide) (by decide +kernel) (by decide +kernel) (by decide +kernel) (by decide +kernel) (am_mem 707 (by decide +kernel)) (Or.inl ⟨rfl, rfl⟩) (by decide +kernel) (by decide +kernel) (by decide +kernel)) (
  am_fc (am_oks 235 (by decide +kernel) (by decide) (am_mem 1102 (by decide +kernel)) (Or.inl (am_mem 1101 (by decide +kernel)))) (
  am_fc (am_oks 235 (by decide +kernel) (by decide) (am_mem 1102 (by decide +kernel)) (Or.inl (am_mem 1101 (by decide +kernel)))) (
  am_fc (am_okgf 19 (by decide +kernel) (am_mem 463 (by decide +kernel))) (
  am_fc (am_okgf 141 (by decide +kernel) (am_mem 232 (by decide +kernel))) (
  am_fc (am_okgf 75 (by decide +kernel) (am_mem 473 (by decide +kernel))) (
  am_fc (am_okv 255 (by decide +kernel) (by decide) (am_mem 657 (by decide +kernel)) (am_mem 659 (by decide +kernel)) (am_mem 6 (by decide +kernel))) (
  am_fc (am_okgf 19 (by decide +kernel) (am_mem 463 (by decide +kernel))) (
  am_fc (am_okgf 141 (by decide +kernel) (am_mem 232 (by decide +kernel))) (
  am_fc (am_oks 278 (by decide +kernel) (by decide) (am_mem 606 (by decide +kernel)) (Or.inl (am_mem 1175 (by decide +kernel)))) (
  am_fc (am_oks 278 (by decide +kernel) (by decide) (am_mem 606 (by decide +kernel)) (Or.inl (am_mem 1175 (by decide +kernel)))) (
  am_fc (am_okv 281 (by decide +kernel) (by decide) (am_mem 1176 (by decide +kernel)) (am_mem 1178 (by decide +kernel)) (am_mem 30 (by decide +kernel))) (
  am_fn))))))))))))))
def am_t121 : List (Nat × Instr × Nat) := am_p121_0 ++ (am_l121_0)
theorem am_ot121 : ∀ q ∈ am_t121, am_ok 121 q.1 q.2.1 q.2.2 := List.forall_mem_append.mpr ⟨am_op121_0, am_ol121_0⟩
def am_p122_0 : List (Nat × Instr × Nat) := [(0, .iload_n 1, 1), (1, .iconst 0, 1), (2, .bipush 30, 2), (7, .iload_n 2, 1), (8, .iconst 1, 1), (9, .bipush 100, 2), (14, .iconst 0, 1), (15, .istore_n 3, 1), (16, .iload_n 3, 1), (17, .aload_n 0, 1), (24, .if_icmp .ge 62, 3), (27, .iconst 0, 1), (28, .istore 4, 2), (30, .iload 4, 2), (32, .bipush 20, 2), (34, .if_icmp .gt 46, 3), (37, .aload_n 0, 1), (44, .iload_n 3, 1), (45, .aaload, 1), (46, .iload 4, 2), (48, .iload 4, 2), (50, .iload_n 1, 1), (51, .if_icmp .le 7, 3), (54, .iconst 0, 1), (55, .goto 18, 3), (58, .aload_n 0, 1), (62, .aload_n 0, 1), (63, .iload_n 3, 1), (64, .iload 4, 2), (66, .iload_n 2, 1), (73, .iastore, 1), (74, .iinc 4 1, 3), (77, .goto (-47), 3), (80, .iinc 3 1, 3), (83, .goto (-67), 3), (86, .aload_n 0, 1), (90, .aload_n 0, 1), (97, .iload_n 1, 1), (101, .ireturn, 1)]
theorem am_op122_0 : ∀ q ∈ am_p122_0, am_ok 122 q.1 q.2.1 q.2.2 := am_okps (by decide +kernel)
def am_l122_0 : List (Nat × Instr × Nat) := [(4, .invokestatic 144, 3), (11, .invokestatic 144, 3), (18, .getfield 100012, 3), (21, .getfield 80000, 3), (38, .getfield 100082, 3), (41, .getfield 50002, 3), (59, .getfield 100012, 3), (67, .invokevirtual 147, 3), (70, .invokevirtual 84, 3), (87, .getfield 100082, 3), (91, .getfield 100012, 3), (94, .getfield 80000, 3), (98, .invokevirtual 45, 3)]
theorem am_ol122_0 : ∀ q ∈ am_l122_0, am_ok 122 q.1 q.2.1 q.2.2 := show ∀ q ∈ ([(4, .invokestatic 144, 3), (11, .invokestatic 144, 3), (18, .getfield 100012, 3), (21, .getfield 80000, 3), (38, .getfield 100082, 3), (41, .getfield 50002, 3), (59, .getfield 100012, 3), (67, .invokevirtual 147, 3), (70, .invokevirtual 84, 3), (87, .getfield 100082, 3), (91, .getfield 100012, 3), (94, .getfield 80000, 3), (98, .invokevirtual 45, 3)] : List (Nat × Instr × Nat)), am_ok 122 q.1 q.2.1 q.2.2 from
  am_fc (am_oks 235 (by decide +kernel) (by decide) (am_mem 1102 (by decide +kernel)) (Or.inl (am_mem 1101 (by decide +kernel)))) (
  am_fc (am_oks 235 (by decide +kernel) (by decide) (am_mem 1102 (by decide +kernel)) (Or.inl (am_mem 1101 (by decide +kernel)))) (
  am_fc (am_okgf 19 (by decide +kernel) (am_mem 463 (by decide +kernel))) (
  am_fc (am_okgf 141 (by decide +kernel) (am_mem 232 (by decide +kernel))) (
  am_fc (am_okgf 60 (by decide +kernel) (am_mem 470 (by decide +kernel))) (
  am_fc (am_okgf 284 (by decide +kernel) (am_mem 429 (by decide +kernel))) (
  am_fc (am_okgf 19 (by decide +kernel) (am_mem 463 (by decide +kernel))) (
  am_fc (am_okv 255 (by decide +kernel) (by decide) (am_mem 657 (by decide +kernel)) (am_mem 659 (by decide +kernel)) (am_mem 6 (by decide +kernel))) (
  am_fc (am_okv 288 (by decide +kernel) (by decide) (am_mem 1187 (by decide +kernel)) (am_mem 1188 (by decide +kernel)) (am_mem 1189 (by decide +kernel))) (
  am_fc (am_okgf 60 (by decide +kernel) (am_mem 470 (by decide +kernel))) (
  am_fc (am_okgf 19 (by decide +kernel) (am_mem 463 (by decide +kernel))) (
  am_fc (am_okgf 141 (by decide +kernel) (am_mem 232 (by decide +kernel))) (
  am_fc (am_okv 291 (by decide +kernel) (by decide) (am_mem 1192 (by decide +kernel)) (am_mem 1193 (by decide +kernel)) (am_mem 1194 (by decide +kernel))) (
  am_fn)))))))))))))
def am_t122 : List (Nat × Instr × Nat) := am_p122_0 ++ (am_l122_0)
theorem am_ot122 : ∀ q ∈ am_t122, am_ok 122 q.1 q.2.1 q.2.2 := List.forall_mem_append.mpr ⟨am_op122_0, am_ol122_0⟩
def am_p123_0 : List (Nat × Instr × Nat) := [(0, .aload_n 0, 1), (1, .iload_n 1, 1), (5, .aload_n 0, 1), (12, .ifCond .ne 14, 3), (26, .aload_n 0, 1), (33, .iload_n 1, 1), (34, .iaload, 1), (35, .ireturn, 1)]
theorem am_op123_0 : ∀ q ∈ am_p123_0, am_ok 123 q.1 q.2.1 q.2.2 := am_okps (by decide +kernel)
def am_l123_0 : List (Nat × Instr × Nat) := [(2, .invokevirtual 142, 3), (6, .getfield 100082, 3), (9, .getfield 50031, 3), (15, .new 111, 3), (27, .getfield 100082, 3), (30, .getfield 50022, 3)]
theorem am_ol123_0 : ∀ q ∈ am_l123_0, am_ok 123 q.1 q.2.1 q.2.2 := show ∀ q ∈ ([(2, .invokevirtual 142, 3), (6, .getfield 100082, 3), (9, .getfield 50031, 3), (15, .new 111, 3), (27, .getfield 100082, 3), (30, .getfield 50022, 3)] : List (Nat × Instr × Nat)), am_ok 123 q.1 q.2.1 q.2.2 from
  am_fc (am_okv 169 (by decide +kernel) (by decide) (am_mem 1037 (by decide +kernel)) (am_mem 1039 (by decide +kernel)) (am_mem 26 (by decide +kernel))) (
  am_fc (am_okgf 60 (by decide +kernel) (am_mem 470 (by decide +kernel))) (
  am_fc (am_okgf 132 (by decide +kernel) (am_mem 434 (by decide +kernel))) (
  am_fc (am_oktw 164 294 168 27 "no rations are kept" (by decide) (by decide +kernel) (by decide +kernel) (by decide +kernel) (by decide +kernel) (am_mem 1014 (by decide +kernel)) (Or.inr ⟨rfl, rfl⟩) (by decide +kernel) (by decide +kernel) (by decide +kernel)) (
  am_fc (am_okgf 60 (by decide +kernel) (am_mem 470 (by decide +kernel))) (
  am_fc (am_okgf 296 (by decide +kernel) (am_mem 432 (by decide +kernel))) (
  am_fn))))))
def am_t123 : List (Nat × Instr × Nat) := am_p123_0 ++ (am_l123_0)
theorem am_ot123 : ∀ q ∈ am_t123, am_ok 123 q.1 q.2.1 q.2.2 := List.forall_mem_append.mpr ⟨am_op123_0, am_ol123_0⟩
def am_p124_0 : List (Nat × Instr × Nat) := [(0, .aload_n 0, 1), (1, .iload_n 1, 1), (5, .aload_n 0, 1), (6, .iload_n 2, 1), (10, .aload_n 0, 1), (14, .aload_n 0, 1), (18, .iload_n 1, 1), (22, .aload_n 0, 1), (29, .aload_n 0, 1), (33, .iload_n 2, 1), (34, .iaload, 1), (35, .ireturn, 1)]
theorem am_op124_0 : ∀ q ∈ am_p124_0, am_ok 124 q.1 q.2.1 q.2.2 := am_okps (by decide +kernel)
def am_l124_0 : List (Nat × Instr × Nat) := [(2, .invokevirtual 143, 3), (7, .invokevirtual 142, 3), (11, .getfield 100012, 3), (15, .getfield 100032, 3), (19, .invokevirtual 30, 3), (23, .getfield 100122, 3), (26, .invokevirtual 88, 3), (30, .getfield 100122, 3)]
theorem am_ol124_0 : ∀ q ∈ am_l124_0, am_ok 124 q.1 q.2.1 q.2.2 := show ∀ q ∈ ([(2, .invokevirtual 143, 3), (7, .invokevirtual 142, 3), (11, .getfield 100012, 3), (15, .getfield 100032, 3), (19, .invokevirtual 30, 3), (23, .getfield 100122, 3), (26, .invokevirtual 88, 3), (30, .getfield 100122, 3)] : List (Nat × Instr × Nat)), am_ok 124 q.1 q.2.1 q.2.2 from
  am_fc (am_okv 186 (by decide +kernel) (by decide) (am_mem 1050 (by decide +kernel)) (am_mem 1052 (by decide +kernel)) (am_mem 27 (by decide +kernel))) (
  am_fc (am_okv 169 (by decide +kernel) (by decide) (am_mem 1037 (by decide +kernel)) (am_mem 1039 (by decide +kernel)) (am_mem 26 (by decide +kernel))) (
  am_fc (am_okgf 19 (by decide +kernel) (am_mem 463 (by decide +kernel))) (
  am_fc (am_okgf 29 (by decide +kernel) (am_mem 465 (by decide +kernel))) (
  am_fc (am_okv 198 (by decide +kernel) (by decide) (am_mem 1055 (by decide +kernel)) (am_mem 1056 (by decide +kernel)) (am_mem 1057 (by decide +kernel))) (
  am_fc (am_okgf 78 (by decide +kernel) (am_mem 474 (by decide +kernel))) (
  am_fc (am_okv 299 (by decide +kernel) (by decide) (am_mem 1224 (by decide +kernel)) (am_mem 1225 (by decide +kernel)) (am_mem 1226 (by decide +kernel))) (
  am_fc (am_okgf 78 (by decide +kernel) (am_mem 474 (by decide +kernel))) (
  am_fn))))))))
def am_t124 : List (Nat × Instr × Nat) := am_p124_0 ++ (am_l124_0)
theorem am_ot124 : ∀ q ∈ am_t124, am_ok 124 q.1 q.2.1 q.2.2 := List.forall_mem_append.mpr ⟨am_op124_0, am_ol124_0⟩
def am_p125_0 : List (Nat × Instr × Nat) := [(0, .aload_n 0, 1), (1, .iload_n 1, 1), (5, .iconst (-1), 1), (6, .istore_n 2, 1), (7, .iconst 0, 1), (8, .istore_n 3, 1), (9, .iconst 0, 1), (10, .istore 4, 2), (12, .iconst 0, 1), (13, .istore 5, 2), (15, .iload 5, 2), (17, .aload_n 0, 1), (24, .if_icmp .ge 83, 3), (27, .aload_n 0, 1), (31, .iload 5, 2), (33, .iload_n 1, 1), (37, .ifCond .eq 64, 3), (40, .aload_n 0, 1), (44, .iconst 1, 1), (45, .iload 5, 2), (47, .ishl, 1), (48, .aload_n 0, 1), (55, .aload_n 0, 1), (59, .istore 6, 2), (61, .aload_n 0, 1), (65, .istore 7, 2), (67, .iload_n 2, 1), (68, .iconst (-1), 1), (69, .if_icmp .eq 22, 3), (72, .iload 6, 2), (74, .iload_n 3, 1), (75, .if_icmp .gt 16, 3), (78, .iload 6, 2), (80, .iload_n 3, 1), (81, .if_icmp .ne 20, 3), (84, .iload 7, 2), (86, .iload 4, 2), (88, .if_icmp .ge 13, 3), (91, .iload 5, 2), (93, .istore_n 2, 1), (94, .iload 6, 2), (96, .istore_n 3, 1), (97, .iload 7, 2), (99, .istore 4, 2), (101, .iinc 5 1, 3), (104, .goto (-89), 3), (107, .iload_n 2, 1), (108, .ireturn, 1)]
theorem am_op125_0 : ∀ q ∈ am_p125_0, am_ok 125 q.1 q.2.1 q.2.2 := am_okps (by decide +kernel)
def am_l125_0 : List (Nat × Instr × Nat) := [(2, .invokevirtual 143, 3), (18, .getfield 100012, 3), (21, .getfield 80000, 3), (28, .getfield 100032, 3), (34, .invokevirtual 27, 3), (41, .getfield 100012, 3), (49, .getfield 100122, 3), (52, .invokevirtual 88, 3), (56, .invokevirtual 149, 3), (62, .invokevirtual 150, 3)]
theorem am_ol125_0 : ∀ q ∈ am_l125_0, am_ok 125 q.1 q.2.1 q.2.2 := show ∀ q ∈ ([(2, .invokevirtual 143, 3), (18, .getfield 100012, 3), (21, .getfield 80000, 3), (28, .getfield 100032, 3), (34, .invokevirtual 27, 3), (41, .getfield 100012, 3), (49, .getfield 100122, 3), (52, .invokevirtual 88, 3), (56, .invokevirtual 149, 3), (62, .invokevirtual 150, 3)] : List (Nat × Instr × Nat)), am_ok 125 q.1 q.2.1 q.2.2 from
  am_fc (am_okv 186 (by decide +kernel) (by decide) (am_mem 1050 (by decide +kernel)) (am_mem 1052 (by decide +kernel)) (am_mem 27 (by decide +kernel))) (
  am_fc (am_okgf 19 (by decide +kernel) (am_mem 463 (by decide +kernel))) (
  am_fc (am_okgf 141 (by decide +kernel) (am_mem 232 (by decide +kernel))) (
  am_fc (am_okgf 29 (by decide +kernel) (am_mem 465 (by decide +kernel))) (
  am_fc (am_okv 220 (by decide +kernel) (by decide) (am_mem 1089 (by decide +kernel)) (am_mem 630 (by decide +kernel)) (am_mem 631 (by decide +kernel))) (
  am_fc (am_okgf 19 (by decide +kernel) (am_mem 463 (by decide +kernel))) (
  am_fc (am_okgf 78 (by decide +kernel) (am_mem 474 (by decide +kernel))) (
  am_fc (am_okv 299 (by decide +kernel) (by decide) (am_mem 1224 (by decide +kernel)) (am_mem 1225 (by decide +kernel)) (am_mem 1226 (by decide +kernel))) (
  am_fc (am_okv 303 (by decide +kernel) (by decide) (am_mem 1236 (by decide +kernel)) (am_mem 1238 (by decide +kernel)) (am_mem 34 (by decide +kernel))) (
  am_fc (am_okv 306 (by decide +kernel) (by decide) (am_mem 1240 (by decide +kernel)) (am_mem 1242 (by decide +kernel)) (am_mem 35 (by decide +kernel))) (
  am_fn))))))))))
def am_t125 : List (Nat × Instr × Nat) := am_p125_0 ++ (am_l125_0)
theorem am_ot125 : ∀ q ∈ am_t125, am_ok 125 q.1 q.2.1 q.2.2 := List.forall_mem_append.mpr ⟨am_op125_0, am_ol125_0⟩
def am_p126_0 : List (Nat × Instr × Nat) := [(0, .iload_n 1, 1), (1, .ifCond .lt 8, 3), (4, .iload_n 1, 1), (5, .iconst 4, 1), (6, .if_icmp .lt 14, 3), (20, .iconst 0, 1), (21, .istore_n 2, 1), (22, .iconst 0, 1), (23, .istore_n 3, 1), (24, .iload_n 3, 1), (25, .aload_n 0, 1), (32, .if_icmp .ge 33, 3), (35, .aload_n 0, 1), (42, .iload_n 3, 1), (43, .iaload, 1), (44, .iload_n 1, 1), (45, .if_icmp .ne 14, 3), (48, .iload_n 2, 1), (49, .aload_n 0, 1), (53, .iload_n 3, 1), (57, .ior, 1), (58, .istore_n 2, 1), (59, .iinc 3 1, 3), (62, .goto (-38), 3), (65, .iconst 0, 1), (66, .istore_n 3, 1), (67, .iconst 0, 1), (68, .istore 4, 2), (70, .iload 4, 2), (72, .aload_n 0, 1), (79, .if_icmp .ge 42, 3), (82, .aload_n 0, 1), (89, .iload 4, 2), (91, .iaload, 1), (92, .iload_n 1, 1), (93, .if_icmp .ne 22, 3), (96, .iload_n 3, 1), (97, .iload_n 2, 1), (98, .aload_n 0, 1), (102, .iload 4, 2), (107, .iconst (-1), 1), (108, .ixor, 1), (109, .iand, 1), (113, .iadd, 1), (114, .istore_n 3, 1), (115, .iinc 4 1, 3), (118, .goto (-48), 3), (121, .iload_n 3, 1), (122, .ireturn, 1)]
theorem am_op126_0 : ∀ q ∈ am_p126_0, am_ok 126 q.1 q.2.1 q.2.2 := am_okps (by decide +kernel)
def am_l126_0 : List (Nat × Instr × Nat) := [(9, .new 111, 3), (26, .getfield 100012, 3), (29, .getfield 80000, 3), (36, .getfield 100032, 3), (39, .getfield 40022, 3), (50, .getfield 100032, 3), (54, .invokevirtual 28, 3), (73, .getfield 100012, 3), (76, .getfield 80000, 3), (83, .getfield 100032, 3), (86, .getfield 40022, 3), (99, .getfield 100032, 3), (104, .invokevirtual 28, 3), (110, .invokestatic 268, 3)]
theorem am_ol126_0 : ∀ q ∈ am_l126_0, am_ok 126 q.1 q.2.1 q.2.2 := show ∀ q ∈ ([(9, .new 111, 3), (26, .getfield 100012, 3), (29, .getfield 80000, 3), (36, .getfield 100032, 3), (39, .getfield 40022, 3), (50, .getfield 100032, 3), (54, .invokevirtual 28, 3), (73, .getfield 100012, 3), (76, .getfield 80000, 3), (83, .getfield 100032, 3), (86, .getfield 40022, 3), (99, .getfield 100032, 3), (104, .invokevirtual 28, 3), (110, .invokestatic 268, 3)] : List (Nat × Instr × Nat)), am_ok 126 q.1 q.2.1 q.2.2 from
  am_fc (am_oktw 164 309 168 28 "no such table" (by decide) (by decide +kernel) (by decide +kernel) (by decide +kernel) (by decide +kernel) (am_mem 1014 (by decide +kernel)) (Or.inr ⟨rfl, rfl⟩) (by decide +kernel) (by decide +kernel) (by decide +kernel)) (
  am_fc (am_okgf 19 (by decide +kernel) (am_mem 463 (by decide +kernel))) (
  am_fc (am_okgf 141 (by decide +kernel) (am_mem 232 (by decide +kernel))) (
  am_fc (am_okgf 29 (by decide +kernel) (am_mem 465 (by decide +kernel))) (
  am_fc (am_okgf 175 (by decide +kernel) (am_mem 337 (by decide +kernel))) (
  am_fc (am_okgf 29 (by decide +kernel) (am_mem 465 (by decide +kernel))) (
  am_fc (am_okv 181 (by decide +kernel) (by decide) (am_mem 673 (by decide +kernel)) (am_mem 602 (by decide +kernel)) (am_mem 603 (by decide +kernel))) (
  am_fc (am_okgf 19 (by decide +kernel) (am_mem 463 (by decide +kernel))) (
  am_fc (am_okgf 141 (by decide +kernel) (am_mem 232 (by decide +kernel))) (
  am_fc (am_okgf 29 (by decide +kernel) (am_mem 465 (by decide +kernel))) (
  am_fc (am_okgf 175 (by decide +kernel) (am_mem 337 (by decide +kernel))) (
  am_fc (am_okgf 29 (by decide +kernel) (am_mem 465 (by decide +kernel))) (
  am_fc (am_okv 181 (by decide +kernel) (by decide) (am_mem 673 (by decide +kernel)) (am_mem 602 (by decide +kernel)) (am_mem 603 (by decide +kernel))) (
  am_fc (am_oks 278 (by decide +kernel) (by decide) (am_mem 606 (by decide +kernel)) (Or.inl (am_mem 1175 (by decide +kernel)))) (
  am_fn))))))))))))))
def am_t126 : List (Nat × Instr × Nat) := am_p126_0 ++ (am_l126_0)
theorem am_ot126 : ∀ q ∈ am_t126, am_ok 126 q.1 q.2.1 q.2.2 := List.forall_mem_append.mpr ⟨am_op126_0, am_ol126_0⟩
def am_p127_0 : List (Nat × Instr × Nat) := [(0, .aload_n 0, 1), (1, .iload_n 1, 1), (5, .aload_n 0, 1), (9, .iload_n 1, 1), (10, .aload_n 0, 1), (14, .iload_n 1, 1), (21, .ireturn, 1)]
theorem am_op127_0 : ∀ q ∈ am_p127_0, am_ok 127 q.1 q.2.1 q.2.2 := am_okps (by decide +kernel)
def am_l127_0 : List (Nat × Instr × Nat) := [(2, .invokevirtual 143, 3), (6, .getfield 100012, 3), (11, .getfield 100032, 3), (15, .invokevirtual 30, 3), (18, .invokevirtual 89, 3)]
theorem am_ol127_0 : ∀ q ∈ am_l127_0, am_ok 127 q.1 q.2.1 q.2.2 := show ∀ q ∈ ([(2, .invokevirtual 143, 3), (6, .getfield 100012, 3), (11, .getfield 100032, 3), (15, .invokevirtual 30, 3), (18, .invokevirtual 89, 3)] : List (Nat × Instr × Nat)), am_ok 127 q.1 q.2.1 q.2.2 from
  am_fc (am_okv 186 (by decide +kernel) (by decide) (am_mem 1050 (by decide +kernel)) (am_mem 1052 (by decide +kernel)) (am_mem 27 (by decide +kernel))) (
  am_fc (am_okgf 19 (by decide +kernel) (am_mem 463 (by decide +kernel))) (
  am_fc (am_okgf 29 (by decide +kernel) (am_mem 465 (by decide +kernel))) (
  am_fc (am_okv 198 (by decide +kernel) (by decide) (am_mem 1055 (by decide +kernel)) (am_mem 1056 (by decide +kernel)) (am_mem 1057 (by decide +kernel))) (
  am_fc (am_okv 311 (by decide +kernel) (by decide) (am_mem 1259 (by decide +kernel)) (am_mem 1260 (by decide +kernel)) (am_mem 1261 (by decide +kernel))) (
  am_fn)))))
def am_t127 : List (Nat × Instr × Nat) := am_p127_0 ++ (am_l127_0)
theorem am_ot127 : ∀ q ∈ am_t127, am_ok 127 q.1 q.2.1 q.2.2 := List.forall_mem_append.mpr ⟨am_op127_0, am_ol127_0⟩
def am_p128_0 : List (Nat × Instr × Nat) := [(0, .aload_n 0, 1), (1, .iload_n 1, 1), (5, .aload_n 0, 1), (6, .aload_n 0, 1), (10, .iload_n 1, 1), (14, .ireturn, 1)]
theorem am_op128_0 : ∀ q ∈ am_p128_0, am_ok 128 q.1 q.2.1 q.2.2 := am_okps (by decide +kernel)
def am_l128_0 : List (Nat × Instr × Nat) := [(2, .invokevirtual 142, 3), (7, .getfield 100032, 3), (11, .invokevirtual 151, 3)]
theorem am_ol128_0 : ∀ q ∈ am_l128_0, am_ok 128 q.1 q.2.1 q.2.2 := show ∀ q ∈ ([(2, .invokevirtual 142, 3), (7, .getfield 100032, 3), (11, .invokevirtual 151, 3)] : List (Nat × Instr × Nat)), am_ok 128 q.1 q.2.1 q.2.2 from
  am_fc (am_okv 169 (by decide +kernel) (by decide) (am_mem 1037 (by decide +kernel)) (am_mem 1039 (by decide +kernel)) (am_mem 26 (by decide +kernel))) (
  am_fc (am_okgf 29 (by decide +kernel) (am_mem 465 (by decide +kernel))) (
  am_fc (am_okv 314 (by decide +kernel) (by decide) (am_mem 1270 (by decide +kernel)) (am_mem 1272 (by decide +kernel)) (am_mem 36 (by decide +kernel))) (
  am_fn)))
def am_t128 : List (Nat × Instr × Nat) := am_p128_0 ++ (am_l128_0)
theorem am_ot128 : ∀ q ∈ am_t128, am_ok 128 q.1 q.2.1 q.2.2 := List.forall_mem_append.mpr ⟨am_op128_0, am_ol128_0⟩
def am_p129_0 : List (Nat × Instr × Nat) := [(0, .iload_n 1, 1), (1, .iconst 0, 1), (2, .bipush 100, 2), (7, .aload_n 0, 1), (8, .iload_n 1, 1), (9, .iconst (-1), 1), (13, .iconst (-1), 1), (14, .istore_n 2, 1), (15, .iconst 0, 1), (16, .istore_n 3, 1), (17, .iconst 0, 1), (18, .istore 4, 2), (20, .iload 4, 2), (22, .aload_n 0, 1), (29, .if_icmp .ge 49, 3), (32, .aload_n 0, 1), (33, .aload_n 0, 1), (37, .iload 4, 2), (42, .aload_n 0, 1), (43, .aload_n 0, 1), (47, .iload 4, 2), (52, .isub, 1), (53, .istore 5, 2), (55, .iload_n 2, 1), (56, .iconst (-1), 1), (57, .if_icmp .eq 9, 3), (60, .iload 5, 2), (62, .iload_n 3, 1), (63, .if_icmp .le 9, 3), (66, .iload 4, 2), (68, .istore_n 2, 1), (69, .iload 5, 2), (71, .istore_n 3, 1), (72, .iinc 4 1, 3), (75, .goto (-55), 3), (78, .iload_n 2, 1), (79, .ireturn, 1)]
theorem am_op129_0 : ∀ q ∈ am_p129_0, am_ok 129 q.1 q.2.1 q.2.2 := am_okps (by decide +kernel)
def am_l129_0 : List (Nat × Instr × Nat) := [(4, .invokestatic 144, 3), (10, .invokevirtual 146, 3), (23, .getfield 100012, 3), (26, .getfield 80000, 3), (34, .getfield 100032, 3), (39, .invokevirtual 151, 3), (44, .getfield 100042, 3), (49, .invokevirtual 151, 3)]
theorem am_ol129_0 : ∀ q ∈ am_l129_0, am_ok 129 q.1 q.2.1 q.2.2 := show ∀ q ∈ ([(4, .invokestatic 144, 3), (10, .invokevirtual 146, 3), (23, .getfield 100012, 3), (26, .getfield 80000, 3), (34, .getfield 100032, 3), (39, .invokevirtual 151, 3), (44, .getfield 100042, 3), (49, .invokevirtual 151, 3)] : List (Nat × Instr × Nat)), am_ok 129 q.1 q.2.1 q.2.2 from
  am_fc (am_oks 235 (by decide +kernel) (by decide) (am_mem 1102 (by decide +kernel)) (Or.inl (am_mem 1101 (by decide +kernel)))) (
  am_fc (am_okv 239 (by decide +kernel) (by decide) (am_mem 1105 (by decide +kernel)) (am_mem 1107 (by decide +kernel)) (am_mem 28 (by decide +kernel))) (
  am_fc (am_okgf 19 (by decide +kernel) (am_mem 463 (by decide +kernel))) (
  am_fc (am_okgf 141 (by decide +kernel) (am_mem 232 (by decide +kernel))) (
  am_fc (am_okgf 29 (by decide +kernel) (am_mem 465 (by decide +kernel))) (
  am_fc (am_okv 314 (by decide +kernel) (by decide) (am_mem 1270 (by decide +kernel)) (am_mem 1272 (by decide +kernel)) (am_mem 36 (by decide +kernel))) (
  am_fc (am_okgf 33 (by decide +kernel) (am_mem 466 (by decide +kernel))) (
  am_fc (am_okv 314 (by decide +kernel) (by decide) (am_mem 1270 (by decide +kernel)) (am_mem 1272 (by decide +kernel)) (am_mem 36 (by decide +kernel))) (
  am_fn))))))))
def am_t129 : List (Nat × Instr × Nat) := am_p129_0 ++ (am_l129_0)
theorem am_ot129 : ∀ q ∈ am_t129, am_ok 129 q.1 q.2.1 q.2.2 := List.forall_mem_append.mpr ⟨am_op129_0, am_ol129_0⟩
def am_p130_0 : List (Nat × Instr × Nat) := [(0, .aload_n 0, 1), (1, .iload_n 1, 1), (5, .aload_n 0, 1), (6, .iload_n 2, 1), (10, .aload_n 0, 1), (17, .bipush 8, 2), (19, .if_icmp .lt 15, 3), (22, .aload_n 0, 1), (26, .iconst 2, 1), (27, .dup2, 1), (28, .iaload, 1), (29, .iconst 1, 1), (30, .iadd, 1), (31, .iastore, 1), (32, .iconst (-1), 1), (33, .ireturn, 1), (34, .aload_n 0, 1), (38, .iload_n 1, 1), (39, .iload_n 2, 1), (40, .iload_n 3, 1), (44, .aload_n 0, 1), (51, .ireturn, 1)]
theorem am_op130_0 : ∀ q ∈ am_p130_0, am_ok 130 q.1 q.2.1 q.2.2 := am_okps (by decide +kernel)
def am_l130_0 : List (Nat × Instr × Nat) := [(2, .invokevirtual 142, 3), (7, .invokevirtual 143, 3), (11, .getfield 100062, 3), (14, .getfield 30, 3), (23, .getfield 100102, 3), (35, .getfield 100062, 3), (41, .invokevirtual 1, 3), (45, .getfield 100062, 3), (48, .getfield 30, 3)]
theorem am_ol130_0 : ∀ q ∈ am_l130_0, am_ok 130 q.1 q.2.1 q.2.2 := show ∀ q ∈ ([(2, .invokevirtual 142, 3), (7, .invokevirtual 143, 3), (11, .getfield 100062, 3), (14, .getfield 30, 3), (23, .getfield 100102, 3), (35, .getfield 100062, 3), (41, .invokevirtual 1, 3), (45, .getfield 100062, 3), (48, .getfield 30, 3)] : List (Nat × Instr × Nat)), am_ok 130 q.1 q.2.1 q.2.2 from
  am_fc (am_okv 169 (by decide +kernel) (by decide) (am_mem 1037 (by decide +kernel)) (am_mem 1039 (by decide +kernel)) (am_mem 26 (by decide +kernel))) (
  am_fc (am_okv 186 (by decide +kernel) (by decide) (am_mem 1050 (by decide +kernel)) (am_mem 1052 (by decide +kernel)) (am_mem 27 (by decide +kernel))) (
  am_fc (am_okgf 46 (by decide +kernel) (am_mem 468 (by decide +kernel))) (
  am_fc (am_okgf 126 (by decide +kernel) (am_mem 382 (by decide +kernel))) (
  am_fc (am_okgf 71 (by decide +kernel) (am_mem 472 (by decide +kernel))) (
  am_fc (am_okgf 46 (by decide +kernel) (am_mem 468 (by decide +kernel))) (
  am_fc (am_okv 318 (by decide +kernel) (by decide) (am_mem 1288 (by decide +kernel)) (am_mem 1289 (by decide +kernel)) (am_mem 1290 (by decide +kernel))) (
  am_fc (am_okgf 46 (by decide +kernel) (am_mem 468 (by decide +kernel))) (
  am_fc (am_okgf 126 (by decide +kernel) (am_mem 382 (by decide +kernel))) (
  am_fn)))))))))
def am_t130 : List (Nat × Instr × Nat) := am_p130_0 ++ (am_l130_0)
theorem am_ot130 : ∀ q ∈ am_t130, am_ok 130 q.1 q.2.1 q.2.2 := List.forall_mem_append.mpr ⟨am_op130_0, am_ol130_0⟩
def am_p131_0 : List (Nat × Instr × Nat) := [(0, .aload_n 0, 1), (4, .iconst 0, 1), (8, .return_, 1)]
theorem am_op131_0 : ∀ q ∈ am_p131_0, am_ok 131 q.1 q.2.1 q.2.2 := am_okps (by decide +kernel)
def am_l131_0 : List (Nat × Instr × Nat) := [(1, .getfield 100062, 3), (5, .putfield 30, 3)]
theorem am_ol131_0 : ∀ q ∈ am_l131_0, am_ok 131 q.1 q.2.1 q.2.2 := show ∀ q ∈ ([(1, .getfield 100062, 3), (5, .putfield 30, 3)] : List (Nat × Instr × Nat)), am_ok 131 q.1 q.2.1 q.2.2 from
  am_fc (am_okgf 46 (by decide +kernel) (am_mem 468 (by decide +kernel))) (
  am_fc (am_okpf 126 (by decide +kernel) (am_mem 382 (by decide +kernel))) (
  am_fn))
def am_t131 : List (Nat × Instr × Nat) := am_p131_0 ++ (am_l131_0)
theorem am_ot131 : ∀ q ∈ am_t131, am_ok 131 q.1 q.2.1 q.2.2 := List.forall_mem_append.mpr ⟨am_op131_0, am_ol131_0⟩
def am_p132_0 : List (Nat × Instr × Nat) := [(0, .aload_n 0, 1), (1, .iload_n 1, 1), (5, .iload_n 2, 1), (6, .ifCond .eq 19, 3), (9, .iload_n 2, 1), (10, .iconst 1, 1), (11, .if_icmp .eq 14, 3), (25, .aload_n 0, 1), (26, .iload_n 1, 1), (30, .istore_n 3, 1), (31, .iload_n 2, 1), (32, .ifCond .ne 8, 3), (35, .iload_n 3, 1), (39, .ireturn, 1), (40, .iload_n 3, 1), (41, .ifCond .ne 7, 3), (44, .iconst (-1), 1), (45, .goto 7, 3), (48, .iload_n 3, 1), (52, .ireturn, 1)]
theorem am_op132_0 : ∀ q ∈ am_p132_0, am_ok 132 q.1 q.2.1 q.2.2 := am_okps (by decide +kernel)
def am_l132_0 : List (Nat × Instr × Nat) := [(2, .invokevirtual 142, 3), (14, .new 111, 3), (27, .invokevirtual 152, 3), (36, .invokestatic 268, 3), (49, .invokestatic 267, 3)]
theorem am_ol132_0 : ∀ q ∈ am_l132_0, am_ok 132 q.1 q.2.1 q.2.2 := show ∀ q ∈ ([(2, .invokevirtual 142, 3), (14, .new 111, 3), (27, .invokevirtual 152, 3), (36, .invokestatic 268, 3), (49, .invokestatic 267, 3)] : List (Nat × Instr × Nat)), am_ok 132 q.1 q.2.1 q.2.2 from
  am_fc (am_okv 169 (by decide +kernel) (by decide) (am_mem 1037 (by decide +kernel)) (am_mem 1039 (by decide +kernel)) (am_mem 26 (by decide +kernel))) (
  am_fc (am_oktw 164 322 168 29 "no such thing of what one ate" (by decide) (by decide +kernel) (by decide +kernel) (by decide +kernel) (by decide +kernel) (am_mem 1014 (by decide +kernel)) (Or.inr ⟨rfl, rfl⟩) (by decide +kernel) (by decide +kernel) (by decide +kernel)) (
  am_fc (am_okv 324 (by decide +kernel) (by decide) (am_mem 653 (by decide +kernel)) (am_mem 655 (by decide +kernel)) (am_mem 5 (by decide +kernel))) (
  am_fc (am_oks 278 (by decide +kernel) (by decide) (am_mem 606 (by decide +kernel)) (Or.inl (am_mem 1175 (by decide +kernel)))) (
  am_fc (am_oks 250 (by decide +kernel) (by decide) (am_mem 1122 (by decide +kernel)) (Or.inl (am_mem 1121 (by decide +kernel)))) (
  am_fn)))))
def am_t132 : List (Nat × Instr × Nat) := am_p132_0 ++ (am_l132_0)
theorem am_ot132 : ∀ q ∈ am_t132, am_ok 132 q.1 q.2.1 q.2.2 := List.forall_mem_append.mpr ⟨am_op132_0, am_ol132_0⟩
def am_p133_0 : List (Nat × Instr × Nat) := [(0, .iconst 0, 1), (1, .istore_n 1, 1), (2, .iconst 0, 1), (3, .istore_n 2, 1), (4, .iload_n 2, 1), (5, .aload_n 0, 1), (12, .if_icmp .ge 23, 3), (15, .aload_n 0, 1), (16, .iload_n 2, 1), (20, .ifCond .ne 9, 3), (23, .iload_n 1, 1), (24, .iconst 1, 1), (25, .iload_n 2, 1), (26, .ishl, 1), (27, .ior, 1), (28, .istore_n 1, 1), (29, .iinc 2 1, 3), (32, .goto (-28), 3), (35, .iload_n 1, 1), (36, .ireturn, 1)]
theorem am_op133_0 : ∀ q ∈ am_p133_0, am_ok 133 q.1 q.2.1 q.2.2 := am_okps (by decide +kernel)
def am_l133_0 : List (Nat × Instr × Nat) := [(6, .getfield 100012, 3), (9, .getfield 80000, 3), (17, .invokevirtual 152, 3)]
theorem am_ol133_0 : ∀ q ∈ am_l133_0, am_ok 133 q.1 q.2.1 q.2.2 := show ∀ q ∈ ([(6, .getfield 100012, 3), (9, .getfield 80000, 3), (17, .invokevirtual 152, 3)] : List (Nat × Instr × Nat)), am_ok 133 q.1 q.2.1 q.2.2 from
  am_fc (am_okgf 19 (by decide +kernel) (am_mem 463 (by decide +kernel))) (
  am_fc (am_okgf 141 (by decide +kernel) (am_mem 232 (by decide +kernel))) (
  am_fc (am_okv 324 (by decide +kernel) (by decide) (am_mem 653 (by decide +kernel)) (am_mem 655 (by decide +kernel)) (am_mem 5 (by decide +kernel))) (
  am_fn)))
def am_t133 : List (Nat × Instr × Nat) := am_p133_0 ++ (am_l133_0)
theorem am_ot133 : ∀ q ∈ am_t133, am_ok 133 q.1 q.2.1 q.2.2 := List.forall_mem_append.mpr ⟨am_op133_0, am_ol133_0⟩
def am_p134_0 : List (Nat × Instr × Nat) := [(0, .iload_n 1, 1), (1, .ifCond .eq 19, 3), (4, .iload_n 1, 1), (5, .iconst 1, 1), (6, .if_icmp .eq 14, 3), (20, .aload_n 0, 1), (24, .aload_n 0, 1), (28, .aload_n 0, 1), (38, .iload_n 1, 1), (39, .ifCond .ne 13, 3), (42, .aload_n 0, 1), (49, .goto 10, 3), (52, .aload_n 0, 1), (59, .ireturn, 1)]
theorem am_op134_0 : ∀ q ∈ am_p134_0, am_ok 134 q.1 q.2.1 q.2.2 := am_okps (by decide +kernel)
def am_l134_0 : List (Nat × Instr × Nat) := [(9, .new 111, 3), (21, .getfield 100092, 3), (25, .getfield 100032, 3), (29, .getfield 100012, 3), (32, .getfield 80000, 3), (35, .invokevirtual 13, 3), (43, .getfield 100092, 3), (46, .getfield 30010, 3), (53, .getfield 100092, 3), (56, .getfield 30020, 3)]
theorem am_ol134_0 : ∀ q ∈ am_l134_0, am_ok 134 q.1 q.2.1 q.2.2 := show ∀ q ∈ ([(9, .new 111, 3), (21, .getfield 100092, 3), (25, .getfield 100032, 3), (29, .getfield 100012, 3), (32, .getfield 80000, 3), (35, .invokevirtual 13, 3), (43, .getfield 100092, 3), (46, .getfield 30010, 3), (53, .getfield 100092, 3), (56, .getfield 30020, 3)] : List (Nat × Instr × Nat)), am_ok 134 q.1 q.2.1 q.2.2 from
  am_fc (am_oktw 164 327 168 30 "no such thing of merchants" (by decide) (by decide +kernel) (by decide +kernel) (by decide +kernel) (by decide +kernel) (am_mem 1014 (by decide +kernel)) (Or.inr ⟨rfl, rfl⟩) (by decide +kernel) (by decide +kernel) (by decide +kernel)) (
  am_fc (am_okgf 67 (by decide +kernel) (am_mem 471 (by decide +kernel))) (
  am_fc (am_okgf 29 (by decide +kernel) (am_mem 465 (by decide +kernel))) (
  am_fc (am_okgf 19 (by decide +kernel) (am_mem 463 (by decide +kernel))) (
  am_fc (am_okgf 141 (by decide +kernel) (am_mem 232 (by decide +kernel))) (
  am_fc (am_okv 329 (by decide +kernel) (by decide) (am_mem 1308 (by decide +kernel)) (am_mem 1309 (by decide +kernel)) (am_mem 1310 (by decide +kernel))) (
  am_fc (am_okgf 67 (by decide +kernel) (am_mem 471 (by decide +kernel))) (
  am_fc (am_okgf 333 (by decide +kernel) (am_mem 452 (by decide +kernel))) (
  am_fc (am_okgf 67 (by decide +kernel) (am_mem 471 (by decide +kernel))) (
  am_fc (am_okgf 336 (by decide +kernel) (am_mem 454 (by decide +kernel))) (
  am_fn))))))))))
def am_t134 : List (Nat × Instr × Nat) := am_p134_0 ++ (am_l134_0)
theorem am_ot134 : ∀ q ∈ am_t134, am_ok 134 q.1 q.2.1 q.2.2 := List.forall_mem_append.mpr ⟨am_op134_0, am_ol134_0⟩
def am_p135_0 : List (Nat × Instr × Nat) := [(0, .iload_n 1, 1), (1, .iconst 0, 1), (2, .bipush 60, 2), (7, .iconst 1, 1), (8, .istore_n 2, 1), (9, .iload_n 2, 1), (10, .bipush 99, 2), (12, .if_icmp .gt 34, 3), (15, .aload_n 0, 1), (19, .iload_n 2, 1), (20, .aload_n 0, 1), (24, .aload_n 0, 1), (34, .iload_n 1, 1), (35, .if_icmp .gt 5, 3), (38, .iload_n 2, 1), (39, .ireturn, 1), (40, .iinc 2 1, 3), (43, .goto (-34), 3), (46, .iconst (-1), 1), (47, .ireturn, 1)]
theorem am_op135_0 : ∀ q ∈ am_p135_0, am_ok 135 q.1 q.2.1 q.2.2 := am_okps (by decide +kernel)
def am_l135_0 : List (Nat × Instr × Nat) := [(4, .invokestatic 144, 3), (16, .getfield 100092, 3), (21, .getfield 100032, 3), (25, .getfield 100012, 3), (28, .getfield 80000, 3), (31, .invokevirtual 12, 3)]
theorem am_ol135_0 : ∀ q ∈ am_l135_0, am_ok 135 q.1 q.2.1 q.2.2 := show ∀ q ∈ ([(4, .invokestatic 144, 3), (16, .getfield 100092, 3), (21, .getfield 100032, 3), (25, .getfield 100012, 3), (28, .getfield 80000, 3), (31, .invokevirtual 12, 3)] : List (Nat × Instr × Nat)), am_ok 135 q.1 q.2.1 q.2.2 from
  am_fc (am_oks 235 (by decide +kernel) (by decide) (am_mem 1102 (by decide +kernel)) (Or.inl (am_mem 1101 (by decide +kernel)))) (
  am_fc (am_okgf 67 (by decide +kernel) (am_mem 471 (by decide +kernel))) (
  am_fc (am_okgf 29 (by decide +kernel) (am_mem 465 (by decide +kernel))) (
  am_fc (am_okgf 19 (by decide +kernel) (am_mem 463 (by decide +kernel))) (
  am_fc (am_okgf 141 (by decide +kernel) (am_mem 232 (by decide +kernel))) (
  am_fc (am_okv 339 (by decide +kernel) (by decide) (am_mem 1336 (by decide +kernel)) (am_mem 1313 (by decide +kernel)) (am_mem 1314 (by decide +kernel))) (
  am_fn))))))
def am_t135 : List (Nat × Instr × Nat) := am_p135_0 ++ (am_l135_0)
theorem am_ot135 : ∀ q ∈ am_t135, am_ok 135 q.1 q.2.1 q.2.2 := List.forall_mem_append.mpr ⟨am_op135_0, am_ol135_0⟩
def am_p136_0 : List (Nat × Instr × Nat) := [(0, .iload_n 3, 1), (1, .iconst (-1), 1), (2, .if_icmp .eq 8, 3), (5, .aload_n 0, 1), (6, .iload_n 3, 1), (10, .iload_n 2, 1), (11, .iconst 0, 1), (12, .bipush 60, 2), (17, .aload_n 0, 1), (18, .iload_n 1, 1), (19, .iload_n 2, 1), (23, .istore 4, 2), (25, .iload_n 3, 1), (26, .iconst (-1), 1), (27, .if_icmp .ne 8, 3), (30, .iload 4, 2), (32, .goto 14, 3), (35, .aload_n 0, 1), (39, .iload_n 3, 1), (46, .ireturn, 1)]
theorem am_op136_0 : ∀ q ∈ am_p136_0, am_ok 136 q.1 q.2.1 q.2.2 := am_okps (by decide +kernel)
def am_l136_0 : List (Nat × Instr × Nat) := [(7, .invokevirtual 142, 3), (14, .invokestatic 144, 3), (20, .invokevirtual 153, 3), (36, .getfield 100042, 3), (40, .invokevirtual 28, 3), (43, .invokestatic 268, 3)]
theorem am_ol136_0 : ∀ q ∈ am_l136_0, am_ok 136 q.1 q.2.1 q.2.2 := show ∀ q ∈ ([(7, .invokevirtual 142, 3), (14, .invokestatic 144, 3), (20, .invokevirtual 153, 3), (36, .getfield 100042, 3), (40, .invokevirtual 28, 3), (43, .invokestatic 268, 3)] : List (Nat × Instr × Nat)), am_ok 136 q.1 q.2.1 q.2.2 from
  am_fc (am_okv 169 (by decide +kernel) (by decide) (am_mem 1037 (by decide +kernel)) (am_mem 1039 (by decide +kernel)) (am_mem 26 (by decide +kernel))) (
  am_fc (am_oks 235 (by decide +kernel) (by decide) (am_mem 1102 (by decide +kernel)) (Or.inl (am_mem 1101 (by decide +kernel)))) (
  am_fc (am_okv 343 (by decide +kernel) (by decide) (am_mem 1344 (by decide +kernel)) (am_mem 1346 (by decide +kernel)) (am_mem 40 (by decide +kernel))) (
  am_fc (am_okgf 33 (by decide +kernel) (am_mem 466 (by decide +kernel))) (
  am_fc (am_okv 181 (by decide +kernel) (by decide) (am_mem 673 (by decide +kernel)) (am_mem 602 (by decide +kernel)) (am_mem 603 (by decide +kernel))) (
  am_fc (am_oks 278 (by decide +kernel) (by decide) (am_mem 606 (by decide +kernel)) (Or.inl (am_mem 1175 (by decide +kernel)))) (
  am_fn))))))
def am_t136 : List (Nat × Instr × Nat) := am_p136_0 ++ (am_l136_0)
theorem am_ot136 : ∀ q ∈ am_t136, am_ok 136 q.1 q.2.1 q.2.2 := List.forall_mem_append.mpr ⟨am_op136_0, am_ol136_0⟩
def am_p137_0 : List (Nat × Instr × Nat) := [(0, .iload_n 1, 1), (1, .iconst 0, 1), (2, .bipush 120, 2), (7, .aload_n 0, 1), (14, .ifCond .gt 5, 3), (17, .iconst 0, 1), (18, .ireturn, 1), (19, .aload_n 0, 1), (23, .aload_n 0, 1), (30, .aload_n 0, 1), (34, .aload_n 0, 1), (41, .iconst 0, 1), (42, .istore_n 2, 1), (43, .iload_n 2, 1), (44, .aload_n 0, 1), (51, .if_icmp .ge 37, 3), (54, .aload_n 0, 1), (58, .aload_n 0, 1), (62, .iload_n 2, 1), (63, .iload_n 1, 1), (64, .aload_n 0, 1), (71, .idiv, 1), (72, .aload_n 0, 1), (82, .iinc 2 1, 3), (85, .goto (-42), 3), (88, .aload_n 0, 1), (92, .aload_n 0, 1), (99, .pop, 1), (100, .aload_n 0, 1), (107, .ireturn, 1)]
theorem am_op137_0 : ∀ q ∈ am_p137_0, am_ok 137 q.1 q.2.1 q.2.2 := am_okps (by decide +kernel)
def am_l137_0 : List (Nat × Instr × Nat) := [(4, .invokestatic 144, 3), (8, .getfield 100012, 3), (11, .getfield 80000, 3), (20, .getfield 100042, 3), (24, .getfield 100032, 3), (27, .invokevirtual 19, 3), (31, .getfield 100042, 3), (35, .getfield 100012, 3), (38, .invokevirtual 38, 3), (45, .getfield 100012, 3), (48, .getfield 80000, 3), (55, .getfield 100042, 3), (59, .getfield 100012, 3), (65, .getfield 100012, 3), (68, .getfield 80000, 3), (73, .getfield 100012, 3), (76, .getfield 80000, 3), (79, .invokevirtual 40, 3), (89, .getfield 100042, 3), (93, .getfield 100012, 3), (96, .invokevirtual 41, 3), (101, .getfield 100042, 3), (104, .invokevirtual 31, 3)]
theorem am_ol137_0 : ∀ q ∈ am_l137_0, am_ok 137 q.1 q.2.1 q.2.2 := show ∀ q ∈ ([(4, .invokestatic 144, 3), (8, .getfield 100012, 3), (11, .getfield 80000, 3), (20, .getfield 100042, 3), (24, .getfield 100032, 3), (27, .invokevirtual 19, 3), (31, .getfield 100042, 3), (35, .getfield 100012, 3), (38, .invokevirtual 38, 3), (45, .getfield 100012, 3), (48, .getfield 80000, 3), (55, .getfield 100042, 3), (59, .getfield 100012, 3), (65, .getfield 100012, 3), (68, .getfield 80000, 3), (73, .getfield 100012, 3), (76, .getfield 80000, 3), (79, .invokevirtual 40, 3), (89, .getfield 100042, 3), (93, .getfield 100012, 3), (96, .invokevirtual 41, 3), (101, .getfield 100042, 3), (104, .invokevirtual 31, 3)] : List (Nat × Instr × Nat)), am_ok 137 q.1 q.2.1 q.2.2 from
  am_fc (am_oks 235 (by decide +kernel) (by decide) (am_mem 1102 (by decide +kernel)) (Or.inl (am_mem 1101 (by decide +kernel)))) (
  am_fc (am_okgf 19 (by decide +kernel) (am_mem 463 (by decide +kernel))) (
  am_fc (am_okgf 141 (by decide +kernel) (am_mem 232 (by decide +kernel))) (
  am_fc (am_okgf 33 (by decide +kernel) (am_mem 466 (by decide +kernel))) (
  am_fc (am_okgf 29 (by decide +kernel) (am_mem 465 (by decide +kernel))) (
  am_fc (am_okv 244 (by decide +kernel) (by decide) (am_mem 683 (by decide +kernel)) (am_mem 684 (by decide +kernel)) (am_mem 685 (by decide +kernel))) (
  am_fc (am_okgf 33 (by decide +kernel) (am_mem 466 (by decide +kernel))) (
  am_fc (am_okgf 19 (by decide +kernel) (am_mem 463 (by decide +kernel))) (
  am_fc (am_okv 346 (by decide +kernel) (by decide) (am_mem 1367 (by decide +kernel)) (am_mem 569 (by decide +kernel)) (am_mem 570 (by decide +kernel))) (
  am_fc (am_okgf 19 (by decide +kernel) (am_mem 463 (by decide +kernel))) (
  am_fc (am_okgf 141 (by decide +kernel) (am_mem 232 (by decide +kernel))) (
  am_fc (am_okgf 33 (by decide +kernel) (am_mem 466 (by decide +kernel))) (
  am_fc (am_okgf 19 (by decide +kernel) (am_mem 463 (by decide +kernel))) (
  am_fc (am_okgf 19 (by decide +kernel) (am_mem 463 (by decide +kernel))) (
  am_fc (am_okgf 141 (by decide +kernel) (am_mem 232 (by decide +kernel))) (
  am_fc (am_okgf 19 (by decide +kernel) (am_mem 463 (by decide +kernel))) (
  am_fc (am_okgf 141 (by decide +kernel) (am_mem 232 (by decide +kernel))) (
  am_fc (am_okv 349 (by decide +kernel) (by decide) (am_mem 1368 (by decide +kernel)) (am_mem 594 (by decide +kernel)) (am_mem 595 (by decide +kernel))) (
  am_fc (am_okgf 33 (by decide +kernel) (am_mem 466 (by decide +kernel))) (
  am_fc (am_okgf 19 (by decide +kernel) (am_mem 463 (by decide +kernel))) (
  am_fc (am_okv 353 (by decide +kernel) (by decide) (am_mem 1369 (by decide +kernel)) (am_mem 622 (by decide +kernel)) (am_mem 623 (by decide +kernel))) (
  am_fc (am_okgf 33 (by decide +kernel) (am_mem 466 (by decide +kernel))) (
  am_fc (am_okv 160 (by decide +kernel) (by decide) (am_mem 1010 (by decide +kernel)) (am_mem 1011 (by decide +kernel)) (am_mem 1012 (by decide +kernel))) (
  am_fn)))))))))))))))))))))))
def am_t137 : List (Nat × Instr × Nat) := am_p137_0 ++ (am_l137_0)
theorem am_ot137 : ∀ q ∈ am_t137, am_ok 137 q.1 q.2.1 q.2.2 := List.forall_mem_append.mpr ⟨am_op137_0, am_ol137_0⟩
def am_p138_0 : List (Nat × Instr × Nat) := [(0, .aload_n 0, 1), (1, .iload_n 1, 1), (5, .iload_n 2, 1), (6, .iconst 1, 1), (7, .bipush 100, 2), (12, .aload_n 0, 1), (13, .iload_n 2, 1), (14, .iconst (-1), 1), (18, .aload_n 0, 1), (22, .iload_n 1, 1), (29, .istore_n 3, 1), (30, .aload_n 0, 1), (31, .iload_n 2, 1), (32, .iload_n 1, 1), (36, .iload_n 3, 1), (37, .aload_n 0, 1), (41, .iload_n 1, 1), (48, .isub, 1), (49, .ireturn, 1)]
theorem am_op138_0 : ∀ q ∈ am_p138_0, am_ok 138 q.1 q.2.1 q.2.2 := am_okps (by decide +kernel)
def am_l138_0 : List (Nat × Instr × Nat) := [(2, .invokevirtual 142, 3), (9, .invokestatic 144, 3), (15, .invokevirtual 146, 3), (19, .getfield 100042, 3), (23, .invokevirtual 28, 3), (26, .invokestatic 268, 3), (33, .invokevirtual 146, 3), (38, .getfield 100042, 3), (42, .invokevirtual 28, 3), (45, .invokestatic 268, 3)]
theorem am_ol138_0 : ∀ q ∈ am_l138_0, am_ok 138 q.1 q.2.1 q.2.2 := show ∀ q ∈ ([(2, .invokevirtual 142, 3), (9, .invokestatic 144, 3), (15, .invokevirtual 146, 3), (19, .getfield 100042, 3), (23, .invokevirtual 28, 3), (26, .invokestatic 268, 3), (33, .invokevirtual 146, 3), (38, .getfield 100042, 3), (42, .invokevirtual 28, 3), (45, .invokestatic 268, 3)] : List (Nat × Instr × Nat)), am_ok 138 q.1 q.2.1 q.2.2 from
  am_fc (am_okv 169 (by decide +kernel) (by decide) (am_mem 1037 (by decide +kernel)) (am_mem 1039 (by decide +kernel)) (am_mem 26 (by decide +kernel))) (
  am_fc (am_oks 235 (by decide +kernel) (by decide) (am_mem 1102 (by decide +kernel)) (Or.inl (am_mem 1101 (by decide +kernel)))) (
  am_fc (am_okv 239 (by decide +kernel) (by decide) (am_mem 1105 (by decide +kernel)) (am_mem 1107 (by decide +kernel)) (am_mem 28 (by decide +kernel))) (
  am_fc (am_okgf 33 (by decide +kernel) (am_mem 466 (by decide +kernel))) (
  am_fc (am_okv 181 (by decide +kernel) (by decide) (am_mem 673 (by decide +kernel)) (am_mem 602 (by decide +kernel)) (am_mem 603 (by decide +kernel))) (
  am_fc (am_oks 278 (by decide +kernel) (by decide) (am_mem 606 (by decide +kernel)) (Or.inl (am_mem 1175 (by decide +kernel)))) (
  am_fc (am_okv 239 (by decide +kernel) (by decide) (am_mem 1105 (by decide +kernel)) (am_mem 1107 (by decide +kernel)) (am_mem 28 (by decide +kernel))) (
  am_fc (am_okgf 33 (by decide +kernel) (am_mem 466 (by decide +kernel))) (
  am_fc (am_okv 181 (by decide +kernel) (by decide) (am_mem 673 (by decide +kernel)) (am_mem 602 (by decide +kernel)) (am_mem 603 (by decide +kernel))) (
  am_fc (am_oks 278 (by decide +kernel) (by decide) (am_mem 606 (by decide +kernel)) (Or.inl (am_mem 1175 (by decide +kernel)))) (
  am_fn))))))))))
def am_t138 : List (Nat × Instr × Nat) := am_p138_0 ++ (am_l138_0)
theorem am_ot138 : ∀ q ∈ am_t138, am_ok 138 q.1 q.2.1 q.2.2 := List.forall_mem_append.mpr ⟨am_op138_0, am_ol138_0⟩
def am_p139_0 : List (Nat × Instr × Nat) := [(0, .iload_n 1, 1), (1, .iconst 0, 1), (2, .bipush 100, 2), (7, .aload_n 0, 1), (8, .iload_n 1, 1), (9, .iconst (-1), 1), (13, .iconst 0, 1), (14, .istore_n 2, 1), (15, .iconst 0, 1), (16, .istore_n 3, 1), (17, .iload_n 3, 1), (18, .aload_n 0, 1), (25, .if_icmp .ge 31, 3), (28, .iload_n 2, 1), (29, .aload_n 0, 1), (36, .iload_n 3, 1), (37, .iaload, 1), (38, .aload_n 0, 1), (45, .iload_n 3, 1), (46, .iaload, 1), (47, .isub, 1), (48, .iadd, 1), (49, .istore_n 2, 1), (50, .iinc 3 1, 3), (53, .goto (-36), 3), (56, .iload_n 2, 1), (57, .ireturn, 1)]
theorem am_op139_0 : ∀ q ∈ am_p139_0, am_ok 139 q.1 q.2.1 q.2.2 := am_okps (by decide +kernel)
def am_l139_0 : List (Nat × Instr × Nat) := [(4, .invokestatic 144, 3), (10, .invokevirtual 146, 3), (19, .getfield 100012, 3), (22, .getfield 80000, 3), (30, .getfield 100032, 3), (33, .getfield 40012, 3), (39, .getfield 100042, 3), (42, .getfield 40012, 3)]
theorem am_ol139_0 : ∀ q ∈ am_l139_0, am_ok 139 q.1 q.2.1 q.2.2 := show ∀ q ∈ ([(4, .invokestatic 144, 3), (10, .invokevirtual 146, 3), (19, .getfield 100012, 3), (22, .getfield 80000, 3), (30, .getfield 100032, 3), (33, .getfield 40012, 3), (39, .getfield 100042, 3), (42, .getfield 40012, 3)] : List (Nat × Instr × Nat)), am_ok 139 q.1 q.2.1 q.2.2 from
  am_fc (am_oks 235 (by decide +kernel) (by decide) (am_mem 1102 (by decide +kernel)) (Or.inl (am_mem 1101 (by decide +kernel)))) (
  am_fc (am_okv 239 (by decide +kernel) (by decide) (am_mem 1105 (by decide +kernel)) (am_mem 1107 (by decide +kernel)) (am_mem 28 (by decide +kernel))) (
  am_fc (am_okgf 19 (by decide +kernel) (am_mem 463 (by decide +kernel))) (
  am_fc (am_okgf 141 (by decide +kernel) (am_mem 232 (by decide +kernel))) (
  am_fc (am_okgf 29 (by decide +kernel) (am_mem 465 (by decide +kernel))) (
  am_fc (am_okgf 172 (by decide +kernel) (am_mem 335 (by decide +kernel))) (
  am_fc (am_okgf 33 (by decide +kernel) (am_mem 466 (by decide +kernel))) (
  am_fc (am_okgf 172 (by decide +kernel) (am_mem 335 (by decide +kernel))) (
  am_fn))))))))
def am_t139 : List (Nat × Instr × Nat) := am_p139_0 ++ (am_l139_0)
theorem am_ot139 : ∀ q ∈ am_t139, am_ok 139 q.1 q.2.1 q.2.2 := List.forall_mem_append.mpr ⟨am_op139_0, am_ol139_0⟩
def am_p140_0 : List (Nat × Instr × Nat) := [(0, .aload_n 0, 1), (4, .aload_n 0, 1), (11, .aload_n 0, 1), (15, .aload_n 0, 1), (22, .aload_n 0, 1), (26, .aload_n 0, 1), (33, .aload_n 0, 1), (34, .iconst 1, 1), (38, .return_, 1)]
theorem am_op140_0 : ∀ q ∈ am_p140_0, am_ok 140 q.1 q.2.1 q.2.2 := am_okps (by decide +kernel)
def am_l140_0 : List (Nat × Instr × Nat) := [(1, .getfield 100132, 3), (5, .getfield 100032, 3), (8, .invokevirtual 19, 3), (12, .getfield 100142, 3), (16, .getfield 100052, 3), (19, .invokevirtual 10, 3), (23, .getfield 100152, 3), (27, .getfield 100062, 3), (30, .invokevirtual 3, 3), (35, .putfield 100161, 3)]
theorem am_ol140_0 : ∀ q ∈ am_l140_0, am_ok 140 q.1 q.2.1 q.2.2 := show ∀ q ∈ ([(1, .getfield 100132, 3), (5, .getfield 100032, 3), (8, .invokevirtual 19, 3), (12, .getfield 100142, 3), (16, .getfield 100052, 3), (19, .invokevirtual 10, 3), (23, .getfield 100152, 3), (27, .getfield 100062, 3), (30, .invokevirtual 3, 3), (35, .putfield 100161, 3)] : List (Nat × Instr × Nat)), am_ok 140 q.1 q.2.1 q.2.2 from
  am_fc (am_okgf 81 (by decide +kernel) (am_mem 475 (by decide +kernel))) (
  am_fc (am_okgf 29 (by decide +kernel) (am_mem 465 (by decide +kernel))) (
  am_fc (am_okv 244 (by decide +kernel) (by decide) (am_mem 683 (by decide +kernel)) (am_mem 684 (by decide +kernel)) (am_mem 685 (by decide +kernel))) (
  am_fc (am_okgf 84 (by decide +kernel) (am_mem 476 (by decide +kernel))) (
  am_fc (am_okgf 39 (by decide +kernel) (am_mem 467 (by decide +kernel))) (
  am_fc (am_okv 357 (by decide +kernel) (by decide) (am_mem 687 (by decide +kernel)) (am_mem 688 (by decide +kernel)) (am_mem 689 (by decide +kernel))) (
  am_fc (am_okgf 87 (by decide +kernel) (am_mem 477 (by decide +kernel))) (
  am_fc (am_okgf 46 (by decide +kernel) (am_mem 468 (by decide +kernel))) (
  am_fc (am_okv 360 (by decide +kernel) (by decide) (am_mem 691 (by decide +kernel)) (am_mem 692 (by decide +kernel)) (am_mem 693 (by decide +kernel))) (
  am_fc (am_okpf 135 (by decide +kernel) (am_mem 478 (by decide +kernel))) (
  am_fn))))))))))
def am_t140 : List (Nat × Instr × Nat) := am_p140_0 ++ (am_l140_0)
theorem am_ot140 : ∀ q ∈ am_t140, am_ok 140 q.1 q.2.1 q.2.2 := List.forall_mem_append.mpr ⟨am_op140_0, am_ol140_0⟩
def am_p141_0 : List (Nat × Instr × Nat) := [(0, .aload_n 0, 1), (4, .ifCond .ne 5, 3), (7, .iconst 0, 1), (8, .ireturn, 1), (9, .aload_n 0, 1), (13, .aload_n 0, 1), (20, .aload_n 0, 1), (24, .aload_n 0, 1), (31, .aload_n 0, 1), (35, .aload_n 0, 1), (42, .iconst 1, 1), (43, .ireturn, 1)]
theorem am_op141_0 : ∀ q ∈ am_p141_0, am_ok 141 q.1 q.2.1 q.2.2 := am_okps (by decide +kernel)
def am_l141_0 : List (Nat × Instr × Nat) := [(1, .getfield 100161, 3), (10, .getfield 100032, 3), (14, .getfield 100132, 3), (17, .invokevirtual 19, 3), (21, .getfield 100052, 3), (25, .getfield 100142, 3), (28, .invokevirtual 10, 3), (32, .getfield 100062, 3), (36, .getfield 100152, 3), (39, .invokevirtual 3, 3)]
theorem am_ol141_0 : ∀ q ∈ am_l141_0, am_ok 141 q.1 q.2.1 q.2.2 := show ∀ q ∈ ([(1, .getfield 100161, 3), (10, .getfield 100032, 3), (14, .getfield 100132, 3), (17, .invokevirtual 19, 3), (21, .getfield 100052, 3), (25, .getfield 100142, 3), (28, .invokevirtual 10, 3), (32, .getfield 100062, 3), (36, .getfield 100152, 3), (39, .invokevirtual 3, 3)] : List (Nat × Instr × Nat)), am_ok 141 q.1 q.2.1 q.2.2 from
  am_fc (am_okgf 135 (by decide +kernel) (am_mem 478 (by decide +kernel))) (
  am_fc (am_okgf 29 (by decide +kernel) (am_mem 465 (by decide +kernel))) (
  am_fc (am_okgf 81 (by decide +kernel) (am_mem 475 (by decide +kernel))) (
  am_fc (am_okv 244 (by decide +kernel) (by decide) (am_mem 683 (by decide +kernel)) (am_mem 684 (by decide +kernel)) (am_mem 685 (by decide +kernel))) (
  am_fc (am_okgf 39 (by decide +kernel) (am_mem 467 (by decide +kernel))) (
  am_fc (am_okgf 84 (by decide +kernel) (am_mem 476 (by decide +kernel))) (
  am_fc (am_okv 357 (by decide +kernel) (by decide) (am_mem 687 (by decide +kernel)) (am_mem 688 (by decide +kernel)) (am_mem 689 (by decide +kernel))) (
  am_fc (am_okgf 46 (by decide +kernel) (am_mem 468 (by decide +kernel))) (
  am_fc (am_okgf 87 (by decide +kernel) (am_mem 477 (by decide +kernel))) (
  am_fc (am_okv 360 (by decide +kernel) (by decide) (am_mem 691 (by decide +kernel)) (am_mem 692 (by decide +kernel)) (am_mem 693 (by decide +kernel))) (
  am_fn))))))))))
def am_t141 : List (Nat × Instr × Nat) := am_p141_0 ++ (am_l141_0)
theorem am_ot141 : ∀ q ∈ am_t141, am_ok 141 q.1 q.2.1 q.2.2 := List.forall_mem_append.mpr ⟨am_op141_0, am_ol141_0⟩
def am_p142_0 : List (Nat × Instr × Nat) := [(0, .iload_n 1, 1), (1, .ifCond .lt 14, 3), (4, .iload_n 1, 1), (5, .aload_n 0, 1), (12, .if_icmp .lt 14, 3), (26, .return_, 1)]
theorem am_op142_0 : ∀ q ∈ am_p142_0, am_ok 142 q.1 q.2.1 q.2.2 := am_okps (by decide +kernel)
def am_l142_0 : List (Nat × Instr × Nat) := [(6, .getfield 100012, 3), (9, .getfield 80000, 3), (15, .new 111, 3)]
theorem am_ol142_0 : ∀ q ∈ am_l142_0, am_ok 142 q.1 q.2.1 q.2.2 := show ∀ q ∈ ([(6, .getfield 100012, 3), (9, .getfield 80000, 3), (15, .new 111, 3)] : List (Nat × Instr × Nat)), am_ok 142 q.1 q.2.1 q.2.2 from
  am_fc (am_okgf 19 (by decide +kernel) (am_mem 463 (by decide +kernel))) (
  am_fc (am_okgf 141 (by decide +kernel) (am_mem 232 (by decide +kernel))) (
  am_fc (am_oktw 164 363 168 18 "no such person" (by decide) (by decide +kernel) (by decide +kernel) (by decide +kernel) (by decide +kernel) (am_mem 1014 (by decide +kernel)) (Or.inr ⟨rfl, rfl⟩) (by decide +kernel) (by decide +kernel) (by decide +kernel)) (
  am_fn)))
def am_t142 : List (Nat × Instr × Nat) := am_p142_0 ++ (am_l142_0)
theorem am_ot142 : ∀ q ∈ am_t142, am_ok 142 q.1 q.2.1 q.2.2 := List.forall_mem_append.mpr ⟨am_op142_0, am_ol142_0⟩
def am_p143_0 : List (Nat × Instr × Nat) := [(0, .iload_n 1, 1), (1, .ifCond .lt 14, 3), (4, .iload_n 1, 1), (5, .aload_n 0, 1), (12, .if_icmp .lt 14, 3), (26, .return_, 1)]
theorem am_op143_0 : ∀ q ∈ am_p143_0, am_ok 143 q.1 q.2.1 q.2.2 := am_okps (by decide +kernel)
def am_l143_0 : List (Nat × Instr × Nat) := [(6, .getfield 100012, 3), (9, .getfield 80010, 3), (15, .new 111, 3)]
theorem am_ol143_0 : ∀ q ∈ am_l143_0, am_ok 143 q.1 q.2.1 q.2.2 := show ∀ q ∈ ([(6, .getfield 100012, 3), (9, .getfield 80010, 3), (15, .new 111, 3)] : List (Nat × Instr × Nat)), am_ok 143 q.1 q.2.1 q.2.2 from
  am_fc (am_okgf 19 (by decide +kernel) (am_mem 463 (by decide +kernel))) (
  am_fc (am_okgf 144 (by decide +kernel) (am_mem 236 (by decide +kernel))) (
  am_fc (am_oktw 164 365 168 20 "no such fact" (by decide) (by decide +kernel) (by decide +kernel) (by decide +kernel) (by decide +kernel) (am_mem 1014 (by decide +kernel)) (Or.inr ⟨rfl, rfl⟩) (by decide +kernel) (by decide +kernel) (by decide +kernel)) (
  am_fn)))
def am_t143 : List (Nat × Instr × Nat) := am_p143_0 ++ (am_l143_0)
theorem am_ot143 : ∀ q ∈ am_t143, am_ok 143 q.1 q.2.1 q.2.2 := List.forall_mem_append.mpr ⟨am_op143_0, am_ol143_0⟩
def am_p144_0 : List (Nat × Instr × Nat) := [(0, .iload_n 0, 1), (1, .iload_n 1, 1), (2, .if_icmp .lt 8, 3), (5, .iload_n 0, 1), (6, .iload_n 2, 1), (7, .if_icmp .le 14, 3), (21, .return_, 1)]
theorem am_op144_0 : ∀ q ∈ am_p144_0, am_ok 144 q.1 q.2.1 q.2.2 := am_okps (by decide +kernel)
def am_l144_0 : List (Nat × Instr × Nat) := [(10, .new 110, 3)]
theorem am_ol144_0 : ∀ q ∈ am_l144_0, am_ok 144 q.1 q.2.1 q.2.2 := show ∀ q ∈ ([(10, .new 110, 3)] : List (Nat × Instr × Nat)), am_ok 144 q.1 q.2.1 q.2.2 from
  am_fc (am_oktw 108 367 112 22 "too little or too much" (by decide) (by decide +kernel) (by decide +kernel) (by decide +kernel) (by decide +kernel) (am_mem 707 (by decide +kernel)) (Or.inl ⟨rfl, rfl⟩) (by decide +kernel) (by decide +kernel) (by decide +kernel)) (
  am_fn)
def am_t144 : List (Nat × Instr × Nat) := am_p144_0 ++ (am_l144_0)
theorem am_ot144 : ∀ q ∈ am_t144, am_ok 144 q.1 q.2.1 q.2.2 := List.forall_mem_append.mpr ⟨am_op144_0, am_ol144_0⟩
def am_p145_0 : List (Nat × Instr × Nat) := [(0, .iload_n 0, 1), (1, .iload_n 1, 1), (2, .ishr, 1), (3, .iconst 1, 1), (4, .iand, 1), (5, .ifCond .eq 7, 3), (8, .iconst 1, 1), (9, .goto 4, 3), (12, .iconst 0, 1), (13, .ireturn, 1)]
theorem am_op145_0 : ∀ q ∈ am_p145_0, am_ok 145 q.1 q.2.1 q.2.2 := am_okps (by decide +kernel)
def am_t145 : List (Nat × Instr × Nat) := am_p145_0
theorem am_ot145 : ∀ q ∈ am_t145, am_ok 145 q.1 q.2.1 q.2.2 := am_op145_0
def am_p146_0 : List (Nat × Instr × Nat) := [(0, .aload_n 0, 1), (4, .aload_n 0, 1), (11, .iconst 0, 1), (12, .istore_n 3, 1), (13, .iload_n 3, 1), (14, .iload_n 1, 1), (15, .if_icmp .ge 22, 3), (18, .aload_n 0, 1), (22, .aload_n 0, 1), (26, .iload_n 2, 1), (30, .pop, 1), (31, .iinc 3 1, 3), (34, .goto (-21), 3), (37, .return_, 1)]
theorem am_op146_0 : ∀ q ∈ am_p146_0, am_ok 146 q.1 q.2.1 q.2.2 := am_okps (by decide +kernel)
def am_l146_0 : List (Nat × Instr × Nat) := [(1, .getfield 100042, 3), (5, .getfield 100032, 3), (8, .invokevirtual 19, 3), (19, .getfield 100042, 3), (23, .getfield 100012, 3), (27, .invokevirtual 35, 3)]
theorem am_ol146_0 : ∀ q ∈ am_l146_0, am_ok 146 q.1 q.2.1 q.2.2 := show ∀ q ∈ ([(1, .getfield 100042, 3), (5, .getfield 100032, 3), (8, .invokevirtual 19, 3), (19, .getfield 100042, 3), (23, .getfield 100012, 3), (27, .invokevirtual 35, 3)] : List (Nat × Instr × Nat)), am_ok 146 q.1 q.2.1 q.2.2 from
  am_fc (am_okgf 33 (by decide +kernel) (am_mem 466 (by decide +kernel))) (
  am_fc (am_okgf 29 (by decide +kernel) (am_mem 465 (by decide +kernel))) (
  am_fc (am_okv 244 (by decide +kernel) (by decide) (am_mem 683 (by decide +kernel)) (am_mem 684 (by decide +kernel)) (am_mem 685 (by decide +kernel))) (
  am_fc (am_okgf 33 (by decide +kernel) (am_mem 466 (by decide +kernel))) (
  am_fc (am_okgf 19 (by decide +kernel) (am_mem 463 (by decide +kernel))) (
  am_fc (am_okv 228 (by decide +kernel) (by decide) (am_mem 546 (by decide +kernel)) (am_mem 547 (by decide +kernel)) (am_mem 548 (by decide +kernel))) (
  am_fn))))))
def am_t146 : List (Nat × Instr × Nat) := am_p146_0 ++ (am_l146_0)
theorem am_ot146 : ∀ q ∈ am_t146, am_ok 146 q.1 q.2.1 q.2.2 := List.forall_mem_append.mpr ⟨am_op146_0, am_ol146_0⟩
def am_p147_0 : List (Nat × Instr × Nat) := [(0, .aload_n 0, 1), (4, .aload_n 0, 1), (8, .iload_n 1, 1), (12, .aload_n 0, 1), (19, .iload_n 3, 1), (20, .iadd, 1), (21, .istore 4, 2), (23, .iconst 0, 1), (24, .istore 5, 2), (26, .iload 5, 2), (28, .iload_n 3, 1), (29, .if_icmp .ge 47, 3), (32, .aload_n 0, 1), (36, .iload_n 1, 1), (37, .iload 4, 2), (42, .ifCond .eq 6, 3), (45, .goto 31, 3), (48, .aload_n 0, 1), (52, .aload_n 0, 1), (56, .iload_n 1, 1), (57, .iload 5, 2), (59, .ifCond .ne 7, 3), (62, .iload_n 2, 1), (63, .goto 4, 3), (66, .iconst 0, 1), (70, .iinc 5 1, 3), (73, .goto (-47), 3), (76, .aload_n 0, 1), (80, .iload_n 1, 1), (84, .ireturn, 1)]
theorem am_op147_0 : ∀ q ∈ am_p147_0, am_ok 147 q.1 q.2.1 q.2.2 := am_okps (by decide +kernel)
def am_l147_0 : List (Nat × Instr × Nat) := [(1, .getfield 100042, 3), (5, .getfield 100032, 3), (9, .invokevirtual 20, 3), (13, .getfield 100032, 3), (16, .getfield 40000, 3), (33, .getfield 100042, 3), (39, .invokevirtual 32, 3), (49, .getfield 100042, 3), (53, .getfield 100012, 3), (67, .invokevirtual 43, 3), (77, .getfield 100042, 3), (81, .invokevirtual 28, 3)]
theorem am_ol147_0 : ∀ q ∈ am_l147_0, am_ok 147 q.1 q.2.1 q.2.2 := show ∀ q ∈ ([(1, .getfield 100042, 3), (5, .getfield 100032, 3), (9, .invokevirtual 20, 3), (13, .getfield 100032, 3), (16, .getfield 40000, 3), (33, .getfield 100042, 3), (39, .invokevirtual 32, 3), (49, .getfield 100042, 3), (53, .getfield 100012, 3), (67, .invokevirtual 43, 3), (77, .getfield 100042, 3), (81, .invokevirtual 28, 3)] : List (Nat × Instr × Nat)), am_ok 147 q.1 q.2.1 q.2.2 from
  am_fc (am_okgf 33 (by decide +kernel) (am_mem 466 (by decide +kernel))) (
  am_fc (am_okgf 29 (by decide +kernel) (am_mem 465 (by decide +kernel))) (
  am_fc (am_okv 369 (by decide +kernel) (by decide) (am_mem 661 (by decide +kernel)) (am_mem 662 (by decide +kernel)) (am_mem 663 (by decide +kernel))) (
  am_fc (am_okgf 29 (by decide +kernel) (am_mem 465 (by decide +kernel))) (
  am_fc (am_okgf 153 (by decide +kernel) (am_mem 332 (by decide +kernel))) (
  am_fc (am_okgf 33 (by decide +kernel) (am_mem 466 (by decide +kernel))) (
  am_fc (am_okv 372 (by decide +kernel) (by decide) (am_mem 665 (by decide +kernel)) (am_mem 666 (by decide +kernel)) (am_mem 667 (by decide +kernel))) (
  am_fc (am_okgf 33 (by decide +kernel) (am_mem 466 (by decide +kernel))) (
  am_fc (am_okgf 19 (by decide +kernel) (am_mem 463 (by decide +kernel))) (
  am_fc (am_okv 375 (by decide +kernel) (by decide) (am_mem 669 (by decide +kernel)) (am_mem 670 (by decide +kernel)) (am_mem 671 (by decide +kernel))) (
  am_fc (am_okgf 33 (by decide +kernel) (am_mem 466 (by decide +kernel))) (
  am_fc (am_okv 181 (by decide +kernel) (by decide) (am_mem 673 (by decide +kernel)) (am_mem 602 (by decide +kernel)) (am_mem 603 (by decide +kernel))) (
  am_fn))))))))))))
def am_t147 : List (Nat × Instr × Nat) := am_p147_0 ++ (am_l147_0)
theorem am_ot147 : ∀ q ∈ am_t147, am_ok 147 q.1 q.2.1 q.2.2 := List.forall_mem_append.mpr ⟨am_op147_0, am_ol147_0⟩
def am_p148_0 : List (Nat × Instr × Nat) := [(0, .iconst 0, 1), (1, .istore_n 2, 1), (2, .iconst 0, 1), (3, .istore_n 3, 1), (4, .iload_n 3, 1), (5, .aload_n 0, 1), (12, .if_icmp .ge 26, 3), (15, .iload_n 1, 1), (16, .iload_n 3, 1), (20, .ifCond .eq 12, 3), (23, .iload_n 2, 1), (24, .aload_n 0, 1), (28, .iload_n 3, 1), (29, .iaload, 1), (30, .ior, 1), (31, .istore_n 2, 1), (32, .iinc 3 1, 3), (35, .goto (-31), 3), (38, .iload_n 2, 1), (39, .ireturn, 1)]
theorem am_op148_0 : ∀ q ∈ am_p148_0, am_ok 148 q.1 q.2.1 q.2.2 := am_okps (by decide +kernel)
def am_l148_0 : List (Nat × Instr × Nat) := [(6, .getfield 100012, 3), (9, .getfield 80000, 3), (17, .invokestatic 145, 3), (25, .getfield 100112, 3)]
theorem am_ol148_0 : ∀ q ∈ am_l148_0, am_ok 148 q.1 q.2.1 q.2.2 := show ∀ q ∈ ([(6, .getfield 100012, 3), (9, .getfield 80000, 3), (17, .invokestatic 145, 3), (25, .getfield 100112, 3)] : List (Nat × Instr × Nat)), am_ok 148 q.1 q.2.1 q.2.2 from
  am_fc (am_okgf 19 (by decide +kernel) (am_mem 463 (by decide +kernel))) (
  am_fc (am_okgf 141 (by decide +kernel) (am_mem 232 (by decide +kernel))) (
  am_fc (am_oks 259 (by decide +kernel) (by decide) (am_mem 573 (by decide +kernel)) (Or.inl (am_mem 1132 (by decide +kernel)))) (
  am_fc (am_okgf 75 (by decide +kernel) (am_mem 473 (by decide +kernel))) (
  am_fn))))
def am_t148 : List (Nat × Instr × Nat) := am_p148_0 ++ (am_l148_0)
theorem am_ot148 : ∀ q ∈ am_t148, am_ok 148 q.1 q.2.1 q.2.2 := List.forall_mem_append.mpr ⟨am_op148_0, am_ol148_0⟩
def am_p149_0 : List (Nat × Instr × Nat) := [(0, .iconst 0, 1), (1, .istore_n 1, 1), (2, .iconst 0, 1), (3, .istore_n 2, 1), (4, .iload_n 2, 1), (5, .aload_n 0, 1), (12, .if_icmp .ge 21, 3), (15, .aload_n 0, 1), (19, .iload_n 2, 1), (20, .iaload, 1), (21, .ifCond .le 6, 3), (24, .iinc 1 1, 3), (27, .iinc 2 1, 3), (30, .goto (-26), 3), (33, .iload_n 1, 1), (34, .ireturn, 1)]
theorem am_op149_0 : ∀ q ∈ am_p149_0, am_ok 149 q.1 q.2.1 q.2.2 := am_okps (by decide +kernel)
def am_l149_0 : List (Nat × Instr × Nat) := [(6, .getfield 100012, 3), (9, .getfield 80000, 3), (16, .getfield 100122, 3)]
theorem am_ol149_0 : ∀ q ∈ am_l149_0, am_ok 149 q.1 q.2.1 q.2.2 := show ∀ q ∈ ([(6, .getfield 100012, 3), (9, .getfield 80000, 3), (16, .getfield 100122, 3)] : List (Nat × Instr × Nat)), am_ok 149 q.1 q.2.1 q.2.2 from
  am_fc (am_okgf 19 (by decide +kernel) (am_mem 463 (by decide +kernel))) (
  am_fc (am_okgf 141 (by decide +kernel) (am_mem 232 (by decide +kernel))) (
  am_fc (am_okgf 78 (by decide +kernel) (am_mem 474 (by decide +kernel))) (
  am_fn)))
def am_t149 : List (Nat × Instr × Nat) := am_p149_0 ++ (am_l149_0)
theorem am_ot149 : ∀ q ∈ am_t149, am_ok 149 q.1 q.2.1 q.2.2 := List.forall_mem_append.mpr ⟨am_op149_0, am_ol149_0⟩
def am_p150_0 : List (Nat × Instr × Nat) := [(0, .iconst 0, 1), (1, .istore_n 1, 1), (2, .iconst 0, 1), (3, .istore_n 2, 1), (4, .iload_n 2, 1), (5, .aload_n 0, 1), (12, .if_icmp .ge 27, 3), (15, .aload_n 0, 1), (19, .iload_n 2, 1), (20, .iaload, 1), (21, .ifCond .le 12, 3), (24, .iload_n 1, 1), (25, .aload_n 0, 1), (29, .iload_n 2, 1), (30, .iaload, 1), (31, .iadd, 1), (32, .istore_n 1, 1), (33, .iinc 2 1, 3), (36, .goto (-32), 3), (39, .iload_n 1, 1), (40, .ireturn, 1)]
theorem am_op150_0 : ∀ q ∈ am_p150_0, am_ok 150 q.1 q.2.1 q.2.2 := am_okps (by decide +kernel)
def am_l150_0 : List (Nat × Instr × Nat) := [(6, .getfield 100012, 3), (9, .getfield 80000, 3), (16, .getfield 100122, 3), (26, .getfield 100122, 3)]
theorem am_ol150_0 : ∀ q ∈ am_l150_0, am_ok 150 q.1 q.2.1 q.2.2 := show ∀ q ∈ ([(6, .getfield 100012, 3), (9, .getfield 80000, 3), (16, .getfield 100122, 3), (26, .getfield 100122, 3)] : List (Nat × Instr × Nat)), am_ok 150 q.1 q.2.1 q.2.2 from
  am_fc (am_okgf 19 (by decide +kernel) (am_mem 463 (by decide +kernel))) (
  am_fc (am_okgf 141 (by decide +kernel) (am_mem 232 (by decide +kernel))) (
  am_fc (am_okgf 78 (by decide +kernel) (am_mem 474 (by decide +kernel))) (
  am_fc (am_okgf 78 (by decide +kernel) (am_mem 474 (by decide +kernel))) (
  am_fn))))
def am_t150 : List (Nat × Instr × Nat) := am_p150_0 ++ (am_l150_0)
theorem am_ot150 : ∀ q ∈ am_t150, am_ok 150 q.1 q.2.1 q.2.2 := List.forall_mem_append.mpr ⟨am_op150_0, am_ol150_0⟩
def am_p151_0 : List (Nat × Instr × Nat) := [(0, .iconst 0, 1), (1, .istore_n 3, 1), (2, .iconst 0, 1), (3, .istore 4, 2), (5, .iload 4, 2), (7, .aload_n 0, 1), (14, .if_icmp .ge 81, 3), (17, .aload_n 0, 1), (21, .iload 4, 2), (23, .aload_n 1, 1), (24, .iload 4, 2), (32, .ifCond .eq 57, 3), (35, .aload_n 0, 1), (42, .iload 4, 2), (44, .iaload, 1), (45, .iload_n 2, 1), (46, .if_icmp .ne 16, 3), (49, .iload_n 3, 1), (50, .aload_n 0, 1), (57, .iload 4, 2), (59, .iaload, 1), (60, .iadd, 1), (61, .istore_n 3, 1), (62, .aload_n 0, 1), (69, .iload 4, 2), (71, .iaload, 1), (72, .iload_n 2, 1), (73, .if_icmp .ne 16, 3), (76, .iload_n 3, 1), (77, .aload_n 0, 1), (84, .iload 4, 2), (86, .iaload, 1), (87, .isub, 1), (88, .istore_n 3, 1), (89, .iinc 4 1, 3), (92, .goto (-87), 3), (95, .iload_n 3, 1), (96, .ireturn, 1)]
theorem am_op151_0 : ∀ q ∈ am_p151_0, am_ok 151 q.1 q.2.1 q.2.2 := am_okps (by decide +kernel)
def am_l151_0 : List (Nat × Instr × Nat) := [(8, .getfield 100012, 3), (11, .getfield 80010, 3), (18, .getfield 100012, 3), (26, .invokevirtual 30, 3), (29, .invokevirtual 89, 3), (36, .getfield 100012, 3), (39, .getfield 80102, 3), (51, .getfield 100012, 3), (54, .getfield 80122, 3), (63, .getfield 100012, 3), (66, .getfield 80112, 3), (78, .getfield 100012, 3), (81, .getfield 80122, 3)]
theorem am_ol151_0 : ∀ q ∈ am_l151_0, am_ok 151 q.1 q.2.1 q.2.2 := show ∀ q ∈ ([(8, .getfield 100012, 3), (11, .getfield 80010, 3), (18, .getfield 100012, 3), (26, .invokevirtual 30, 3), (29, .invokevirtual 89, 3), (36, .getfield 100012, 3), (39, .getfield 80102, 3), (51, .getfield 100012, 3), (54, .getfield 80122, 3), (63, .getfield 100012, 3), (66, .getfield 80112, 3), (78, .getfield 100012, 3), (81, .getfield 80122, 3)] : List (Nat × Instr × Nat)), am_ok 151 q.1 q.2.1 q.2.2 from
  am_fc (am_okgf 19 (by decide +kernel) (am_mem 463 (by decide +kernel))) (
  am_fc (am_okgf 144 (by decide +kernel) (am_mem 236 (by decide +kernel))) (
  am_fc (am_okgf 19 (by decide +kernel) (am_mem 463 (by decide +kernel))) (
  am_fc (am_okv 198 (by decide +kernel) (by decide) (am_mem 1055 (by decide +kernel)) (am_mem 1056 (by decide +kernel)) (am_mem 1057 (by decide +kernel))) (
  am_fc (am_okv 311 (by decide +kernel) (by decide) (am_mem 1259 (by decide +kernel)) (am_mem 1260 (by decide +kernel)) (am_mem 1261 (by decide +kernel))) (
  am_fc (am_okgf 19 (by decide +kernel) (am_mem 463 (by decide +kernel))) (
  am_fc (am_okgf 201 (by decide +kernel) (am_mem 267 (by decide +kernel))) (
  am_fc (am_okgf 19 (by decide +kernel) (am_mem 463 (by decide +kernel))) (
  am_fc (am_okgf 207 (by decide +kernel) (am_mem 273 (by decide +kernel))) (
  am_fc (am_okgf 19 (by decide +kernel) (am_mem 463 (by decide +kernel))) (
  am_fc (am_okgf 204 (by decide +kernel) (am_mem 270 (by decide +kernel))) (
  am_fc (am_okgf 19 (by decide +kernel) (am_mem 463 (by decide +kernel))) (
  am_fc (am_okgf 207 (by decide +kernel) (am_mem 273 (by decide +kernel))) (
  am_fn)))))))))))))
def am_t151 : List (Nat × Instr × Nat) := am_p151_0 ++ (am_l151_0)
theorem am_ot151 : ∀ q ∈ am_t151, am_ok 151 q.1 q.2.1 q.2.2 := List.forall_mem_append.mpr ⟨am_op151_0, am_ol151_0⟩
def am_p152_0 : List (Nat × Instr × Nat) := [(0, .iconst 0, 1), (1, .istore_n 2, 1), (2, .iconst 0, 1), (3, .istore_n 3, 1), (4, .iload_n 3, 1), (5, .bipush 20, 2), (7, .if_icmp .gt 33, 3), (10, .aload_n 0, 1), (14, .iload_n 1, 1), (15, .aload_n 0, 1), (16, .iload_n 1, 1), (17, .iload_n 3, 1), (18, .iconst 1, 1), (25, .ifCond .eq 9, 3), (28, .iload_n 2, 1), (29, .iconst 1, 1), (30, .iload_n 3, 1), (31, .ishl, 1), (32, .ior, 1), (33, .istore_n 2, 1), (34, .iinc 3 1, 3), (37, .goto (-33), 3), (40, .iload_n 2, 1), (41, .ireturn, 1)]
theorem am_op152_0 : ∀ q ∈ am_p152_0, am_ok 152 q.1 q.2.1 q.2.2 := am_okps (by decide +kernel)
def am_l152_0 : List (Nat × Instr × Nat) := [(11, .getfield 100062, 3), (19, .invokevirtual 147, 3), (22, .invokevirtual 2, 3)]
theorem am_ol152_0 : ∀ q ∈ am_l152_0, am_ok 152 q.1 q.2.1 q.2.2 := show ∀ q ∈ ([(11, .getfield 100062, 3), (19, .invokevirtual 147, 3), (22, .invokevirtual 2, 3)] : List (Nat × Instr × Nat)), am_ok 152 q.1 q.2.1 q.2.2 from
  am_fc (am_okgf 46 (by decide +kernel) (am_mem 468 (by decide +kernel))) (
  am_fc (am_okv 255 (by decide +kernel) (by decide) (am_mem 657 (by decide +kernel)) (am_mem 659 (by decide +kernel)) (am_mem 6 (by decide +kernel))) (
  am_fc (am_okv 379 (by decide +kernel) (by decide) (am_mem 674 (by decide +kernel)) (am_mem 675 (by decide +kernel)) (am_mem 676 (by decide +kernel))) (
  am_fn)))
def am_t152 : List (Nat × Instr × Nat) := am_p152_0 ++ (am_l152_0)
theorem am_ot152 : ∀ q ∈ am_t152, am_ok 152 q.1 q.2.1 q.2.2 := List.forall_mem_append.mpr ⟨am_op152_0, am_ol152_0⟩
def am_p153_0 : List (Nat × Instr × Nat) := [(0, .aload_n 0, 1), (4, .aload_n 0, 1), (11, .iload_n 1, 1), (12, .istore_n 3, 1), (13, .iconst 0, 1), (14, .istore 4, 2), (16, .iconst 0, 1), (17, .istore 5, 2), (19, .iload 5, 2), (21, .iload_n 2, 1), (22, .if_icmp .ge 157, 3), (25, .aload_n 0, 1), (32, .ifCond .le 42, 3), (35, .iload_n 3, 1), (39, .istore_n 3, 1), (40, .iload_n 3, 1), (41, .aload_n 0, 1), (51, .istore 6, 2), (53, .iload_n 3, 1), (57, .istore_n 3, 1), (58, .aload_n 0, 1), (65, .iload 6, 2), (67, .iload_n 3, 1), (68, .bipush 6, 2), (73, .iastore, 1), (74, .aload_n 0, 1), (81, .ifCond .le 75, 3), (84, .iload_n 3, 1), (88, .istore_n 3, 1), (89, .iload_n 3, 1), (90, .aload_n 0, 1), (100, .istore 6, 2), (102, .aload_n 0, 1), (106, .aload_n 0, 1), (113, .iload 6, 2), (115, .iaload, 1), (116, .aload_n 0, 1), (123, .iload 6, 2), (125, .iaload, 1), (129, .aload_n 0, 1), (133, .aload_n 0, 1), (140, .iload 6, 2), (142, .iaload, 1), (143, .aload_n 0, 1), (150, .iload 6, 2), (152, .iaload, 1), (156, .iload 4, 2), (158, .aload_n 0, 1), (162, .aload_n 0, 1), (166, .iconst (-1), 1), (170, .iadd, 1), (171, .istore 4, 2), (173, .iinc 5 1, 3), (176, .goto (-157), 3), (179, .iload 4, 2), (181, .ireturn, 1)]
theorem am_op153_0 : ∀ q ∈ am_p153_0, am_ok 153 q.1 q.2.1 q.2.2 := am_okps (by decide +kernel)
def am_l153_0 : List (Nat × Instr × Nat) := [(1, .getfield 100042, 3), (5, .getfield 100032, 3), (8, .invokevirtual 19, 3), (26, .getfield 100012, 3), (29, .getfield 80000, 3), (36, .invokestatic 154, 3), (42, .getfield 100012, 3), (45, .getfield 80000, 3), (48, .invokestatic 155, 3), (54, .invokestatic 154, 3), (59, .getfield 100042, 3), (62, .getfield 40032, 3), (70, .invokestatic 155, 3), (75, .getfield 100012, 3), (78, .getfield 80020, 3), (85, .invokestatic 154, 3), (91, .getfield 100012, 3), (94, .getfield 80020, 3), (97, .invokestatic 155, 3), (103, .getfield 100042, 3), (107, .getfield 100012, 3), (110, .getfield 80132, 3), (117, .getfield 100012, 3), (120, .getfield 80142, 3), (126, .invokevirtual 34, 3), (130, .getfield 100042, 3), (134, .getfield 100012, 3), (137, .getfield 80142, 3), (144, .getfield 100012, 3), (147, .getfield 80132, 3), (153, .invokevirtual 34, 3), (159, .getfield 100042, 3), (163, .getfield 100012, 3), (167, .invokevirtual 35, 3)]
theorem am_ol153_0 : ∀ q ∈ am_l153_0, am_ok 153 q.1 q.2.1 q.2.2 := show ∀ q ∈ ([(1, .getfield 100042, 3), (5, .getfield 100032, 3), (8, .invokevirtual 19, 3), (26, .getfield 100012, 3), (29, .getfield 80000, 3), (36, .invokestatic 154, 3), (42, .getfield 100012, 3), (45, .getfield 80000, 3), (48, .invokestatic 155, 3), (54, .invokestatic 154, 3), (59, .getfield 100042, 3), (62, .getfield 40032, 3), (70, .invokestatic 155, 3), (75, .getfield 100012, 3), (78, .getfield 80020, 3), (85, .invokestatic 154, 3), (91, .getfield 100012, 3), (94, .getfield 80020, 3), (97, .invokestatic 155, 3), (103, .getfield 100042, 3), (107, .getfield 100012, 3), (110, .getfield 80132, 3), (117, .getfield 100012, 3), (120, .getfield 80142, 3), (126, .invokevirtual 34, 3), (130, .getfield 100042, 3), (134, .getfield 100012, 3), (137, .getfield 80142, 3), (144, .getfield 100012, 3), (147, .getfield 80132, 3), (153, .invokevirtual 34, 3), (159, .getfield 100042, 3), (163, .getfield 100012, 3), (167, .invokevirtual 35, 3)] : List (Nat × Instr × Nat)), am_ok 153 q.1 q.2.1 q.2.2 from
  am_fc (am_okgf 33 (by decide +kernel) (am_mem 466 (by decide +kernel))) (
  am_fc (am_okgf 29 (by decide +kernel) (am_mem 465 (by decide +kernel))) (
  am_fc (am_okv 244 (by decide +kernel) (by decide) (am_mem 683 (by decide +kernel)) (am_mem 684 (by decide +kernel)) (am_mem 685 (by decide +kernel))) (
  am_fc (am_okgf 19 (by decide +kernel) (am_mem 463 (by decide +kernel))) (
  am_fc (am_okgf 141 (by decide +kernel) (am_mem 232 (by decide +kernel))) (
  am_fc (am_oks 382 (by decide +kernel) (by decide) (am_mem 1349 (by decide +kernel)) (Or.inl (am_mem 1348 (by decide +kernel)))) (
  am_fc (am_okgf 19 (by decide +kernel) (am_mem 463 (by decide +kernel))) (
  am_fc (am_okgf 141 (by decide +kernel) (am_mem 232 (by decide +kernel))) (
  am_fc (am_oks 385 (by decide +kernel) (by decide) (am_mem 1353 (by decide +kernel)) (Or.inl (am_mem 1352 (by decide +kernel)))) (
  am_fc (am_oks 382 (by decide +kernel) (by decide) (am_mem 1349 (by decide +kernel)) (Or.inl (am_mem 1348 (by decide +kernel)))) (
  am_fc (am_okgf 33 (by decide +kernel) (am_mem 466 (by decide +kernel))) (
  am_fc (am_okgf 178 (by decide +kernel) (am_mem 339 (by decide +kernel))) (
  am_fc (am_oks 385 (by decide +kernel) (by decide) (am_mem 1353 (by decide +kernel)) (Or.inl (am_mem 1352 (by decide +kernel)))) (
  am_fc (am_okgf 19 (by decide +kernel) (am_mem 463 (by decide +kernel))) (
  am_fc (am_okgf 147 (by decide +kernel) (am_mem 240 (by decide +kernel))) (
  am_fc (am_oks 382 (by decide +kernel) (by decide) (am_mem 1349 (by decide +kernel)) (Or.inl (am_mem 1348 (by decide +kernel)))) (
  am_fc (am_okgf 19 (by decide +kernel) (am_mem 463 (by decide +kernel))) (
  am_fc (am_okgf 147 (by decide +kernel) (am_mem 240 (by decide +kernel))) (
  am_fc (am_oks 385 (by decide +kernel) (by decide) (am_mem 1353 (by decide +kernel)) (Or.inl (am_mem 1352 (by decide +kernel)))) (
  am_fc (am_okgf 33 (by decide +kernel) (am_mem 466 (by decide +kernel))) (
  am_fc (am_okgf 19 (by decide +kernel) (am_mem 463 (by decide +kernel))) (
  am_fc (am_okgf 388 (by decide +kernel) (am_mem 276 (by decide +kernel))) (
  am_fc (am_okgf 19 (by decide +kernel) (am_mem 463 (by decide +kernel))) (
  am_fc (am_okgf 391 (by decide +kernel) (am_mem 279 (by decide +kernel))) (
  am_fc (am_okv 394 (by decide +kernel) (by decide) (am_mem 1355 (by decide +kernel)) (am_mem 1356 (by decide +kernel)) (am_mem 1357 (by decide +kernel))) (
  am_fc (am_okgf 33 (by decide +kernel) (am_mem 466 (by decide +kernel))) (
  am_fc (am_okgf 19 (by decide +kernel) (am_mem 463 (by decide +kernel))) (
  am_fc (am_okgf 391 (by decide +kernel) (am_mem 279 (by decide +kernel))) (
  am_fc (am_okgf 19 (by decide +kernel) (am_mem 463 (by decide +kernel))) (
  am_fc (am_okgf 388 (by decide +kernel) (am_mem 276 (by decide +kernel))) (
  am_fc (am_okv 394 (by decide +kernel) (by decide) (am_mem 1355 (by decide +kernel)) (am_mem 1356 (by decide +kernel)) (am_mem 1357 (by decide +kernel))) (
  am_fc (am_okgf 33 (by decide +kernel) (am_mem 466 (by decide +kernel))) (
  am_fc (am_okgf 19 (by decide +kernel) (am_mem 463 (by decide +kernel))) (
  am_fc (am_okv 228 (by decide +kernel) (by decide) (am_mem 546 (by decide +kernel)) (am_mem 547 (by decide +kernel)) (am_mem 548 (by decide +kernel))) (
  am_fn))))))))))))))))))))))))))))))))))
def am_t153 : List (Nat × Instr × Nat) := am_p153_0 ++ (am_l153_0)
theorem am_ot153 : ∀ q ∈ am_t153, am_ok 153 q.1 q.2.1 q.2.2 := List.forall_mem_append.mpr ⟨am_op153_0, am_ol153_0⟩
def am_p154_0 : List (Nat × Instr × Nat) := [(0, .iload_n 0, 1), (4, .imul, 1), (5, .sipush 12345, 3), (8, .iadd, 1), (9, .ireturn, 1)]
theorem am_op154_0 : ∀ q ∈ am_p154_0, am_ok 154 q.1 q.2.1 q.2.2 := am_okps (by decide +kernel)
def am_l154_0 : List (Nat × Instr × Nat) := [(1, .ldc_w 1103515245, 3)]
theorem am_ol154_0 : ∀ q ∈ am_l154_0, am_ok 154 q.1 q.2.1 q.2.2 := show ∀ q ∈ ([(1, .ldc_w 1103515245, 3)] : List (Nat × Instr × Nat)), am_ok 154 q.1 q.2.1 q.2.2 from
  am_fc (am_oklw 397 (by decide +kernel) (am_mem 1351 (by decide +kernel))) (
  am_fn)
def am_t154 : List (Nat × Instr × Nat) := am_p154_0 ++ (am_l154_0)
theorem am_ot154 : ∀ q ∈ am_t154, am_ok 154 q.1 q.2.1 q.2.2 := List.forall_mem_append.mpr ⟨am_op154_0, am_ol154_0⟩
def am_p155_0 : List (Nat × Instr × Nat) := [(0, .iload_n 1, 1), (1, .ifCond .gt 7, 3), (4, .iconst 0, 1), (5, .goto 13, 3), (8, .iload_n 0, 1), (9, .bipush 16, 2), (11, .ishr, 1), (12, .sipush 32767, 3), (15, .iand, 1), (16, .iload_n 1, 1), (17, .irem, 1), (18, .ireturn, 1)]
theorem am_op155_0 : ∀ q ∈ am_p155_0, am_ok 155 q.1 q.2.1 q.2.2 := am_okps (by decide +kernel)
def am_t155 : List (Nat × Instr × Nat) := am_p155_0
theorem am_ot155 : ∀ q ∈ am_t155, am_ok 155 q.1 q.2.1 q.2.2 := am_op155_0
def am_p156_0 : List (Nat × Instr × Nat) := [(0, .aload_n 0, 1), (4, .aload_n 0, 1), (5, .iconst (-1), 1), (9, .aload_n 0, 1), (10, .bipush 60, 2), (12, .newarray .int, 2), (17, .aload_n 0, 1), (18, .bipush 20, 2), (20, .newarray .int, 2), (25, .aload_n 0, 1), (26, .bipush 16, 2), (28, .newarray .int, 2), (33, .aload_n 0, 1), (34, .bipush 6, 2), (36, .newarray .int, 2), (41, .aload_n 0, 1), (42, .bipush 6, 2), (44, .newarray .int, 2), (49, .aload_n 0, 1), (50, .sipush 1900, 3), (53, .newarray .int, 2), (58, .aload_n 0, 1), (59, .sipush 700, 3), (62, .newarray .int, 2), (67, .aload_n 0, 1), (68, .iconst (-1), 1), (72, .aload_n 0, 1), (73, .iconst 3, 1), (74, .newarray .int, 2), (79, .aload_n 0, 1), (80, .bipush 60, 2), (82, .newarray .int, 2), (87, .aload_n 0, 1), (88, .bipush 20, 2), (90, .newarray .int, 2), (95, .aload_n 0, 1), (96, .bipush 16, 2), (98, .newarray .int, 2), (103, .aload_n 0, 1), (104, .bipush 6, 2), (106, .newarray .int, 2), (111, .aload_n 0, 1), (112, .bipush 6, 2), (114, .newarray .int, 2), (119, .aload_n 0, 1), (120, .sipush 1900, 3), (123, .newarray .int, 2), (128, .aload_n 0, 1), (129, .sipush 950, 3), (132, .newarray .int, 2), (137, .aload_n 0, 1), (138, .bipush 9, 2), (140, .newarray .boolean, 2), (145, .aload_n 0, 1), (146, .sipush 139, 3), (149, .newarray .int, 2), (154, .aload_n 0, 1), (155, .sipush 139, 3), (158, .newarray .int, 2), (163, .aload_n 0, 1), (164, .sipush 5560, 3), (167, .newarray .int, 2), (172, .aload_n 0, 1), (173, .bipush 7, 2), (175, .newarray .int, 2), (180, .aload_n 0, 1), (181, .sipush 950, 3), (184, .newarray .int, 2), (189, .aload_n 0, 1), (190, .iconst 4, 1), (191, .newarray .int, 2), (196, .aload_n 0, 1), (197, .iconst 4, 1), (198, .newarray .int, 2), (203, .aload_n 0, 1), (204, .iconst (-1), 1), (208, .aload_n 0, 1), (209, .iconst (-1), 1), (213, .aload_n 0, 1), (214, .iconst (-1), 1), (218, .aload_n 0, 1), (219, .iconst 5, 1), (220, .newarray .int, 2), (225, .aload_n 0, 1), (226, .iconst 5, 1), (227, .newarray .int, 2), (232, .aload_n 0, 1), (233, .bipush 6, 2), (235, .newarray .int, 2), (240, .aload_n 0, 1), (241, .bipush 126, 2), (243, .newarray .int, 2), (248, .aload_n 0, 1), (249, .sipush 217, 3), (252, .newarray .int, 2), (257, .aload_n 0, 1), (258, .bipush 6, 2), (260, .newarray .int, 2), (265, .aload_n 0, 1), (266, .bipush 24, 2), (268, .newarray .int, 2), (273, .aload_n 0, 1), (274, .sipush 139, 3), (277, .newarray .int, 2), (282, .aload_n 0, 1), (283, .sipush 5560, 3), (286, .newarray .int, 2), (291, .aload_n 0, 1), (292, .bipush 24, 2), (294, .newarray .int, 2), (299, .aload_n 0, 1), (303, .return_, 1)]
theorem am_op156_0 : ∀ q ∈ am_p156_0, am_ok 156 q.1 q.2.1 q.2.2 := am_okps (by decide +kernel)
def am_l156_0 : List (Nat × Instr × Nat) := [(1, .invokespecial 1000, 3), (6, .putfield 110050, 3), (14, .putfield 110062, 3), (22, .putfield 110072, 3), (30, .putfield 110082, 3), (38, .putfield 110092, 3), (46, .putfield 110102, 3), (55, .putfield 110112, 3), (64, .putfield 110122, 3), (69, .putfield 110150, 3), (76, .putfield 110162, 3), (84, .putfield 110332, 3), (92, .putfield 110342, 3), (100, .putfield 110352, 3), (108, .putfield 110362, 3), (116, .putfield 110372, 3), (125, .putfield 110382, 3), (134, .putfield 110392, 3), (142, .putfield 110402, 3), (151, .putfield 110412, 3), (160, .putfield 110422, 3), (169, .putfield 110432, 3), (177, .putfield 110452, 3), (186, .putfield 110462, 3), (193, .putfield 110472, 3), (200, .putfield 110482, 3), (205, .putfield 110490, 3), (210, .putfield 110500, 3), (215, .putfield 110510, 3), (222, .putfield 110522, 3), (229, .putfield 110532, 3), (237, .putfield 110542, 3), (245, .putfield 110552, 3), (254, .putfield 110562, 3), (262, .putfield 110572, 3), (270, .putfield 110602, 3), (279, .putfield 110652, 3), (288, .putfield 110662, 3), (296, .putfield 110672, 3), (300, .invokevirtual 194, 3)]
theorem am_ol156_0 : ∀ q ∈ am_l156_0, am_ok 156 q.1 q.2.1 q.2.2 := show ∀ q ∈ ([(1, .invokespecial 1000, 3), (6, .putfield 110050, 3), (14, .putfield 110062, 3), (22, .putfield 110072, 3), (30, .putfield 110082, 3), (38, .putfield 110092, 3), (46, .putfield 110102, 3), (55, .putfield 110112, 3), (64, .putfield 110122, 3), (69, .putfield 110150, 3), (76, .putfield 110162, 3), (84, .putfield 110332, 3), (92, .putfield 110342, 3), (100, .putfield 110352, 3), (108, .putfield 110362, 3), (116, .putfield 110372, 3), (125, .putfield 110382, 3), (134, .putfield 110392, 3), (142, .putfield 110402, 3), (151, .putfield 110412, 3), (160, .putfield 110422, 3), (169, .putfield 110432, 3), (177, .putfield 110452, 3), (186, .putfield 110462, 3), (193, .putfield 110472, 3), (200, .putfield 110482, 3), (205, .putfield 110490, 3), (210, .putfield 110500, 3), (215, .putfield 110510, 3), (222, .putfield 110522, 3), (229, .putfield 110532, 3), (237, .putfield 110542, 3), (245, .putfield 110552, 3), (254, .putfield 110562, 3), (262, .putfield 110572, 3), (270, .putfield 110602, 3), (279, .putfield 110652, 3), (288, .putfield 110662, 3), (296, .putfield 110672, 3), (300, .invokevirtual 194, 3)] : List (Nat × Instr × Nat)), am_ok 156 q.1 q.2.1 q.2.2 from
  am_fc (am_oki0 1 (by decide +kernel) (am_mem 1389 (by decide +kernel))) (
  am_fc (am_okpf 9 (by decide +kernel) (am_mem 1399 (by decide +kernel))) (
  am_fc (am_okpf 13 (by decide +kernel) (am_mem 1400 (by decide +kernel))) (
  am_fc (am_okpf 17 (by decide +kernel) (am_mem 1401 (by decide +kernel))) (
  am_fc (am_okpf 20 (by decide +kernel) (am_mem 1402 (by decide +kernel))) (
  am_fc (am_okpf 23 (by decide +kernel) (am_mem 1403 (by decide +kernel))) (
  am_fc (am_okpf 26 (by decide +kernel) (am_mem 1404 (by decide +kernel))) (
  am_fc (am_okpf 29 (by decide +kernel) (am_mem 1405 (by decide +kernel))) (
  am_fc (am_okpf 32 (by decide +kernel) (am_mem 1406 (by decide +kernel))) (
  am_fc (am_okpf 35 (by decide +kernel) (am_mem 1409 (by decide +kernel))) (
  am_fc (am_okpf 38 (by decide +kernel) (am_mem 1410 (by decide +kernel))) (
  am_fc (am_okpf 41 (by decide +kernel) (am_mem 1427 (by decide +kernel))) (
  am_fc (am_okpf 44 (by decide +kernel) (am_mem 1428 (by decide +kernel))) (
  am_fc (am_okpf 47 (by decide +kernel) (am_mem 1429 (by decide +kernel))) (
  am_fc (am_okpf 50 (by decide +kernel) (am_mem 1430 (by decide +kernel))) (
  am_fc (am_okpf 53 (by decide +kernel) (am_mem 1431 (by decide +kernel))) (
  am_fc (am_okpf 56 (by decide +kernel) (am_mem 1432 (by decide +kernel))) (
  am_fc (am_okpf 59 (by decide +kernel) (am_mem 1433 (by decide +kernel))) (
  am_fc (am_okpf 62 (by decide +kernel) (am_mem 1434 (by decide +kernel))) (
  am_fc (am_okpf 66 (by decide +kernel) (am_mem 1435 (by decide +kernel))) (
  am_fc (am_okpf 69 (by decide +kernel) (am_mem 1436 (by decide +kernel))) (
  am_fc (am_okpf 72 (by decide +kernel) (am_mem 1437 (by decide +kernel))) (
  am_fc (am_okpf 75 (by decide +kernel) (am_mem 1439 (by decide +kernel))) (
  am_fc (am_okpf 78 (by decide +kernel) (am_mem 1440 (by decide +kernel))) (
  am_fc (am_okpf 81 (by decide +kernel) (am_mem 1441 (by decide +kernel))) (
  am_fc (am_okpf 84 (by decide +kernel) (am_mem 1442 (by decide +kernel))) (
  am_fc (am_okpf 87 (by decide +kernel) (am_mem 1443 (by decide +kernel))) (
  am_fc (am_okpf 90 (by decide +kernel) (am_mem 1444 (by decide +kernel))) (
  am_fc (am_okpf 93 (by decide +kernel) (am_mem 1445 (by decide +kernel))) (
  am_fc (am_okpf 96 (by decide +kernel) (am_mem 1446 (by decide +kernel))) (
  am_fc (am_okpf 99 (by decide +kernel) (am_mem 1447 (by decide +kernel))) (
  am_fc (am_okpf 102 (by decide +kernel) (am_mem 1448 (by decide +kernel))) (
  am_fc (am_okpf 105 (by decide +kernel) (am_mem 1449 (by decide +kernel))) (
  am_fc (am_okpf 108 (by decide +kernel) (am_mem 1450 (by decide +kernel))) (
  am_fc (am_okpf 111 (by decide +kernel) (am_mem 1451 (by decide +kernel))) (
  am_fc (am_okpf 114 (by decide +kernel) (am_mem 1454 (by decide +kernel))) (
  am_fc (am_okpf 117 (by decide +kernel) (am_mem 1459 (by decide +kernel))) (
  am_fc (am_okpf 120 (by decide +kernel) (am_mem 1460 (by decide +kernel))) (
  am_fc (am_okpf 123 (by decide +kernel) (am_mem 1461 (by decide +kernel))) (
  am_fc (am_okv 126 (by decide +kernel) (by decide) (am_mem 1390 (by decide +kernel)) (am_mem 1392 (by decide +kernel)) (am_mem 41 (by decide +kernel))) (
  am_fn))))))))))))))))))))))))))))))))))))))))
def am_t156 : List (Nat × Instr × Nat) := am_p156_0 ++ (am_l156_0)
theorem am_ot156 : ∀ q ∈ am_t156, am_ok 156 q.1 q.2.1 q.2.2 := List.forall_mem_append.mpr ⟨am_op156_0, am_ol156_0⟩
def am_p157_0 : List (Nat × Instr × Nat) := [(0, .aload_n 0, 1), (4, .ireturn, 1)]
theorem am_op157_0 : ∀ q ∈ am_p157_0, am_ok 157 q.1 q.2.1 q.2.2 := am_okps (by decide +kernel)
def am_l157_0 : List (Nat × Instr × Nat) := [(1, .getfield 110000, 3)]
theorem am_ol157_0 : ∀ q ∈ am_l157_0, am_ok 157 q.1 q.2.1 q.2.2 := show ∀ q ∈ ([(1, .getfield 110000, 3)] : List (Nat × Instr × Nat)), am_ok 157 q.1 q.2.1 q.2.2 from
  am_fc (am_okgf 129 (by decide +kernel) (am_mem 1394 (by decide +kernel))) (
  am_fn)
def am_t157 : List (Nat × Instr × Nat) := am_p157_0 ++ (am_l157_0)
theorem am_ot157 : ∀ q ∈ am_t157, am_ok 157 q.1 q.2.1 q.2.2 := List.forall_mem_append.mpr ⟨am_op157_0, am_ol157_0⟩
def am_p158_0 : List (Nat × Instr × Nat) := [(0, .aload_n 0, 1), (4, .ifCond .ne 12, 3), (7, .iload_n 1, 1), (8, .ifCond .ne 8, 3), (11, .aload_n 0, 1), (12, .iload_n 2, 1), (16, .aload_n 0, 1), (20, .ifCond .ne 7, 3), (23, .iconst 1, 1), (24, .goto 4, 3), (27, .iconst 0, 1), (28, .ireturn, 1)]
theorem am_op158_0 : ∀ q ∈ am_p158_0, am_ok 158 q.1 q.2.1 q.2.2 := am_okps (by decide +kernel)
def am_l158_0 : List (Nat × Instr × Nat) := [(1, .getfield 110000, 3), (13, .putfield 110000, 3), (17, .getfield 110000, 3)]
theorem am_ol158_0 : ∀ q ∈ am_l158_0, am_ok 158 q.1 q.2.1 q.2.2 := show ∀ q ∈ ([(1, .getfield 110000, 3), (13, .putfield 110000, 3), (17, .getfield 110000, 3)] : List (Nat × Instr × Nat)), am_ok 158 q.1 q.2.1 q.2.2 from
  am_fc (am_okgf 129 (by decide +kernel) (am_mem 1394 (by decide +kernel))) (
  am_fc (am_okpf 129 (by decide +kernel) (am_mem 1394 (by decide +kernel))) (
  am_fc (am_okgf 129 (by decide +kernel) (am_mem 1394 (by decide +kernel))) (
  am_fn)))
def am_t158 : List (Nat × Instr × Nat) := am_p158_0 ++ (am_l158_0)
theorem am_ot158 : ∀ q ∈ am_t158, am_ok 158 q.1 q.2.1 q.2.2 := List.forall_mem_append.mpr ⟨am_op158_0, am_ol158_0⟩
def am_p159_0 : List (Nat × Instr × Nat) := [(0, .iload_n 0, 1), (1, .iload_n 1, 1), (2, .if_icmp .lt 12, 3), (5, .iload_n 0, 1), (6, .iload_n 2, 1), (7, .if_icmp .gt 7, 3), (10, .iconst 1, 1), (11, .goto 4, 3), (14, .iconst 0, 1), (15, .ireturn, 1)]
theorem am_op159_0 : ∀ q ∈ am_p159_0, am_ok 159 q.1 q.2.1 q.2.2 := am_okps (by decide +kernel)
def am_t159 : List (Nat × Instr × Nat) := am_p159_0
theorem am_ot159 : ∀ q ∈ am_t159, am_ok 159 q.1 q.2.1 q.2.2 := am_op159_0
def am_p160_0 : List (Nat × Instr × Nat) := [(0, .iconst 0, 1), (1, .istore_n 3, 1), (2, .iload_n 3, 1), (3, .aload_n 1, 1), (4, .arraylength, 1), (5, .if_icmp .ge 15, 3), (8, .aload_n 2, 1), (9, .iload_n 3, 1), (10, .aload_n 1, 1), (11, .iload_n 3, 1), (12, .iaload, 1), (13, .iastore, 1), (14, .iinc 3 1, 3), (17, .goto (-15), 3), (20, .return_, 1)]
theorem am_op160_0 : ∀ q ∈ am_p160_0, am_ok 160 q.1 q.2.1 q.2.2 := am_okps (by decide +kernel)
def am_t160 : List (Nat × Instr × Nat) := am_p160_0
theorem am_ot160 : ∀ q ∈ am_t160, am_ok 160 q.1 q.2.1 q.2.2 := am_op160_0
def am_p161_0 : List (Nat × Instr × Nat) := [(0, .iconst 0, 1), (1, .istore_n 1, 1), (2, .iconst 0, 1), (3, .istore_n 2, 1), (4, .iload_n 2, 1), (5, .bipush 10, 2), (7, .if_icmp .ge 17, 3), (10, .iload_n 1, 1), (11, .iload_n 0, 1), (12, .iload_n 2, 1), (13, .ishr, 1), (14, .iconst 1, 1), (15, .iand, 1), (16, .iadd, 1), (17, .istore_n 1, 1), (18, .iinc 2 1, 3), (21, .goto (-17), 3), (24, .iload_n 1, 1), (25, .ireturn, 1)]
theorem am_op161_0 : ∀ q ∈ am_p161_0, am_ok 161 q.1 q.2.1 q.2.2 := am_okps (by decide +kernel)
def am_t161 : List (Nat × Instr × Nat) := am_p161_0
theorem am_ot161 : ∀ q ∈ am_t161, am_ok 161 q.1 q.2.1 q.2.2 := am_op161_0
def am_p162_0 : List (Nat × Instr × Nat) := [(0, .aload_n 0, 1), (1, .iconst 0, 1), (5, .aload_n 0, 1), (9, .bipush 20, 2), (11, .iadd, 1), (12, .sipush 700, 3), (15, .if_icmp .le 5, 3), (18, .iconst (-1), 1), (19, .ireturn, 1), (20, .aload_n 0, 1), (21, .iload_n 1, 1), (25, .aload_n 0, 1), (26, .iload_n 2, 1), (30, .aload_n 0, 1), (31, .iload_n 3, 1), (35, .aload_n 0, 1), (36, .iload 4, 2), (41, .aload_n 0, 1), (42, .iload 5, 2), (47, .aload_n 0, 1), (51, .ireturn, 1)]
theorem am_op162_0 : ∀ q ∈ am_p162_0, am_ok 162 q.1 q.2.1 q.2.2 := am_okps (by decide +kernel)
def am_l162_0 : List (Nat × Instr × Nat) := [(2, .putfield 110000, 3), (6, .getfield 110130, 3), (22, .invokevirtual 163, 3), (27, .invokevirtual 163, 3), (32, .invokevirtual 163, 3), (38, .invokevirtual 163, 3), (44, .invokevirtual 163, 3), (48, .getfield 110130, 3)]
theorem am_ol162_0 : ∀ q ∈ am_l162_0, am_ok 162 q.1 q.2.1 q.2.2 := show ∀ q ∈ ([(2, .putfield 110000, 3), (6, .getfield 110130, 3), (22, .invokevirtual 163, 3), (27, .invokevirtual 163, 3), (32, .invokevirtual 163, 3), (38, .invokevirtual 163, 3), (44, .invokevirtual 163, 3), (48, .getfield 110130, 3)] : List (Nat × Instr × Nat)), am_ok 162 q.1 q.2.1 q.2.2 from
  am_fc (am_okpf 129 (by decide +kernel) (am_mem 1394 (by decide +kernel))) (
  am_fc (am_okgf 132 (by decide +kernel) (am_mem 1407 (by decide +kernel))) (
  am_fc (am_okv 135 (by decide +kernel) (by decide) (am_mem 1607 (by decide +kernel)) (am_mem 1609 (by decide +kernel)) (am_mem 42 (by decide +kernel))) (
  am_fc (am_okv 135 (by decide +kernel) (by decide) (am_mem 1607 (by decide +kernel)) (am_mem 1609 (by decide +kernel)) (am_mem 42 (by decide +kernel))) (
  am_fc (am_okv 135 (by decide +kernel) (by decide) (am_mem 1607 (by decide +kernel)) (am_mem 1609 (by decide +kernel)) (am_mem 42 (by decide +kernel))) (
  am_fc (am_okv 135 (by decide +kernel) (by decide) (am_mem 1607 (by decide +kernel)) (am_mem 1609 (by decide +kernel)) (am_mem 42 (by decide +kernel))) (
  am_fc (am_okv 135 (by decide +kernel) (by decide) (am_mem 1607 (by decide +kernel)) (am_mem 1609 (by decide +kernel)) (am_mem 42 (by decide +kernel))) (
  am_fc (am_okgf 132 (by decide +kernel) (am_mem 1407 (by decide +kernel))) (
  am_fn))))))))
def am_t162 : List (Nat × Instr × Nat) := am_p162_0 ++ (am_l162_0)
theorem am_ot162 : ∀ q ∈ am_t162, am_ok 162 q.1 q.2.1 q.2.2 := List.forall_mem_append.mpr ⟨am_op162_0, am_ol162_0⟩
