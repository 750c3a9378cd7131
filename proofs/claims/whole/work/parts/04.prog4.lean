/-! The resolved instructions of the methods, by program, and that they stand there. -/
def am_p291_0 : List (Nat × Instr × Nat) := [(0, .aload_n 2, 1), (1, .iconst 0, 1), (2, .aload_n 0, 1), (3, .iload_n 1, 1), (7, .ifCond .eq 7, 3), (10, .lconst 1, 1), (11, .goto 4, 3), (14, .lconst 0, 1), (15, .lastore, 1), (16, .goto 6, 3), (19, .astore_n 3, 1), (20, .iconst 1, 1), (21, .ireturn, 1), (22, .iconst 0, 1), (23, .ireturn, 1)]
theorem am_op291_0 : ∀ q ∈ am_p291_0, am_ok 291 q.1 q.2.1 q.2.2 := am_okps (by decide +kernel)
def am_l291_0 : List (Nat × Instr × Nat) := [(4, .invokevirtual 127, 3)]
theorem am_ol291_0 : ∀ q ∈ am_l291_0, am_ok 291 q.1 q.2.1 q.2.2 := show ∀ q ∈ ([(4, .invokevirtual 127, 3)] : List (Nat × Instr × Nat)), am_ok 291 q.1 q.2.1 q.2.2 from
  am_fc (am_okv 74 (by decide +kernel) (by decide) (am_mem 1255 (by decide +kernel)) (am_mem 1256 (by decide +kernel)) (am_mem 1257 (by decide +kernel))) (
  am_fn)
def am_t291 : List (Nat × Instr × Nat) := am_p291_0 ++ (am_l291_0)
theorem am_ot291 : ∀ q ∈ am_t291, am_ok 291 q.1 q.2.1 q.2.2 := List.forall_mem_append.mpr ⟨am_op291_0, am_ol291_0⟩
def am_p292_0 : List (Nat × Instr × Nat) := [(0, .aload_n 2, 1), (1, .iconst 0, 1), (2, .aload_n 0, 1), (3, .iload_n 1, 1), (7, .i2l, 1), (8, .lastore, 1), (9, .goto 6, 3), (12, .astore_n 3, 1), (13, .iconst 1, 1), (14, .ireturn, 1), (15, .iconst 0, 1), (16, .ireturn, 1)]
theorem am_op292_0 : ∀ q ∈ am_p292_0, am_ok 292 q.1 q.2.1 q.2.2 := am_okps (by decide +kernel)
def am_l292_0 : List (Nat × Instr × Nat) := [(4, .invokevirtual 128, 3)]
theorem am_ol292_0 : ∀ q ∈ am_l292_0, am_ok 292 q.1 q.2.1 q.2.2 := show ∀ q ∈ ([(4, .invokevirtual 128, 3)] : List (Nat × Instr × Nat)), am_ok 292 q.1 q.2.1 q.2.2 from
  am_fc (am_okv 78 (by decide +kernel) (by decide) (am_mem 1266 (by decide +kernel)) (am_mem 1267 (by decide +kernel)) (am_mem 1268 (by decide +kernel))) (
  am_fn)
def am_t292 : List (Nat × Instr × Nat) := am_p292_0 ++ (am_l292_0)
theorem am_ot292 : ∀ q ∈ am_t292, am_ok 292 q.1 q.2.1 q.2.2 := List.forall_mem_append.mpr ⟨am_op292_0, am_ol292_0⟩
def am_p293_0 : List (Nat × Instr × Nat) := [(0, .aload_n 2, 1), (1, .iconst 0, 1), (2, .aload_n 0, 1), (3, .iload_n 1, 1), (7, .i2l, 1), (8, .lastore, 1), (9, .goto 6, 3), (12, .astore_n 3, 1), (13, .iconst 1, 1), (14, .ireturn, 1), (15, .iconst 0, 1), (16, .ireturn, 1)]
theorem am_op293_0 : ∀ q ∈ am_p293_0, am_ok 293 q.1 q.2.1 q.2.2 := am_okps (by decide +kernel)
def am_l293_0 : List (Nat × Instr × Nat) := [(4, .invokevirtual 129, 3)]
theorem am_ol293_0 : ∀ q ∈ am_l293_0, am_ok 293 q.1 q.2.1 q.2.2 := show ∀ q ∈ ([(4, .invokevirtual 129, 3)] : List (Nat × Instr × Nat)), am_ok 293 q.1 q.2.1 q.2.2 from
  am_fc (am_okv 81 (by decide +kernel) (by decide) (am_mem 1277 (by decide +kernel)) (am_mem 1278 (by decide +kernel)) (am_mem 1279 (by decide +kernel))) (
  am_fn)
def am_t293 : List (Nat × Instr × Nat) := am_p293_0 ++ (am_l293_0)
theorem am_ot293 : ∀ q ∈ am_t293, am_ok 293 q.1 q.2.1 q.2.2 := List.forall_mem_append.mpr ⟨am_op293_0, am_ol293_0⟩
def am_p294_0 : List (Nat × Instr × Nat) := [(0, .aload 4, 2), (2, .iconst 0, 1), (3, .aload_n 0, 1), (4, .iload_n 1, 1), (5, .iload_n 2, 1), (6, .iload_n 3, 1), (10, .i2l, 1), (11, .lastore, 1), (12, .goto 7, 3), (15, .astore 5, 2), (17, .iconst 1, 1), (18, .ireturn, 1), (19, .iconst 0, 1), (20, .ireturn, 1)]
theorem am_op294_0 : ∀ q ∈ am_p294_0, am_ok 294 q.1 q.2.1 q.2.2 := am_okps (by decide +kernel)
def am_l294_0 : List (Nat × Instr × Nat) := [(7, .invokevirtual 130, 3)]
theorem am_ol294_0 : ∀ q ∈ am_l294_0, am_ok 294 q.1 q.2.1 q.2.2 := show ∀ q ∈ ([(7, .invokevirtual 130, 3)] : List (Nat × Instr × Nat)), am_ok 294 q.1 q.2.1 q.2.2 from
  am_fc (am_okv 84 (by decide +kernel) (by decide) (am_mem 1284 (by decide +kernel)) (am_mem 1285 (by decide +kernel)) (am_mem 1286 (by decide +kernel))) (
  am_fn)
def am_t294 : List (Nat × Instr × Nat) := am_p294_0 ++ (am_l294_0)
theorem am_ot294 : ∀ q ∈ am_t294, am_ok 294 q.1 q.2.1 q.2.2 := List.forall_mem_append.mpr ⟨am_op294_0, am_ol294_0⟩
def am_p295_0 : List (Nat × Instr × Nat) := [(0, .aload_n 3, 1), (1, .iconst 0, 1), (2, .aload_n 0, 1), (3, .iload_n 1, 1), (4, .iload_n 2, 1), (8, .i2l, 1), (9, .lastore, 1), (10, .goto 7, 3), (13, .astore 4, 2), (15, .iconst 1, 1), (16, .ireturn, 1), (17, .iconst 0, 1), (18, .ireturn, 1)]
theorem am_op295_0 : ∀ q ∈ am_p295_0, am_ok 295 q.1 q.2.1 q.2.2 := am_okps (by decide +kernel)
def am_l295_0 : List (Nat × Instr × Nat) := [(5, .invokevirtual 132, 3)]
theorem am_ol295_0 : ∀ q ∈ am_l295_0, am_ok 295 q.1 q.2.1 q.2.2 := show ∀ q ∈ ([(5, .invokevirtual 132, 3)] : List (Nat × Instr × Nat)), am_ok 295 q.1 q.2.1 q.2.2 from
  am_fc (am_okv 88 (by decide +kernel) (by decide) (am_mem 1295 (by decide +kernel)) (am_mem 1296 (by decide +kernel)) (am_mem 1297 (by decide +kernel))) (
  am_fn)
def am_t295 : List (Nat × Instr × Nat) := am_p295_0 ++ (am_l295_0)
theorem am_ot295 : ∀ q ∈ am_t295, am_ok 295 q.1 q.2.1 q.2.2 := List.forall_mem_append.mpr ⟨am_op295_0, am_ol295_0⟩
def am_p296_0 : List (Nat × Instr × Nat) := [(0, .aload_n 2, 1), (1, .iconst 0, 1), (2, .aload_n 0, 1), (3, .iload_n 1, 1), (7, .i2l, 1), (8, .lastore, 1), (9, .goto 6, 3), (12, .astore_n 3, 1), (13, .iconst 1, 1), (14, .ireturn, 1), (15, .iconst 0, 1), (16, .ireturn, 1)]
theorem am_op296_0 : ∀ q ∈ am_p296_0, am_ok 296 q.1 q.2.1 q.2.2 := am_okps (by decide +kernel)
def am_l296_0 : List (Nat × Instr × Nat) := [(4, .invokevirtual 134, 3)]
theorem am_ol296_0 : ∀ q ∈ am_l296_0, am_ok 296 q.1 q.2.1 q.2.2 := show ∀ q ∈ ([(4, .invokevirtual 134, 3)] : List (Nat × Instr × Nat)), am_ok 296 q.1 q.2.1 q.2.2 from
  am_fc (am_okv 91 (by decide +kernel) (by decide) (am_mem 1303 (by decide +kernel)) (am_mem 1304 (by decide +kernel)) (am_mem 1305 (by decide +kernel))) (
  am_fn)
def am_t296 : List (Nat × Instr × Nat) := am_p296_0 ++ (am_l296_0)
theorem am_ot296 : ∀ q ∈ am_t296, am_ok 296 q.1 q.2.1 q.2.2 := List.forall_mem_append.mpr ⟨am_op296_0, am_ol296_0⟩
def am_p297_0 : List (Nat × Instr × Nat) := [(0, .aload_n 2, 1), (1, .iconst 0, 1), (2, .aload_n 0, 1), (3, .iload_n 1, 1), (7, .i2l, 1), (8, .lastore, 1), (9, .goto 6, 3), (12, .astore_n 3, 1), (13, .iconst 1, 1), (14, .ireturn, 1), (15, .iconst 0, 1), (16, .ireturn, 1)]
theorem am_op297_0 : ∀ q ∈ am_p297_0, am_ok 297 q.1 q.2.1 q.2.2 := am_okps (by decide +kernel)
def am_l297_0 : List (Nat × Instr × Nat) := [(4, .invokevirtual 135, 3)]
theorem am_ol297_0 : ∀ q ∈ am_l297_0, am_ok 297 q.1 q.2.1 q.2.2 := show ∀ q ∈ ([(4, .invokevirtual 135, 3)] : List (Nat × Instr × Nat)), am_ok 297 q.1 q.2.1 q.2.2 from
  am_fc (am_okv 94 (by decide +kernel) (by decide) (am_mem 1332 (by decide +kernel)) (am_mem 1333 (by decide +kernel)) (am_mem 1334 (by decide +kernel))) (
  am_fn)
def am_t297 : List (Nat × Instr × Nat) := am_p297_0 ++ (am_l297_0)
theorem am_ot297 : ∀ q ∈ am_t297, am_ok 297 q.1 q.2.1 q.2.2 := List.forall_mem_append.mpr ⟨am_op297_0, am_ol297_0⟩
def am_p298_0 : List (Nat × Instr × Nat) := [(0, .aload 4, 2), (2, .iconst 0, 1), (3, .aload_n 0, 1), (4, .iload_n 1, 1), (5, .iload_n 2, 1), (6, .iload_n 3, 1), (10, .i2l, 1), (11, .lastore, 1), (12, .goto 11, 3), (15, .astore 5, 2), (17, .iconst 1, 1), (18, .ireturn, 1), (19, .astore 5, 2), (21, .iconst 2, 1), (22, .ireturn, 1), (23, .iconst 0, 1), (24, .ireturn, 1)]
theorem am_op298_0 : ∀ q ∈ am_p298_0, am_ok 298 q.1 q.2.1 q.2.2 := am_okps (by decide +kernel)
def am_l298_0 : List (Nat × Instr × Nat) := [(7, .invokevirtual 136, 3)]
theorem am_ol298_0 : ∀ q ∈ am_l298_0, am_ok 298 q.1 q.2.1 q.2.2 := show ∀ q ∈ ([(7, .invokevirtual 136, 3)] : List (Nat × Instr × Nat)), am_ok 298 q.1 q.2.1 q.2.2 from
  am_fc (am_okv 97 (by decide +kernel) (by decide) (am_mem 1340 (by decide +kernel)) (am_mem 1341 (by decide +kernel)) (am_mem 1342 (by decide +kernel))) (
  am_fn)
def am_t298 : List (Nat × Instr × Nat) := am_p298_0 ++ (am_l298_0)
theorem am_ot298 : ∀ q ∈ am_t298, am_ok 298 q.1 q.2.1 q.2.2 := List.forall_mem_append.mpr ⟨am_op298_0, am_ol298_0⟩
def am_p299_0 : List (Nat × Instr × Nat) := [(0, .aload_n 2, 1), (1, .iconst 0, 1), (2, .aload_n 0, 1), (3, .iload_n 1, 1), (7, .i2l, 1), (8, .lastore, 1), (9, .goto 6, 3), (12, .astore_n 3, 1), (13, .iconst 1, 1), (14, .ireturn, 1), (15, .iconst 0, 1), (16, .ireturn, 1)]
theorem am_op299_0 : ∀ q ∈ am_p299_0, am_ok 299 q.1 q.2.1 q.2.2 := am_okps (by decide +kernel)
def am_l299_0 : List (Nat × Instr × Nat) := [(4, .invokevirtual 137, 3)]
theorem am_ol299_0 : ∀ q ∈ am_l299_0, am_ok 299 q.1 q.2.1 q.2.2 := show ∀ q ∈ ([(4, .invokevirtual 137, 3)] : List (Nat × Instr × Nat)), am_ok 299 q.1 q.2.1 q.2.2 from
  am_fc (am_okv 100 (by decide +kernel) (by decide) (am_mem 1363 (by decide +kernel)) (am_mem 1364 (by decide +kernel)) (am_mem 1365 (by decide +kernel))) (
  am_fn)
def am_t299 : List (Nat × Instr × Nat) := am_p299_0 ++ (am_l299_0)
theorem am_ot299 : ∀ q ∈ am_t299, am_ok 299 q.1 q.2.1 q.2.2 := List.forall_mem_append.mpr ⟨am_op299_0, am_ol299_0⟩
def am_p300_0 : List (Nat × Instr × Nat) := [(0, .aload_n 3, 1), (1, .iconst 0, 1), (2, .aload_n 0, 1), (3, .iload_n 1, 1), (4, .iload_n 2, 1), (8, .i2l, 1), (9, .lastore, 1), (10, .goto 11, 3), (13, .astore 4, 2), (15, .iconst 1, 1), (16, .ireturn, 1), (17, .astore 4, 2), (19, .iconst 2, 1), (20, .ireturn, 1), (21, .iconst 0, 1), (22, .ireturn, 1)]
theorem am_op300_0 : ∀ q ∈ am_p300_0, am_ok 300 q.1 q.2.1 q.2.2 := am_okps (by decide +kernel)
def am_l300_0 : List (Nat × Instr × Nat) := [(5, .invokevirtual 138, 3)]
theorem am_ol300_0 : ∀ q ∈ am_l300_0, am_ok 300 q.1 q.2.1 q.2.2 := show ∀ q ∈ ([(5, .invokevirtual 138, 3)] : List (Nat × Instr × Nat)), am_ok 300 q.1 q.2.1 q.2.2 from
  am_fc (am_okv 103 (by decide +kernel) (by decide) (am_mem 1373 (by decide +kernel)) (am_mem 1374 (by decide +kernel)) (am_mem 1375 (by decide +kernel))) (
  am_fn)
def am_t300 : List (Nat × Instr × Nat) := am_p300_0 ++ (am_l300_0)
theorem am_ot300 : ∀ q ∈ am_t300, am_ok 300 q.1 q.2.1 q.2.2 := List.forall_mem_append.mpr ⟨am_op300_0, am_ol300_0⟩
def am_p301_0 : List (Nat × Instr × Nat) := [(0, .aload_n 2, 1), (1, .iconst 0, 1), (2, .aload_n 0, 1), (3, .iload_n 1, 1), (7, .i2l, 1), (8, .lastore, 1), (9, .goto 6, 3), (12, .astore_n 3, 1), (13, .iconst 1, 1), (14, .ireturn, 1), (15, .iconst 0, 1), (16, .ireturn, 1)]
theorem am_op301_0 : ∀ q ∈ am_p301_0, am_ok 301 q.1 q.2.1 q.2.2 := am_okps (by decide +kernel)
def am_l301_0 : List (Nat × Instr × Nat) := [(4, .invokevirtual 139, 3)]
theorem am_ol301_0 : ∀ q ∈ am_l301_0, am_ok 301 q.1 q.2.1 q.2.2 := show ∀ q ∈ ([(4, .invokevirtual 139, 3)] : List (Nat × Instr × Nat)), am_ok 301 q.1 q.2.1 q.2.2 from
  am_fc (am_okv 106 (by decide +kernel) (by decide) (am_mem 1380 (by decide +kernel)) (am_mem 1381 (by decide +kernel)) (am_mem 1382 (by decide +kernel))) (
  am_fn)
def am_t301 : List (Nat × Instr × Nat) := am_p301_0 ++ (am_l301_0)
theorem am_ot301 : ∀ q ∈ am_t301, am_ok 301 q.1 q.2.1 q.2.2 := List.forall_mem_append.mpr ⟨am_op301_0, am_ol301_0⟩
