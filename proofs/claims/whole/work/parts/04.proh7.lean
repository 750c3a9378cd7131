/-! The resolved instructions of the law, by program. -/
def am_p302_17 : List (Nat × Instr × Nat) := [(2365, .ireturn, 1), (2366, .iinc 4 6, 3), (2369, .goto (-2346), 3), (2372, .iconst 1, 1), (2373, .ireturn, 1)]
theorem am_op302_17 : ∀ q ∈ am_p302_17, am_ok 302 q.1 q.2.1 q.2.2 := am_okps (by decide +kernel)
def am_l302_0 : List (Nat × Instr × Nat) := [(0, .new 10, 3), (4, .invokespecial 103, 3), (8, .new 11, 3), (12, .invokespecial 156, 3), (239, .invokevirtual 104, 3), (273, .invokevirtual 162, 3), (289, .invokestatic 272, 3), (301, .invokevirtual 192, 3), (307, .invokevirtual 157, 3), (338, .invokevirtual 106, 3), (342, .invokevirtual 193, 3), (358, .invokestatic 273, 3), (370, .invokevirtual 203, 3), (376, .invokevirtual 157, 3), (420, .invokestatic 274, 3), (438, .invokevirtual 207, 3), (444, .invokevirtual 157, 3), (488, .invokestatic 275, 3), (506, .invokevirtual 208, 3), (512, .invokevirtual 157, 3), (556, .invokestatic 276, 3), (574, .invokevirtual 209, 3), (580, .invokevirtual 157, 3), (624, .invokestatic 277, 3), (642, .invokevirtual 219, 3), (648, .invokevirtual 157, 3), (692, .invokestatic 278, 3), (710, .invokevirtual 220, 3), (716, .invokevirtual 157, 3), (766, .invokestatic 279, 3), (790, .invokevirtual 221, 3), (796, .invokevirtual 157, 3), (840, .invokevirtual 114, 3), (850, .invokevirtual 222, 3), (859, .invokevirtual 115, 3), (863, .invokevirtual 197, 3), (885, .invokestatic 280, 3), (903, .invokevirtual 225, 3), (909, .invokevirtual 157, 3), (953, .invokestatic 281, 3)]
theorem am_ol302_0 : ∀ q ∈ am_l302_0, am_ok 302 q.1 q.2.1 q.2.2 := show ∀ q ∈ ([(0, .new 10, 3), (4, .invokespecial 103, 3), (8, .new 11, 3), (12, .invokespecial 156, 3), (239, .invokevirtual 104, 3), (273, .invokevirtual 162, 3), (289, .invokestatic 272, 3), (301, .invokevirtual 192, 3), (307, .invokevirtual 157, 3), (338, .invokevirtual 106, 3), (342, .invokevirtual 193, 3), (358, .invokestatic 273, 3), (370, .invokevirtual 203, 3), (376, .invokevirtual 157, 3), (420, .invokestatic 274, 3), (438, .invokevirtual 207, 3), (444, .invokevirtual 157, 3), (488, .invokestatic 275, 3), (506, .invokevirtual 208, 3), (512, .invokevirtual 157, 3), (556, .invokestatic 276, 3), (574, .invokevirtual 209, 3), (580, .invokevirtual 157, 3), (624, .invokestatic 277, 3), (642, .invokevirtual 219, 3), (648, .invokevirtual 157, 3), (692, .invokestatic 278, 3), (710, .invokevirtual 220, 3), (716, .invokevirtual 157, 3), (766, .invokestatic 279, 3), (790, .invokevirtual 221, 3), (796, .invokevirtual 157, 3), (840, .invokevirtual 114, 3), (850, .invokevirtual 222, 3), (859, .invokevirtual 115, 3), (863, .invokevirtual 197, 3), (885, .invokestatic 280, 3), (903, .invokevirtual 225, 3), (909, .invokevirtual 157, 3), (953, .invokestatic 281, 3)] : List (Nat × Instr × Nat)), am_ok 302 q.1 q.2.1 q.2.2 from
  am_fc (am_okn 8 (by decide) (by decide +kernel) (am_mem 128 (by decide +kernel))) (
  am_fc (am_oki 109 (by decide +kernel) (by decide) (by decide +kernel) (am_mem 131 (by decide +kernel)) (Or.inl (am_mem 130 (by decide +kernel)))) (
  am_fc (am_okn 110 (by decide) (by decide +kernel) (am_mem 1384 (by decide +kernel))) (
  am_fc (am_oki 112 (by decide +kernel) (by decide) (by decide +kernel) (am_mem 1387 (by decide +kernel)) (Or.inl (am_mem 1386 (by decide +kernel)))) (
  am_fc (am_okv 113 (by decide +kernel) (by decide) (am_mem 514 (by decide +kernel)) (am_mem 515 (by decide +kernel)) (am_mem 516 (by decide +kernel))) (
  am_fc (am_okv 117 (by decide +kernel) (by decide) (am_mem 1603 (by decide +kernel)) (am_mem 1604 (by decide +kernel)) (am_mem 1605 (by decide +kernel))) (
  am_fc (am_oks 118 (by decide +kernel) (by decide) (am_mem 700 (by decide +kernel)) (Or.inl (am_mem 699 (by decide +kernel)))) (
  am_fc (am_okv 123 (by decide +kernel) (by decide) (am_mem 1611 (by decide +kernel)) (am_mem 1612 (by decide +kernel)) (am_mem 1613 (by decide +kernel))) (
  am_fc (am_okv 124 (by decide +kernel) (by decide) (am_mem 1599 (by decide +kernel)) (am_mem 1600 (by decide +kernel)) (am_mem 1601 (by decide +kernel))) (
  am_fc (am_okv 128 (by decide +kernel) (by decide) (am_mem 526 (by decide +kernel)) (am_mem 527 (by decide +kernel)) (am_mem 528 (by decide +kernel))) (
  am_fc (am_okv 131 (by decide +kernel) (by decide) (am_mem 1730 (by decide +kernel)) (am_mem 1731 (by decide +kernel)) (am_mem 1732 (by decide +kernel))) (
  am_fc (am_oks 132 (by decide +kernel) (by decide) (am_mem 1002 (by decide +kernel)) (Or.inl (am_mem 1001 (by decide +kernel)))) (
  am_fc (am_okv 134 (by decide +kernel) (by decide) (am_mem 1738 (by decide +kernel)) (am_mem 1739 (by decide +kernel)) (am_mem 1740 (by decide +kernel))) (
  am_fc (am_okv 124 (by decide +kernel) (by decide) (am_mem 1599 (by decide +kernel)) (am_mem 1600 (by decide +kernel)) (am_mem 1601 (by decide +kernel))) (
  am_fc (am_oks 135 (by decide +kernel) (by decide) (am_mem 1031 (by decide +kernel)) (Or.inl (am_mem 1030 (by decide +kernel)))) (
  am_fc (am_okv 138 (by decide +kernel) (by decide) (am_mem 1763 (by decide +kernel)) (am_mem 1764 (by decide +kernel)) (am_mem 1765 (by decide +kernel))) (
  am_fc (am_okv 124 (by decide +kernel) (by decide) (am_mem 1599 (by decide +kernel)) (am_mem 1600 (by decide +kernel)) (am_mem 1601 (by decide +kernel))) (
  am_fc (am_oks 139 (by decide +kernel) (by decide) (am_mem 1044 (by decide +kernel)) (Or.inl (am_mem 1043 (by decide +kernel)))) (
  am_fc (am_okv 141 (by decide +kernel) (by decide) (am_mem 1775 (by decide +kernel)) (am_mem 1776 (by decide +kernel)) (am_mem 1777 (by decide +kernel))) (
  am_fc (am_okv 124 (by decide +kernel) (by decide) (am_mem 1599 (by decide +kernel)) (am_mem 1600 (by decide +kernel)) (am_mem 1601 (by decide +kernel))) (
  am_fc (am_oks 142 (by decide +kernel) (by decide) (am_mem 1061 (by decide +kernel)) (Or.inl (am_mem 1060 (by decide +kernel)))) (
  am_fc (am_okv 144 (by decide +kernel) (by decide) (am_mem 1787 (by decide +kernel)) (am_mem 1788 (by decide +kernel)) (am_mem 1789 (by decide +kernel))) (
  am_fc (am_okv 124 (by decide +kernel) (by decide) (am_mem 1599 (by decide +kernel)) (am_mem 1600 (by decide +kernel)) (am_mem 1601 (by decide +kernel))) (
  am_fc (am_oks 145 (by decide +kernel) (by decide) (am_mem 1069 (by decide +kernel)) (Or.inl (am_mem 1068 (by decide +kernel)))) (
  am_fc (am_okv 147 (by decide +kernel) (by decide) (am_mem 1791 (by decide +kernel)) (am_mem 1792 (by decide +kernel)) (am_mem 1793 (by decide +kernel))) (
  am_fc (am_okv 124 (by decide +kernel) (by decide) (am_mem 1599 (by decide +kernel)) (am_mem 1600 (by decide +kernel)) (am_mem 1601 (by decide +kernel))) (
  am_fc (am_oks 148 (by decide +kernel) (by decide) (am_mem 1076 (by decide +kernel)) (Or.inl (am_mem 1075 (by decide +kernel)))) (
  am_fc (am_okv 150 (by decide +kernel) (by decide) (am_mem 1803 (by decide +kernel)) (am_mem 1804 (by decide +kernel)) (am_mem 1805 (by decide +kernel))) (
  am_fc (am_okv 124 (by decide +kernel) (by decide) (am_mem 1599 (by decide +kernel)) (am_mem 1600 (by decide +kernel)) (am_mem 1601 (by decide +kernel))) (
  am_fc (am_oks 151 (by decide +kernel) (by decide) (am_mem 1083 (by decide +kernel)) (Or.inl (am_mem 1082 (by decide +kernel)))) (
  am_fc (am_okv 154 (by decide +kernel) (by decide) (am_mem 1807 (by decide +kernel)) (am_mem 1808 (by decide +kernel)) (am_mem 1809 (by decide +kernel))) (
  am_fc (am_okv 124 (by decide +kernel) (by decide) (am_mem 1599 (by decide +kernel)) (am_mem 1600 (by decide +kernel)) (am_mem 1601 (by decide +kernel))) (
  am_fc (am_okv 155 (by decide +kernel) (by decide) (am_mem 530 (by decide +kernel)) (am_mem 531 (by decide +kernel)) (am_mem 532 (by decide +kernel))) (
  am_fc (am_okv 158 (by decide +kernel) (by decide) (am_mem 1815 (by decide +kernel)) (am_mem 1816 (by decide +kernel)) (am_mem 1817 (by decide +kernel))) (
  am_fc (am_okv 159 (by decide +kernel) (by decide) (am_mem 633 (by decide +kernel)) (am_mem 634 (by decide +kernel)) (am_mem 635 (by decide +kernel))) (
  am_fc (am_okv 162 (by decide +kernel) (by decide) (am_mem 1734 (by decide +kernel)) (am_mem 1735 (by decide +kernel)) (am_mem 1736 (by decide +kernel))) (
  am_fc (am_oks 163 (by decide +kernel) (by decide) (am_mem 1095 (by decide +kernel)) (Or.inl (am_mem 1094 (by decide +kernel)))) (
  am_fc (am_okv 165 (by decide +kernel) (by decide) (am_mem 1846 (by decide +kernel)) (am_mem 1847 (by decide +kernel)) (am_mem 1848 (by decide +kernel))) (
  am_fc (am_okv 124 (by decide +kernel) (by decide) (am_mem 1599 (by decide +kernel)) (am_mem 1600 (by decide +kernel)) (am_mem 1601 (by decide +kernel))) (
  am_fc (am_oks 166 (by decide +kernel) (by decide) (am_mem 1110 (by decide +kernel)) (Or.inl (am_mem 1109 (by decide +kernel)))) (
  am_fn))))))))))))))))))))))))))))))))))))))))
