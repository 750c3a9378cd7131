/-! Where each resolved instruction stands, by program. -/
theorem at100_0 : am_at 100 0 = some (.iload_n 0, 1) := by decide +kernel
theorem at100_1 : am_at 100 1 = some (.bipush 97, 2) := by decide +kernel
theorem at100_3 : am_at 100 3 = some (.if_icmp .lt 13, 3) := by decide +kernel
theorem at100_6 : am_at 100 6 = some (.iload_n 0, 1) := by decide +kernel
theorem at100_7 : am_at 100 7 = some (.bipush 122, 2) := by decide +kernel
theorem at100_9 : am_at 100 9 = some (.if_icmp .gt 7, 3) := by decide +kernel
theorem at100_12 : am_at 100 12 = some (.iconst 1, 1) := by decide +kernel
theorem at100_13 : am_at 100 13 = some (.goto 4, 3) := by decide +kernel
theorem at100_16 : am_at 100 16 = some (.iconst 0, 1) := by decide +kernel
theorem at100_17 : am_at 100 17 = some (.ireturn, 1) := by decide +kernel
theorem at101_0 : am_at 101 0 = some (.iload_n 0, 1) := by decide +kernel
theorem at101_1 : am_at 101 1 = some (.bipush 48, 2) := by decide +kernel
theorem at101_3 : am_at 101 3 = some (.if_icmp .lt 13, 3) := by decide +kernel
theorem at101_6 : am_at 101 6 = some (.iload_n 0, 1) := by decide +kernel
theorem at101_7 : am_at 101 7 = some (.bipush 57, 2) := by decide +kernel
theorem at101_9 : am_at 101 9 = some (.if_icmp .gt 7, 3) := by decide +kernel
theorem at101_12 : am_at 101 12 = some (.iconst 1, 1) := by decide +kernel
theorem at101_13 : am_at 101 13 = some (.goto 4, 3) := by decide +kernel
theorem at101_16 : am_at 101 16 = some (.iconst 0, 1) := by decide +kernel
theorem at101_17 : am_at 101 17 = some (.ireturn, 1) := by decide +kernel
theorem at102_0 : am_at 102 0 = some (.iload_n 0, 1) := by decide +kernel
theorem at102_1 : am_at 102 1 = some (.bipush 59, 2) := by decide +kernel
theorem at102_3 : am_at 102 3 = some (.if_icmp .eq 51, 3) := by decide +kernel
theorem at102_6 : am_at 102 6 = some (.iload_n 0, 1) := by decide +kernel
theorem at102_7 : am_at 102 7 = some (.bipush 40, 2) := by decide +kernel
theorem at102_9 : am_at 102 9 = some (.if_icmp .eq 45, 3) := by decide +kernel
theorem at102_12 : am_at 102 12 = some (.iload_n 0, 1) := by decide +kernel
theorem at102_13 : am_at 102 13 = some (.bipush 41, 2) := by decide +kernel
theorem at102_15 : am_at 102 15 = some (.if_icmp .eq 39, 3) := by decide +kernel
theorem at102_18 : am_at 102 18 = some (.iload_n 0, 1) := by decide +kernel
theorem at102_19 : am_at 102 19 = some (.bipush 43, 2) := by decide +kernel
theorem at102_21 : am_at 102 21 = some (.if_icmp .eq 33, 3) := by decide +kernel
theorem at102_24 : am_at 102 24 = some (.iload_n 0, 1) := by decide +kernel
theorem at102_25 : am_at 102 25 = some (.bipush 45, 2) := by decide +kernel
theorem at102_27 : am_at 102 27 = some (.if_icmp .eq 27, 3) := by decide +kernel
theorem at102_30 : am_at 102 30 = some (.iload_n 0, 1) := by decide +kernel
theorem at102_31 : am_at 102 31 = some (.bipush 42, 2) := by decide +kernel
theorem at102_33 : am_at 102 33 = some (.if_icmp .eq 21, 3) := by decide +kernel
theorem at102_36 : am_at 102 36 = some (.iload_n 0, 1) := by decide +kernel
theorem at102_37 : am_at 102 37 = some (.bipush 47, 2) := by decide +kernel
theorem at102_39 : am_at 102 39 = some (.if_icmp .eq 15, 3) := by decide +kernel
theorem at102_42 : am_at 102 42 = some (.iload_n 0, 1) := by decide +kernel
theorem at102_43 : am_at 102 43 = some (.bipush 60, 2) := by decide +kernel
theorem at102_45 : am_at 102 45 = some (.if_icmp .eq 9, 3) := by decide +kernel
theorem at102_48 : am_at 102 48 = some (.iload_n 0, 1) := by decide +kernel
theorem at102_49 : am_at 102 49 = some (.bipush 61, 2) := by decide +kernel
theorem at102_51 : am_at 102 51 = some (.if_icmp .ne 7, 3) := by decide +kernel
theorem at102_54 : am_at 102 54 = some (.iconst 1, 1) := by decide +kernel
theorem at102_55 : am_at 102 55 = some (.goto 4, 3) := by decide +kernel
theorem at102_58 : am_at 102 58 = some (.iconst 0, 1) := by decide +kernel
theorem at102_59 : am_at 102 59 = some (.ireturn, 1) := by decide +kernel
theorem at103_0 : am_at 103 0 = some (.aload_n 0, 1) := by decide +kernel
theorem at103_1 : am_at 103 1 = some (.invokespecial 1000, 3) := by decide +kernel
theorem at103_4 : am_at 103 4 = some (.aload_n 0, 1) := by decide +kernel
theorem at103_5 : am_at 103 5 = some (.new 6, 3) := by decide +kernel
theorem at103_8 : am_at 103 8 = some (.dup, 1) := by decide +kernel
theorem at103_9 : am_at 103 9 = some (.invokespecial 49, 3) := by decide +kernel
theorem at103_12 : am_at 103 12 = some (.putfield 100002, 3) := by decide +kernel
theorem at103_15 : am_at 103 15 = some (.aload_n 0, 1) := by decide +kernel
theorem at103_16 : am_at 103 16 = some (.new 8, 3) := by decide +kernel
theorem at103_19 : am_at 103 19 = some (.dup, 1) := by decide +kernel
theorem at103_20 : am_at 103 20 = some (.invokespecial 81, 3) := by decide +kernel
theorem at103_23 : am_at 103 23 = some (.putfield 100012, 3) := by decide +kernel
theorem at103_26 : am_at 103 26 = some (.aload_n 0, 1) := by decide +kernel
theorem at103_27 : am_at 103 27 = some (.new 8, 3) := by decide +kernel
theorem at103_30 : am_at 103 30 = some (.dup, 1) := by decide +kernel
theorem at103_31 : am_at 103 31 = some (.invokespecial 81, 3) := by decide +kernel
theorem at103_34 : am_at 103 34 = some (.putfield 100022, 3) := by decide +kernel
theorem at103_37 : am_at 103 37 = some (.aload_n 0, 1) := by decide +kernel
theorem at103_38 : am_at 103 38 = some (.new 4, 3) := by decide +kernel
theorem at103_41 : am_at 103 41 = some (.dup, 1) := by decide +kernel
theorem at103_42 : am_at 103 42 = some (.invokespecial 17, 3) := by decide +kernel
theorem at103_45 : am_at 103 45 = some (.putfield 100032, 3) := by decide +kernel
theorem at103_48 : am_at 103 48 = some (.aload_n 0, 1) := by decide +kernel
theorem at103_49 : am_at 103 49 = some (.new 4, 3) := by decide +kernel
theorem at103_52 : am_at 103 52 = some (.dup, 1) := by decide +kernel
theorem at103_53 : am_at 103 53 = some (.invokespecial 17, 3) := by decide +kernel
theorem at103_56 : am_at 103 56 = some (.putfield 100042, 3) := by decide +kernel
theorem at103_59 : am_at 103 59 = some (.aload_n 0, 1) := by decide +kernel
theorem at103_60 : am_at 103 60 = some (.new 2, 3) := by decide +kernel
theorem at103_63 : am_at 103 63 = some (.dup, 1) := by decide +kernel
theorem at103_64 : am_at 103 64 = some (.invokespecial 7, 3) := by decide +kernel
theorem at103_67 : am_at 103 67 = some (.putfield 100052, 3) := by decide +kernel
theorem at103_70 : am_at 103 70 = some (.aload_n 0, 1) := by decide +kernel
theorem at103_71 : am_at 103 71 = some (.new 0, 3) := by decide +kernel
theorem at103_74 : am_at 103 74 = some (.dup, 1) := by decide +kernel
theorem at103_75 : am_at 103 75 = some (.invokespecial 0, 3) := by decide +kernel
theorem at103_78 : am_at 103 78 = some (.putfield 100062, 3) := by decide +kernel
theorem at103_81 : am_at 103 81 = some (.aload_n 0, 1) := by decide +kernel
theorem at103_82 : am_at 103 82 = some (.new 1, 3) := by decide +kernel
theorem at103_85 : am_at 103 85 = some (.dup, 1) := by decide +kernel
theorem at103_86 : am_at 103 86 = some (.invokespecial 4, 3) := by decide +kernel
theorem at103_89 : am_at 103 89 = some (.putfield 100072, 3) := by decide +kernel
theorem at103_92 : am_at 103 92 = some (.aload_n 0, 1) := by decide +kernel
theorem at103_93 : am_at 103 93 = some (.new 5, 3) := by decide +kernel
theorem at103_96 : am_at 103 96 = some (.dup, 1) := by decide +kernel
theorem at103_97 : am_at 103 97 = some (.invokespecial 44, 3) := by decide +kernel
theorem at103_100 : am_at 103 100 = some (.putfield 100082, 3) := by decide +kernel
theorem at103_103 : am_at 103 103 = some (.aload_n 0, 1) := by decide +kernel
theorem at103_104 : am_at 103 104 = some (.new 3, 3) := by decide +kernel
theorem at103_107 : am_at 103 107 = some (.dup, 1) := by decide +kernel
theorem at103_108 : am_at 103 108 = some (.invokespecial 11, 3) := by decide +kernel
theorem at103_111 : am_at 103 111 = some (.putfield 100092, 3) := by decide +kernel
theorem at103_114 : am_at 103 114 = some (.aload_n 0, 1) := by decide +kernel
theorem at103_115 : am_at 103 115 = some (.iconst 3, 1) := by decide +kernel
theorem at103_116 : am_at 103 116 = some (.newarray .int, 2) := by decide +kernel
theorem at103_118 : am_at 103 118 = some (.putfield 100102, 3) := by decide +kernel
theorem at103_121 : am_at 103 121 = some (.aload_n 0, 1) := by decide +kernel
theorem at103_122 : am_at 103 122 = some (.bipush 6, 2) := by decide +kernel
theorem at103_124 : am_at 103 124 = some (.newarray .int, 2) := by decide +kernel
theorem at103_126 : am_at 103 126 = some (.putfield 100112, 3) := by decide +kernel
theorem at103_129 : am_at 103 129 = some (.aload_n 0, 1) := by decide +kernel
theorem at103_130 : am_at 103 130 = some (.bipush 6, 2) := by decide +kernel
theorem at103_132 : am_at 103 132 = some (.newarray .int, 2) := by decide +kernel
theorem at103_134 : am_at 103 134 = some (.putfield 100122, 3) := by decide +kernel
theorem at103_137 : am_at 103 137 = some (.aload_n 0, 1) := by decide +kernel
theorem at103_138 : am_at 103 138 = some (.new 4, 3) := by decide +kernel
theorem at103_141 : am_at 103 141 = some (.dup, 1) := by decide +kernel
theorem at103_142 : am_at 103 142 = some (.invokespecial 17, 3) := by decide +kernel
theorem at103_145 : am_at 103 145 = some (.putfield 100132, 3) := by decide +kernel
theorem at103_148 : am_at 103 148 = some (.aload_n 0, 1) := by decide +kernel
theorem at103_149 : am_at 103 149 = some (.new 2, 3) := by decide +kernel
theorem at103_152 : am_at 103 152 = some (.dup, 1) := by decide +kernel
theorem at103_153 : am_at 103 153 = some (.invokespecial 7, 3) := by decide +kernel
theorem at103_156 : am_at 103 156 = some (.putfield 100142, 3) := by decide +kernel
theorem at103_159 : am_at 103 159 = some (.aload_n 0, 1) := by decide +kernel
theorem at103_160 : am_at 103 160 = some (.new 0, 3) := by decide +kernel
theorem at103_163 : am_at 103 163 = some (.dup, 1) := by decide +kernel
theorem at103_164 : am_at 103 164 = some (.invokespecial 0, 3) := by decide +kernel
theorem at103_167 : am_at 103 167 = some (.putfield 100152, 3) := by decide +kernel
theorem at103_170 : am_at 103 170 = some (.return_, 1) := by decide +kernel
theorem at104_0 : am_at 104 0 = some (.aload_n 0, 1) := by decide +kernel
theorem at104_1 : am_at 104 1 = some (.getfield 100002, 3) := by decide +kernel
theorem at104_4 : am_at 104 4 = some (.getfield 60002, 3) := by decide +kernel
theorem at104_7 : am_at 104 7 = some (.astore 6, 2) := by decide +kernel
theorem at104_9 : am_at 104 9 = some (.aload 6, 2) := by decide +kernel
theorem at104_11 : am_at 104 11 = some (.bipush 20, 2) := by decide +kernel
theorem at104_13 : am_at 104 13 = some (.invokevirtual 91, 3) := by decide +kernel
theorem at104_16 : am_at 104 16 = some (.ifCond .ne 5, 3) := by decide +kernel
theorem at104_19 : am_at 104 19 = some (.iconst (-1), 1) := by decide +kernel
theorem at104_20 : am_at 104 20 = some (.ireturn, 1) := by decide +kernel
theorem at104_21 : am_at 104 21 = some (.aload 6, 2) := by decide +kernel
theorem at104_23 : am_at 104 23 = some (.iload_n 1, 1) := by decide +kernel
theorem at104_24 : am_at 104 24 = some (.invokevirtual 92, 3) := by decide +kernel
theorem at104_27 : am_at 104 27 = some (.aload 6, 2) := by decide +kernel
theorem at104_29 : am_at 104 29 = some (.iload_n 2, 1) := by decide +kernel
theorem at104_30 : am_at 104 30 = some (.invokevirtual 92, 3) := by decide +kernel
theorem at104_33 : am_at 104 33 = some (.aload 6, 2) := by decide +kernel
theorem at104_35 : am_at 104 35 = some (.iload_n 3, 1) := by decide +kernel
theorem at104_36 : am_at 104 36 = some (.invokevirtual 92, 3) := by decide +kernel
theorem at104_39 : am_at 104 39 = some (.aload 6, 2) := by decide +kernel
theorem at104_41 : am_at 104 41 = some (.iload 4, 2) := by decide +kernel
theorem at104_43 : am_at 104 43 = some (.invokevirtual 92, 3) := by decide +kernel
theorem at104_46 : am_at 104 46 = some (.aload 6, 2) := by decide +kernel
theorem at104_48 : am_at 104 48 = some (.iload 5, 2) := by decide +kernel
theorem at104_50 : am_at 104 50 = some (.invokevirtual 92, 3) := by decide +kernel
theorem at104_53 : am_at 104 53 = some (.aload 6, 2) := by decide +kernel
theorem at104_55 : am_at 104 55 = some (.getfield 90010, 3) := by decide +kernel
theorem at104_58 : am_at 104 58 = some (.ireturn, 1) := by decide +kernel
theorem at105_0 : am_at 105 0 = some (.iload_n 1, 1) := by decide +kernel
theorem at105_1 : am_at 105 1 = some (.ifCond .lt 17, 3) := by decide +kernel
theorem at105_4 : am_at 105 4 = some (.iload_n 1, 1) := by decide +kernel
theorem at105_5 : am_at 105 5 = some (.aload_n 0, 1) := by decide +kernel
theorem at105_6 : am_at 105 6 = some (.getfield 100002, 3) := by decide +kernel
theorem at105_9 : am_at 105 9 = some (.getfield 60002, 3) := by decide +kernel
theorem at105_12 : am_at 105 12 = some (.getfield 90010, 3) := by decide +kernel
theorem at105_15 : am_at 105 15 = some (.if_icmp .le 13, 3) := by decide +kernel
theorem at105_18 : am_at 105 18 = some (.new 100, 3) := by decide +kernel
theorem at105_28 : am_at 105 28 = some (.aload_n 0, 1) := by decide +kernel
theorem at105_29 : am_at 105 29 = some (.getfield 100002, 3) := by decide +kernel
theorem at105_32 : am_at 105 32 = some (.iload_n 1, 1) := by decide +kernel
theorem at105_33 : am_at 105 33 = some (.aload_n 0, 1) := by decide +kernel
theorem at105_34 : am_at 105 34 = some (.getfield 100022, 3) := by decide +kernel
theorem at105_37 : am_at 105 37 = some (.invokevirtual 50, 3) := by decide +kernel
theorem at105_40 : am_at 105 40 = some (.istore_n 2, 1) := by decide +kernel
theorem at105_41 : am_at 105 41 = some (.aload_n 0, 1) := by decide +kernel
theorem at105_42 : am_at 105 42 = some (.getfield 100002, 3) := by decide +kernel
theorem at105_45 : am_at 105 45 = some (.getfield 60002, 3) := by decide +kernel
theorem at105_48 : am_at 105 48 = some (.iconst 0, 1) := by decide +kernel
theorem at105_49 : am_at 105 49 = some (.putfield 90010, 3) := by decide +kernel
theorem at105_52 : am_at 105 52 = some (.iload_n 2, 1) := by decide +kernel
theorem at105_53 : am_at 105 53 = some (.ifCond .eq 15, 3) := by decide +kernel
theorem at105_56 : am_at 105 56 = some (.aload_n 0, 1) := by decide +kernel
theorem at105_57 : am_at 105 57 = some (.getfield 100102, 3) := by decide +kernel
theorem at105_60 : am_at 105 60 = some (.iconst 0, 1) := by decide +kernel
theorem at105_61 : am_at 105 61 = some (.dup2, 1) := by decide +kernel
theorem at105_62 : am_at 105 62 = some (.iaload, 1) := by decide +kernel
theorem at105_63 : am_at 105 63 = some (.iconst 1, 1) := by decide +kernel
theorem at105_64 : am_at 105 64 = some (.iadd, 1) := by decide +kernel
theorem at105_65 : am_at 105 65 = some (.iastore, 1) := by decide +kernel
theorem at105_66 : am_at 105 66 = some (.iload_n 2, 1) := by decide +kernel
theorem at105_67 : am_at 105 67 = some (.ireturn, 1) := by decide +kernel
theorem at105_68 : am_at 105 68 = some (.aload_n 0, 1) := by decide +kernel
theorem at105_69 : am_at 105 69 = some (.getfield 100012, 3) := by decide +kernel
theorem at105_72 : am_at 105 72 = some (.astore_n 3, 1) := by decide +kernel
theorem at105_73 : am_at 105 73 = some (.aload_n 0, 1) := by decide +kernel
theorem at105_74 : am_at 105 74 = some (.aload_n 0, 1) := by decide +kernel
theorem at105_75 : am_at 105 75 = some (.getfield 100022, 3) := by decide +kernel
theorem at105_78 : am_at 105 78 = some (.putfield 100012, 3) := by decide +kernel
theorem at105_81 : am_at 105 81 = some (.aload_n 0, 1) := by decide +kernel
theorem at105_82 : am_at 105 82 = some (.aload_n 3, 1) := by decide +kernel
theorem at105_83 : am_at 105 83 = some (.putfield 100022, 3) := by decide +kernel
theorem at105_86 : am_at 105 86 = some (.aload_n 0, 1) := by decide +kernel
theorem at105_87 : am_at 105 87 = some (.getfield 100032, 3) := by decide +kernel
theorem at105_90 : am_at 105 90 = some (.aload_n 0, 1) := by decide +kernel
theorem at105_91 : am_at 105 91 = some (.getfield 100012, 3) := by decide +kernel
theorem at105_94 : am_at 105 94 = some (.invokevirtual 18, 3) := by decide +kernel
theorem at105_97 : am_at 105 97 = some (.aload_n 0, 1) := by decide +kernel
theorem at105_98 : am_at 105 98 = some (.getfield 100052, 3) := by decide +kernel
theorem at105_101 : am_at 105 101 = some (.iconst 0, 1) := by decide +kernel
theorem at105_102 : am_at 105 102 = some (.putfield 20010, 3) := by decide +kernel
theorem at105_105 : am_at 105 105 = some (.aload_n 0, 1) := by decide +kernel
theorem at105_106 : am_at 105 106 = some (.getfield 100062, 3) := by decide +kernel
theorem at105_109 : am_at 105 109 = some (.iconst 0, 1) := by decide +kernel
theorem at105_110 : am_at 105 110 = some (.putfield 30, 3) := by decide +kernel
theorem at105_113 : am_at 105 113 = some (.aload_n 0, 1) := by decide +kernel
theorem at105_114 : am_at 105 114 = some (.getfield 100072, 3) := by decide +kernel
theorem at105_117 : am_at 105 117 = some (.iconst 0, 1) := by decide +kernel
theorem at105_118 : am_at 105 118 = some (.putfield 10040, 3) := by decide +kernel
theorem at105_121 : am_at 105 121 = some (.aload_n 0, 1) := by decide +kernel
theorem at105_122 : am_at 105 122 = some (.getfield 100082, 3) := by decide +kernel
theorem at105_125 : am_at 105 125 = some (.iconst 0, 1) := by decide +kernel
theorem at105_126 : am_at 105 126 = some (.putfield 50031, 3) := by decide +kernel
theorem at105_129 : am_at 105 129 = some (.aload_n 0, 1) := by decide +kernel
theorem at105_130 : am_at 105 130 = some (.iconst 0, 1) := by decide +kernel
theorem at105_131 : am_at 105 131 = some (.putfield 100161, 3) := by decide +kernel
theorem at105_134 : am_at 105 134 = some (.iconst 0, 1) := by decide +kernel
theorem at105_135 : am_at 105 135 = some (.ireturn, 1) := by decide +kernel
theorem at106_0 : am_at 106 0 = some (.aload_n 0, 1) := by decide +kernel
theorem at106_1 : am_at 106 1 = some (.getfield 100002, 3) := by decide +kernel
theorem at106_4 : am_at 106 4 = some (.getfield 60020, 3) := by decide +kernel
theorem at106_7 : am_at 106 7 = some (.ireturn, 1) := by decide +kernel
theorem at107_0 : am_at 107 0 = some (.iload_n 1, 1) := by decide +kernel
theorem at107_1 : am_at 107 1 = some (.tableswitch 178 0 12 #[67, 75, 83, 91, 99, 107, 122, 130, 138, 149, 156, 163, 170], 67) := by decide +kernel
theorem at107_68 : am_at 107 68 = some (.aload_n 0, 1) := by decide +kernel
theorem at107_69 : am_at 107 69 = some (.getfield 100012, 3) := by decide +kernel
theorem at107_72 : am_at 107 72 = some (.getfield 80000, 3) := by decide +kernel
theorem at107_75 : am_at 107 75 = some (.ireturn, 1) := by decide +kernel
theorem at107_76 : am_at 107 76 = some (.aload_n 0, 1) := by decide +kernel
theorem at107_77 : am_at 107 77 = some (.getfield 100012, 3) := by decide +kernel
theorem at107_80 : am_at 107 80 = some (.getfield 80010, 3) := by decide +kernel
theorem at107_83 : am_at 107 83 = some (.ireturn, 1) := by decide +kernel
theorem at107_84 : am_at 107 84 = some (.aload_n 0, 1) := by decide +kernel
theorem at107_85 : am_at 107 85 = some (.getfield 100012, 3) := by decide +kernel
theorem at107_88 : am_at 107 88 = some (.getfield 80020, 3) := by decide +kernel
theorem at107_91 : am_at 107 91 = some (.ireturn, 1) := by decide +kernel
theorem at107_92 : am_at 107 92 = some (.aload_n 0, 1) := by decide +kernel
theorem at107_93 : am_at 107 93 = some (.getfield 100012, 3) := by decide +kernel
theorem at107_96 : am_at 107 96 = some (.getfield 80030, 3) := by decide +kernel
theorem at107_99 : am_at 107 99 = some (.ireturn, 1) := by decide +kernel
theorem at107_100 : am_at 107 100 = some (.aload_n 0, 1) := by decide +kernel
theorem at107_101 : am_at 107 101 = some (.getfield 100032, 3) := by decide +kernel
theorem at107_104 : am_at 107 104 = some (.getfield 40000, 3) := by decide +kernel
theorem at107_107 : am_at 107 107 = some (.ireturn, 1) := by decide +kernel
theorem at107_108 : am_at 107 108 = some (.aload_n 0, 1) := by decide +kernel
theorem at107_109 : am_at 107 109 = some (.getfield 100012, 3) := by decide +kernel
theorem at107_112 : am_at 107 112 = some (.aload_n 0, 1) := by decide +kernel
theorem at107_113 : am_at 107 113 = some (.getfield 100032, 3) := by decide +kernel
theorem at107_116 : am_at 107 116 = some (.getfield 40000, 3) := by decide +kernel
theorem at107_119 : am_at 107 119 = some (.invokevirtual 86, 3) := by decide +kernel
theorem at107_122 : am_at 107 122 = some (.ireturn, 1) := by decide +kernel
theorem at107_123 : am_at 107 123 = some (.aload_n 0, 1) := by decide +kernel
theorem at107_124 : am_at 107 124 = some (.getfield 100052, 3) := by decide +kernel
theorem at107_127 : am_at 107 127 = some (.getfield 20010, 3) := by decide +kernel
theorem at107_130 : am_at 107 130 = some (.ireturn, 1) := by decide +kernel
theorem at107_131 : am_at 107 131 = some (.aload_n 0, 1) := by decide +kernel
theorem at107_132 : am_at 107 132 = some (.getfield 100062, 3) := by decide +kernel
theorem at107_135 : am_at 107 135 = some (.getfield 30, 3) := by decide +kernel
theorem at107_138 : am_at 107 138 = some (.ireturn, 1) := by decide +kernel
theorem at107_139 : am_at 107 139 = some (.aload_n 0, 1) := by decide +kernel
theorem at107_140 : am_at 107 140 = some (.getfield 100002, 3) := by decide +kernel
theorem at107_143 : am_at 107 143 = some (.getfield 60002, 3) := by decide +kernel
theorem at107_146 : am_at 107 146 = some (.getfield 90010, 3) := by decide +kernel
theorem at107_149 : am_at 107 149 = some (.ireturn, 1) := by decide +kernel
theorem at107_150 : am_at 107 150 = some (.aload_n 0, 1) := by decide +kernel
theorem at107_151 : am_at 107 151 = some (.getfield 100102, 3) := by decide +kernel
theorem at107_154 : am_at 107 154 = some (.iconst 0, 1) := by decide +kernel
theorem at107_155 : am_at 107 155 = some (.iaload, 1) := by decide +kernel
theorem at107_156 : am_at 107 156 = some (.ireturn, 1) := by decide +kernel
theorem at107_157 : am_at 107 157 = some (.aload_n 0, 1) := by decide +kernel
theorem at107_158 : am_at 107 158 = some (.getfield 100102, 3) := by decide +kernel
theorem at107_161 : am_at 107 161 = some (.iconst 1, 1) := by decide +kernel
theorem at107_162 : am_at 107 162 = some (.iaload, 1) := by decide +kernel
theorem at107_163 : am_at 107 163 = some (.ireturn, 1) := by decide +kernel
theorem at107_164 : am_at 107 164 = some (.aload_n 0, 1) := by decide +kernel
theorem at107_165 : am_at 107 165 = some (.getfield 100102, 3) := by decide +kernel
theorem at107_168 : am_at 107 168 = some (.iconst 2, 1) := by decide +kernel
theorem at107_169 : am_at 107 169 = some (.iaload, 1) := by decide +kernel
theorem at107_170 : am_at 107 170 = some (.ireturn, 1) := by decide +kernel
theorem at107_171 : am_at 107 171 = some (.aload_n 0, 1) := by decide +kernel
theorem at107_172 : am_at 107 172 = some (.getfield 100032, 3) := by decide +kernel
theorem at107_175 : am_at 107 175 = some (.invokevirtual 31, 3) := by decide +kernel
theorem at107_178 : am_at 107 178 = some (.ireturn, 1) := by decide +kernel
theorem at107_179 : am_at 107 179 = some (.new 101, 3) := by decide +kernel
theorem at108_0 : am_at 108 0 = some (.aload_n 0, 1) := by decide +kernel
theorem at108_1 : am_at 108 1 = some (.iload_n 1, 1) := by decide +kernel
theorem at108_2 : am_at 108 2 = some (.invokevirtual 142, 3) := by decide +kernel
theorem at108_5 : am_at 108 5 = some (.iload_n 2, 1) := by decide +kernel
theorem at108_6 : am_at 108 6 = some (.tableswitch 69 0 3 #[30, 40, 50, 60], 30) := by decide +kernel
theorem at108_36 : am_at 108 36 = some (.aload_n 0, 1) := by decide +kernel
theorem at108_37 : am_at 108 37 = some (.getfield 100032, 3) := by decide +kernel
theorem at108_40 : am_at 108 40 = some (.getfield 40012, 3) := by decide +kernel
theorem at108_43 : am_at 108 43 = some (.iload_n 1, 1) := by decide +kernel
theorem at108_44 : am_at 108 44 = some (.iaload, 1) := by decide +kernel
theorem at108_45 : am_at 108 45 = some (.ireturn, 1) := by decide +kernel
theorem at108_46 : am_at 108 46 = some (.aload_n 0, 1) := by decide +kernel
theorem at108_47 : am_at 108 47 = some (.getfield 100032, 3) := by decide +kernel
theorem at108_50 : am_at 108 50 = some (.getfield 40022, 3) := by decide +kernel
theorem at108_53 : am_at 108 53 = some (.iload_n 1, 1) := by decide +kernel
theorem at108_54 : am_at 108 54 = some (.iaload, 1) := by decide +kernel
theorem at108_55 : am_at 108 55 = some (.ireturn, 1) := by decide +kernel
theorem at108_56 : am_at 108 56 = some (.aload_n 0, 1) := by decide +kernel
theorem at108_57 : am_at 108 57 = some (.getfield 100032, 3) := by decide +kernel
theorem at108_60 : am_at 108 60 = some (.getfield 40032, 3) := by decide +kernel
theorem at108_63 : am_at 108 63 = some (.iload_n 1, 1) := by decide +kernel
theorem at108_64 : am_at 108 64 = some (.iaload, 1) := by decide +kernel
theorem at108_65 : am_at 108 65 = some (.ireturn, 1) := by decide +kernel
theorem at108_66 : am_at 108 66 = some (.aload_n 0, 1) := by decide +kernel
theorem at108_67 : am_at 108 67 = some (.getfield 100032, 3) := by decide +kernel
theorem at108_70 : am_at 108 70 = some (.iload_n 1, 1) := by decide +kernel
theorem at108_71 : am_at 108 71 = some (.invokevirtual 28, 3) := by decide +kernel
theorem at108_74 : am_at 108 74 = some (.ireturn, 1) := by decide +kernel
theorem at108_75 : am_at 108 75 = some (.new 101, 3) := by decide +kernel
theorem at109_0 : am_at 109 0 = some (.aload_n 0, 1) := by decide +kernel
theorem at109_1 : am_at 109 1 = some (.iload_n 1, 1) := by decide +kernel
theorem at109_2 : am_at 109 2 = some (.invokevirtual 143, 3) := by decide +kernel
theorem at109_5 : am_at 109 5 = some (.iload_n 2, 1) := by decide +kernel
theorem at109_6 : am_at 109 6 = some (.tableswitch 111 0 6 #[42, 52, 62, 72, 81, 91, 101], 42) := by decide +kernel
theorem at109_48 : am_at 109 48 = some (.aload_n 0, 1) := by decide +kernel
theorem at109_49 : am_at 109 49 = some (.getfield 100012, 3) := by decide +kernel
theorem at109_52 : am_at 109 52 = some (.getfield 80072, 3) := by decide +kernel
theorem at109_55 : am_at 109 55 = some (.iload_n 1, 1) := by decide +kernel
theorem at109_56 : am_at 109 56 = some (.iaload, 1) := by decide +kernel
theorem at109_57 : am_at 109 57 = some (.ireturn, 1) := by decide +kernel
theorem at109_58 : am_at 109 58 = some (.aload_n 0, 1) := by decide +kernel
theorem at109_59 : am_at 109 59 = some (.getfield 100012, 3) := by decide +kernel
theorem at109_62 : am_at 109 62 = some (.getfield 80082, 3) := by decide +kernel
theorem at109_65 : am_at 109 65 = some (.iload_n 1, 1) := by decide +kernel
theorem at109_66 : am_at 109 66 = some (.iaload, 1) := by decide +kernel
theorem at109_67 : am_at 109 67 = some (.ireturn, 1) := by decide +kernel
theorem at109_68 : am_at 109 68 = some (.aload_n 0, 1) := by decide +kernel
theorem at109_69 : am_at 109 69 = some (.getfield 100012, 3) := by decide +kernel
theorem at109_72 : am_at 109 72 = some (.getfield 80092, 3) := by decide +kernel
theorem at109_75 : am_at 109 75 = some (.iload_n 1, 1) := by decide +kernel
theorem at109_76 : am_at 109 76 = some (.iaload, 1) := by decide +kernel
theorem at109_77 : am_at 109 77 = some (.ireturn, 1) := by decide +kernel
theorem at109_78 : am_at 109 78 = some (.aload_n 0, 1) := by decide +kernel
theorem at109_79 : am_at 109 79 = some (.getfield 100032, 3) := by decide +kernel
theorem at109_82 : am_at 109 82 = some (.iload_n 1, 1) := by decide +kernel
theorem at109_83 : am_at 109 83 = some (.invokevirtual 30, 3) := by decide +kernel
theorem at109_86 : am_at 109 86 = some (.ireturn, 1) := by decide +kernel
theorem at109_87 : am_at 109 87 = some (.aload_n 0, 1) := by decide +kernel
theorem at109_88 : am_at 109 88 = some (.getfield 100012, 3) := by decide +kernel
theorem at109_91 : am_at 109 91 = some (.getfield 80102, 3) := by decide +kernel
theorem at109_94 : am_at 109 94 = some (.iload_n 1, 1) := by decide +kernel
theorem at109_95 : am_at 109 95 = some (.iaload, 1) := by decide +kernel
theorem at109_96 : am_at 109 96 = some (.ireturn, 1) := by decide +kernel
theorem at109_97 : am_at 109 97 = some (.aload_n 0, 1) := by decide +kernel
theorem at109_98 : am_at 109 98 = some (.getfield 100012, 3) := by decide +kernel
theorem at109_101 : am_at 109 101 = some (.getfield 80112, 3) := by decide +kernel
theorem at109_104 : am_at 109 104 = some (.iload_n 1, 1) := by decide +kernel
theorem at109_105 : am_at 109 105 = some (.iaload, 1) := by decide +kernel
theorem at109_106 : am_at 109 106 = some (.ireturn, 1) := by decide +kernel
theorem at109_107 : am_at 109 107 = some (.aload_n 0, 1) := by decide +kernel
theorem at109_108 : am_at 109 108 = some (.getfield 100012, 3) := by decide +kernel
theorem at109_111 : am_at 109 111 = some (.getfield 80122, 3) := by decide +kernel
theorem at109_114 : am_at 109 114 = some (.iload_n 1, 1) := by decide +kernel
theorem at109_115 : am_at 109 115 = some (.iaload, 1) := by decide +kernel
theorem at109_116 : am_at 109 116 = some (.ireturn, 1) := by decide +kernel
theorem at109_117 : am_at 109 117 = some (.new 101, 3) := by decide +kernel
theorem at110_0 : am_at 110 0 = some (.aload_n 0, 1) := by decide +kernel
theorem at110_1 : am_at 110 1 = some (.iload_n 1, 1) := by decide +kernel
theorem at110_2 : am_at 110 2 = some (.invokevirtual 142, 3) := by decide +kernel
theorem at110_5 : am_at 110 5 = some (.aload_n 0, 1) := by decide +kernel
theorem at110_6 : am_at 110 6 = some (.iload_n 2, 1) := by decide +kernel
theorem at110_7 : am_at 110 7 = some (.invokevirtual 143, 3) := by decide +kernel
theorem at110_10 : am_at 110 10 = some (.aload_n 0, 1) := by decide +kernel
theorem at110_11 : am_at 110 11 = some (.getfield 100032, 3) := by decide +kernel
theorem at110_14 : am_at 110 14 = some (.iload_n 1, 1) := by decide +kernel
theorem at110_15 : am_at 110 15 = some (.iload_n 2, 1) := by decide +kernel
theorem at110_16 : am_at 110 16 = some (.invokevirtual 23, 3) := by decide +kernel
theorem at110_19 : am_at 110 19 = some (.ireturn, 1) := by decide +kernel
theorem at111_0 : am_at 111 0 = some (.aload_n 0, 1) := by decide +kernel
theorem at111_1 : am_at 111 1 = some (.iload_n 1, 1) := by decide +kernel
theorem at111_2 : am_at 111 2 = some (.invokevirtual 142, 3) := by decide +kernel
theorem at111_5 : am_at 111 5 = some (.iload_n 2, 1) := by decide +kernel
theorem at111_6 : am_at 111 6 = some (.ifCond .lt 9, 3) := by decide +kernel
theorem at111_9 : am_at 111 9 = some (.iload_n 2, 1) := by decide +kernel
theorem at111_10 : am_at 111 10 = some (.bipush 20, 2) := by decide +kernel
theorem at111_12 : am_at 111 12 = some (.if_icmp .le 15, 3) := by decide +kernel
theorem at111_15 : am_at 111 15 = some (.aload_n 0, 1) := by decide +kernel
theorem at111_16 : am_at 111 16 = some (.getfield 100102, 3) := by decide +kernel
theorem at111_19 : am_at 111 19 = some (.iconst 1, 1) := by decide +kernel
theorem at111_20 : am_at 111 20 = some (.dup2, 1) := by decide +kernel
theorem at111_21 : am_at 111 21 = some (.iaload, 1) := by decide +kernel
theorem at111_22 : am_at 111 22 = some (.iconst 1, 1) := by decide +kernel
theorem at111_23 : am_at 111 23 = some (.iadd, 1) := by decide +kernel
theorem at111_24 : am_at 111 24 = some (.iastore, 1) := by decide +kernel
theorem at111_25 : am_at 111 25 = some (.iconst (-1), 1) := by decide +kernel
theorem at111_26 : am_at 111 26 = some (.ireturn, 1) := by decide +kernel
theorem at111_27 : am_at 111 27 = some (.aload_n 0, 1) := by decide +kernel
theorem at111_28 : am_at 111 28 = some (.getfield 100052, 3) := by decide +kernel
theorem at111_31 : am_at 111 31 = some (.aload_n 0, 1) := by decide +kernel
theorem at111_32 : am_at 111 32 = some (.getfield 100032, 3) := by decide +kernel
theorem at111_35 : am_at 111 35 = some (.invokevirtual 8, 3) := by decide +kernel
theorem at111_38 : am_at 111 38 = some (.aload_n 0, 1) := by decide +kernel
theorem at111_39 : am_at 111 39 = some (.getfield 100032, 3) := by decide +kernel
theorem at111_42 : am_at 111 42 = some (.getfield 40032, 3) := by decide +kernel
theorem at111_45 : am_at 111 45 = some (.iload_n 1, 1) := by decide +kernel
theorem at111_46 : am_at 111 46 = some (.iaload, 1) := by decide +kernel
theorem at111_47 : am_at 111 47 = some (.istore_n 3, 1) := by decide +kernel
theorem at111_48 : am_at 111 48 = some (.aload_n 0, 1) := by decide +kernel
theorem at111_49 : am_at 111 49 = some (.getfield 100032, 3) := by decide +kernel
theorem at111_52 : am_at 111 52 = some (.getfield 40032, 3) := by decide +kernel
theorem at111_55 : am_at 111 55 = some (.iload_n 1, 1) := by decide +kernel
theorem at111_56 : am_at 111 56 = some (.iload_n 2, 1) := by decide +kernel
theorem at111_57 : am_at 111 57 = some (.iastore, 1) := by decide +kernel
theorem at111_58 : am_at 111 58 = some (.iload_n 3, 1) := by decide +kernel
theorem at111_59 : am_at 111 59 = some (.ireturn, 1) := by decide +kernel
theorem at112_0 : am_at 112 0 = some (.aload_n 0, 1) := by decide +kernel
theorem at112_1 : am_at 112 1 = some (.iload_n 1, 1) := by decide +kernel
theorem at112_2 : am_at 112 2 = some (.invokevirtual 142, 3) := by decide +kernel
theorem at112_5 : am_at 112 5 = some (.iload_n 2, 1) := by decide +kernel
theorem at112_6 : am_at 112 6 = some (.ifCond .lt 8, 3) := by decide +kernel
theorem at112_9 : am_at 112 9 = some (.iload_n 2, 1) := by decide +kernel
theorem at112_10 : am_at 112 10 = some (.iconst 4, 1) := by decide +kernel
theorem at112_11 : am_at 112 11 = some (.if_icmp .lt 15, 3) := by decide +kernel
theorem at112_14 : am_at 112 14 = some (.aload_n 0, 1) := by decide +kernel
theorem at112_15 : am_at 112 15 = some (.getfield 100102, 3) := by decide +kernel
theorem at112_18 : am_at 112 18 = some (.iconst 1, 1) := by decide +kernel
theorem at112_19 : am_at 112 19 = some (.dup2, 1) := by decide +kernel
theorem at112_20 : am_at 112 20 = some (.iaload, 1) := by decide +kernel
theorem at112_21 : am_at 112 21 = some (.iconst 1, 1) := by decide +kernel
theorem at112_22 : am_at 112 22 = some (.iadd, 1) := by decide +kernel
theorem at112_23 : am_at 112 23 = some (.iastore, 1) := by decide +kernel
theorem at112_24 : am_at 112 24 = some (.iconst (-1), 1) := by decide +kernel
theorem at112_25 : am_at 112 25 = some (.ireturn, 1) := by decide +kernel
theorem at112_26 : am_at 112 26 = some (.aload_n 0, 1) := by decide +kernel
theorem at112_27 : am_at 112 27 = some (.getfield 100052, 3) := by decide +kernel
theorem at112_30 : am_at 112 30 = some (.aload_n 0, 1) := by decide +kernel
theorem at112_31 : am_at 112 31 = some (.getfield 100032, 3) := by decide +kernel
theorem at112_34 : am_at 112 34 = some (.invokevirtual 8, 3) := by decide +kernel
theorem at112_37 : am_at 112 37 = some (.aload_n 0, 1) := by decide +kernel
theorem at112_38 : am_at 112 38 = some (.getfield 100032, 3) := by decide +kernel
theorem at112_41 : am_at 112 41 = some (.getfield 40022, 3) := by decide +kernel
theorem at112_44 : am_at 112 44 = some (.iload_n 1, 1) := by decide +kernel
theorem at112_45 : am_at 112 45 = some (.iaload, 1) := by decide +kernel
theorem at112_46 : am_at 112 46 = some (.istore_n 3, 1) := by decide +kernel
theorem at112_47 : am_at 112 47 = some (.aload_n 0, 1) := by decide +kernel
theorem at112_48 : am_at 112 48 = some (.getfield 100032, 3) := by decide +kernel
theorem at112_51 : am_at 112 51 = some (.getfield 40022, 3) := by decide +kernel
theorem at112_54 : am_at 112 54 = some (.iload_n 1, 1) := by decide +kernel
theorem at112_55 : am_at 112 55 = some (.iload_n 2, 1) := by decide +kernel
theorem at112_56 : am_at 112 56 = some (.iastore, 1) := by decide +kernel
theorem at112_57 : am_at 112 57 = some (.iload_n 3, 1) := by decide +kernel
theorem at112_58 : am_at 112 58 = some (.ireturn, 1) := by decide +kernel
theorem at113_0 : am_at 113 0 = some (.aload_n 0, 1) := by decide +kernel
theorem at113_1 : am_at 113 1 = some (.iload_n 1, 1) := by decide +kernel
theorem at113_2 : am_at 113 2 = some (.invokevirtual 143, 3) := by decide +kernel
theorem at113_5 : am_at 113 5 = some (.aload_n 0, 1) := by decide +kernel
theorem at113_6 : am_at 113 6 = some (.iload_n 2, 1) := by decide +kernel
theorem at113_7 : am_at 113 7 = some (.invokevirtual 142, 3) := by decide +kernel
theorem at113_10 : am_at 113 10 = some (.aload_n 0, 1) := by decide +kernel
theorem at113_11 : am_at 113 11 = some (.iload_n 3, 1) := by decide +kernel
theorem at113_12 : am_at 113 12 = some (.invokevirtual 142, 3) := by decide +kernel
theorem at113_15 : am_at 113 15 = some (.aload_n 0, 1) := by decide +kernel
theorem at113_16 : am_at 113 16 = some (.getfield 100032, 3) := by decide +kernel
theorem at113_19 : am_at 113 19 = some (.iload_n 2, 1) := by decide +kernel
theorem at113_20 : am_at 113 20 = some (.iload_n 1, 1) := by decide +kernel
theorem at113_21 : am_at 113 21 = some (.invokevirtual 27, 3) := by decide +kernel
theorem at113_24 : am_at 113 24 = some (.ifCond .eq 15, 3) := by decide +kernel
theorem at113_27 : am_at 113 27 = some (.aload_n 0, 1) := by decide +kernel
theorem at113_28 : am_at 113 28 = some (.getfield 100032, 3) := by decide +kernel
theorem at113_31 : am_at 113 31 = some (.iload_n 3, 1) := by decide +kernel
theorem at113_32 : am_at 113 32 = some (.iload_n 1, 1) := by decide +kernel
theorem at113_33 : am_at 113 33 = some (.invokevirtual 27, 3) := by decide +kernel
theorem at113_36 : am_at 113 36 = some (.ifCond .eq 15, 3) := by decide +kernel
theorem at113_39 : am_at 113 39 = some (.aload_n 0, 1) := by decide +kernel
theorem at113_40 : am_at 113 40 = some (.getfield 100102, 3) := by decide +kernel
theorem at113_43 : am_at 113 43 = some (.iconst 1, 1) := by decide +kernel
theorem at113_44 : am_at 113 44 = some (.dup2, 1) := by decide +kernel
theorem at113_45 : am_at 113 45 = some (.iaload, 1) := by decide +kernel
theorem at113_46 : am_at 113 46 = some (.iconst 1, 1) := by decide +kernel
theorem at113_47 : am_at 113 47 = some (.iadd, 1) := by decide +kernel
theorem at113_48 : am_at 113 48 = some (.iastore, 1) := by decide +kernel
theorem at113_49 : am_at 113 49 = some (.iconst 0, 1) := by decide +kernel
theorem at113_50 : am_at 113 50 = some (.ireturn, 1) := by decide +kernel
theorem at113_51 : am_at 113 51 = some (.aload_n 0, 1) := by decide +kernel
theorem at113_52 : am_at 113 52 = some (.getfield 100052, 3) := by decide +kernel
theorem at113_55 : am_at 113 55 = some (.aload_n 0, 1) := by decide +kernel
theorem at113_56 : am_at 113 56 = some (.getfield 100032, 3) := by decide +kernel
theorem at113_59 : am_at 113 59 = some (.invokevirtual 8, 3) := by decide +kernel
theorem at113_62 : am_at 113 62 = some (.aload_n 0, 1) := by decide +kernel
theorem at113_63 : am_at 113 63 = some (.getfield 100032, 3) := by decide +kernel
theorem at113_66 : am_at 113 66 = some (.iload_n 3, 1) := by decide +kernel
theorem at113_67 : am_at 113 67 = some (.iload_n 1, 1) := by decide +kernel
theorem at113_68 : am_at 113 68 = some (.invokevirtual 33, 3) := by decide +kernel
theorem at113_71 : am_at 113 71 = some (.iconst 1, 1) := by decide +kernel
theorem at113_72 : am_at 113 72 = some (.ireturn, 1) := by decide +kernel
theorem at114_0 : am_at 114 0 = some (.iload_n 1, 1) := by decide +kernel
theorem at114_1 : am_at 114 1 = some (.iconst 1, 1) := by decide +kernel
theorem at114_2 : am_at 114 2 = some (.if_icmp .lt 9, 3) := by decide +kernel
theorem at114_5 : am_at 114 5 = some (.iload_n 1, 1) := by decide +kernel
theorem at114_6 : am_at 114 6 = some (.bipush 100, 2) := by decide +kernel
theorem at114_8 : am_at 114 8 = some (.if_icmp .le 15, 3) := by decide +kernel
theorem at114_11 : am_at 114 11 = some (.aload_n 0, 1) := by decide +kernel
theorem at114_12 : am_at 114 12 = some (.getfield 100102, 3) := by decide +kernel
theorem at114_15 : am_at 114 15 = some (.iconst 1, 1) := by decide +kernel
theorem at114_16 : am_at 114 16 = some (.dup2, 1) := by decide +kernel
theorem at114_17 : am_at 114 17 = some (.iaload, 1) := by decide +kernel
theorem at114_18 : am_at 114 18 = some (.iconst 1, 1) := by decide +kernel
theorem at114_19 : am_at 114 19 = some (.iadd, 1) := by decide +kernel
theorem at114_20 : am_at 114 20 = some (.iastore, 1) := by decide +kernel
theorem at114_21 : am_at 114 21 = some (.iconst (-1), 1) := by decide +kernel
theorem at114_22 : am_at 114 22 = some (.ireturn, 1) := by decide +kernel
theorem at114_23 : am_at 114 23 = some (.aload_n 0, 1) := by decide +kernel
theorem at114_24 : am_at 114 24 = some (.getfield 100052, 3) := by decide +kernel
theorem at114_27 : am_at 114 27 = some (.aload_n 0, 1) := by decide +kernel
theorem at114_28 : am_at 114 28 = some (.getfield 100032, 3) := by decide +kernel
theorem at114_31 : am_at 114 31 = some (.invokevirtual 8, 3) := by decide +kernel
theorem at114_34 : am_at 114 34 = some (.iconst 0, 1) := by decide +kernel
theorem at114_35 : am_at 114 35 = some (.istore_n 2, 1) := by decide +kernel
theorem at114_36 : am_at 114 36 = some (.iconst 0, 1) := by decide +kernel
theorem at114_37 : am_at 114 37 = some (.istore_n 3, 1) := by decide +kernel
theorem at114_38 : am_at 114 38 = some (.iload_n 3, 1) := by decide +kernel
theorem at114_39 : am_at 114 39 = some (.iload_n 1, 1) := by decide +kernel
theorem at114_40 : am_at 114 40 = some (.if_icmp .ge 24, 3) := by decide +kernel
theorem at114_43 : am_at 114 43 = some (.iload_n 2, 1) := by decide +kernel
theorem at114_44 : am_at 114 44 = some (.aload_n 0, 1) := by decide +kernel
theorem at114_45 : am_at 114 45 = some (.getfield 100032, 3) := by decide +kernel
theorem at114_48 : am_at 114 48 = some (.aload_n 0, 1) := by decide +kernel
theorem at114_49 : am_at 114 49 = some (.getfield 100012, 3) := by decide +kernel
theorem at114_52 : am_at 114 52 = some (.iconst (-1), 1) := by decide +kernel
theorem at114_53 : am_at 114 53 = some (.invokevirtual 35, 3) := by decide +kernel
theorem at114_56 : am_at 114 56 = some (.iadd, 1) := by decide +kernel
theorem at114_57 : am_at 114 57 = some (.istore_n 2, 1) := by decide +kernel
theorem at114_58 : am_at 114 58 = some (.iinc 3 1, 3) := by decide +kernel
theorem at114_61 : am_at 114 61 = some (.goto (-23), 3) := by decide +kernel
theorem at114_64 : am_at 114 64 = some (.iload_n 2, 1) := by decide +kernel
theorem at114_65 : am_at 114 65 = some (.ireturn, 1) := by decide +kernel
theorem at115_0 : am_at 115 0 = some (.aload_n 0, 1) := by decide +kernel
theorem at115_1 : am_at 115 1 = some (.getfield 100052, 3) := by decide +kernel
theorem at115_4 : am_at 115 4 = some (.getfield 20010, 3) := by decide +kernel
theorem at115_7 : am_at 115 7 = some (.ifCond .ne 5, 3) := by decide +kernel
theorem at115_10 : am_at 115 10 = some (.iconst (-1), 1) := by decide +kernel
theorem at115_11 : am_at 115 11 = some (.ireturn, 1) := by decide +kernel
theorem at115_12 : am_at 115 12 = some (.aload_n 0, 1) := by decide +kernel
theorem at115_13 : am_at 115 13 = some (.getfield 100052, 3) := by decide +kernel
theorem at115_16 : am_at 115 16 = some (.aload_n 0, 1) := by decide +kernel
theorem at115_17 : am_at 115 17 = some (.getfield 100032, 3) := by decide +kernel
theorem at115_20 : am_at 115 20 = some (.invokevirtual 9, 3) := by decide +kernel
theorem at115_23 : am_at 115 23 = some (.aload_n 0, 1) := by decide +kernel
theorem at115_24 : am_at 115 24 = some (.getfield 100052, 3) := by decide +kernel
theorem at115_27 : am_at 115 27 = some (.getfield 20010, 3) := by decide +kernel
theorem at115_30 : am_at 115 30 = some (.ireturn, 1) := by decide +kernel
theorem at116_0 : am_at 116 0 = some (.aload_n 0, 1) := by decide +kernel
theorem at116_1 : am_at 116 1 = some (.iload_n 1, 1) := by decide +kernel
theorem at116_2 : am_at 116 2 = some (.invokevirtual 143, 3) := by decide +kernel
theorem at116_5 : am_at 116 5 = some (.iload_n 2, 1) := by decide +kernel
theorem at116_6 : am_at 116 6 = some (.iconst 0, 1) := by decide +kernel
theorem at116_7 : am_at 116 7 = some (.bipush 100, 2) := by decide +kernel
theorem at116_9 : am_at 116 9 = some (.invokestatic 144, 3) := by decide +kernel
theorem at116_12 : am_at 116 12 = some (.aload_n 0, 1) := by decide +kernel
theorem at116_13 : am_at 116 13 = some (.iload_n 2, 1) := by decide +kernel
theorem at116_14 : am_at 116 14 = some (.iconst (-1), 1) := by decide +kernel
theorem at116_15 : am_at 116 15 = some (.invokevirtual 146, 3) := by decide +kernel
theorem at116_18 : am_at 116 18 = some (.aload_n 0, 1) := by decide +kernel
theorem at116_19 : am_at 116 19 = some (.getfield 100042, 3) := by decide +kernel
theorem at116_22 : am_at 116 22 = some (.iload_n 1, 1) := by decide +kernel
theorem at116_23 : am_at 116 23 = some (.invokevirtual 30, 3) := by decide +kernel
theorem at116_26 : am_at 116 26 = some (.ireturn, 1) := by decide +kernel
theorem at117_0 : am_at 117 0 = some (.iload_n 2, 1) := by decide +kernel
theorem at117_1 : am_at 117 1 = some (.ifCond .eq 18, 3) := by decide +kernel
theorem at117_4 : am_at 117 4 = some (.iload_n 2, 1) := by decide +kernel
theorem at117_5 : am_at 117 5 = some (.iconst 1, 1) := by decide +kernel
theorem at117_6 : am_at 117 6 = some (.if_icmp .eq 13, 3) := by decide +kernel
theorem at117_9 : am_at 117 9 = some (.new 101, 3) := by decide +kernel
theorem at117_19 : am_at 117 19 = some (.iload_n 1, 1) := by decide +kernel
theorem at117_20 : am_at 117 20 = some (.iconst 0, 1) := by decide +kernel
theorem at117_21 : am_at 117 21 = some (.bipush 100, 2) := by decide +kernel
theorem at117_23 : am_at 117 23 = some (.invokestatic 144, 3) := by decide +kernel
theorem at117_26 : am_at 117 26 = some (.aload_n 0, 1) := by decide +kernel
theorem at117_27 : am_at 117 27 = some (.getfield 100042, 3) := by decide +kernel
theorem at117_30 : am_at 117 30 = some (.aload_n 0, 1) := by decide +kernel
theorem at117_31 : am_at 117 31 = some (.getfield 100032, 3) := by decide +kernel
theorem at117_34 : am_at 117 34 = some (.invokevirtual 19, 3) := by decide +kernel
theorem at117_37 : am_at 117 37 = some (.aload_n 0, 1) := by decide +kernel
theorem at117_38 : am_at 117 38 = some (.getfield 100042, 3) := by decide +kernel
theorem at117_41 : am_at 117 41 = some (.invokevirtual 29, 3) := by decide +kernel
theorem at117_44 : am_at 117 44 = some (.istore_n 3, 1) := by decide +kernel
theorem at117_45 : am_at 117 45 = some (.iconst 1, 1) := by decide +kernel
theorem at117_46 : am_at 117 46 = some (.istore 4, 2) := by decide +kernel
theorem at117_48 : am_at 117 48 = some (.iload 4, 2) := by decide +kernel
theorem at117_50 : am_at 117 50 = some (.iload_n 1, 1) := by decide +kernel
theorem at117_51 : am_at 117 51 = some (.if_icmp .gt 63, 3) := by decide +kernel
theorem at117_54 : am_at 117 54 = some (.aload_n 0, 1) := by decide +kernel
theorem at117_55 : am_at 117 55 = some (.getfield 100042, 3) := by decide +kernel
theorem at117_58 : am_at 117 58 = some (.aload_n 0, 1) := by decide +kernel
theorem at117_59 : am_at 117 59 = some (.getfield 100012, 3) := by decide +kernel
theorem at117_62 : am_at 117 62 = some (.iconst (-1), 1) := by decide +kernel
theorem at117_63 : am_at 117 63 = some (.invokevirtual 35, 3) := by decide +kernel
theorem at117_66 : am_at 117 66 = some (.pop, 1) := by decide +kernel
theorem at117_67 : am_at 117 67 = some (.iload_n 3, 1) := by decide +kernel
theorem at117_68 : am_at 117 68 = some (.aload_n 0, 1) := by decide +kernel
theorem at117_69 : am_at 117 69 = some (.getfield 100042, 3) := by decide +kernel
theorem at117_72 : am_at 117 72 = some (.invokevirtual 29, 3) := by decide +kernel
theorem at117_75 : am_at 117 75 = some (.iconst (-1), 1) := by decide +kernel
theorem at117_76 : am_at 117 76 = some (.ixor, 1) := by decide +kernel
theorem at117_77 : am_at 117 77 = some (.iand, 1) := by decide +kernel
theorem at117_78 : am_at 117 78 = some (.istore 5, 2) := by decide +kernel
theorem at117_80 : am_at 117 80 = some (.iload 5, 2) := by decide +kernel
theorem at117_82 : am_at 117 82 = some (.ifCond .eq 18, 3) := by decide +kernel
theorem at117_85 : am_at 117 85 = some (.iload_n 2, 1) := by decide +kernel
theorem at117_86 : am_at 117 86 = some (.ifCond .ne 8, 3) := by decide +kernel
theorem at117_89 : am_at 117 89 = some (.iload 4, 2) := by decide +kernel
theorem at117_91 : am_at 117 91 = some (.goto 8, 3) := by decide +kernel
theorem at117_94 : am_at 117 94 = some (.iload 5, 2) := by decide +kernel
theorem at117_96 : am_at 117 96 = some (.invokestatic 267, 3) := by decide +kernel
theorem at117_99 : am_at 117 99 = some (.ireturn, 1) := by decide +kernel
theorem at117_100 : am_at 117 100 = some (.aload_n 0, 1) := by decide +kernel
theorem at117_101 : am_at 117 101 = some (.getfield 100042, 3) := by decide +kernel
theorem at117_104 : am_at 117 104 = some (.invokevirtual 29, 3) := by decide +kernel
theorem at117_107 : am_at 117 107 = some (.istore_n 3, 1) := by decide +kernel
theorem at117_108 : am_at 117 108 = some (.iinc 4 1, 3) := by decide +kernel
theorem at117_111 : am_at 117 111 = some (.goto (-63), 3) := by decide +kernel
theorem at117_114 : am_at 117 114 = some (.iconst (-1), 1) := by decide +kernel
theorem at117_115 : am_at 117 115 = some (.ireturn, 1) := by decide +kernel
theorem at118_0 : am_at 118 0 = some (.aload_n 0, 1) := by decide +kernel
theorem at118_1 : am_at 118 1 = some (.iload_n 1, 1) := by decide +kernel
theorem at118_2 : am_at 118 2 = some (.invokevirtual 142, 3) := by decide +kernel
theorem at118_5 : am_at 118 5 = some (.aload_n 0, 1) := by decide +kernel
theorem at118_6 : am_at 118 6 = some (.iload_n 2, 1) := by decide +kernel
theorem at118_7 : am_at 118 7 = some (.invokevirtual 143, 3) := by decide +kernel
theorem at118_10 : am_at 118 10 = some (.iload_n 3, 1) := by decide +kernel
theorem at118_11 : am_at 118 11 = some (.iconst 1, 1) := by decide +kernel
theorem at118_12 : am_at 118 12 = some (.bipush 100, 2) := by decide +kernel
theorem at118_14 : am_at 118 14 = some (.invokestatic 144, 3) := by decide +kernel
theorem at118_17 : am_at 118 17 = some (.aload_n 0, 1) := by decide +kernel
theorem at118_18 : am_at 118 18 = some (.getfield 100032, 3) := by decide +kernel
theorem at118_21 : am_at 118 21 = some (.iload_n 1, 1) := by decide +kernel
theorem at118_22 : am_at 118 22 = some (.iload_n 2, 1) := by decide +kernel
theorem at118_23 : am_at 118 23 = some (.invokevirtual 27, 3) := by decide +kernel
theorem at118_26 : am_at 118 26 = some (.ifCond .ne 5, 3) := by decide +kernel
theorem at118_29 : am_at 118 29 = some (.iconst (-1), 1) := by decide +kernel
theorem at118_30 : am_at 118 30 = some (.ireturn, 1) := by decide +kernel
theorem at118_31 : am_at 118 31 = some (.iconst 0, 1) := by decide +kernel
theorem at118_32 : am_at 118 32 = some (.istore 4, 2) := by decide +kernel
theorem at118_34 : am_at 118 34 = some (.iload 4, 2) := by decide +kernel
theorem at118_36 : am_at 118 36 = some (.bipush 20, 2) := by decide +kernel
theorem at118_38 : am_at 118 38 = some (.if_icmp .gt 27, 3) := by decide +kernel
theorem at118_41 : am_at 118 41 = some (.aload_n 0, 1) := by decide +kernel
theorem at118_42 : am_at 118 42 = some (.iload_n 1, 1) := by decide +kernel
theorem at118_43 : am_at 118 43 = some (.iload 4, 2) := by decide +kernel
theorem at118_45 : am_at 118 45 = some (.iload_n 3, 1) := by decide +kernel
theorem at118_46 : am_at 118 46 = some (.invokevirtual 147, 3) := by decide +kernel
theorem at118_49 : am_at 118 49 = some (.iload_n 2, 1) := by decide +kernel
theorem at118_50 : am_at 118 50 = some (.invokestatic 145, 3) := by decide +kernel
theorem at118_53 : am_at 118 53 = some (.ifCond .eq 6, 3) := by decide +kernel
theorem at118_56 : am_at 118 56 = some (.iload 4, 2) := by decide +kernel
theorem at118_58 : am_at 118 58 = some (.ireturn, 1) := by decide +kernel
theorem at118_59 : am_at 118 59 = some (.iinc 4 1, 3) := by decide +kernel
theorem at118_62 : am_at 118 62 = some (.goto (-28), 3) := by decide +kernel
theorem at118_65 : am_at 118 65 = some (.iconst (-1), 1) := by decide +kernel
theorem at118_66 : am_at 118 66 = some (.ireturn, 1) := by decide +kernel
theorem at119_0 : am_at 119 0 = some (.aload_n 0, 1) := by decide +kernel
theorem at119_1 : am_at 119 1 = some (.iload_n 1, 1) := by decide +kernel
theorem at119_2 : am_at 119 2 = some (.invokevirtual 142, 3) := by decide +kernel
theorem at119_5 : am_at 119 5 = some (.iload_n 2, 1) := by decide +kernel
theorem at119_6 : am_at 119 6 = some (.aload_n 0, 1) := by decide +kernel
theorem at119_7 : am_at 119 7 = some (.getfield 100032, 3) := by decide +kernel
theorem at119_10 : am_at 119 10 = some (.iload_n 1, 1) := by decide +kernel
theorem at119_11 : am_at 119 11 = some (.invokevirtual 28, 3) := by decide +kernel
theorem at119_14 : am_at 119 14 = some (.iconst (-1), 1) := by decide +kernel
theorem at119_15 : am_at 119 15 = some (.ixor, 1) := by decide +kernel
theorem at119_16 : am_at 119 16 = some (.iand, 1) := by decide +kernel
theorem at119_17 : am_at 119 17 = some (.ifCond .eq 14, 3) := by decide +kernel
theorem at119_20 : am_at 119 20 = some (.new 110, 3) := by decide +kernel
theorem at119_31 : am_at 119 31 = some (.iload_n 3, 1) := by decide +kernel
theorem at119_32 : am_at 119 32 = some (.iconst 1, 1) := by decide +kernel
theorem at119_33 : am_at 119 33 = some (.iconst 5, 1) := by decide +kernel
theorem at119_34 : am_at 119 34 = some (.invokestatic 144, 3) := by decide +kernel
theorem at119_37 : am_at 119 37 = some (.aload_n 0, 1) := by decide +kernel
theorem at119_38 : am_at 119 38 = some (.getfield 100072, 3) := by decide +kernel
theorem at119_41 : am_at 119 41 = some (.aload_n 0, 1) := by decide +kernel
theorem at119_42 : am_at 119 42 = some (.getfield 100012, 3) := by decide +kernel
theorem at119_45 : am_at 119 45 = some (.aload_n 0, 1) := by decide +kernel
theorem at119_46 : am_at 119 46 = some (.getfield 100032, 3) := by decide +kernel
theorem at119_49 : am_at 119 49 = some (.iload_n 1, 1) := by decide +kernel
theorem at119_50 : am_at 119 50 = some (.iload_n 2, 1) := by decide +kernel
theorem at119_51 : am_at 119 51 = some (.iload_n 3, 1) := by decide +kernel
theorem at119_52 : am_at 119 52 = some (.invokevirtual 5, 3) := by decide +kernel
theorem at119_55 : am_at 119 55 = some (.ireturn, 1) := by decide +kernel
theorem at120_0 : am_at 120 0 = some (.iload_n 1, 1) := by decide +kernel
theorem at120_1 : am_at 120 1 = some (.ifCond .lt 14, 3) := by decide +kernel
theorem at120_4 : am_at 120 4 = some (.iload_n 1, 1) := by decide +kernel
theorem at120_5 : am_at 120 5 = some (.aload_n 0, 1) := by decide +kernel
theorem at120_6 : am_at 120 6 = some (.getfield 100072, 3) := by decide +kernel
theorem at120_9 : am_at 120 9 = some (.getfield 10040, 3) := by decide +kernel
theorem at120_12 : am_at 120 12 = some (.if_icmp .lt 14, 3) := by decide +kernel
theorem at120_15 : am_at 120 15 = some (.new 111, 3) := by decide +kernel
theorem at120_26 : am_at 120 26 = some (.aload_n 0, 1) := by decide +kernel
theorem at120_27 : am_at 120 27 = some (.getfield 100072, 3) := by decide +kernel
theorem at120_30 : am_at 120 30 = some (.getfield 10022, 3) := by decide +kernel
theorem at120_33 : am_at 120 33 = some (.iload_n 1, 1) := by decide +kernel
theorem at120_34 : am_at 120 34 = some (.iaload, 1) := by decide +kernel
theorem at120_35 : am_at 120 35 = some (.ireturn, 1) := by decide +kernel
theorem at121_0 : am_at 121 0 = some (.iload_n 1, 1) := by decide +kernel
theorem at121_1 : am_at 121 1 = some (.aload_n 0, 1) := by decide +kernel
theorem at121_2 : am_at 121 2 = some (.getfield 100012, 3) := by decide +kernel
theorem at121_5 : am_at 121 5 = some (.invokevirtual 83, 3) := by decide +kernel
theorem at121_8 : am_at 121 8 = some (.iconst (-1), 1) := by decide +kernel
theorem at121_9 : am_at 121 9 = some (.ixor, 1) := by decide +kernel
theorem at121_10 : am_at 121 10 = some (.iand, 1) := by decide +kernel
theorem at121_11 : am_at 121 11 = some (.ifCond .eq 14, 3) := by decide +kernel
theorem at121_14 : am_at 121 14 = some (.new 110, 3) := by decide +kernel
theorem at121_25 : am_at 121 25 = some (.iload_n 2, 1) := by decide +kernel
theorem at121_26 : am_at 121 26 = some (.iconst 0, 1) := by decide +kernel
theorem at121_27 : am_at 121 27 = some (.bipush 20, 2) := by decide +kernel
theorem at121_29 : am_at 121 29 = some (.invokestatic 144, 3) := by decide +kernel
theorem at121_32 : am_at 121 32 = some (.iload_n 3, 1) := by decide +kernel
theorem at121_33 : am_at 121 33 = some (.iconst 1, 1) := by decide +kernel
theorem at121_34 : am_at 121 34 = some (.bipush 100, 2) := by decide +kernel
theorem at121_36 : am_at 121 36 = some (.invokestatic 144, 3) := by decide +kernel
theorem at121_39 : am_at 121 39 = some (.iconst 0, 1) := by decide +kernel
theorem at121_40 : am_at 121 40 = some (.istore 4, 2) := by decide +kernel
theorem at121_42 : am_at 121 42 = some (.iload 4, 2) := by decide +kernel
theorem at121_44 : am_at 121 44 = some (.aload_n 0, 1) := by decide +kernel
theorem at121_45 : am_at 121 45 = some (.getfield 100012, 3) := by decide +kernel
theorem at121_48 : am_at 121 48 = some (.getfield 80000, 3) := by decide +kernel
theorem at121_51 : am_at 121 51 = some (.if_icmp .ge 24, 3) := by decide +kernel
theorem at121_54 : am_at 121 54 = some (.aload_n 0, 1) := by decide +kernel
theorem at121_55 : am_at 121 55 = some (.getfield 100112, 3) := by decide +kernel
theorem at121_58 : am_at 121 58 = some (.iload 4, 2) := by decide +kernel
theorem at121_60 : am_at 121 60 = some (.aload_n 0, 1) := by decide +kernel
theorem at121_61 : am_at 121 61 = some (.iload 4, 2) := by decide +kernel
theorem at121_63 : am_at 121 63 = some (.iload_n 2, 1) := by decide +kernel
theorem at121_64 : am_at 121 64 = some (.iload_n 3, 1) := by decide +kernel
theorem at121_65 : am_at 121 65 = some (.invokevirtual 147, 3) := by decide +kernel
theorem at121_68 : am_at 121 68 = some (.iastore, 1) := by decide +kernel
theorem at121_69 : am_at 121 69 = some (.iinc 4 1, 3) := by decide +kernel
theorem at121_72 : am_at 121 72 = some (.goto (-30), 3) := by decide +kernel
theorem at121_75 : am_at 121 75 = some (.iconst (-1), 1) := by decide +kernel
theorem at121_76 : am_at 121 76 = some (.istore 4, 2) := by decide +kernel
theorem at121_78 : am_at 121 78 = some (.iconst 0, 1) := by decide +kernel
theorem at121_79 : am_at 121 79 = some (.istore 5, 2) := by decide +kernel
theorem at121_81 : am_at 121 81 = some (.iload 5, 2) := by decide +kernel
theorem at121_83 : am_at 121 83 = some (.iconst 1, 1) := by decide +kernel
theorem at121_84 : am_at 121 84 = some (.aload_n 0, 1) := by decide +kernel
theorem at121_85 : am_at 121 85 = some (.getfield 100012, 3) := by decide +kernel
theorem at121_88 : am_at 121 88 = some (.getfield 80000, 3) := by decide +kernel
theorem at121_91 : am_at 121 91 = some (.ishl, 1) := by decide +kernel
theorem at121_92 : am_at 121 92 = some (.if_icmp .ge 57, 3) := by decide +kernel
theorem at121_95 : am_at 121 95 = some (.iload 4, 2) := by decide +kernel
theorem at121_97 : am_at 121 97 = some (.iconst (-1), 1) := by decide +kernel
theorem at121_98 : am_at 121 98 = some (.if_icmp .eq 16, 3) := by decide +kernel
theorem at121_101 : am_at 121 101 = some (.iload 5, 2) := by decide +kernel
theorem at121_103 : am_at 121 103 = some (.invokestatic 268, 3) := by decide +kernel
theorem at121_106 : am_at 121 106 = some (.iload 4, 2) := by decide +kernel
theorem at121_108 : am_at 121 108 = some (.invokestatic 268, 3) := by decide +kernel
theorem at121_111 : am_at 121 111 = some (.if_icmp .ge 7, 3) := by decide +kernel
theorem at121_114 : am_at 121 114 = some (.iconst 1, 1) := by decide +kernel
theorem at121_115 : am_at 121 115 = some (.goto 4, 3) := by decide +kernel
theorem at121_118 : am_at 121 118 = some (.iconst 0, 1) := by decide +kernel
theorem at121_119 : am_at 121 119 = some (.istore 6, 2) := by decide +kernel
theorem at121_121 : am_at 121 121 = some (.iload 6, 2) := by decide +kernel
theorem at121_123 : am_at 121 123 = some (.ifCond .eq 20, 3) := by decide +kernel
theorem at121_126 : am_at 121 126 = some (.iload_n 1, 1) := by decide +kernel
theorem at121_127 : am_at 121 127 = some (.aload_n 0, 1) := by decide +kernel
theorem at121_128 : am_at 121 128 = some (.iload 5, 2) := by decide +kernel
theorem at121_130 : am_at 121 130 = some (.invokevirtual 148, 3) := by decide +kernel
theorem at121_133 : am_at 121 133 = some (.iconst (-1), 1) := by decide +kernel
theorem at121_134 : am_at 121 134 = some (.ixor, 1) := by decide +kernel
theorem at121_135 : am_at 121 135 = some (.iand, 1) := by decide +kernel
theorem at121_136 : am_at 121 136 = some (.ifCond .ne 7, 3) := by decide +kernel
theorem at121_139 : am_at 121 139 = some (.iload 5, 2) := by decide +kernel
theorem at121_141 : am_at 121 141 = some (.istore 4, 2) := by decide +kernel
theorem at121_143 : am_at 121 143 = some (.iinc 5 1, 3) := by decide +kernel
theorem at121_146 : am_at 121 146 = some (.goto (-65), 3) := by decide +kernel
theorem at121_149 : am_at 121 149 = some (.iload 4, 2) := by decide +kernel
theorem at121_151 : am_at 121 151 = some (.ireturn, 1) := by decide +kernel
theorem at122_0 : am_at 122 0 = some (.iload_n 1, 1) := by decide +kernel
theorem at122_1 : am_at 122 1 = some (.iconst 0, 1) := by decide +kernel
theorem at122_2 : am_at 122 2 = some (.bipush 30, 2) := by decide +kernel
theorem at122_4 : am_at 122 4 = some (.invokestatic 144, 3) := by decide +kernel
theorem at122_7 : am_at 122 7 = some (.iload_n 2, 1) := by decide +kernel
theorem at122_8 : am_at 122 8 = some (.iconst 1, 1) := by decide +kernel
theorem at122_9 : am_at 122 9 = some (.bipush 100, 2) := by decide +kernel
theorem at122_11 : am_at 122 11 = some (.invokestatic 144, 3) := by decide +kernel
theorem at122_14 : am_at 122 14 = some (.iconst 0, 1) := by decide +kernel
theorem at122_15 : am_at 122 15 = some (.istore_n 3, 1) := by decide +kernel
theorem at122_16 : am_at 122 16 = some (.iload_n 3, 1) := by decide +kernel
theorem at122_17 : am_at 122 17 = some (.aload_n 0, 1) := by decide +kernel
theorem at122_18 : am_at 122 18 = some (.getfield 100012, 3) := by decide +kernel
theorem at122_21 : am_at 122 21 = some (.getfield 80000, 3) := by decide +kernel
theorem at122_24 : am_at 122 24 = some (.if_icmp .ge 62, 3) := by decide +kernel
theorem at122_27 : am_at 122 27 = some (.iconst 0, 1) := by decide +kernel
theorem at122_28 : am_at 122 28 = some (.istore 4, 2) := by decide +kernel
theorem at122_30 : am_at 122 30 = some (.iload 4, 2) := by decide +kernel
theorem at122_32 : am_at 122 32 = some (.bipush 20, 2) := by decide +kernel
theorem at122_34 : am_at 122 34 = some (.if_icmp .gt 46, 3) := by decide +kernel
theorem at122_37 : am_at 122 37 = some (.aload_n 0, 1) := by decide +kernel
theorem at122_38 : am_at 122 38 = some (.getfield 100082, 3) := by decide +kernel
theorem at122_41 : am_at 122 41 = some (.getfield 50002, 3) := by decide +kernel
theorem at122_44 : am_at 122 44 = some (.iload_n 3, 1) := by decide +kernel
theorem at122_45 : am_at 122 45 = some (.aaload, 1) := by decide +kernel
theorem at122_46 : am_at 122 46 = some (.iload 4, 2) := by decide +kernel
theorem at122_48 : am_at 122 48 = some (.iload 4, 2) := by decide +kernel
theorem at122_50 : am_at 122 50 = some (.iload_n 1, 1) := by decide +kernel
theorem at122_51 : am_at 122 51 = some (.if_icmp .le 7, 3) := by decide +kernel
theorem at122_54 : am_at 122 54 = some (.iconst 0, 1) := by decide +kernel
theorem at122_55 : am_at 122 55 = some (.goto 18, 3) := by decide +kernel
theorem at122_58 : am_at 122 58 = some (.aload_n 0, 1) := by decide +kernel
theorem at122_59 : am_at 122 59 = some (.getfield 100012, 3) := by decide +kernel
theorem at122_62 : am_at 122 62 = some (.aload_n 0, 1) := by decide +kernel
theorem at122_63 : am_at 122 63 = some (.iload_n 3, 1) := by decide +kernel
theorem at122_64 : am_at 122 64 = some (.iload 4, 2) := by decide +kernel
theorem at122_66 : am_at 122 66 = some (.iload_n 2, 1) := by decide +kernel
theorem at122_67 : am_at 122 67 = some (.invokevirtual 147, 3) := by decide +kernel
theorem at122_70 : am_at 122 70 = some (.invokevirtual 84, 3) := by decide +kernel
theorem at122_73 : am_at 122 73 = some (.iastore, 1) := by decide +kernel
theorem at122_74 : am_at 122 74 = some (.iinc 4 1, 3) := by decide +kernel
theorem at122_77 : am_at 122 77 = some (.goto (-47), 3) := by decide +kernel
theorem at122_80 : am_at 122 80 = some (.iinc 3 1, 3) := by decide +kernel
theorem at122_83 : am_at 122 83 = some (.goto (-67), 3) := by decide +kernel
theorem at122_86 : am_at 122 86 = some (.aload_n 0, 1) := by decide +kernel
theorem at122_87 : am_at 122 87 = some (.getfield 100082, 3) := by decide +kernel
theorem at122_90 : am_at 122 90 = some (.aload_n 0, 1) := by decide +kernel
theorem at122_91 : am_at 122 91 = some (.getfield 100012, 3) := by decide +kernel
theorem at122_94 : am_at 122 94 = some (.getfield 80000, 3) := by decide +kernel
theorem at122_97 : am_at 122 97 = some (.iload_n 1, 1) := by decide +kernel
theorem at122_98 : am_at 122 98 = some (.invokevirtual 45, 3) := by decide +kernel
theorem at122_101 : am_at 122 101 = some (.ireturn, 1) := by decide +kernel
theorem at123_0 : am_at 123 0 = some (.aload_n 0, 1) := by decide +kernel
theorem at123_1 : am_at 123 1 = some (.iload_n 1, 1) := by decide +kernel
theorem at123_2 : am_at 123 2 = some (.invokevirtual 142, 3) := by decide +kernel
theorem at123_5 : am_at 123 5 = some (.aload_n 0, 1) := by decide +kernel
theorem at123_6 : am_at 123 6 = some (.getfield 100082, 3) := by decide +kernel
theorem at123_9 : am_at 123 9 = some (.getfield 50031, 3) := by decide +kernel
theorem at123_12 : am_at 123 12 = some (.ifCond .ne 14, 3) := by decide +kernel
theorem at123_15 : am_at 123 15 = some (.new 111, 3) := by decide +kernel
theorem at123_26 : am_at 123 26 = some (.aload_n 0, 1) := by decide +kernel
theorem at123_27 : am_at 123 27 = some (.getfield 100082, 3) := by decide +kernel
theorem at123_30 : am_at 123 30 = some (.getfield 50022, 3) := by decide +kernel
theorem at123_33 : am_at 123 33 = some (.iload_n 1, 1) := by decide +kernel
theorem at123_34 : am_at 123 34 = some (.iaload, 1) := by decide +kernel
theorem at123_35 : am_at 123 35 = some (.ireturn, 1) := by decide +kernel
theorem at124_0 : am_at 124 0 = some (.aload_n 0, 1) := by decide +kernel
theorem at124_1 : am_at 124 1 = some (.iload_n 1, 1) := by decide +kernel
theorem at124_2 : am_at 124 2 = some (.invokevirtual 143, 3) := by decide +kernel
theorem at124_5 : am_at 124 5 = some (.aload_n 0, 1) := by decide +kernel
theorem at124_6 : am_at 124 6 = some (.iload_n 2, 1) := by decide +kernel
theorem at124_7 : am_at 124 7 = some (.invokevirtual 142, 3) := by decide +kernel
theorem at124_10 : am_at 124 10 = some (.aload_n 0, 1) := by decide +kernel
theorem at124_11 : am_at 124 11 = some (.getfield 100012, 3) := by decide +kernel
theorem at124_14 : am_at 124 14 = some (.aload_n 0, 1) := by decide +kernel
theorem at124_15 : am_at 124 15 = some (.getfield 100032, 3) := by decide +kernel
theorem at124_18 : am_at 124 18 = some (.iload_n 1, 1) := by decide +kernel
theorem at124_19 : am_at 124 19 = some (.invokevirtual 30, 3) := by decide +kernel
theorem at124_22 : am_at 124 22 = some (.aload_n 0, 1) := by decide +kernel
theorem at124_23 : am_at 124 23 = some (.getfield 100122, 3) := by decide +kernel
theorem at124_26 : am_at 124 26 = some (.invokevirtual 88, 3) := by decide +kernel
theorem at124_29 : am_at 124 29 = some (.aload_n 0, 1) := by decide +kernel
theorem at124_30 : am_at 124 30 = some (.getfield 100122, 3) := by decide +kernel
theorem at124_33 : am_at 124 33 = some (.iload_n 2, 1) := by decide +kernel
theorem at124_34 : am_at 124 34 = some (.iaload, 1) := by decide +kernel
theorem at124_35 : am_at 124 35 = some (.ireturn, 1) := by decide +kernel
theorem at125_0 : am_at 125 0 = some (.aload_n 0, 1) := by decide +kernel
theorem at125_1 : am_at 125 1 = some (.iload_n 1, 1) := by decide +kernel
theorem at125_2 : am_at 125 2 = some (.invokevirtual 143, 3) := by decide +kernel
theorem at125_5 : am_at 125 5 = some (.iconst (-1), 1) := by decide +kernel
theorem at125_6 : am_at 125 6 = some (.istore_n 2, 1) := by decide +kernel
theorem at125_7 : am_at 125 7 = some (.iconst 0, 1) := by decide +kernel
theorem at125_8 : am_at 125 8 = some (.istore_n 3, 1) := by decide +kernel
theorem at125_9 : am_at 125 9 = some (.iconst 0, 1) := by decide +kernel
theorem at125_10 : am_at 125 10 = some (.istore 4, 2) := by decide +kernel
theorem at125_12 : am_at 125 12 = some (.iconst 0, 1) := by decide +kernel
theorem at125_13 : am_at 125 13 = some (.istore 5, 2) := by decide +kernel
theorem at125_15 : am_at 125 15 = some (.iload 5, 2) := by decide +kernel
theorem at125_17 : am_at 125 17 = some (.aload_n 0, 1) := by decide +kernel
theorem at125_18 : am_at 125 18 = some (.getfield 100012, 3) := by decide +kernel
theorem at125_21 : am_at 125 21 = some (.getfield 80000, 3) := by decide +kernel
theorem at125_24 : am_at 125 24 = some (.if_icmp .ge 83, 3) := by decide +kernel
theorem at125_27 : am_at 125 27 = some (.aload_n 0, 1) := by decide +kernel
theorem at125_28 : am_at 125 28 = some (.getfield 100032, 3) := by decide +kernel
theorem at125_31 : am_at 125 31 = some (.iload 5, 2) := by decide +kernel
theorem at125_33 : am_at 125 33 = some (.iload_n 1, 1) := by decide +kernel
theorem at125_34 : am_at 125 34 = some (.invokevirtual 27, 3) := by decide +kernel
theorem at125_37 : am_at 125 37 = some (.ifCond .eq 64, 3) := by decide +kernel
theorem at125_40 : am_at 125 40 = some (.aload_n 0, 1) := by decide +kernel
theorem at125_41 : am_at 125 41 = some (.getfield 100012, 3) := by decide +kernel
theorem at125_44 : am_at 125 44 = some (.iconst 1, 1) := by decide +kernel
theorem at125_45 : am_at 125 45 = some (.iload 5, 2) := by decide +kernel
theorem at125_47 : am_at 125 47 = some (.ishl, 1) := by decide +kernel
theorem at125_48 : am_at 125 48 = some (.aload_n 0, 1) := by decide +kernel
theorem at125_49 : am_at 125 49 = some (.getfield 100122, 3) := by decide +kernel
theorem at125_52 : am_at 125 52 = some (.invokevirtual 88, 3) := by decide +kernel
theorem at125_55 : am_at 125 55 = some (.aload_n 0, 1) := by decide +kernel
theorem at125_56 : am_at 125 56 = some (.invokevirtual 149, 3) := by decide +kernel
theorem at125_59 : am_at 125 59 = some (.istore 6, 2) := by decide +kernel
theorem at125_61 : am_at 125 61 = some (.aload_n 0, 1) := by decide +kernel
theorem at125_62 : am_at 125 62 = some (.invokevirtual 150, 3) := by decide +kernel
theorem at125_65 : am_at 125 65 = some (.istore 7, 2) := by decide +kernel
theorem at125_67 : am_at 125 67 = some (.iload_n 2, 1) := by decide +kernel
theorem at125_68 : am_at 125 68 = some (.iconst (-1), 1) := by decide +kernel
theorem at125_69 : am_at 125 69 = some (.if_icmp .eq 22, 3) := by decide +kernel
theorem at125_72 : am_at 125 72 = some (.iload 6, 2) := by decide +kernel
theorem at125_74 : am_at 125 74 = some (.iload_n 3, 1) := by decide +kernel
theorem at125_75 : am_at 125 75 = some (.if_icmp .gt 16, 3) := by decide +kernel
theorem at125_78 : am_at 125 78 = some (.iload 6, 2) := by decide +kernel
theorem at125_80 : am_at 125 80 = some (.iload_n 3, 1) := by decide +kernel
theorem at125_81 : am_at 125 81 = some (.if_icmp .ne 20, 3) := by decide +kernel
theorem at125_84 : am_at 125 84 = some (.iload 7, 2) := by decide +kernel
theorem at125_86 : am_at 125 86 = some (.iload 4, 2) := by decide +kernel
theorem at125_88 : am_at 125 88 = some (.if_icmp .ge 13, 3) := by decide +kernel
theorem at125_91 : am_at 125 91 = some (.iload 5, 2) := by decide +kernel
theorem at125_93 : am_at 125 93 = some (.istore_n 2, 1) := by decide +kernel
theorem at125_94 : am_at 125 94 = some (.iload 6, 2) := by decide +kernel
theorem at125_96 : am_at 125 96 = some (.istore_n 3, 1) := by decide +kernel
theorem at125_97 : am_at 125 97 = some (.iload 7, 2) := by decide +kernel
theorem at125_99 : am_at 125 99 = some (.istore 4, 2) := by decide +kernel
theorem at125_101 : am_at 125 101 = some (.iinc 5 1, 3) := by decide +kernel
theorem at125_104 : am_at 125 104 = some (.goto (-89), 3) := by decide +kernel
theorem at125_107 : am_at 125 107 = some (.iload_n 2, 1) := by decide +kernel
theorem at125_108 : am_at 125 108 = some (.ireturn, 1) := by decide +kernel
theorem at126_0 : am_at 126 0 = some (.iload_n 1, 1) := by decide +kernel
theorem at126_1 : am_at 126 1 = some (.ifCond .lt 8, 3) := by decide +kernel
theorem at126_4 : am_at 126 4 = some (.iload_n 1, 1) := by decide +kernel
theorem at126_5 : am_at 126 5 = some (.iconst 4, 1) := by decide +kernel
theorem at126_6 : am_at 126 6 = some (.if_icmp .lt 14, 3) := by decide +kernel
theorem at126_9 : am_at 126 9 = some (.new 111, 3) := by decide +kernel
theorem at126_20 : am_at 126 20 = some (.iconst 0, 1) := by decide +kernel
theorem at126_21 : am_at 126 21 = some (.istore_n 2, 1) := by decide +kernel
theorem at126_22 : am_at 126 22 = some (.iconst 0, 1) := by decide +kernel
theorem at126_23 : am_at 126 23 = some (.istore_n 3, 1) := by decide +kernel
theorem at126_24 : am_at 126 24 = some (.iload_n 3, 1) := by decide +kernel
theorem at126_25 : am_at 126 25 = some (.aload_n 0, 1) := by decide +kernel
theorem at126_26 : am_at 126 26 = some (.getfield 100012, 3) := by decide +kernel
theorem at126_29 : am_at 126 29 = some (.getfield 80000, 3) := by decide +kernel
theorem at126_32 : am_at 126 32 = some (.if_icmp .ge 33, 3) := by decide +kernel
theorem at126_35 : am_at 126 35 = some (.aload_n 0, 1) := by decide +kernel
theorem at126_36 : am_at 126 36 = some (.getfield 100032, 3) := by decide +kernel
theorem at126_39 : am_at 126 39 = some (.getfield 40022, 3) := by decide +kernel
theorem at126_42 : am_at 126 42 = some (.iload_n 3, 1) := by decide +kernel
theorem at126_43 : am_at 126 43 = some (.iaload, 1) := by decide +kernel
theorem at126_44 : am_at 126 44 = some (.iload_n 1, 1) := by decide +kernel
theorem at126_45 : am_at 126 45 = some (.if_icmp .ne 14, 3) := by decide +kernel
theorem at126_48 : am_at 126 48 = some (.iload_n 2, 1) := by decide +kernel
theorem at126_49 : am_at 126 49 = some (.aload_n 0, 1) := by decide +kernel
theorem at126_50 : am_at 126 50 = some (.getfield 100032, 3) := by decide +kernel
theorem at126_53 : am_at 126 53 = some (.iload_n 3, 1) := by decide +kernel
theorem at126_54 : am_at 126 54 = some (.invokevirtual 28, 3) := by decide +kernel
theorem at126_57 : am_at 126 57 = some (.ior, 1) := by decide +kernel
theorem at126_58 : am_at 126 58 = some (.istore_n 2, 1) := by decide +kernel
theorem at126_59 : am_at 126 59 = some (.iinc 3 1, 3) := by decide +kernel
theorem at126_62 : am_at 126 62 = some (.goto (-38), 3) := by decide +kernel
theorem at126_65 : am_at 126 65 = some (.iconst 0, 1) := by decide +kernel
theorem at126_66 : am_at 126 66 = some (.istore_n 3, 1) := by decide +kernel
theorem at126_67 : am_at 126 67 = some (.iconst 0, 1) := by decide +kernel
theorem at126_68 : am_at 126 68 = some (.istore 4, 2) := by decide +kernel
theorem at126_70 : am_at 126 70 = some (.iload 4, 2) := by decide +kernel
theorem at126_72 : am_at 126 72 = some (.aload_n 0, 1) := by decide +kernel
theorem at126_73 : am_at 126 73 = some (.getfield 100012, 3) := by decide +kernel
theorem at126_76 : am_at 126 76 = some (.getfield 80000, 3) := by decide +kernel
theorem at126_79 : am_at 126 79 = some (.if_icmp .ge 42, 3) := by decide +kernel
theorem at126_82 : am_at 126 82 = some (.aload_n 0, 1) := by decide +kernel
theorem at126_83 : am_at 126 83 = some (.getfield 100032, 3) := by decide +kernel
theorem at126_86 : am_at 126 86 = some (.getfield 40022, 3) := by decide +kernel
theorem at126_89 : am_at 126 89 = some (.iload 4, 2) := by decide +kernel
theorem at126_91 : am_at 126 91 = some (.iaload, 1) := by decide +kernel
theorem at126_92 : am_at 126 92 = some (.iload_n 1, 1) := by decide +kernel
theorem at126_93 : am_at 126 93 = some (.if_icmp .ne 22, 3) := by decide +kernel
theorem at126_96 : am_at 126 96 = some (.iload_n 3, 1) := by decide +kernel
theorem at126_97 : am_at 126 97 = some (.iload_n 2, 1) := by decide +kernel
theorem at126_98 : am_at 126 98 = some (.aload_n 0, 1) := by decide +kernel
theorem at126_99 : am_at 126 99 = some (.getfield 100032, 3) := by decide +kernel
theorem at126_102 : am_at 126 102 = some (.iload 4, 2) := by decide +kernel
theorem at126_104 : am_at 126 104 = some (.invokevirtual 28, 3) := by decide +kernel
theorem at126_107 : am_at 126 107 = some (.iconst (-1), 1) := by decide +kernel
theorem at126_108 : am_at 126 108 = some (.ixor, 1) := by decide +kernel
theorem at126_109 : am_at 126 109 = some (.iand, 1) := by decide +kernel
theorem at126_110 : am_at 126 110 = some (.invokestatic 268, 3) := by decide +kernel
theorem at126_113 : am_at 126 113 = some (.iadd, 1) := by decide +kernel
theorem at126_114 : am_at 126 114 = some (.istore_n 3, 1) := by decide +kernel
theorem at126_115 : am_at 126 115 = some (.iinc 4 1, 3) := by decide +kernel
theorem at126_118 : am_at 126 118 = some (.goto (-48), 3) := by decide +kernel
theorem at126_121 : am_at 126 121 = some (.iload_n 3, 1) := by decide +kernel
theorem at126_122 : am_at 126 122 = some (.ireturn, 1) := by decide +kernel
theorem at127_0 : am_at 127 0 = some (.aload_n 0, 1) := by decide +kernel
theorem at127_1 : am_at 127 1 = some (.iload_n 1, 1) := by decide +kernel
theorem at127_2 : am_at 127 2 = some (.invokevirtual 143, 3) := by decide +kernel
theorem at127_5 : am_at 127 5 = some (.aload_n 0, 1) := by decide +kernel
theorem at127_6 : am_at 127 6 = some (.getfield 100012, 3) := by decide +kernel
theorem at127_9 : am_at 127 9 = some (.iload_n 1, 1) := by decide +kernel
theorem at127_10 : am_at 127 10 = some (.aload_n 0, 1) := by decide +kernel
theorem at127_11 : am_at 127 11 = some (.getfield 100032, 3) := by decide +kernel
theorem at127_14 : am_at 127 14 = some (.iload_n 1, 1) := by decide +kernel
theorem at127_15 : am_at 127 15 = some (.invokevirtual 30, 3) := by decide +kernel
theorem at127_18 : am_at 127 18 = some (.invokevirtual 89, 3) := by decide +kernel
theorem at127_21 : am_at 127 21 = some (.ireturn, 1) := by decide +kernel
theorem at128_0 : am_at 128 0 = some (.aload_n 0, 1) := by decide +kernel
theorem at128_1 : am_at 128 1 = some (.iload_n 1, 1) := by decide +kernel
theorem at128_2 : am_at 128 2 = some (.invokevirtual 142, 3) := by decide +kernel
theorem at128_5 : am_at 128 5 = some (.aload_n 0, 1) := by decide +kernel
theorem at128_6 : am_at 128 6 = some (.aload_n 0, 1) := by decide +kernel
theorem at128_7 : am_at 128 7 = some (.getfield 100032, 3) := by decide +kernel
theorem at128_10 : am_at 128 10 = some (.iload_n 1, 1) := by decide +kernel
theorem at128_11 : am_at 128 11 = some (.invokevirtual 151, 3) := by decide +kernel
theorem at128_14 : am_at 128 14 = some (.ireturn, 1) := by decide +kernel
theorem at129_0 : am_at 129 0 = some (.iload_n 1, 1) := by decide +kernel
theorem at129_1 : am_at 129 1 = some (.iconst 0, 1) := by decide +kernel
theorem at129_2 : am_at 129 2 = some (.bipush 100, 2) := by decide +kernel
theorem at129_4 : am_at 129 4 = some (.invokestatic 144, 3) := by decide +kernel
theorem at129_7 : am_at 129 7 = some (.aload_n 0, 1) := by decide +kernel
theorem at129_8 : am_at 129 8 = some (.iload_n 1, 1) := by decide +kernel
theorem at129_9 : am_at 129 9 = some (.iconst (-1), 1) := by decide +kernel
theorem at129_10 : am_at 129 10 = some (.invokevirtual 146, 3) := by decide +kernel
theorem at129_13 : am_at 129 13 = some (.iconst (-1), 1) := by decide +kernel
theorem at129_14 : am_at 129 14 = some (.istore_n 2, 1) := by decide +kernel
theorem at129_15 : am_at 129 15 = some (.iconst 0, 1) := by decide +kernel
theorem at129_16 : am_at 129 16 = some (.istore_n 3, 1) := by decide +kernel
theorem at129_17 : am_at 129 17 = some (.iconst 0, 1) := by decide +kernel
theorem at129_18 : am_at 129 18 = some (.istore 4, 2) := by decide +kernel
theorem at129_20 : am_at 129 20 = some (.iload 4, 2) := by decide +kernel
theorem at129_22 : am_at 129 22 = some (.aload_n 0, 1) := by decide +kernel
theorem at129_23 : am_at 129 23 = some (.getfield 100012, 3) := by decide +kernel
theorem at129_26 : am_at 129 26 = some (.getfield 80000, 3) := by decide +kernel
theorem at129_29 : am_at 129 29 = some (.if_icmp .ge 49, 3) := by decide +kernel
theorem at129_32 : am_at 129 32 = some (.aload_n 0, 1) := by decide +kernel
theorem at129_33 : am_at 129 33 = some (.aload_n 0, 1) := by decide +kernel
theorem at129_34 : am_at 129 34 = some (.getfield 100032, 3) := by decide +kernel
theorem at129_37 : am_at 129 37 = some (.iload 4, 2) := by decide +kernel
theorem at129_39 : am_at 129 39 = some (.invokevirtual 151, 3) := by decide +kernel
theorem at129_42 : am_at 129 42 = some (.aload_n 0, 1) := by decide +kernel
theorem at129_43 : am_at 129 43 = some (.aload_n 0, 1) := by decide +kernel
theorem at129_44 : am_at 129 44 = some (.getfield 100042, 3) := by decide +kernel
theorem at129_47 : am_at 129 47 = some (.iload 4, 2) := by decide +kernel
theorem at129_49 : am_at 129 49 = some (.invokevirtual 151, 3) := by decide +kernel
theorem at129_52 : am_at 129 52 = some (.isub, 1) := by decide +kernel
theorem at129_53 : am_at 129 53 = some (.istore 5, 2) := by decide +kernel
theorem at129_55 : am_at 129 55 = some (.iload_n 2, 1) := by decide +kernel
theorem at129_56 : am_at 129 56 = some (.iconst (-1), 1) := by decide +kernel
theorem at129_57 : am_at 129 57 = some (.if_icmp .eq 9, 3) := by decide +kernel
theorem at129_60 : am_at 129 60 = some (.iload 5, 2) := by decide +kernel
theorem at129_62 : am_at 129 62 = some (.iload_n 3, 1) := by decide +kernel
theorem at129_63 : am_at 129 63 = some (.if_icmp .le 9, 3) := by decide +kernel
theorem at129_66 : am_at 129 66 = some (.iload 4, 2) := by decide +kernel
theorem at129_68 : am_at 129 68 = some (.istore_n 2, 1) := by decide +kernel
theorem at129_69 : am_at 129 69 = some (.iload 5, 2) := by decide +kernel
theorem at129_71 : am_at 129 71 = some (.istore_n 3, 1) := by decide +kernel
theorem at129_72 : am_at 129 72 = some (.iinc 4 1, 3) := by decide +kernel
theorem at129_75 : am_at 129 75 = some (.goto (-55), 3) := by decide +kernel
theorem at129_78 : am_at 129 78 = some (.iload_n 2, 1) := by decide +kernel
theorem at129_79 : am_at 129 79 = some (.ireturn, 1) := by decide +kernel
theorem at130_0 : am_at 130 0 = some (.aload_n 0, 1) := by decide +kernel
theorem at130_1 : am_at 130 1 = some (.iload_n 1, 1) := by decide +kernel
theorem at130_2 : am_at 130 2 = some (.invokevirtual 142, 3) := by decide +kernel
theorem at130_5 : am_at 130 5 = some (.aload_n 0, 1) := by decide +kernel
theorem at130_6 : am_at 130 6 = some (.iload_n 2, 1) := by decide +kernel
theorem at130_7 : am_at 130 7 = some (.invokevirtual 143, 3) := by decide +kernel
theorem at130_10 : am_at 130 10 = some (.aload_n 0, 1) := by decide +kernel
theorem at130_11 : am_at 130 11 = some (.getfield 100062, 3) := by decide +kernel
theorem at130_14 : am_at 130 14 = some (.getfield 30, 3) := by decide +kernel
theorem at130_17 : am_at 130 17 = some (.bipush 8, 2) := by decide +kernel
theorem at130_19 : am_at 130 19 = some (.if_icmp .lt 15, 3) := by decide +kernel
theorem at130_22 : am_at 130 22 = some (.aload_n 0, 1) := by decide +kernel
theorem at130_23 : am_at 130 23 = some (.getfield 100102, 3) := by decide +kernel
theorem at130_26 : am_at 130 26 = some (.iconst 2, 1) := by decide +kernel
theorem at130_27 : am_at 130 27 = some (.dup2, 1) := by decide +kernel
theorem at130_28 : am_at 130 28 = some (.iaload, 1) := by decide +kernel
theorem at130_29 : am_at 130 29 = some (.iconst 1, 1) := by decide +kernel
theorem at130_30 : am_at 130 30 = some (.iadd, 1) := by decide +kernel
theorem at130_31 : am_at 130 31 = some (.iastore, 1) := by decide +kernel
theorem at130_32 : am_at 130 32 = some (.iconst (-1), 1) := by decide +kernel
theorem at130_33 : am_at 130 33 = some (.ireturn, 1) := by decide +kernel
theorem at130_34 : am_at 130 34 = some (.aload_n 0, 1) := by decide +kernel
theorem at130_35 : am_at 130 35 = some (.getfield 100062, 3) := by decide +kernel
theorem at130_38 : am_at 130 38 = some (.iload_n 1, 1) := by decide +kernel
theorem at130_39 : am_at 130 39 = some (.iload_n 2, 1) := by decide +kernel
theorem at130_40 : am_at 130 40 = some (.iload_n 3, 1) := by decide +kernel
theorem at130_41 : am_at 130 41 = some (.invokevirtual 1, 3) := by decide +kernel
theorem at130_44 : am_at 130 44 = some (.aload_n 0, 1) := by decide +kernel
theorem at130_45 : am_at 130 45 = some (.getfield 100062, 3) := by decide +kernel
theorem at130_48 : am_at 130 48 = some (.getfield 30, 3) := by decide +kernel
theorem at130_51 : am_at 130 51 = some (.ireturn, 1) := by decide +kernel
theorem at131_0 : am_at 131 0 = some (.aload_n 0, 1) := by decide +kernel
theorem at131_1 : am_at 131 1 = some (.getfield 100062, 3) := by decide +kernel
theorem at131_4 : am_at 131 4 = some (.iconst 0, 1) := by decide +kernel
theorem at131_5 : am_at 131 5 = some (.putfield 30, 3) := by decide +kernel
theorem at131_8 : am_at 131 8 = some (.return_, 1) := by decide +kernel
theorem at132_0 : am_at 132 0 = some (.aload_n 0, 1) := by decide +kernel
theorem at132_1 : am_at 132 1 = some (.iload_n 1, 1) := by decide +kernel
theorem at132_2 : am_at 132 2 = some (.invokevirtual 142, 3) := by decide +kernel
theorem at132_5 : am_at 132 5 = some (.iload_n 2, 1) := by decide +kernel
theorem at132_6 : am_at 132 6 = some (.ifCond .eq 19, 3) := by decide +kernel
theorem at132_9 : am_at 132 9 = some (.iload_n 2, 1) := by decide +kernel
theorem at132_10 : am_at 132 10 = some (.iconst 1, 1) := by decide +kernel
theorem at132_11 : am_at 132 11 = some (.if_icmp .eq 14, 3) := by decide +kernel
theorem at132_14 : am_at 132 14 = some (.new 111, 3) := by decide +kernel
theorem at132_25 : am_at 132 25 = some (.aload_n 0, 1) := by decide +kernel
theorem at132_26 : am_at 132 26 = some (.iload_n 1, 1) := by decide +kernel
theorem at132_27 : am_at 132 27 = some (.invokevirtual 152, 3) := by decide +kernel
theorem at132_30 : am_at 132 30 = some (.istore_n 3, 1) := by decide +kernel
theorem at132_31 : am_at 132 31 = some (.iload_n 2, 1) := by decide +kernel
theorem at132_32 : am_at 132 32 = some (.ifCond .ne 8, 3) := by decide +kernel
theorem at132_35 : am_at 132 35 = some (.iload_n 3, 1) := by decide +kernel
theorem at132_36 : am_at 132 36 = some (.invokestatic 268, 3) := by decide +kernel
theorem at132_39 : am_at 132 39 = some (.ireturn, 1) := by decide +kernel
theorem at132_40 : am_at 132 40 = some (.iload_n 3, 1) := by decide +kernel
theorem at132_41 : am_at 132 41 = some (.ifCond .ne 7, 3) := by decide +kernel
theorem at132_44 : am_at 132 44 = some (.iconst (-1), 1) := by decide +kernel
theorem at132_45 : am_at 132 45 = some (.goto 7, 3) := by decide +kernel
theorem at132_48 : am_at 132 48 = some (.iload_n 3, 1) := by decide +kernel
theorem at132_49 : am_at 132 49 = some (.invokestatic 267, 3) := by decide +kernel
theorem at132_52 : am_at 132 52 = some (.ireturn, 1) := by decide +kernel
theorem at133_0 : am_at 133 0 = some (.iconst 0, 1) := by decide +kernel
theorem at133_1 : am_at 133 1 = some (.istore_n 1, 1) := by decide +kernel
theorem at133_2 : am_at 133 2 = some (.iconst 0, 1) := by decide +kernel
theorem at133_3 : am_at 133 3 = some (.istore_n 2, 1) := by decide +kernel
theorem at133_4 : am_at 133 4 = some (.iload_n 2, 1) := by decide +kernel
theorem at133_5 : am_at 133 5 = some (.aload_n 0, 1) := by decide +kernel
theorem at133_6 : am_at 133 6 = some (.getfield 100012, 3) := by decide +kernel
theorem at133_9 : am_at 133 9 = some (.getfield 80000, 3) := by decide +kernel
theorem at133_12 : am_at 133 12 = some (.if_icmp .ge 23, 3) := by decide +kernel
theorem at133_15 : am_at 133 15 = some (.aload_n 0, 1) := by decide +kernel
theorem at133_16 : am_at 133 16 = some (.iload_n 2, 1) := by decide +kernel
theorem at133_17 : am_at 133 17 = some (.invokevirtual 152, 3) := by decide +kernel
theorem at133_20 : am_at 133 20 = some (.ifCond .ne 9, 3) := by decide +kernel
theorem at133_23 : am_at 133 23 = some (.iload_n 1, 1) := by decide +kernel
theorem at133_24 : am_at 133 24 = some (.iconst 1, 1) := by decide +kernel
theorem at133_25 : am_at 133 25 = some (.iload_n 2, 1) := by decide +kernel
theorem at133_26 : am_at 133 26 = some (.ishl, 1) := by decide +kernel
theorem at133_27 : am_at 133 27 = some (.ior, 1) := by decide +kernel
theorem at133_28 : am_at 133 28 = some (.istore_n 1, 1) := by decide +kernel
theorem at133_29 : am_at 133 29 = some (.iinc 2 1, 3) := by decide +kernel
theorem at133_32 : am_at 133 32 = some (.goto (-28), 3) := by decide +kernel
theorem at133_35 : am_at 133 35 = some (.iload_n 1, 1) := by decide +kernel
theorem at133_36 : am_at 133 36 = some (.ireturn, 1) := by decide +kernel
theorem at134_0 : am_at 134 0 = some (.iload_n 1, 1) := by decide +kernel
theorem at134_1 : am_at 134 1 = some (.ifCond .eq 19, 3) := by decide +kernel
theorem at134_4 : am_at 134 4 = some (.iload_n 1, 1) := by decide +kernel
theorem at134_5 : am_at 134 5 = some (.iconst 1, 1) := by decide +kernel
theorem at134_6 : am_at 134 6 = some (.if_icmp .eq 14, 3) := by decide +kernel
theorem at134_9 : am_at 134 9 = some (.new 111, 3) := by decide +kernel
theorem at134_20 : am_at 134 20 = some (.aload_n 0, 1) := by decide +kernel
theorem at134_21 : am_at 134 21 = some (.getfield 100092, 3) := by decide +kernel
theorem at134_24 : am_at 134 24 = some (.aload_n 0, 1) := by decide +kernel
theorem at134_25 : am_at 134 25 = some (.getfield 100032, 3) := by decide +kernel
theorem at134_28 : am_at 134 28 = some (.aload_n 0, 1) := by decide +kernel
theorem at134_29 : am_at 134 29 = some (.getfield 100012, 3) := by decide +kernel
theorem at134_32 : am_at 134 32 = some (.getfield 80000, 3) := by decide +kernel
theorem at134_35 : am_at 134 35 = some (.invokevirtual 13, 3) := by decide +kernel
theorem at134_38 : am_at 134 38 = some (.iload_n 1, 1) := by decide +kernel
theorem at134_39 : am_at 134 39 = some (.ifCond .ne 13, 3) := by decide +kernel
theorem at134_42 : am_at 134 42 = some (.aload_n 0, 1) := by decide +kernel
theorem at134_43 : am_at 134 43 = some (.getfield 100092, 3) := by decide +kernel
theorem at134_46 : am_at 134 46 = some (.getfield 30010, 3) := by decide +kernel
theorem at134_49 : am_at 134 49 = some (.goto 10, 3) := by decide +kernel
theorem at134_52 : am_at 134 52 = some (.aload_n 0, 1) := by decide +kernel
theorem at134_53 : am_at 134 53 = some (.getfield 100092, 3) := by decide +kernel
theorem at134_56 : am_at 134 56 = some (.getfield 30020, 3) := by decide +kernel
theorem at134_59 : am_at 134 59 = some (.ireturn, 1) := by decide +kernel
theorem at135_0 : am_at 135 0 = some (.iload_n 1, 1) := by decide +kernel
theorem at135_1 : am_at 135 1 = some (.iconst 0, 1) := by decide +kernel
theorem at135_2 : am_at 135 2 = some (.bipush 60, 2) := by decide +kernel
theorem at135_4 : am_at 135 4 = some (.invokestatic 144, 3) := by decide +kernel
theorem at135_7 : am_at 135 7 = some (.iconst 1, 1) := by decide +kernel
theorem at135_8 : am_at 135 8 = some (.istore_n 2, 1) := by decide +kernel
theorem at135_9 : am_at 135 9 = some (.iload_n 2, 1) := by decide +kernel
theorem at135_10 : am_at 135 10 = some (.bipush 99, 2) := by decide +kernel
theorem at135_12 : am_at 135 12 = some (.if_icmp .gt 34, 3) := by decide +kernel
theorem at135_15 : am_at 135 15 = some (.aload_n 0, 1) := by decide +kernel
theorem at135_16 : am_at 135 16 = some (.getfield 100092, 3) := by decide +kernel
theorem at135_19 : am_at 135 19 = some (.iload_n 2, 1) := by decide +kernel
theorem at135_20 : am_at 135 20 = some (.aload_n 0, 1) := by decide +kernel
theorem at135_21 : am_at 135 21 = some (.getfield 100032, 3) := by decide +kernel
theorem at135_24 : am_at 135 24 = some (.aload_n 0, 1) := by decide +kernel
theorem at135_25 : am_at 135 25 = some (.getfield 100012, 3) := by decide +kernel
theorem at135_28 : am_at 135 28 = some (.getfield 80000, 3) := by decide +kernel
theorem at135_31 : am_at 135 31 = some (.invokevirtual 12, 3) := by decide +kernel
theorem at135_34 : am_at 135 34 = some (.iload_n 1, 1) := by decide +kernel
theorem at135_35 : am_at 135 35 = some (.if_icmp .gt 5, 3) := by decide +kernel
theorem at135_38 : am_at 135 38 = some (.iload_n 2, 1) := by decide +kernel
theorem at135_39 : am_at 135 39 = some (.ireturn, 1) := by decide +kernel
theorem at135_40 : am_at 135 40 = some (.iinc 2 1, 3) := by decide +kernel
theorem at135_43 : am_at 135 43 = some (.goto (-34), 3) := by decide +kernel
theorem at135_46 : am_at 135 46 = some (.iconst (-1), 1) := by decide +kernel
theorem at135_47 : am_at 135 47 = some (.ireturn, 1) := by decide +kernel
theorem at136_0 : am_at 136 0 = some (.iload_n 3, 1) := by decide +kernel
theorem at136_1 : am_at 136 1 = some (.iconst (-1), 1) := by decide +kernel
theorem at136_2 : am_at 136 2 = some (.if_icmp .eq 8, 3) := by decide +kernel
theorem at136_5 : am_at 136 5 = some (.aload_n 0, 1) := by decide +kernel
theorem at136_6 : am_at 136 6 = some (.iload_n 3, 1) := by decide +kernel
theorem at136_7 : am_at 136 7 = some (.invokevirtual 142, 3) := by decide +kernel
theorem at136_10 : am_at 136 10 = some (.iload_n 2, 1) := by decide +kernel
theorem at136_11 : am_at 136 11 = some (.iconst 0, 1) := by decide +kernel
theorem at136_12 : am_at 136 12 = some (.bipush 60, 2) := by decide +kernel
theorem at136_14 : am_at 136 14 = some (.invokestatic 144, 3) := by decide +kernel
theorem at136_17 : am_at 136 17 = some (.aload_n 0, 1) := by decide +kernel
theorem at136_18 : am_at 136 18 = some (.iload_n 1, 1) := by decide +kernel
theorem at136_19 : am_at 136 19 = some (.iload_n 2, 1) := by decide +kernel
theorem at136_20 : am_at 136 20 = some (.invokevirtual 153, 3) := by decide +kernel
theorem at136_23 : am_at 136 23 = some (.istore 4, 2) := by decide +kernel
theorem at136_25 : am_at 136 25 = some (.iload_n 3, 1) := by decide +kernel
theorem at136_26 : am_at 136 26 = some (.iconst (-1), 1) := by decide +kernel
theorem at136_27 : am_at 136 27 = some (.if_icmp .ne 8, 3) := by decide +kernel
theorem at136_30 : am_at 136 30 = some (.iload 4, 2) := by decide +kernel
theorem at136_32 : am_at 136 32 = some (.goto 14, 3) := by decide +kernel
theorem at136_35 : am_at 136 35 = some (.aload_n 0, 1) := by decide +kernel
theorem at136_36 : am_at 136 36 = some (.getfield 100042, 3) := by decide +kernel
theorem at136_39 : am_at 136 39 = some (.iload_n 3, 1) := by decide +kernel
theorem at136_40 : am_at 136 40 = some (.invokevirtual 28, 3) := by decide +kernel
theorem at136_43 : am_at 136 43 = some (.invokestatic 268, 3) := by decide +kernel
theorem at136_46 : am_at 136 46 = some (.ireturn, 1) := by decide +kernel
theorem at137_0 : am_at 137 0 = some (.iload_n 1, 1) := by decide +kernel
theorem at137_1 : am_at 137 1 = some (.iconst 0, 1) := by decide +kernel
theorem at137_2 : am_at 137 2 = some (.bipush 120, 2) := by decide +kernel
theorem at137_4 : am_at 137 4 = some (.invokestatic 144, 3) := by decide +kernel
theorem at137_7 : am_at 137 7 = some (.aload_n 0, 1) := by decide +kernel
theorem at137_8 : am_at 137 8 = some (.getfield 100012, 3) := by decide +kernel
theorem at137_11 : am_at 137 11 = some (.getfield 80000, 3) := by decide +kernel
theorem at137_14 : am_at 137 14 = some (.ifCond .gt 5, 3) := by decide +kernel
theorem at137_17 : am_at 137 17 = some (.iconst 0, 1) := by decide +kernel
theorem at137_18 : am_at 137 18 = some (.ireturn, 1) := by decide +kernel
theorem at137_19 : am_at 137 19 = some (.aload_n 0, 1) := by decide +kernel
theorem at137_20 : am_at 137 20 = some (.getfield 100042, 3) := by decide +kernel
theorem at137_23 : am_at 137 23 = some (.aload_n 0, 1) := by decide +kernel
theorem at137_24 : am_at 137 24 = some (.getfield 100032, 3) := by decide +kernel
theorem at137_27 : am_at 137 27 = some (.invokevirtual 19, 3) := by decide +kernel
theorem at137_30 : am_at 137 30 = some (.aload_n 0, 1) := by decide +kernel
theorem at137_31 : am_at 137 31 = some (.getfield 100042, 3) := by decide +kernel
theorem at137_34 : am_at 137 34 = some (.aload_n 0, 1) := by decide +kernel
theorem at137_35 : am_at 137 35 = some (.getfield 100012, 3) := by decide +kernel
theorem at137_38 : am_at 137 38 = some (.invokevirtual 38, 3) := by decide +kernel
theorem at137_41 : am_at 137 41 = some (.iconst 0, 1) := by decide +kernel
theorem at137_42 : am_at 137 42 = some (.istore_n 2, 1) := by decide +kernel
theorem at137_43 : am_at 137 43 = some (.iload_n 2, 1) := by decide +kernel
theorem at137_44 : am_at 137 44 = some (.aload_n 0, 1) := by decide +kernel
theorem at137_45 : am_at 137 45 = some (.getfield 100012, 3) := by decide +kernel
theorem at137_48 : am_at 137 48 = some (.getfield 80000, 3) := by decide +kernel
theorem at137_51 : am_at 137 51 = some (.if_icmp .ge 37, 3) := by decide +kernel
theorem at137_54 : am_at 137 54 = some (.aload_n 0, 1) := by decide +kernel
theorem at137_55 : am_at 137 55 = some (.getfield 100042, 3) := by decide +kernel
theorem at137_58 : am_at 137 58 = some (.aload_n 0, 1) := by decide +kernel
theorem at137_59 : am_at 137 59 = some (.getfield 100012, 3) := by decide +kernel
theorem at137_62 : am_at 137 62 = some (.iload_n 2, 1) := by decide +kernel
theorem at137_63 : am_at 137 63 = some (.iload_n 1, 1) := by decide +kernel
theorem at137_64 : am_at 137 64 = some (.aload_n 0, 1) := by decide +kernel
theorem at137_65 : am_at 137 65 = some (.getfield 100012, 3) := by decide +kernel
theorem at137_68 : am_at 137 68 = some (.getfield 80000, 3) := by decide +kernel
theorem at137_71 : am_at 137 71 = some (.idiv, 1) := by decide +kernel
theorem at137_72 : am_at 137 72 = some (.aload_n 0, 1) := by decide +kernel
theorem at137_73 : am_at 137 73 = some (.getfield 100012, 3) := by decide +kernel
theorem at137_76 : am_at 137 76 = some (.getfield 80000, 3) := by decide +kernel
theorem at137_79 : am_at 137 79 = some (.invokevirtual 40, 3) := by decide +kernel
theorem at137_82 : am_at 137 82 = some (.iinc 2 1, 3) := by decide +kernel
theorem at137_85 : am_at 137 85 = some (.goto (-42), 3) := by decide +kernel
theorem at137_88 : am_at 137 88 = some (.aload_n 0, 1) := by decide +kernel
theorem at137_89 : am_at 137 89 = some (.getfield 100042, 3) := by decide +kernel
theorem at137_92 : am_at 137 92 = some (.aload_n 0, 1) := by decide +kernel
theorem at137_93 : am_at 137 93 = some (.getfield 100012, 3) := by decide +kernel
theorem at137_96 : am_at 137 96 = some (.invokevirtual 41, 3) := by decide +kernel
theorem at137_99 : am_at 137 99 = some (.pop, 1) := by decide +kernel
theorem at137_100 : am_at 137 100 = some (.aload_n 0, 1) := by decide +kernel
theorem at137_101 : am_at 137 101 = some (.getfield 100042, 3) := by decide +kernel
theorem at137_104 : am_at 137 104 = some (.invokevirtual 31, 3) := by decide +kernel
theorem at137_107 : am_at 137 107 = some (.ireturn, 1) := by decide +kernel
theorem at138_0 : am_at 138 0 = some (.aload_n 0, 1) := by decide +kernel
theorem at138_1 : am_at 138 1 = some (.iload_n 1, 1) := by decide +kernel
theorem at138_2 : am_at 138 2 = some (.invokevirtual 142, 3) := by decide +kernel
theorem at138_5 : am_at 138 5 = some (.iload_n 2, 1) := by decide +kernel
theorem at138_6 : am_at 138 6 = some (.iconst 1, 1) := by decide +kernel
theorem at138_7 : am_at 138 7 = some (.bipush 100, 2) := by decide +kernel
theorem at138_9 : am_at 138 9 = some (.invokestatic 144, 3) := by decide +kernel
theorem at138_12 : am_at 138 12 = some (.aload_n 0, 1) := by decide +kernel
theorem at138_13 : am_at 138 13 = some (.iload_n 2, 1) := by decide +kernel
theorem at138_14 : am_at 138 14 = some (.iconst (-1), 1) := by decide +kernel
theorem at138_15 : am_at 138 15 = some (.invokevirtual 146, 3) := by decide +kernel
theorem at138_18 : am_at 138 18 = some (.aload_n 0, 1) := by decide +kernel
theorem at138_19 : am_at 138 19 = some (.getfield 100042, 3) := by decide +kernel
theorem at138_22 : am_at 138 22 = some (.iload_n 1, 1) := by decide +kernel
theorem at138_23 : am_at 138 23 = some (.invokevirtual 28, 3) := by decide +kernel
theorem at138_26 : am_at 138 26 = some (.invokestatic 268, 3) := by decide +kernel
theorem at138_29 : am_at 138 29 = some (.istore_n 3, 1) := by decide +kernel
theorem at138_30 : am_at 138 30 = some (.aload_n 0, 1) := by decide +kernel
theorem at138_31 : am_at 138 31 = some (.iload_n 2, 1) := by decide +kernel
theorem at138_32 : am_at 138 32 = some (.iload_n 1, 1) := by decide +kernel
theorem at138_33 : am_at 138 33 = some (.invokevirtual 146, 3) := by decide +kernel
theorem at138_36 : am_at 138 36 = some (.iload_n 3, 1) := by decide +kernel
theorem at138_37 : am_at 138 37 = some (.aload_n 0, 1) := by decide +kernel
theorem at138_38 : am_at 138 38 = some (.getfield 100042, 3) := by decide +kernel
theorem at138_41 : am_at 138 41 = some (.iload_n 1, 1) := by decide +kernel
theorem at138_42 : am_at 138 42 = some (.invokevirtual 28, 3) := by decide +kernel
theorem at138_45 : am_at 138 45 = some (.invokestatic 268, 3) := by decide +kernel
theorem at138_48 : am_at 138 48 = some (.isub, 1) := by decide +kernel
theorem at138_49 : am_at 138 49 = some (.ireturn, 1) := by decide +kernel
theorem at139_0 : am_at 139 0 = some (.iload_n 1, 1) := by decide +kernel
theorem at139_1 : am_at 139 1 = some (.iconst 0, 1) := by decide +kernel
theorem at139_2 : am_at 139 2 = some (.bipush 100, 2) := by decide +kernel
theorem at139_4 : am_at 139 4 = some (.invokestatic 144, 3) := by decide +kernel
theorem at139_7 : am_at 139 7 = some (.aload_n 0, 1) := by decide +kernel
theorem at139_8 : am_at 139 8 = some (.iload_n 1, 1) := by decide +kernel
theorem at139_9 : am_at 139 9 = some (.iconst (-1), 1) := by decide +kernel
theorem at139_10 : am_at 139 10 = some (.invokevirtual 146, 3) := by decide +kernel
theorem at139_13 : am_at 139 13 = some (.iconst 0, 1) := by decide +kernel
theorem at139_14 : am_at 139 14 = some (.istore_n 2, 1) := by decide +kernel
theorem at139_15 : am_at 139 15 = some (.iconst 0, 1) := by decide +kernel
theorem at139_16 : am_at 139 16 = some (.istore_n 3, 1) := by decide +kernel
theorem at139_17 : am_at 139 17 = some (.iload_n 3, 1) := by decide +kernel
theorem at139_18 : am_at 139 18 = some (.aload_n 0, 1) := by decide +kernel
theorem at139_19 : am_at 139 19 = some (.getfield 100012, 3) := by decide +kernel
theorem at139_22 : am_at 139 22 = some (.getfield 80000, 3) := by decide +kernel
theorem at139_25 : am_at 139 25 = some (.if_icmp .ge 31, 3) := by decide +kernel
theorem at139_28 : am_at 139 28 = some (.iload_n 2, 1) := by decide +kernel
theorem at139_29 : am_at 139 29 = some (.aload_n 0, 1) := by decide +kernel
theorem at139_30 : am_at 139 30 = some (.getfield 100032, 3) := by decide +kernel
theorem at139_33 : am_at 139 33 = some (.getfield 40012, 3) := by decide +kernel
theorem at139_36 : am_at 139 36 = some (.iload_n 3, 1) := by decide +kernel
theorem at139_37 : am_at 139 37 = some (.iaload, 1) := by decide +kernel
theorem at139_38 : am_at 139 38 = some (.aload_n 0, 1) := by decide +kernel
theorem at139_39 : am_at 139 39 = some (.getfield 100042, 3) := by decide +kernel
theorem at139_42 : am_at 139 42 = some (.getfield 40012, 3) := by decide +kernel
theorem at139_45 : am_at 139 45 = some (.iload_n 3, 1) := by decide +kernel
theorem at139_46 : am_at 139 46 = some (.iaload, 1) := by decide +kernel
theorem at139_47 : am_at 139 47 = some (.isub, 1) := by decide +kernel
theorem at139_48 : am_at 139 48 = some (.iadd, 1) := by decide +kernel
theorem at139_49 : am_at 139 49 = some (.istore_n 2, 1) := by decide +kernel
theorem at139_50 : am_at 139 50 = some (.iinc 3 1, 3) := by decide +kernel
theorem at139_53 : am_at 139 53 = some (.goto (-36), 3) := by decide +kernel
theorem at139_56 : am_at 139 56 = some (.iload_n 2, 1) := by decide +kernel
theorem at139_57 : am_at 139 57 = some (.ireturn, 1) := by decide +kernel
theorem at140_0 : am_at 140 0 = some (.aload_n 0, 1) := by decide +kernel
theorem at140_1 : am_at 140 1 = some (.getfield 100132, 3) := by decide +kernel
theorem at140_4 : am_at 140 4 = some (.aload_n 0, 1) := by decide +kernel
theorem at140_5 : am_at 140 5 = some (.getfield 100032, 3) := by decide +kernel
theorem at140_8 : am_at 140 8 = some (.invokevirtual 19, 3) := by decide +kernel
theorem at140_11 : am_at 140 11 = some (.aload_n 0, 1) := by decide +kernel
theorem at140_12 : am_at 140 12 = some (.getfield 100142, 3) := by decide +kernel
theorem at140_15 : am_at 140 15 = some (.aload_n 0, 1) := by decide +kernel
theorem at140_16 : am_at 140 16 = some (.getfield 100052, 3) := by decide +kernel
theorem at140_19 : am_at 140 19 = some (.invokevirtual 10, 3) := by decide +kernel
theorem at140_22 : am_at 140 22 = some (.aload_n 0, 1) := by decide +kernel
theorem at140_23 : am_at 140 23 = some (.getfield 100152, 3) := by decide +kernel
theorem at140_26 : am_at 140 26 = some (.aload_n 0, 1) := by decide +kernel
theorem at140_27 : am_at 140 27 = some (.getfield 100062, 3) := by decide +kernel
theorem at140_30 : am_at 140 30 = some (.invokevirtual 3, 3) := by decide +kernel
theorem at140_33 : am_at 140 33 = some (.aload_n 0, 1) := by decide +kernel
theorem at140_34 : am_at 140 34 = some (.iconst 1, 1) := by decide +kernel
theorem at140_35 : am_at 140 35 = some (.putfield 100161, 3) := by decide +kernel
theorem at140_38 : am_at 140 38 = some (.return_, 1) := by decide +kernel
theorem at141_0 : am_at 141 0 = some (.aload_n 0, 1) := by decide +kernel
theorem at141_1 : am_at 141 1 = some (.getfield 100161, 3) := by decide +kernel
theorem at141_4 : am_at 141 4 = some (.ifCond .ne 5, 3) := by decide +kernel
theorem at141_7 : am_at 141 7 = some (.iconst 0, 1) := by decide +kernel
theorem at141_8 : am_at 141 8 = some (.ireturn, 1) := by decide +kernel
theorem at141_9 : am_at 141 9 = some (.aload_n 0, 1) := by decide +kernel
theorem at141_10 : am_at 141 10 = some (.getfield 100032, 3) := by decide +kernel
theorem at141_13 : am_at 141 13 = some (.aload_n 0, 1) := by decide +kernel
theorem at141_14 : am_at 141 14 = some (.getfield 100132, 3) := by decide +kernel
theorem at141_17 : am_at 141 17 = some (.invokevirtual 19, 3) := by decide +kernel
theorem at141_20 : am_at 141 20 = some (.aload_n 0, 1) := by decide +kernel
theorem at141_21 : am_at 141 21 = some (.getfield 100052, 3) := by decide +kernel
theorem at141_24 : am_at 141 24 = some (.aload_n 0, 1) := by decide +kernel
theorem at141_25 : am_at 141 25 = some (.getfield 100142, 3) := by decide +kernel
theorem at141_28 : am_at 141 28 = some (.invokevirtual 10, 3) := by decide +kernel
theorem at141_31 : am_at 141 31 = some (.aload_n 0, 1) := by decide +kernel
theorem at141_32 : am_at 141 32 = some (.getfield 100062, 3) := by decide +kernel
theorem at141_35 : am_at 141 35 = some (.aload_n 0, 1) := by decide +kernel
theorem at141_36 : am_at 141 36 = some (.getfield 100152, 3) := by decide +kernel
theorem at141_39 : am_at 141 39 = some (.invokevirtual 3, 3) := by decide +kernel
theorem at141_42 : am_at 141 42 = some (.iconst 1, 1) := by decide +kernel
theorem at141_43 : am_at 141 43 = some (.ireturn, 1) := by decide +kernel
theorem at142_0 : am_at 142 0 = some (.iload_n 1, 1) := by decide +kernel
theorem at142_1 : am_at 142 1 = some (.ifCond .lt 14, 3) := by decide +kernel
theorem at142_4 : am_at 142 4 = some (.iload_n 1, 1) := by decide +kernel
theorem at142_5 : am_at 142 5 = some (.aload_n 0, 1) := by decide +kernel
theorem at142_6 : am_at 142 6 = some (.getfield 100012, 3) := by decide +kernel
theorem at142_9 : am_at 142 9 = some (.getfield 80000, 3) := by decide +kernel
theorem at142_12 : am_at 142 12 = some (.if_icmp .lt 14, 3) := by decide +kernel
theorem at142_15 : am_at 142 15 = some (.new 111, 3) := by decide +kernel
theorem at142_26 : am_at 142 26 = some (.return_, 1) := by decide +kernel
theorem at143_0 : am_at 143 0 = some (.iload_n 1, 1) := by decide +kernel
theorem at143_1 : am_at 143 1 = some (.ifCond .lt 14, 3) := by decide +kernel
theorem at143_4 : am_at 143 4 = some (.iload_n 1, 1) := by decide +kernel
theorem at143_5 : am_at 143 5 = some (.aload_n 0, 1) := by decide +kernel
theorem at143_6 : am_at 143 6 = some (.getfield 100012, 3) := by decide +kernel
theorem at143_9 : am_at 143 9 = some (.getfield 80010, 3) := by decide +kernel
theorem at143_12 : am_at 143 12 = some (.if_icmp .lt 14, 3) := by decide +kernel
theorem at143_15 : am_at 143 15 = some (.new 111, 3) := by decide +kernel
theorem at143_26 : am_at 143 26 = some (.return_, 1) := by decide +kernel
theorem at144_0 : am_at 144 0 = some (.iload_n 0, 1) := by decide +kernel
theorem at144_1 : am_at 144 1 = some (.iload_n 1, 1) := by decide +kernel
theorem at144_2 : am_at 144 2 = some (.if_icmp .lt 8, 3) := by decide +kernel
theorem at144_5 : am_at 144 5 = some (.iload_n 0, 1) := by decide +kernel
theorem at144_6 : am_at 144 6 = some (.iload_n 2, 1) := by decide +kernel
theorem at144_7 : am_at 144 7 = some (.if_icmp .le 14, 3) := by decide +kernel
theorem at144_10 : am_at 144 10 = some (.new 110, 3) := by decide +kernel
theorem at144_21 : am_at 144 21 = some (.return_, 1) := by decide +kernel
theorem at145_0 : am_at 145 0 = some (.iload_n 0, 1) := by decide +kernel
theorem at145_1 : am_at 145 1 = some (.iload_n 1, 1) := by decide +kernel
theorem at145_2 : am_at 145 2 = some (.ishr, 1) := by decide +kernel
theorem at145_3 : am_at 145 3 = some (.iconst 1, 1) := by decide +kernel
theorem at145_4 : am_at 145 4 = some (.iand, 1) := by decide +kernel
theorem at145_5 : am_at 145 5 = some (.ifCond .eq 7, 3) := by decide +kernel
theorem at145_8 : am_at 145 8 = some (.iconst 1, 1) := by decide +kernel
theorem at145_9 : am_at 145 9 = some (.goto 4, 3) := by decide +kernel
theorem at145_12 : am_at 145 12 = some (.iconst 0, 1) := by decide +kernel
theorem at145_13 : am_at 145 13 = some (.ireturn, 1) := by decide +kernel
theorem at146_0 : am_at 146 0 = some (.aload_n 0, 1) := by decide +kernel
theorem at146_1 : am_at 146 1 = some (.getfield 100042, 3) := by decide +kernel
theorem at146_4 : am_at 146 4 = some (.aload_n 0, 1) := by decide +kernel
theorem at146_5 : am_at 146 5 = some (.getfield 100032, 3) := by decide +kernel
theorem at146_8 : am_at 146 8 = some (.invokevirtual 19, 3) := by decide +kernel
theorem at146_11 : am_at 146 11 = some (.iconst 0, 1) := by decide +kernel
theorem at146_12 : am_at 146 12 = some (.istore_n 3, 1) := by decide +kernel
theorem at146_13 : am_at 146 13 = some (.iload_n 3, 1) := by decide +kernel
theorem at146_14 : am_at 146 14 = some (.iload_n 1, 1) := by decide +kernel
theorem at146_15 : am_at 146 15 = some (.if_icmp .ge 22, 3) := by decide +kernel
theorem at146_18 : am_at 146 18 = some (.aload_n 0, 1) := by decide +kernel
theorem at146_19 : am_at 146 19 = some (.getfield 100042, 3) := by decide +kernel
theorem at146_22 : am_at 146 22 = some (.aload_n 0, 1) := by decide +kernel
theorem at146_23 : am_at 146 23 = some (.getfield 100012, 3) := by decide +kernel
theorem at146_26 : am_at 146 26 = some (.iload_n 2, 1) := by decide +kernel
theorem at146_27 : am_at 146 27 = some (.invokevirtual 35, 3) := by decide +kernel
theorem at146_30 : am_at 146 30 = some (.pop, 1) := by decide +kernel
theorem at146_31 : am_at 146 31 = some (.iinc 3 1, 3) := by decide +kernel
theorem at146_34 : am_at 146 34 = some (.goto (-21), 3) := by decide +kernel
theorem at146_37 : am_at 146 37 = some (.return_, 1) := by decide +kernel
theorem at147_0 : am_at 147 0 = some (.aload_n 0, 1) := by decide +kernel
theorem at147_1 : am_at 147 1 = some (.getfield 100042, 3) := by decide +kernel
theorem at147_4 : am_at 147 4 = some (.aload_n 0, 1) := by decide +kernel
theorem at147_5 : am_at 147 5 = some (.getfield 100032, 3) := by decide +kernel
theorem at147_8 : am_at 147 8 = some (.iload_n 1, 1) := by decide +kernel
theorem at147_9 : am_at 147 9 = some (.invokevirtual 20, 3) := by decide +kernel
theorem at147_12 : am_at 147 12 = some (.aload_n 0, 1) := by decide +kernel
theorem at147_13 : am_at 147 13 = some (.getfield 100032, 3) := by decide +kernel
theorem at147_16 : am_at 147 16 = some (.getfield 40000, 3) := by decide +kernel
theorem at147_19 : am_at 147 19 = some (.iload_n 3, 1) := by decide +kernel
theorem at147_20 : am_at 147 20 = some (.iadd, 1) := by decide +kernel
theorem at147_21 : am_at 147 21 = some (.istore 4, 2) := by decide +kernel
theorem at147_23 : am_at 147 23 = some (.iconst 0, 1) := by decide +kernel
theorem at147_24 : am_at 147 24 = some (.istore 5, 2) := by decide +kernel
theorem at147_26 : am_at 147 26 = some (.iload 5, 2) := by decide +kernel
theorem at147_28 : am_at 147 28 = some (.iload_n 3, 1) := by decide +kernel
theorem at147_29 : am_at 147 29 = some (.if_icmp .ge 47, 3) := by decide +kernel
theorem at147_32 : am_at 147 32 = some (.aload_n 0, 1) := by decide +kernel
theorem at147_33 : am_at 147 33 = some (.getfield 100042, 3) := by decide +kernel
theorem at147_36 : am_at 147 36 = some (.iload_n 1, 1) := by decide +kernel
theorem at147_37 : am_at 147 37 = some (.iload 4, 2) := by decide +kernel
theorem at147_39 : am_at 147 39 = some (.invokevirtual 32, 3) := by decide +kernel
theorem at147_42 : am_at 147 42 = some (.ifCond .eq 6, 3) := by decide +kernel
theorem at147_45 : am_at 147 45 = some (.goto 31, 3) := by decide +kernel
theorem at147_48 : am_at 147 48 = some (.aload_n 0, 1) := by decide +kernel
theorem at147_49 : am_at 147 49 = some (.getfield 100042, 3) := by decide +kernel
theorem at147_52 : am_at 147 52 = some (.aload_n 0, 1) := by decide +kernel
theorem at147_53 : am_at 147 53 = some (.getfield 100012, 3) := by decide +kernel
theorem at147_56 : am_at 147 56 = some (.iload_n 1, 1) := by decide +kernel
theorem at147_57 : am_at 147 57 = some (.iload 5, 2) := by decide +kernel
theorem at147_59 : am_at 147 59 = some (.ifCond .ne 7, 3) := by decide +kernel
theorem at147_62 : am_at 147 62 = some (.iload_n 2, 1) := by decide +kernel
theorem at147_63 : am_at 147 63 = some (.goto 4, 3) := by decide +kernel
theorem at147_66 : am_at 147 66 = some (.iconst 0, 1) := by decide +kernel
theorem at147_67 : am_at 147 67 = some (.invokevirtual 43, 3) := by decide +kernel
theorem at147_70 : am_at 147 70 = some (.iinc 5 1, 3) := by decide +kernel
theorem at147_73 : am_at 147 73 = some (.goto (-47), 3) := by decide +kernel
theorem at147_76 : am_at 147 76 = some (.aload_n 0, 1) := by decide +kernel
theorem at147_77 : am_at 147 77 = some (.getfield 100042, 3) := by decide +kernel
theorem at147_80 : am_at 147 80 = some (.iload_n 1, 1) := by decide +kernel
theorem at147_81 : am_at 147 81 = some (.invokevirtual 28, 3) := by decide +kernel
theorem at147_84 : am_at 147 84 = some (.ireturn, 1) := by decide +kernel
theorem at148_0 : am_at 148 0 = some (.iconst 0, 1) := by decide +kernel
theorem at148_1 : am_at 148 1 = some (.istore_n 2, 1) := by decide +kernel
theorem at148_2 : am_at 148 2 = some (.iconst 0, 1) := by decide +kernel
theorem at148_3 : am_at 148 3 = some (.istore_n 3, 1) := by decide +kernel
theorem at148_4 : am_at 148 4 = some (.iload_n 3, 1) := by decide +kernel
theorem at148_5 : am_at 148 5 = some (.aload_n 0, 1) := by decide +kernel
theorem at148_6 : am_at 148 6 = some (.getfield 100012, 3) := by decide +kernel
theorem at148_9 : am_at 148 9 = some (.getfield 80000, 3) := by decide +kernel
theorem at148_12 : am_at 148 12 = some (.if_icmp .ge 26, 3) := by decide +kernel
theorem at148_15 : am_at 148 15 = some (.iload_n 1, 1) := by decide +kernel
theorem at148_16 : am_at 148 16 = some (.iload_n 3, 1) := by decide +kernel
theorem at148_17 : am_at 148 17 = some (.invokestatic 145, 3) := by decide +kernel
theorem at148_20 : am_at 148 20 = some (.ifCond .eq 12, 3) := by decide +kernel
theorem at148_23 : am_at 148 23 = some (.iload_n 2, 1) := by decide +kernel
theorem at148_24 : am_at 148 24 = some (.aload_n 0, 1) := by decide +kernel
theorem at148_25 : am_at 148 25 = some (.getfield 100112, 3) := by decide +kernel
theorem at148_28 : am_at 148 28 = some (.iload_n 3, 1) := by decide +kernel
theorem at148_29 : am_at 148 29 = some (.iaload, 1) := by decide +kernel
theorem at148_30 : am_at 148 30 = some (.ior, 1) := by decide +kernel
theorem at148_31 : am_at 148 31 = some (.istore_n 2, 1) := by decide +kernel
theorem at148_32 : am_at 148 32 = some (.iinc 3 1, 3) := by decide +kernel
theorem at148_35 : am_at 148 35 = some (.goto (-31), 3) := by decide +kernel
theorem at148_38 : am_at 148 38 = some (.iload_n 2, 1) := by decide +kernel
theorem at148_39 : am_at 148 39 = some (.ireturn, 1) := by decide +kernel
theorem at149_0 : am_at 149 0 = some (.iconst 0, 1) := by decide +kernel
theorem at149_1 : am_at 149 1 = some (.istore_n 1, 1) := by decide +kernel
theorem at149_2 : am_at 149 2 = some (.iconst 0, 1) := by decide +kernel
theorem at149_3 : am_at 149 3 = some (.istore_n 2, 1) := by decide +kernel
theorem at149_4 : am_at 149 4 = some (.iload_n 2, 1) := by decide +kernel
theorem at149_5 : am_at 149 5 = some (.aload_n 0, 1) := by decide +kernel
theorem at149_6 : am_at 149 6 = some (.getfield 100012, 3) := by decide +kernel
theorem at149_9 : am_at 149 9 = some (.getfield 80000, 3) := by decide +kernel
theorem at149_12 : am_at 149 12 = some (.if_icmp .ge 21, 3) := by decide +kernel
theorem at149_15 : am_at 149 15 = some (.aload_n 0, 1) := by decide +kernel
theorem at149_16 : am_at 149 16 = some (.getfield 100122, 3) := by decide +kernel
theorem at149_19 : am_at 149 19 = some (.iload_n 2, 1) := by decide +kernel
theorem at149_20 : am_at 149 20 = some (.iaload, 1) := by decide +kernel
theorem at149_21 : am_at 149 21 = some (.ifCond .le 6, 3) := by decide +kernel
theorem at149_24 : am_at 149 24 = some (.iinc 1 1, 3) := by decide +kernel
theorem at149_27 : am_at 149 27 = some (.iinc 2 1, 3) := by decide +kernel
theorem at149_30 : am_at 149 30 = some (.goto (-26), 3) := by decide +kernel
theorem at149_33 : am_at 149 33 = some (.iload_n 1, 1) := by decide +kernel
theorem at149_34 : am_at 149 34 = some (.ireturn, 1) := by decide +kernel
theorem at150_0 : am_at 150 0 = some (.iconst 0, 1) := by decide +kernel
theorem at150_1 : am_at 150 1 = some (.istore_n 1, 1) := by decide +kernel
theorem at150_2 : am_at 150 2 = some (.iconst 0, 1) := by decide +kernel
theorem at150_3 : am_at 150 3 = some (.istore_n 2, 1) := by decide +kernel
theorem at150_4 : am_at 150 4 = some (.iload_n 2, 1) := by decide +kernel
theorem at150_5 : am_at 150 5 = some (.aload_n 0, 1) := by decide +kernel
theorem at150_6 : am_at 150 6 = some (.getfield 100012, 3) := by decide +kernel
theorem at150_9 : am_at 150 9 = some (.getfield 80000, 3) := by decide +kernel
theorem at150_12 : am_at 150 12 = some (.if_icmp .ge 27, 3) := by decide +kernel
theorem at150_15 : am_at 150 15 = some (.aload_n 0, 1) := by decide +kernel
theorem at150_16 : am_at 150 16 = some (.getfield 100122, 3) := by decide +kernel
theorem at150_19 : am_at 150 19 = some (.iload_n 2, 1) := by decide +kernel
theorem at150_20 : am_at 150 20 = some (.iaload, 1) := by decide +kernel
theorem at150_21 : am_at 150 21 = some (.ifCond .le 12, 3) := by decide +kernel
theorem at150_24 : am_at 150 24 = some (.iload_n 1, 1) := by decide +kernel
theorem at150_25 : am_at 150 25 = some (.aload_n 0, 1) := by decide +kernel
theorem at150_26 : am_at 150 26 = some (.getfield 100122, 3) := by decide +kernel
theorem at150_29 : am_at 150 29 = some (.iload_n 2, 1) := by decide +kernel
theorem at150_30 : am_at 150 30 = some (.iaload, 1) := by decide +kernel
theorem at150_31 : am_at 150 31 = some (.iadd, 1) := by decide +kernel
theorem at150_32 : am_at 150 32 = some (.istore_n 1, 1) := by decide +kernel
theorem at150_33 : am_at 150 33 = some (.iinc 2 1, 3) := by decide +kernel
theorem at150_36 : am_at 150 36 = some (.goto (-32), 3) := by decide +kernel
theorem at150_39 : am_at 150 39 = some (.iload_n 1, 1) := by decide +kernel
theorem at150_40 : am_at 150 40 = some (.ireturn, 1) := by decide +kernel
theorem at151_0 : am_at 151 0 = some (.iconst 0, 1) := by decide +kernel
theorem at151_1 : am_at 151 1 = some (.istore_n 3, 1) := by decide +kernel
theorem at151_2 : am_at 151 2 = some (.iconst 0, 1) := by decide +kernel
theorem at151_3 : am_at 151 3 = some (.istore 4, 2) := by decide +kernel
theorem at151_5 : am_at 151 5 = some (.iload 4, 2) := by decide +kernel
theorem at151_7 : am_at 151 7 = some (.aload_n 0, 1) := by decide +kernel
theorem at151_8 : am_at 151 8 = some (.getfield 100012, 3) := by decide +kernel
theorem at151_11 : am_at 151 11 = some (.getfield 80010, 3) := by decide +kernel
theorem at151_14 : am_at 151 14 = some (.if_icmp .ge 81, 3) := by decide +kernel
theorem at151_17 : am_at 151 17 = some (.aload_n 0, 1) := by decide +kernel
theorem at151_18 : am_at 151 18 = some (.getfield 100012, 3) := by decide +kernel
theorem at151_21 : am_at 151 21 = some (.iload 4, 2) := by decide +kernel
theorem at151_23 : am_at 151 23 = some (.aload_n 1, 1) := by decide +kernel
theorem at151_24 : am_at 151 24 = some (.iload 4, 2) := by decide +kernel
theorem at151_26 : am_at 151 26 = some (.invokevirtual 30, 3) := by decide +kernel
theorem at151_29 : am_at 151 29 = some (.invokevirtual 89, 3) := by decide +kernel
theorem at151_32 : am_at 151 32 = some (.ifCond .eq 57, 3) := by decide +kernel
theorem at151_35 : am_at 151 35 = some (.aload_n 0, 1) := by decide +kernel
theorem at151_36 : am_at 151 36 = some (.getfield 100012, 3) := by decide +kernel
theorem at151_39 : am_at 151 39 = some (.getfield 80102, 3) := by decide +kernel
theorem at151_42 : am_at 151 42 = some (.iload 4, 2) := by decide +kernel
theorem at151_44 : am_at 151 44 = some (.iaload, 1) := by decide +kernel
theorem at151_45 : am_at 151 45 = some (.iload_n 2, 1) := by decide +kernel
theorem at151_46 : am_at 151 46 = some (.if_icmp .ne 16, 3) := by decide +kernel
theorem at151_49 : am_at 151 49 = some (.iload_n 3, 1) := by decide +kernel
theorem at151_50 : am_at 151 50 = some (.aload_n 0, 1) := by decide +kernel
theorem at151_51 : am_at 151 51 = some (.getfield 100012, 3) := by decide +kernel
theorem at151_54 : am_at 151 54 = some (.getfield 80122, 3) := by decide +kernel
theorem at151_57 : am_at 151 57 = some (.iload 4, 2) := by decide +kernel
theorem at151_59 : am_at 151 59 = some (.iaload, 1) := by decide +kernel
theorem at151_60 : am_at 151 60 = some (.iadd, 1) := by decide +kernel
theorem at151_61 : am_at 151 61 = some (.istore_n 3, 1) := by decide +kernel
theorem at151_62 : am_at 151 62 = some (.aload_n 0, 1) := by decide +kernel
theorem at151_63 : am_at 151 63 = some (.getfield 100012, 3) := by decide +kernel
theorem at151_66 : am_at 151 66 = some (.getfield 80112, 3) := by decide +kernel
theorem at151_69 : am_at 151 69 = some (.iload 4, 2) := by decide +kernel
theorem at151_71 : am_at 151 71 = some (.iaload, 1) := by decide +kernel
theorem at151_72 : am_at 151 72 = some (.iload_n 2, 1) := by decide +kernel
theorem at151_73 : am_at 151 73 = some (.if_icmp .ne 16, 3) := by decide +kernel
theorem at151_76 : am_at 151 76 = some (.iload_n 3, 1) := by decide +kernel
theorem at151_77 : am_at 151 77 = some (.aload_n 0, 1) := by decide +kernel
theorem at151_78 : am_at 151 78 = some (.getfield 100012, 3) := by decide +kernel
theorem at151_81 : am_at 151 81 = some (.getfield 80122, 3) := by decide +kernel
theorem at151_84 : am_at 151 84 = some (.iload 4, 2) := by decide +kernel
theorem at151_86 : am_at 151 86 = some (.iaload, 1) := by decide +kernel
theorem at151_87 : am_at 151 87 = some (.isub, 1) := by decide +kernel
theorem at151_88 : am_at 151 88 = some (.istore_n 3, 1) := by decide +kernel
theorem at151_89 : am_at 151 89 = some (.iinc 4 1, 3) := by decide +kernel
theorem at151_92 : am_at 151 92 = some (.goto (-87), 3) := by decide +kernel
theorem at151_95 : am_at 151 95 = some (.iload_n 3, 1) := by decide +kernel
theorem at151_96 : am_at 151 96 = some (.ireturn, 1) := by decide +kernel
theorem at152_0 : am_at 152 0 = some (.iconst 0, 1) := by decide +kernel
theorem at152_1 : am_at 152 1 = some (.istore_n 2, 1) := by decide +kernel
theorem at152_2 : am_at 152 2 = some (.iconst 0, 1) := by decide +kernel
theorem at152_3 : am_at 152 3 = some (.istore_n 3, 1) := by decide +kernel
theorem at152_4 : am_at 152 4 = some (.iload_n 3, 1) := by decide +kernel
theorem at152_5 : am_at 152 5 = some (.bipush 20, 2) := by decide +kernel
theorem at152_7 : am_at 152 7 = some (.if_icmp .gt 33, 3) := by decide +kernel
theorem at152_10 : am_at 152 10 = some (.aload_n 0, 1) := by decide +kernel
theorem at152_11 : am_at 152 11 = some (.getfield 100062, 3) := by decide +kernel
theorem at152_14 : am_at 152 14 = some (.iload_n 1, 1) := by decide +kernel
theorem at152_15 : am_at 152 15 = some (.aload_n 0, 1) := by decide +kernel
theorem at152_16 : am_at 152 16 = some (.iload_n 1, 1) := by decide +kernel
theorem at152_17 : am_at 152 17 = some (.iload_n 3, 1) := by decide +kernel
theorem at152_18 : am_at 152 18 = some (.iconst 1, 1) := by decide +kernel
theorem at152_19 : am_at 152 19 = some (.invokevirtual 147, 3) := by decide +kernel
theorem at152_22 : am_at 152 22 = some (.invokevirtual 2, 3) := by decide +kernel
theorem at152_25 : am_at 152 25 = some (.ifCond .eq 9, 3) := by decide +kernel
theorem at152_28 : am_at 152 28 = some (.iload_n 2, 1) := by decide +kernel
theorem at152_29 : am_at 152 29 = some (.iconst 1, 1) := by decide +kernel
theorem at152_30 : am_at 152 30 = some (.iload_n 3, 1) := by decide +kernel
theorem at152_31 : am_at 152 31 = some (.ishl, 1) := by decide +kernel
theorem at152_32 : am_at 152 32 = some (.ior, 1) := by decide +kernel
theorem at152_33 : am_at 152 33 = some (.istore_n 2, 1) := by decide +kernel
theorem at152_34 : am_at 152 34 = some (.iinc 3 1, 3) := by decide +kernel
theorem at152_37 : am_at 152 37 = some (.goto (-33), 3) := by decide +kernel
theorem at152_40 : am_at 152 40 = some (.iload_n 2, 1) := by decide +kernel
theorem at152_41 : am_at 152 41 = some (.ireturn, 1) := by decide +kernel
theorem at153_0 : am_at 153 0 = some (.aload_n 0, 1) := by decide +kernel
theorem at153_1 : am_at 153 1 = some (.getfield 100042, 3) := by decide +kernel
theorem at153_4 : am_at 153 4 = some (.aload_n 0, 1) := by decide +kernel
theorem at153_5 : am_at 153 5 = some (.getfield 100032, 3) := by decide +kernel
theorem at153_8 : am_at 153 8 = some (.invokevirtual 19, 3) := by decide +kernel
theorem at153_11 : am_at 153 11 = some (.iload_n 1, 1) := by decide +kernel
theorem at153_12 : am_at 153 12 = some (.istore_n 3, 1) := by decide +kernel
theorem at153_13 : am_at 153 13 = some (.iconst 0, 1) := by decide +kernel
theorem at153_14 : am_at 153 14 = some (.istore 4, 2) := by decide +kernel
theorem at153_16 : am_at 153 16 = some (.iconst 0, 1) := by decide +kernel
theorem at153_17 : am_at 153 17 = some (.istore 5, 2) := by decide +kernel
theorem at153_19 : am_at 153 19 = some (.iload 5, 2) := by decide +kernel
theorem at153_21 : am_at 153 21 = some (.iload_n 2, 1) := by decide +kernel
theorem at153_22 : am_at 153 22 = some (.if_icmp .ge 157, 3) := by decide +kernel
theorem at153_25 : am_at 153 25 = some (.aload_n 0, 1) := by decide +kernel
theorem at153_26 : am_at 153 26 = some (.getfield 100012, 3) := by decide +kernel
theorem at153_29 : am_at 153 29 = some (.getfield 80000, 3) := by decide +kernel
theorem at153_32 : am_at 153 32 = some (.ifCond .le 42, 3) := by decide +kernel
theorem at153_35 : am_at 153 35 = some (.iload_n 3, 1) := by decide +kernel
theorem at153_36 : am_at 153 36 = some (.invokestatic 154, 3) := by decide +kernel
theorem at153_39 : am_at 153 39 = some (.istore_n 3, 1) := by decide +kernel
theorem at153_40 : am_at 153 40 = some (.iload_n 3, 1) := by decide +kernel
theorem at153_41 : am_at 153 41 = some (.aload_n 0, 1) := by decide +kernel
theorem at153_42 : am_at 153 42 = some (.getfield 100012, 3) := by decide +kernel
theorem at153_45 : am_at 153 45 = some (.getfield 80000, 3) := by decide +kernel
theorem at153_48 : am_at 153 48 = some (.invokestatic 155, 3) := by decide +kernel
theorem at153_51 : am_at 153 51 = some (.istore 6, 2) := by decide +kernel
theorem at153_53 : am_at 153 53 = some (.iload_n 3, 1) := by decide +kernel
theorem at153_54 : am_at 153 54 = some (.invokestatic 154, 3) := by decide +kernel
theorem at153_57 : am_at 153 57 = some (.istore_n 3, 1) := by decide +kernel
theorem at153_58 : am_at 153 58 = some (.aload_n 0, 1) := by decide +kernel
theorem at153_59 : am_at 153 59 = some (.getfield 100042, 3) := by decide +kernel
theorem at153_62 : am_at 153 62 = some (.getfield 40032, 3) := by decide +kernel
theorem at153_65 : am_at 153 65 = some (.iload 6, 2) := by decide +kernel
theorem at153_67 : am_at 153 67 = some (.iload_n 3, 1) := by decide +kernel
theorem at153_68 : am_at 153 68 = some (.bipush 6, 2) := by decide +kernel
theorem at153_70 : am_at 153 70 = some (.invokestatic 155, 3) := by decide +kernel
theorem at153_73 : am_at 153 73 = some (.iastore, 1) := by decide +kernel
theorem at153_74 : am_at 153 74 = some (.aload_n 0, 1) := by decide +kernel
theorem at153_75 : am_at 153 75 = some (.getfield 100012, 3) := by decide +kernel
theorem at153_78 : am_at 153 78 = some (.getfield 80020, 3) := by decide +kernel
theorem at153_81 : am_at 153 81 = some (.ifCond .le 75, 3) := by decide +kernel
theorem at153_84 : am_at 153 84 = some (.iload_n 3, 1) := by decide +kernel
theorem at153_85 : am_at 153 85 = some (.invokestatic 154, 3) := by decide +kernel
theorem at153_88 : am_at 153 88 = some (.istore_n 3, 1) := by decide +kernel
theorem at153_89 : am_at 153 89 = some (.iload_n 3, 1) := by decide +kernel
theorem at153_90 : am_at 153 90 = some (.aload_n 0, 1) := by decide +kernel
theorem at153_91 : am_at 153 91 = some (.getfield 100012, 3) := by decide +kernel
theorem at153_94 : am_at 153 94 = some (.getfield 80020, 3) := by decide +kernel
theorem at153_97 : am_at 153 97 = some (.invokestatic 155, 3) := by decide +kernel
theorem at153_100 : am_at 153 100 = some (.istore 6, 2) := by decide +kernel
theorem at153_102 : am_at 153 102 = some (.aload_n 0, 1) := by decide +kernel
theorem at153_103 : am_at 153 103 = some (.getfield 100042, 3) := by decide +kernel
theorem at153_106 : am_at 153 106 = some (.aload_n 0, 1) := by decide +kernel
theorem at153_107 : am_at 153 107 = some (.getfield 100012, 3) := by decide +kernel
theorem at153_110 : am_at 153 110 = some (.getfield 80132, 3) := by decide +kernel
theorem at153_113 : am_at 153 113 = some (.iload 6, 2) := by decide +kernel
theorem at153_115 : am_at 153 115 = some (.iaload, 1) := by decide +kernel
theorem at153_116 : am_at 153 116 = some (.aload_n 0, 1) := by decide +kernel
theorem at153_117 : am_at 153 117 = some (.getfield 100012, 3) := by decide +kernel
theorem at153_120 : am_at 153 120 = some (.getfield 80142, 3) := by decide +kernel
theorem at153_123 : am_at 153 123 = some (.iload 6, 2) := by decide +kernel
theorem at153_125 : am_at 153 125 = some (.iaload, 1) := by decide +kernel
theorem at153_126 : am_at 153 126 = some (.invokevirtual 34, 3) := by decide +kernel
theorem at153_129 : am_at 153 129 = some (.aload_n 0, 1) := by decide +kernel
theorem at153_130 : am_at 153 130 = some (.getfield 100042, 3) := by decide +kernel
theorem at153_133 : am_at 153 133 = some (.aload_n 0, 1) := by decide +kernel
theorem at153_134 : am_at 153 134 = some (.getfield 100012, 3) := by decide +kernel
theorem at153_137 : am_at 153 137 = some (.getfield 80142, 3) := by decide +kernel
theorem at153_140 : am_at 153 140 = some (.iload 6, 2) := by decide +kernel
theorem at153_142 : am_at 153 142 = some (.iaload, 1) := by decide +kernel
theorem at153_143 : am_at 153 143 = some (.aload_n 0, 1) := by decide +kernel
theorem at153_144 : am_at 153 144 = some (.getfield 100012, 3) := by decide +kernel
theorem at153_147 : am_at 153 147 = some (.getfield 80132, 3) := by decide +kernel
theorem at153_150 : am_at 153 150 = some (.iload 6, 2) := by decide +kernel
theorem at153_152 : am_at 153 152 = some (.iaload, 1) := by decide +kernel
theorem at153_153 : am_at 153 153 = some (.invokevirtual 34, 3) := by decide +kernel
theorem at153_156 : am_at 153 156 = some (.iload 4, 2) := by decide +kernel
theorem at153_158 : am_at 153 158 = some (.aload_n 0, 1) := by decide +kernel
theorem at153_159 : am_at 153 159 = some (.getfield 100042, 3) := by decide +kernel
theorem at153_162 : am_at 153 162 = some (.aload_n 0, 1) := by decide +kernel
theorem at153_163 : am_at 153 163 = some (.getfield 100012, 3) := by decide +kernel
theorem at153_166 : am_at 153 166 = some (.iconst (-1), 1) := by decide +kernel
theorem at153_167 : am_at 153 167 = some (.invokevirtual 35, 3) := by decide +kernel
theorem at153_170 : am_at 153 170 = some (.iadd, 1) := by decide +kernel
theorem at153_171 : am_at 153 171 = some (.istore 4, 2) := by decide +kernel
theorem at153_173 : am_at 153 173 = some (.iinc 5 1, 3) := by decide +kernel
theorem at153_176 : am_at 153 176 = some (.goto (-157), 3) := by decide +kernel
theorem at153_179 : am_at 153 179 = some (.iload 4, 2) := by decide +kernel
theorem at153_181 : am_at 153 181 = some (.ireturn, 1) := by decide +kernel
theorem at154_0 : am_at 154 0 = some (.iload_n 0, 1) := by decide +kernel
theorem at154_1 : am_at 154 1 = some (.ldc_w 1103515245, 3) := by decide +kernel
theorem at154_4 : am_at 154 4 = some (.imul, 1) := by decide +kernel
theorem at154_5 : am_at 154 5 = some (.sipush 12345, 3) := by decide +kernel
theorem at154_8 : am_at 154 8 = some (.iadd, 1) := by decide +kernel
theorem at154_9 : am_at 154 9 = some (.ireturn, 1) := by decide +kernel
theorem at155_0 : am_at 155 0 = some (.iload_n 1, 1) := by decide +kernel
theorem at155_1 : am_at 155 1 = some (.ifCond .gt 7, 3) := by decide +kernel
theorem at155_4 : am_at 155 4 = some (.iconst 0, 1) := by decide +kernel
theorem at155_5 : am_at 155 5 = some (.goto 13, 3) := by decide +kernel
theorem at155_8 : am_at 155 8 = some (.iload_n 0, 1) := by decide +kernel
theorem at155_9 : am_at 155 9 = some (.bipush 16, 2) := by decide +kernel
theorem at155_11 : am_at 155 11 = some (.ishr, 1) := by decide +kernel
theorem at155_12 : am_at 155 12 = some (.sipush 32767, 3) := by decide +kernel
theorem at155_15 : am_at 155 15 = some (.iand, 1) := by decide +kernel
theorem at155_16 : am_at 155 16 = some (.iload_n 1, 1) := by decide +kernel
theorem at155_17 : am_at 155 17 = some (.irem, 1) := by decide +kernel
theorem at155_18 : am_at 155 18 = some (.ireturn, 1) := by decide +kernel
theorem at156_0 : am_at 156 0 = some (.aload_n 0, 1) := by decide +kernel
theorem at156_1 : am_at 156 1 = some (.invokespecial 1000, 3) := by decide +kernel
theorem at156_4 : am_at 156 4 = some (.aload_n 0, 1) := by decide +kernel
theorem at156_5 : am_at 156 5 = some (.iconst (-1), 1) := by decide +kernel
theorem at156_6 : am_at 156 6 = some (.putfield 110050, 3) := by decide +kernel
theorem at156_9 : am_at 156 9 = some (.aload_n 0, 1) := by decide +kernel
theorem at156_10 : am_at 156 10 = some (.bipush 60, 2) := by decide +kernel
theorem at156_12 : am_at 156 12 = some (.newarray .int, 2) := by decide +kernel
theorem at156_14 : am_at 156 14 = some (.putfield 110062, 3) := by decide +kernel
theorem at156_17 : am_at 156 17 = some (.aload_n 0, 1) := by decide +kernel
theorem at156_18 : am_at 156 18 = some (.bipush 20, 2) := by decide +kernel
theorem at156_20 : am_at 156 20 = some (.newarray .int, 2) := by decide +kernel
theorem at156_22 : am_at 156 22 = some (.putfield 110072, 3) := by decide +kernel
theorem at156_25 : am_at 156 25 = some (.aload_n 0, 1) := by decide +kernel
theorem at156_26 : am_at 156 26 = some (.bipush 16, 2) := by decide +kernel
theorem at156_28 : am_at 156 28 = some (.newarray .int, 2) := by decide +kernel
theorem at156_30 : am_at 156 30 = some (.putfield 110082, 3) := by decide +kernel
theorem at156_33 : am_at 156 33 = some (.aload_n 0, 1) := by decide +kernel
theorem at156_34 : am_at 156 34 = some (.bipush 6, 2) := by decide +kernel
theorem at156_36 : am_at 156 36 = some (.newarray .int, 2) := by decide +kernel
theorem at156_38 : am_at 156 38 = some (.putfield 110092, 3) := by decide +kernel
theorem at156_41 : am_at 156 41 = some (.aload_n 0, 1) := by decide +kernel
theorem at156_42 : am_at 156 42 = some (.bipush 6, 2) := by decide +kernel
theorem at156_44 : am_at 156 44 = some (.newarray .int, 2) := by decide +kernel
theorem at156_46 : am_at 156 46 = some (.putfield 110102, 3) := by decide +kernel
theorem at156_49 : am_at 156 49 = some (.aload_n 0, 1) := by decide +kernel
theorem at156_50 : am_at 156 50 = some (.sipush 1900, 3) := by decide +kernel
theorem at156_53 : am_at 156 53 = some (.newarray .int, 2) := by decide +kernel
theorem at156_55 : am_at 156 55 = some (.putfield 110112, 3) := by decide +kernel
theorem at156_58 : am_at 156 58 = some (.aload_n 0, 1) := by decide +kernel
theorem at156_59 : am_at 156 59 = some (.sipush 700, 3) := by decide +kernel
theorem at156_62 : am_at 156 62 = some (.newarray .int, 2) := by decide +kernel
theorem at156_64 : am_at 156 64 = some (.putfield 110122, 3) := by decide +kernel
theorem at156_67 : am_at 156 67 = some (.aload_n 0, 1) := by decide +kernel
theorem at156_68 : am_at 156 68 = some (.iconst (-1), 1) := by decide +kernel
theorem at156_69 : am_at 156 69 = some (.putfield 110150, 3) := by decide +kernel
theorem at156_72 : am_at 156 72 = some (.aload_n 0, 1) := by decide +kernel
theorem at156_73 : am_at 156 73 = some (.iconst 3, 1) := by decide +kernel
theorem at156_74 : am_at 156 74 = some (.newarray .int, 2) := by decide +kernel
theorem at156_76 : am_at 156 76 = some (.putfield 110162, 3) := by decide +kernel
theorem at156_79 : am_at 156 79 = some (.aload_n 0, 1) := by decide +kernel
theorem at156_80 : am_at 156 80 = some (.bipush 60, 2) := by decide +kernel
theorem at156_82 : am_at 156 82 = some (.newarray .int, 2) := by decide +kernel
theorem at156_84 : am_at 156 84 = some (.putfield 110332, 3) := by decide +kernel
theorem at156_87 : am_at 156 87 = some (.aload_n 0, 1) := by decide +kernel
theorem at156_88 : am_at 156 88 = some (.bipush 20, 2) := by decide +kernel
theorem at156_90 : am_at 156 90 = some (.newarray .int, 2) := by decide +kernel
theorem at156_92 : am_at 156 92 = some (.putfield 110342, 3) := by decide +kernel
theorem at156_95 : am_at 156 95 = some (.aload_n 0, 1) := by decide +kernel
theorem at156_96 : am_at 156 96 = some (.bipush 16, 2) := by decide +kernel
theorem at156_98 : am_at 156 98 = some (.newarray .int, 2) := by decide +kernel
theorem at156_100 : am_at 156 100 = some (.putfield 110352, 3) := by decide +kernel
theorem at156_103 : am_at 156 103 = some (.aload_n 0, 1) := by decide +kernel
theorem at156_104 : am_at 156 104 = some (.bipush 6, 2) := by decide +kernel
theorem at156_106 : am_at 156 106 = some (.newarray .int, 2) := by decide +kernel
theorem at156_108 : am_at 156 108 = some (.putfield 110362, 3) := by decide +kernel
theorem at156_111 : am_at 156 111 = some (.aload_n 0, 1) := by decide +kernel
theorem at156_112 : am_at 156 112 = some (.bipush 6, 2) := by decide +kernel
theorem at156_114 : am_at 156 114 = some (.newarray .int, 2) := by decide +kernel
theorem at156_116 : am_at 156 116 = some (.putfield 110372, 3) := by decide +kernel
theorem at156_119 : am_at 156 119 = some (.aload_n 0, 1) := by decide +kernel
theorem at156_120 : am_at 156 120 = some (.sipush 1900, 3) := by decide +kernel
theorem at156_123 : am_at 156 123 = some (.newarray .int, 2) := by decide +kernel
theorem at156_125 : am_at 156 125 = some (.putfield 110382, 3) := by decide +kernel
theorem at156_128 : am_at 156 128 = some (.aload_n 0, 1) := by decide +kernel
theorem at156_129 : am_at 156 129 = some (.sipush 950, 3) := by decide +kernel
theorem at156_132 : am_at 156 132 = some (.newarray .int, 2) := by decide +kernel
theorem at156_134 : am_at 156 134 = some (.putfield 110392, 3) := by decide +kernel
theorem at156_137 : am_at 156 137 = some (.aload_n 0, 1) := by decide +kernel
theorem at156_138 : am_at 156 138 = some (.bipush 9, 2) := by decide +kernel
theorem at156_140 : am_at 156 140 = some (.newarray .boolean, 2) := by decide +kernel
theorem at156_142 : am_at 156 142 = some (.putfield 110402, 3) := by decide +kernel
theorem at156_145 : am_at 156 145 = some (.aload_n 0, 1) := by decide +kernel
theorem at156_146 : am_at 156 146 = some (.sipush 139, 3) := by decide +kernel
theorem at156_149 : am_at 156 149 = some (.newarray .int, 2) := by decide +kernel
theorem at156_151 : am_at 156 151 = some (.putfield 110412, 3) := by decide +kernel
theorem at156_154 : am_at 156 154 = some (.aload_n 0, 1) := by decide +kernel
theorem at156_155 : am_at 156 155 = some (.sipush 139, 3) := by decide +kernel
theorem at156_158 : am_at 156 158 = some (.newarray .int, 2) := by decide +kernel
theorem at156_160 : am_at 156 160 = some (.putfield 110422, 3) := by decide +kernel
theorem at156_163 : am_at 156 163 = some (.aload_n 0, 1) := by decide +kernel
theorem at156_164 : am_at 156 164 = some (.sipush 5560, 3) := by decide +kernel
theorem at156_167 : am_at 156 167 = some (.newarray .int, 2) := by decide +kernel
theorem at156_169 : am_at 156 169 = some (.putfield 110432, 3) := by decide +kernel
theorem at156_172 : am_at 156 172 = some (.aload_n 0, 1) := by decide +kernel
theorem at156_173 : am_at 156 173 = some (.bipush 7, 2) := by decide +kernel
theorem at156_175 : am_at 156 175 = some (.newarray .int, 2) := by decide +kernel
theorem at156_177 : am_at 156 177 = some (.putfield 110452, 3) := by decide +kernel
theorem at156_180 : am_at 156 180 = some (.aload_n 0, 1) := by decide +kernel
theorem at156_181 : am_at 156 181 = some (.sipush 950, 3) := by decide +kernel
theorem at156_184 : am_at 156 184 = some (.newarray .int, 2) := by decide +kernel
theorem at156_186 : am_at 156 186 = some (.putfield 110462, 3) := by decide +kernel
theorem at156_189 : am_at 156 189 = some (.aload_n 0, 1) := by decide +kernel
theorem at156_190 : am_at 156 190 = some (.iconst 4, 1) := by decide +kernel
theorem at156_191 : am_at 156 191 = some (.newarray .int, 2) := by decide +kernel
theorem at156_193 : am_at 156 193 = some (.putfield 110472, 3) := by decide +kernel
theorem at156_196 : am_at 156 196 = some (.aload_n 0, 1) := by decide +kernel
theorem at156_197 : am_at 156 197 = some (.iconst 4, 1) := by decide +kernel
theorem at156_198 : am_at 156 198 = some (.newarray .int, 2) := by decide +kernel
theorem at156_200 : am_at 156 200 = some (.putfield 110482, 3) := by decide +kernel
theorem at156_203 : am_at 156 203 = some (.aload_n 0, 1) := by decide +kernel
theorem at156_204 : am_at 156 204 = some (.iconst (-1), 1) := by decide +kernel
theorem at156_205 : am_at 156 205 = some (.putfield 110490, 3) := by decide +kernel
theorem at156_208 : am_at 156 208 = some (.aload_n 0, 1) := by decide +kernel
theorem at156_209 : am_at 156 209 = some (.iconst (-1), 1) := by decide +kernel
theorem at156_210 : am_at 156 210 = some (.putfield 110500, 3) := by decide +kernel
theorem at156_213 : am_at 156 213 = some (.aload_n 0, 1) := by decide +kernel
theorem at156_214 : am_at 156 214 = some (.iconst (-1), 1) := by decide +kernel
theorem at156_215 : am_at 156 215 = some (.putfield 110510, 3) := by decide +kernel
theorem at156_218 : am_at 156 218 = some (.aload_n 0, 1) := by decide +kernel
theorem at156_219 : am_at 156 219 = some (.iconst 5, 1) := by decide +kernel
theorem at156_220 : am_at 156 220 = some (.newarray .int, 2) := by decide +kernel
theorem at156_222 : am_at 156 222 = some (.putfield 110522, 3) := by decide +kernel
theorem at156_225 : am_at 156 225 = some (.aload_n 0, 1) := by decide +kernel
theorem at156_226 : am_at 156 226 = some (.iconst 5, 1) := by decide +kernel
theorem at156_227 : am_at 156 227 = some (.newarray .int, 2) := by decide +kernel
theorem at156_229 : am_at 156 229 = some (.putfield 110532, 3) := by decide +kernel
theorem at156_232 : am_at 156 232 = some (.aload_n 0, 1) := by decide +kernel
theorem at156_233 : am_at 156 233 = some (.bipush 6, 2) := by decide +kernel
theorem at156_235 : am_at 156 235 = some (.newarray .int, 2) := by decide +kernel
theorem at156_237 : am_at 156 237 = some (.putfield 110542, 3) := by decide +kernel
theorem at156_240 : am_at 156 240 = some (.aload_n 0, 1) := by decide +kernel
theorem at156_241 : am_at 156 241 = some (.bipush 126, 2) := by decide +kernel
theorem at156_243 : am_at 156 243 = some (.newarray .int, 2) := by decide +kernel
theorem at156_245 : am_at 156 245 = some (.putfield 110552, 3) := by decide +kernel
theorem at156_248 : am_at 156 248 = some (.aload_n 0, 1) := by decide +kernel
theorem at156_249 : am_at 156 249 = some (.sipush 217, 3) := by decide +kernel
theorem at156_252 : am_at 156 252 = some (.newarray .int, 2) := by decide +kernel
theorem at156_254 : am_at 156 254 = some (.putfield 110562, 3) := by decide +kernel
theorem at156_257 : am_at 156 257 = some (.aload_n 0, 1) := by decide +kernel
theorem at156_258 : am_at 156 258 = some (.bipush 6, 2) := by decide +kernel
theorem at156_260 : am_at 156 260 = some (.newarray .int, 2) := by decide +kernel
theorem at156_262 : am_at 156 262 = some (.putfield 110572, 3) := by decide +kernel
theorem at156_265 : am_at 156 265 = some (.aload_n 0, 1) := by decide +kernel
theorem at156_266 : am_at 156 266 = some (.bipush 24, 2) := by decide +kernel
theorem at156_268 : am_at 156 268 = some (.newarray .int, 2) := by decide +kernel
theorem at156_270 : am_at 156 270 = some (.putfield 110602, 3) := by decide +kernel
theorem at156_273 : am_at 156 273 = some (.aload_n 0, 1) := by decide +kernel
theorem at156_274 : am_at 156 274 = some (.sipush 139, 3) := by decide +kernel
theorem at156_277 : am_at 156 277 = some (.newarray .int, 2) := by decide +kernel
theorem at156_279 : am_at 156 279 = some (.putfield 110652, 3) := by decide +kernel
theorem at156_282 : am_at 156 282 = some (.aload_n 0, 1) := by decide +kernel
theorem at156_283 : am_at 156 283 = some (.sipush 5560, 3) := by decide +kernel
theorem at156_286 : am_at 156 286 = some (.newarray .int, 2) := by decide +kernel
theorem at156_288 : am_at 156 288 = some (.putfield 110662, 3) := by decide +kernel
theorem at156_291 : am_at 156 291 = some (.aload_n 0, 1) := by decide +kernel
theorem at156_292 : am_at 156 292 = some (.bipush 24, 2) := by decide +kernel
theorem at156_294 : am_at 156 294 = some (.newarray .int, 2) := by decide +kernel
theorem at156_296 : am_at 156 296 = some (.putfield 110672, 3) := by decide +kernel
theorem at156_299 : am_at 156 299 = some (.aload_n 0, 1) := by decide +kernel
theorem at156_300 : am_at 156 300 = some (.invokevirtual 194, 3) := by decide +kernel
theorem at156_303 : am_at 156 303 = some (.return_, 1) := by decide +kernel
theorem at157_0 : am_at 157 0 = some (.aload_n 0, 1) := by decide +kernel
theorem at157_1 : am_at 157 1 = some (.getfield 110000, 3) := by decide +kernel
theorem at157_4 : am_at 157 4 = some (.ireturn, 1) := by decide +kernel
theorem at158_0 : am_at 158 0 = some (.aload_n 0, 1) := by decide +kernel
theorem at158_1 : am_at 158 1 = some (.getfield 110000, 3) := by decide +kernel
theorem at158_4 : am_at 158 4 = some (.ifCond .ne 12, 3) := by decide +kernel
theorem at158_7 : am_at 158 7 = some (.iload_n 1, 1) := by decide +kernel
theorem at158_8 : am_at 158 8 = some (.ifCond .ne 8, 3) := by decide +kernel
theorem at158_11 : am_at 158 11 = some (.aload_n 0, 1) := by decide +kernel
theorem at158_12 : am_at 158 12 = some (.iload_n 2, 1) := by decide +kernel
theorem at158_13 : am_at 158 13 = some (.putfield 110000, 3) := by decide +kernel
theorem at158_16 : am_at 158 16 = some (.aload_n 0, 1) := by decide +kernel
theorem at158_17 : am_at 158 17 = some (.getfield 110000, 3) := by decide +kernel
theorem at158_20 : am_at 158 20 = some (.ifCond .ne 7, 3) := by decide +kernel
theorem at158_23 : am_at 158 23 = some (.iconst 1, 1) := by decide +kernel
theorem at158_24 : am_at 158 24 = some (.goto 4, 3) := by decide +kernel
theorem at158_27 : am_at 158 27 = some (.iconst 0, 1) := by decide +kernel
theorem at158_28 : am_at 158 28 = some (.ireturn, 1) := by decide +kernel
theorem at159_0 : am_at 159 0 = some (.iload_n 0, 1) := by decide +kernel
theorem at159_1 : am_at 159 1 = some (.iload_n 1, 1) := by decide +kernel
theorem at159_2 : am_at 159 2 = some (.if_icmp .lt 12, 3) := by decide +kernel
theorem at159_5 : am_at 159 5 = some (.iload_n 0, 1) := by decide +kernel
theorem at159_6 : am_at 159 6 = some (.iload_n 2, 1) := by decide +kernel
theorem at159_7 : am_at 159 7 = some (.if_icmp .gt 7, 3) := by decide +kernel
theorem at159_10 : am_at 159 10 = some (.iconst 1, 1) := by decide +kernel
theorem at159_11 : am_at 159 11 = some (.goto 4, 3) := by decide +kernel
theorem at159_14 : am_at 159 14 = some (.iconst 0, 1) := by decide +kernel
theorem at159_15 : am_at 159 15 = some (.ireturn, 1) := by decide +kernel
theorem at160_0 : am_at 160 0 = some (.iconst 0, 1) := by decide +kernel
theorem at160_1 : am_at 160 1 = some (.istore_n 3, 1) := by decide +kernel
theorem at160_2 : am_at 160 2 = some (.iload_n 3, 1) := by decide +kernel
theorem at160_3 : am_at 160 3 = some (.aload_n 1, 1) := by decide +kernel
theorem at160_4 : am_at 160 4 = some (.arraylength, 1) := by decide +kernel
theorem at160_5 : am_at 160 5 = some (.if_icmp .ge 15, 3) := by decide +kernel
theorem at160_8 : am_at 160 8 = some (.aload_n 2, 1) := by decide +kernel
theorem at160_9 : am_at 160 9 = some (.iload_n 3, 1) := by decide +kernel
theorem at160_10 : am_at 160 10 = some (.aload_n 1, 1) := by decide +kernel
theorem at160_11 : am_at 160 11 = some (.iload_n 3, 1) := by decide +kernel
theorem at160_12 : am_at 160 12 = some (.iaload, 1) := by decide +kernel
theorem at160_13 : am_at 160 13 = some (.iastore, 1) := by decide +kernel
theorem at160_14 : am_at 160 14 = some (.iinc 3 1, 3) := by decide +kernel
theorem at160_17 : am_at 160 17 = some (.goto (-15), 3) := by decide +kernel
theorem at160_20 : am_at 160 20 = some (.return_, 1) := by decide +kernel
theorem at161_0 : am_at 161 0 = some (.iconst 0, 1) := by decide +kernel
theorem at161_1 : am_at 161 1 = some (.istore_n 1, 1) := by decide +kernel
theorem at161_2 : am_at 161 2 = some (.iconst 0, 1) := by decide +kernel
theorem at161_3 : am_at 161 3 = some (.istore_n 2, 1) := by decide +kernel
theorem at161_4 : am_at 161 4 = some (.iload_n 2, 1) := by decide +kernel
theorem at161_5 : am_at 161 5 = some (.bipush 10, 2) := by decide +kernel
theorem at161_7 : am_at 161 7 = some (.if_icmp .ge 17, 3) := by decide +kernel
theorem at161_10 : am_at 161 10 = some (.iload_n 1, 1) := by decide +kernel
theorem at161_11 : am_at 161 11 = some (.iload_n 0, 1) := by decide +kernel
theorem at161_12 : am_at 161 12 = some (.iload_n 2, 1) := by decide +kernel
theorem at161_13 : am_at 161 13 = some (.ishr, 1) := by decide +kernel
theorem at161_14 : am_at 161 14 = some (.iconst 1, 1) := by decide +kernel
theorem at161_15 : am_at 161 15 = some (.iand, 1) := by decide +kernel
theorem at161_16 : am_at 161 16 = some (.iadd, 1) := by decide +kernel
theorem at161_17 : am_at 161 17 = some (.istore_n 1, 1) := by decide +kernel
theorem at161_18 : am_at 161 18 = some (.iinc 2 1, 3) := by decide +kernel
theorem at161_21 : am_at 161 21 = some (.goto (-17), 3) := by decide +kernel
theorem at161_24 : am_at 161 24 = some (.iload_n 1, 1) := by decide +kernel
theorem at161_25 : am_at 161 25 = some (.ireturn, 1) := by decide +kernel
theorem at162_0 : am_at 162 0 = some (.aload_n 0, 1) := by decide +kernel
theorem at162_1 : am_at 162 1 = some (.iconst 0, 1) := by decide +kernel
theorem at162_2 : am_at 162 2 = some (.putfield 110000, 3) := by decide +kernel
theorem at162_5 : am_at 162 5 = some (.aload_n 0, 1) := by decide +kernel
theorem at162_6 : am_at 162 6 = some (.getfield 110130, 3) := by decide +kernel
theorem at162_9 : am_at 162 9 = some (.bipush 20, 2) := by decide +kernel
theorem at162_11 : am_at 162 11 = some (.iadd, 1) := by decide +kernel
theorem at162_12 : am_at 162 12 = some (.sipush 700, 3) := by decide +kernel
theorem at162_15 : am_at 162 15 = some (.if_icmp .le 5, 3) := by decide +kernel
theorem at162_18 : am_at 162 18 = some (.iconst (-1), 1) := by decide +kernel
theorem at162_19 : am_at 162 19 = some (.ireturn, 1) := by decide +kernel
theorem at162_20 : am_at 162 20 = some (.aload_n 0, 1) := by decide +kernel
theorem at162_21 : am_at 162 21 = some (.iload_n 1, 1) := by decide +kernel
theorem at162_22 : am_at 162 22 = some (.invokevirtual 163, 3) := by decide +kernel
theorem at162_25 : am_at 162 25 = some (.aload_n 0, 1) := by decide +kernel
theorem at162_26 : am_at 162 26 = some (.iload_n 2, 1) := by decide +kernel
theorem at162_27 : am_at 162 27 = some (.invokevirtual 163, 3) := by decide +kernel
theorem at162_30 : am_at 162 30 = some (.aload_n 0, 1) := by decide +kernel
theorem at162_31 : am_at 162 31 = some (.iload_n 3, 1) := by decide +kernel
theorem at162_32 : am_at 162 32 = some (.invokevirtual 163, 3) := by decide +kernel
theorem at162_35 : am_at 162 35 = some (.aload_n 0, 1) := by decide +kernel
theorem at162_36 : am_at 162 36 = some (.iload 4, 2) := by decide +kernel
theorem at162_38 : am_at 162 38 = some (.invokevirtual 163, 3) := by decide +kernel
theorem at162_41 : am_at 162 41 = some (.aload_n 0, 1) := by decide +kernel
theorem at162_42 : am_at 162 42 = some (.iload 5, 2) := by decide +kernel
theorem at162_44 : am_at 162 44 = some (.invokevirtual 163, 3) := by decide +kernel
theorem at162_47 : am_at 162 47 = some (.aload_n 0, 1) := by decide +kernel
theorem at162_48 : am_at 162 48 = some (.getfield 110130, 3) := by decide +kernel
theorem at162_51 : am_at 162 51 = some (.ireturn, 1) := by decide +kernel
theorem at163_0 : am_at 163 0 = some (.bipush 24, 2) := by decide +kernel
theorem at163_2 : am_at 163 2 = some (.istore_n 2, 1) := by decide +kernel
theorem at163_3 : am_at 163 3 = some (.iload_n 2, 1) := by decide +kernel
theorem at163_4 : am_at 163 4 = some (.ifCond .lt 35, 3) := by decide +kernel
theorem at163_7 : am_at 163 7 = some (.aload_n 0, 1) := by decide +kernel
theorem at163_8 : am_at 163 8 = some (.getfield 110122, 3) := by decide +kernel
theorem at163_11 : am_at 163 11 = some (.aload_n 0, 1) := by decide +kernel
theorem at163_12 : am_at 163 12 = some (.getfield 110130, 3) := by decide +kernel
theorem at163_15 : am_at 163 15 = some (.iload_n 1, 1) := by decide +kernel
theorem at163_16 : am_at 163 16 = some (.iload_n 2, 1) := by decide +kernel
theorem at163_17 : am_at 163 17 = some (.ishr, 1) := by decide +kernel
theorem at163_18 : am_at 163 18 = some (.sipush 255, 3) := by decide +kernel
theorem at163_21 : am_at 163 21 = some (.iand, 1) := by decide +kernel
theorem at163_22 : am_at 163 22 = some (.iastore, 1) := by decide +kernel
theorem at163_23 : am_at 163 23 = some (.aload_n 0, 1) := by decide +kernel
theorem at163_24 : am_at 163 24 = some (.dup, 1) := by decide +kernel
theorem at163_25 : am_at 163 25 = some (.getfield 110130, 3) := by decide +kernel
theorem at163_28 : am_at 163 28 = some (.iconst 1, 1) := by decide +kernel
theorem at163_29 : am_at 163 29 = some (.iadd, 1) := by decide +kernel
theorem at163_30 : am_at 163 30 = some (.putfield 110130, 3) := by decide +kernel
theorem at163_33 : am_at 163 33 = some (.iinc 2 (-8), 3) := by decide +kernel
theorem at163_36 : am_at 163 36 = some (.goto (-33), 3) := by decide +kernel
theorem at163_39 : am_at 163 39 = some (.return_, 1) := by decide +kernel
theorem at164_0 : am_at 164 0 = some (.iload_n 1, 1) := by decide +kernel
theorem at164_1 : am_at 164 1 = some (.aload_n 0, 1) := by decide +kernel
theorem at164_2 : am_at 164 2 = some (.getfield 110170, 3) := by decide +kernel
theorem at164_5 : am_at 164 5 = some (.if_icmp .ge 12, 3) := by decide +kernel
theorem at164_8 : am_at 164 8 = some (.aload_n 0, 1) := by decide +kernel
theorem at164_9 : am_at 164 9 = some (.getfield 110122, 3) := by decide +kernel
theorem at164_12 : am_at 164 12 = some (.iload_n 1, 1) := by decide +kernel
theorem at164_13 : am_at 164 13 = some (.iaload, 1) := by decide +kernel
theorem at164_14 : am_at 164 14 = some (.goto 4, 3) := by decide +kernel
theorem at164_17 : am_at 164 17 = some (.iconst 0, 1) := by decide +kernel
theorem at164_18 : am_at 164 18 = some (.ireturn, 1) := by decide +kernel
theorem at165_0 : am_at 165 0 = some (.iload_n 0, 1) := by decide +kernel
theorem at165_1 : am_at 165 1 = some (.bipush 97, 2) := by decide +kernel
theorem at165_3 : am_at 165 3 = some (.if_icmp .lt 13, 3) := by decide +kernel
theorem at165_6 : am_at 165 6 = some (.iload_n 0, 1) := by decide +kernel
theorem at165_7 : am_at 165 7 = some (.bipush 122, 2) := by decide +kernel
theorem at165_9 : am_at 165 9 = some (.if_icmp .gt 7, 3) := by decide +kernel
theorem at165_12 : am_at 165 12 = some (.iconst 1, 1) := by decide +kernel
theorem at165_13 : am_at 165 13 = some (.goto 4, 3) := by decide +kernel
theorem at165_16 : am_at 165 16 = some (.iconst 0, 1) := by decide +kernel
theorem at165_17 : am_at 165 17 = some (.ireturn, 1) := by decide +kernel
theorem at166_0 : am_at 166 0 = some (.iload_n 0, 1) := by decide +kernel
theorem at166_1 : am_at 166 1 = some (.bipush 48, 2) := by decide +kernel
theorem at166_3 : am_at 166 3 = some (.if_icmp .lt 13, 3) := by decide +kernel
theorem at166_6 : am_at 166 6 = some (.iload_n 0, 1) := by decide +kernel
theorem at166_7 : am_at 166 7 = some (.bipush 57, 2) := by decide +kernel
theorem at166_9 : am_at 166 9 = some (.if_icmp .gt 7, 3) := by decide +kernel
theorem at166_12 : am_at 166 12 = some (.iconst 1, 1) := by decide +kernel
theorem at166_13 : am_at 166 13 = some (.goto 4, 3) := by decide +kernel
theorem at166_16 : am_at 166 16 = some (.iconst 0, 1) := by decide +kernel
theorem at166_17 : am_at 166 17 = some (.ireturn, 1) := by decide +kernel
theorem at167_0 : am_at 167 0 = some (.aload_n 0, 1) := by decide +kernel
theorem at167_1 : am_at 167 1 = some (.getfield 110180, 3) := by decide +kernel
theorem at167_4 : am_at 167 4 = some (.aload_n 0, 1) := by decide +kernel
theorem at167_5 : am_at 167 5 = some (.getfield 110170, 3) := by decide +kernel
theorem at167_8 : am_at 167 8 = some (.if_icmp .ge 42, 3) := by decide +kernel
theorem at167_11 : am_at 167 11 = some (.aload_n 0, 1) := by decide +kernel
theorem at167_12 : am_at 167 12 = some (.aload_n 0, 1) := by decide +kernel
theorem at167_13 : am_at 167 13 = some (.getfield 110180, 3) := by decide +kernel
theorem at167_16 : am_at 167 16 = some (.invokevirtual 164, 3) := by decide +kernel
theorem at167_19 : am_at 167 19 = some (.bipush 32, 2) := by decide +kernel
theorem at167_21 : am_at 167 21 = some (.if_icmp .eq 16, 3) := by decide +kernel
theorem at167_24 : am_at 167 24 = some (.aload_n 0, 1) := by decide +kernel
theorem at167_25 : am_at 167 25 = some (.aload_n 0, 1) := by decide +kernel
theorem at167_26 : am_at 167 26 = some (.getfield 110180, 3) := by decide +kernel
theorem at167_29 : am_at 167 29 = some (.invokevirtual 164, 3) := by decide +kernel
theorem at167_32 : am_at 167 32 = some (.bipush 10, 2) := by decide +kernel
theorem at167_34 : am_at 167 34 = some (.if_icmp .ne 16, 3) := by decide +kernel
theorem at167_37 : am_at 167 37 = some (.aload_n 0, 1) := by decide +kernel
theorem at167_38 : am_at 167 38 = some (.dup, 1) := by decide +kernel
theorem at167_39 : am_at 167 39 = some (.getfield 110180, 3) := by decide +kernel
theorem at167_42 : am_at 167 42 = some (.iconst 1, 1) := by decide +kernel
theorem at167_43 : am_at 167 43 = some (.iadd, 1) := by decide +kernel
theorem at167_44 : am_at 167 44 = some (.putfield 110180, 3) := by decide +kernel
theorem at167_47 : am_at 167 47 = some (.goto (-47), 3) := by decide +kernel
theorem at167_50 : am_at 167 50 = some (.aload_n 0, 1) := by decide +kernel
theorem at167_51 : am_at 167 51 = some (.aload_n 0, 1) := by decide +kernel
theorem at167_52 : am_at 167 52 = some (.getfield 110180, 3) := by decide +kernel
theorem at167_55 : am_at 167 55 = some (.putfield 110200, 3) := by decide +kernel
theorem at167_58 : am_at 167 58 = some (.aload_n 0, 1) := by decide +kernel
theorem at167_59 : am_at 167 59 = some (.lconst 0, 1) := by decide +kernel
theorem at167_60 : am_at 167 60 = some (.putfield 110243, 3) := by decide +kernel
theorem at167_63 : am_at 167 63 = some (.aload_n 0, 1) := by decide +kernel
theorem at167_64 : am_at 167 64 = some (.iconst 0, 1) := by decide +kernel
theorem at167_65 : am_at 167 65 = some (.putfield 110220, 3) := by decide +kernel
theorem at167_68 : am_at 167 68 = some (.aload_n 0, 1) := by decide +kernel
theorem at167_69 : am_at 167 69 = some (.aload_n 0, 1) := by decide +kernel
theorem at167_70 : am_at 167 70 = some (.getfield 110180, 3) := by decide +kernel
theorem at167_73 : am_at 167 73 = some (.invokevirtual 164, 3) := by decide +kernel
theorem at167_76 : am_at 167 76 = some (.istore_n 1, 1) := by decide +kernel
theorem at167_77 : am_at 167 77 = some (.aload_n 0, 1) := by decide +kernel
theorem at167_78 : am_at 167 78 = some (.iload_n 1, 1) := by decide +kernel
theorem at167_79 : am_at 167 79 = some (.putfield 110230, 3) := by decide +kernel
theorem at167_82 : am_at 167 82 = some (.aload_n 0, 1) := by decide +kernel
theorem at167_83 : am_at 167 83 = some (.getfield 110180, 3) := by decide +kernel
theorem at167_86 : am_at 167 86 = some (.aload_n 0, 1) := by decide +kernel
theorem at167_87 : am_at 167 87 = some (.getfield 110170, 3) := by decide +kernel
theorem at167_90 : am_at 167 90 = some (.if_icmp .lt 11, 3) := by decide +kernel
theorem at167_93 : am_at 167 93 = some (.aload_n 0, 1) := by decide +kernel
theorem at167_94 : am_at 167 94 = some (.iconst 0, 1) := by decide +kernel
theorem at167_95 : am_at 167 95 = some (.putfield 110190, 3) := by decide +kernel
theorem at167_98 : am_at 167 98 = some (.goto 233, 3) := by decide +kernel
theorem at167_101 : am_at 167 101 = some (.iload_n 1, 1) := by decide +kernel
theorem at167_102 : am_at 167 102 = some (.invokestatic 165, 3) := by decide +kernel
theorem at167_105 : am_at 167 105 = some (.ifCond .eq 75, 3) := by decide +kernel
theorem at167_108 : am_at 167 108 = some (.aload_n 0, 1) := by decide +kernel
theorem at167_109 : am_at 167 109 = some (.aload_n 0, 1) := by decide +kernel
theorem at167_110 : am_at 167 110 = some (.getfield 110180, 3) := by decide +kernel
theorem at167_113 : am_at 167 113 = some (.invokevirtual 164, 3) := by decide +kernel
theorem at167_116 : am_at 167 116 = some (.invokestatic 165, 3) := by decide +kernel
theorem at167_119 : am_at 167 119 = some (.ifCond .eq 53, 3) := by decide +kernel
theorem at167_122 : am_at 167 122 = some (.aload_n 0, 1) := by decide +kernel
theorem at167_123 : am_at 167 123 = some (.getfield 110180, 3) := by decide +kernel
theorem at167_126 : am_at 167 126 = some (.aload_n 0, 1) := by decide +kernel
theorem at167_127 : am_at 167 127 = some (.getfield 110200, 3) := by decide +kernel
theorem at167_130 : am_at 167 130 = some (.isub, 1) := by decide +kernel
theorem at167_131 : am_at 167 131 = some (.bipush 6, 2) := by decide +kernel
theorem at167_133 : am_at 167 133 = some (.if_icmp .ge 26, 3) := by decide +kernel
theorem at167_136 : am_at 167 136 = some (.aload_n 0, 1) := by decide +kernel
theorem at167_137 : am_at 167 137 = some (.aload_n 0, 1) := by decide +kernel
theorem at167_138 : am_at 167 138 = some (.getfield 110243, 3) := by decide +kernel
theorem at167_141 : am_at 167 141 = some (.iconst 5, 1) := by decide +kernel
theorem at167_142 : am_at 167 142 = some (.lshl, 1) := by decide +kernel
theorem at167_143 : am_at 167 143 = some (.aload_n 0, 1) := by decide +kernel
theorem at167_144 : am_at 167 144 = some (.aload_n 0, 1) := by decide +kernel
theorem at167_145 : am_at 167 145 = some (.getfield 110180, 3) := by decide +kernel
theorem at167_148 : am_at 167 148 = some (.invokevirtual 164, 3) := by decide +kernel
theorem at167_151 : am_at 167 151 = some (.bipush 96, 2) := by decide +kernel
theorem at167_153 : am_at 167 153 = some (.isub, 1) := by decide +kernel
theorem at167_154 : am_at 167 154 = some (.i2l, 1) := by decide +kernel
theorem at167_155 : am_at 167 155 = some (.lor, 1) := by decide +kernel
theorem at167_156 : am_at 167 156 = some (.putfield 110243, 3) := by decide +kernel
theorem at167_159 : am_at 167 159 = some (.aload_n 0, 1) := by decide +kernel
theorem at167_160 : am_at 167 160 = some (.dup, 1) := by decide +kernel
theorem at167_161 : am_at 167 161 = some (.getfield 110180, 3) := by decide +kernel
theorem at167_164 : am_at 167 164 = some (.iconst 1, 1) := by decide +kernel
theorem at167_165 : am_at 167 165 = some (.iadd, 1) := by decide +kernel
theorem at167_166 : am_at 167 166 = some (.putfield 110180, 3) := by decide +kernel
theorem at167_169 : am_at 167 169 = some (.goto (-61), 3) := by decide +kernel
theorem at167_172 : am_at 167 172 = some (.aload_n 0, 1) := by decide +kernel
theorem at167_173 : am_at 167 173 = some (.iconst 1, 1) := by decide +kernel
theorem at167_174 : am_at 167 174 = some (.putfield 110190, 3) := by decide +kernel
theorem at167_177 : am_at 167 177 = some (.goto 154, 3) := by decide +kernel
theorem at167_180 : am_at 167 180 = some (.iload_n 1, 1) := by decide +kernel
theorem at167_181 : am_at 167 181 = some (.invokestatic 166, 3) := by decide +kernel
theorem at167_184 : am_at 167 184 = some (.ifCond .eq 74, 3) := by decide +kernel
theorem at167_187 : am_at 167 187 = some (.aload_n 0, 1) := by decide +kernel
theorem at167_188 : am_at 167 188 = some (.aload_n 0, 1) := by decide +kernel
theorem at167_189 : am_at 167 189 = some (.getfield 110180, 3) := by decide +kernel
theorem at167_192 : am_at 167 192 = some (.invokevirtual 164, 3) := by decide +kernel
theorem at167_195 : am_at 167 195 = some (.invokestatic 166, 3) := by decide +kernel
theorem at167_198 : am_at 167 198 = some (.ifCond .eq 52, 3) := by decide +kernel
theorem at167_201 : am_at 167 201 = some (.aload_n 0, 1) := by decide +kernel
theorem at167_202 : am_at 167 202 = some (.getfield 110180, 3) := by decide +kernel
theorem at167_205 : am_at 167 205 = some (.aload_n 0, 1) := by decide +kernel
theorem at167_206 : am_at 167 206 = some (.getfield 110200, 3) := by decide +kernel
theorem at167_209 : am_at 167 209 = some (.isub, 1) := by decide +kernel
theorem at167_210 : am_at 167 210 = some (.iconst 4, 1) := by decide +kernel
theorem at167_211 : am_at 167 211 = some (.if_icmp .ge 26, 3) := by decide +kernel
theorem at167_214 : am_at 167 214 = some (.aload_n 0, 1) := by decide +kernel
theorem at167_215 : am_at 167 215 = some (.bipush 10, 2) := by decide +kernel
theorem at167_217 : am_at 167 217 = some (.aload_n 0, 1) := by decide +kernel
theorem at167_218 : am_at 167 218 = some (.getfield 110220, 3) := by decide +kernel
theorem at167_221 : am_at 167 221 = some (.imul, 1) := by decide +kernel
theorem at167_222 : am_at 167 222 = some (.aload_n 0, 1) := by decide +kernel
theorem at167_223 : am_at 167 223 = some (.aload_n 0, 1) := by decide +kernel
theorem at167_224 : am_at 167 224 = some (.getfield 110180, 3) := by decide +kernel
theorem at167_227 : am_at 167 227 = some (.invokevirtual 164, 3) := by decide +kernel
theorem at167_230 : am_at 167 230 = some (.iadd, 1) := by decide +kernel
theorem at167_231 : am_at 167 231 = some (.bipush 48, 2) := by decide +kernel
theorem at167_233 : am_at 167 233 = some (.isub, 1) := by decide +kernel
theorem at167_234 : am_at 167 234 = some (.putfield 110220, 3) := by decide +kernel
theorem at167_237 : am_at 167 237 = some (.aload_n 0, 1) := by decide +kernel
theorem at167_238 : am_at 167 238 = some (.dup, 1) := by decide +kernel
theorem at167_239 : am_at 167 239 = some (.getfield 110180, 3) := by decide +kernel
theorem at167_242 : am_at 167 242 = some (.iconst 1, 1) := by decide +kernel
theorem at167_243 : am_at 167 243 = some (.iadd, 1) := by decide +kernel
theorem at167_244 : am_at 167 244 = some (.putfield 110180, 3) := by decide +kernel
theorem at167_247 : am_at 167 247 = some (.goto (-60), 3) := by decide +kernel
theorem at167_250 : am_at 167 250 = some (.aload_n 0, 1) := by decide +kernel
theorem at167_251 : am_at 167 251 = some (.iconst 2, 1) := by decide +kernel
theorem at167_252 : am_at 167 252 = some (.putfield 110190, 3) := by decide +kernel
theorem at167_255 : am_at 167 255 = some (.goto 76, 3) := by decide +kernel
theorem at167_258 : am_at 167 258 = some (.aload_n 0, 1) := by decide +kernel
theorem at167_259 : am_at 167 259 = some (.dup, 1) := by decide +kernel
theorem at167_260 : am_at 167 260 = some (.getfield 110180, 3) := by decide +kernel
theorem at167_263 : am_at 167 263 = some (.iconst 1, 1) := by decide +kernel
theorem at167_264 : am_at 167 264 = some (.iadd, 1) := by decide +kernel
theorem at167_265 : am_at 167 265 = some (.putfield 110180, 3) := by decide +kernel
theorem at167_268 : am_at 167 268 = some (.aload_n 0, 1) := by decide +kernel
theorem at167_269 : am_at 167 269 = some (.iload_n 1, 1) := by decide +kernel
theorem at167_270 : am_at 167 270 = some (.bipush 59, 2) := by decide +kernel
theorem at167_272 : am_at 167 272 = some (.if_icmp .eq 51, 3) := by decide +kernel
theorem at167_275 : am_at 167 275 = some (.iload_n 1, 1) := by decide +kernel
theorem at167_276 : am_at 167 276 = some (.bipush 40, 2) := by decide +kernel
theorem at167_278 : am_at 167 278 = some (.if_icmp .eq 45, 3) := by decide +kernel
theorem at167_281 : am_at 167 281 = some (.iload_n 1, 1) := by decide +kernel
theorem at167_282 : am_at 167 282 = some (.bipush 41, 2) := by decide +kernel
theorem at167_284 : am_at 167 284 = some (.if_icmp .eq 39, 3) := by decide +kernel
theorem at167_287 : am_at 167 287 = some (.iload_n 1, 1) := by decide +kernel
theorem at167_288 : am_at 167 288 = some (.bipush 43, 2) := by decide +kernel
theorem at167_290 : am_at 167 290 = some (.if_icmp .eq 33, 3) := by decide +kernel
theorem at167_293 : am_at 167 293 = some (.iload_n 1, 1) := by decide +kernel
theorem at167_294 : am_at 167 294 = some (.bipush 45, 2) := by decide +kernel
theorem at167_296 : am_at 167 296 = some (.if_icmp .eq 27, 3) := by decide +kernel
theorem at167_299 : am_at 167 299 = some (.iload_n 1, 1) := by decide +kernel
theorem at167_300 : am_at 167 300 = some (.bipush 42, 2) := by decide +kernel
theorem at167_302 : am_at 167 302 = some (.if_icmp .eq 21, 3) := by decide +kernel
theorem at167_305 : am_at 167 305 = some (.iload_n 1, 1) := by decide +kernel
theorem at167_306 : am_at 167 306 = some (.bipush 47, 2) := by decide +kernel
theorem at167_308 : am_at 167 308 = some (.if_icmp .eq 15, 3) := by decide +kernel
theorem at167_311 : am_at 167 311 = some (.iload_n 1, 1) := by decide +kernel
theorem at167_312 : am_at 167 312 = some (.bipush 60, 2) := by decide +kernel
theorem at167_314 : am_at 167 314 = some (.if_icmp .eq 9, 3) := by decide +kernel
theorem at167_317 : am_at 167 317 = some (.iload_n 1, 1) := by decide +kernel
theorem at167_318 : am_at 167 318 = some (.bipush 61, 2) := by decide +kernel
theorem at167_320 : am_at 167 320 = some (.if_icmp .ne 7, 3) := by decide +kernel
theorem at167_323 : am_at 167 323 = some (.iconst 3, 1) := by decide +kernel
theorem at167_324 : am_at 167 324 = some (.goto 4, 3) := by decide +kernel
theorem at167_327 : am_at 167 327 = some (.iconst 4, 1) := by decide +kernel
theorem at167_328 : am_at 167 328 = some (.putfield 110190, 3) := by decide +kernel
theorem at167_331 : am_at 167 331 = some (.aload_n 0, 1) := by decide +kernel
theorem at167_332 : am_at 167 332 = some (.aload_n 0, 1) := by decide +kernel
theorem at167_333 : am_at 167 333 = some (.getfield 110180, 3) := by decide +kernel
theorem at167_336 : am_at 167 336 = some (.aload_n 0, 1) := by decide +kernel
theorem at167_337 : am_at 167 337 = some (.getfield 110200, 3) := by decide +kernel
theorem at167_340 : am_at 167 340 = some (.isub, 1) := by decide +kernel
theorem at167_341 : am_at 167 341 = some (.putfield 110210, 3) := by decide +kernel
theorem at167_344 : am_at 167 344 = some (.return_, 1) := by decide +kernel
theorem at168_0 : am_at 168 0 = some (.iload_n 0, 1) := by decide +kernel
theorem at168_1 : am_at 168 1 = some (.i2l, 1) := by decide +kernel
theorem at168_2 : am_at 168 2 = some (.ldc2_w 96, 3) := by decide +kernel
theorem at168_5 : am_at 168 5 = some (.lsub, 1) := by decide +kernel
theorem at168_6 : am_at 168 6 = some (.iconst 5, 1) := by decide +kernel
theorem at168_7 : am_at 168 7 = some (.lshl, 1) := by decide +kernel
theorem at168_8 : am_at 168 8 = some (.iload_n 1, 1) := by decide +kernel
theorem at168_9 : am_at 168 9 = some (.bipush 96, 2) := by decide +kernel
theorem at168_11 : am_at 168 11 = some (.isub, 1) := by decide +kernel
theorem at168_12 : am_at 168 12 = some (.i2l, 1) := by decide +kernel
theorem at168_13 : am_at 168 13 = some (.lor, 1) := by decide +kernel
theorem at168_14 : am_at 168 14 = some (.lstore 6, 2) := by decide +kernel
theorem at168_16 : am_at 168 16 = some (.iload_n 2, 1) := by decide +kernel
theorem at168_17 : am_at 168 17 = some (.ifCond .eq 15, 3) := by decide +kernel
theorem at168_20 : am_at 168 20 = some (.lload 6, 2) := by decide +kernel
theorem at168_22 : am_at 168 22 = some (.iconst 5, 1) := by decide +kernel
theorem at168_23 : am_at 168 23 = some (.lshl, 1) := by decide +kernel
theorem at168_24 : am_at 168 24 = some (.iload_n 2, 1) := by decide +kernel
theorem at168_25 : am_at 168 25 = some (.bipush 96, 2) := by decide +kernel
theorem at168_27 : am_at 168 27 = some (.isub, 1) := by decide +kernel
theorem at168_28 : am_at 168 28 = some (.i2l, 1) := by decide +kernel
theorem at168_29 : am_at 168 29 = some (.lor, 1) := by decide +kernel
theorem at168_30 : am_at 168 30 = some (.lstore 6, 2) := by decide +kernel
theorem at168_32 : am_at 168 32 = some (.iload_n 3, 1) := by decide +kernel
theorem at168_33 : am_at 168 33 = some (.ifCond .eq 15, 3) := by decide +kernel
theorem at168_36 : am_at 168 36 = some (.lload 6, 2) := by decide +kernel
theorem at168_38 : am_at 168 38 = some (.iconst 5, 1) := by decide +kernel
theorem at168_39 : am_at 168 39 = some (.lshl, 1) := by decide +kernel
theorem at168_40 : am_at 168 40 = some (.iload_n 3, 1) := by decide +kernel
theorem at168_41 : am_at 168 41 = some (.bipush 96, 2) := by decide +kernel
theorem at168_43 : am_at 168 43 = some (.isub, 1) := by decide +kernel
theorem at168_44 : am_at 168 44 = some (.i2l, 1) := by decide +kernel
theorem at168_45 : am_at 168 45 = some (.lor, 1) := by decide +kernel
theorem at168_46 : am_at 168 46 = some (.lstore 6, 2) := by decide +kernel
theorem at168_48 : am_at 168 48 = some (.iload 4, 2) := by decide +kernel
theorem at168_50 : am_at 168 50 = some (.ifCond .eq 16, 3) := by decide +kernel
theorem at168_53 : am_at 168 53 = some (.lload 6, 2) := by decide +kernel
theorem at168_55 : am_at 168 55 = some (.iconst 5, 1) := by decide +kernel
theorem at168_56 : am_at 168 56 = some (.lshl, 1) := by decide +kernel
theorem at168_57 : am_at 168 57 = some (.iload 4, 2) := by decide +kernel
theorem at168_59 : am_at 168 59 = some (.bipush 96, 2) := by decide +kernel
theorem at168_61 : am_at 168 61 = some (.isub, 1) := by decide +kernel
theorem at168_62 : am_at 168 62 = some (.i2l, 1) := by decide +kernel
theorem at168_63 : am_at 168 63 = some (.lor, 1) := by decide +kernel
theorem at168_64 : am_at 168 64 = some (.lstore 6, 2) := by decide +kernel
theorem at168_66 : am_at 168 66 = some (.iload 5, 2) := by decide +kernel
theorem at168_68 : am_at 168 68 = some (.ifCond .eq 16, 3) := by decide +kernel
theorem at168_71 : am_at 168 71 = some (.lload 6, 2) := by decide +kernel
theorem at168_73 : am_at 168 73 = some (.iconst 5, 1) := by decide +kernel
theorem at168_74 : am_at 168 74 = some (.lshl, 1) := by decide +kernel
theorem at168_75 : am_at 168 75 = some (.iload 5, 2) := by decide +kernel
theorem at168_77 : am_at 168 77 = some (.bipush 96, 2) := by decide +kernel
theorem at168_79 : am_at 168 79 = some (.isub, 1) := by decide +kernel
theorem at168_80 : am_at 168 80 = some (.i2l, 1) := by decide +kernel
theorem at168_81 : am_at 168 81 = some (.lor, 1) := by decide +kernel
theorem at168_82 : am_at 168 82 = some (.lstore 6, 2) := by decide +kernel
theorem at168_84 : am_at 168 84 = some (.lload 6, 2) := by decide +kernel
theorem at168_86 : am_at 168 86 = some (.lreturn, 1) := by decide +kernel
theorem at169_0 : am_at 169 0 = some (.iload_n 0, 1) := by decide +kernel
theorem at169_1 : am_at 169 1 = some (.tableswitch 288 0 14 #[75, 89, 105, 118, 132, 147, 162, 175, 191, 205, 219, 233, 248, 263, 276], 75) := by decide +kernel
theorem at169_76 : am_at 169 76 = some (.bipush 115, 2) := by decide +kernel
theorem at169_78 : am_at 169 78 = some (.bipush 97, 2) := by decide +kernel
theorem at169_80 : am_at 169 80 = some (.bipush 108, 2) := by decide +kernel
theorem at169_82 : am_at 169 82 = some (.bipush 116, 2) := by decide +kernel
theorem at169_84 : am_at 169 84 = some (.iconst 0, 1) := by decide +kernel
theorem at169_85 : am_at 169 85 = some (.iconst 0, 1) := by decide +kernel
theorem at169_86 : am_at 169 86 = some (.invokestatic 168, 3) := by decide +kernel
theorem at169_89 : am_at 169 89 = some (.lreturn, 1) := by decide +kernel
theorem at169_90 : am_at 169 90 = some (.bipush 119, 2) := by decide +kernel
theorem at169_92 : am_at 169 92 = some (.bipush 101, 2) := by decide +kernel
theorem at169_94 : am_at 169 94 = some (.bipush 105, 2) := by decide +kernel
theorem at169_96 : am_at 169 96 = some (.bipush 103, 2) := by decide +kernel
theorem at169_98 : am_at 169 98 = some (.bipush 104, 2) := by decide +kernel
theorem at169_100 : am_at 169 100 = some (.bipush 116, 2) := by decide +kernel
theorem at169_102 : am_at 169 102 = some (.invokestatic 168, 3) := by decide +kernel
theorem at169_105 : am_at 169 105 = some (.lreturn, 1) := by decide +kernel
theorem at169_106 : am_at 169 106 = some (.bipush 97, 2) := by decide +kernel
theorem at169_108 : am_at 169 108 = some (.bipush 103, 2) := by decide +kernel
theorem at169_110 : am_at 169 110 = some (.bipush 101, 2) := by decide +kernel
theorem at169_112 : am_at 169 112 = some (.iconst 0, 1) := by decide +kernel
theorem at169_113 : am_at 169 113 = some (.iconst 0, 1) := by decide +kernel
theorem at169_114 : am_at 169 114 = some (.iconst 0, 1) := by decide +kernel
theorem at169_115 : am_at 169 115 = some (.invokestatic 168, 3) := by decide +kernel
theorem at169_118 : am_at 169 118 = some (.lreturn, 1) := by decide +kernel
theorem at169_119 : am_at 169 119 = some (.bipush 116, 2) := by decide +kernel
theorem at169_121 : am_at 169 121 = some (.bipush 111, 2) := by decide +kernel
theorem at169_123 : am_at 169 123 = some (.bipush 108, 2) := by decide +kernel
theorem at169_125 : am_at 169 125 = some (.bipush 100, 2) := by decide +kernel
theorem at169_127 : am_at 169 127 = some (.iconst 0, 1) := by decide +kernel
theorem at169_128 : am_at 169 128 = some (.iconst 0, 1) := by decide +kernel
theorem at169_129 : am_at 169 129 = some (.invokestatic 168, 3) := by decide +kernel
theorem at169_132 : am_at 169 132 = some (.lreturn, 1) := by decide +kernel
theorem at169_133 : am_at 169 133 = some (.bipush 102, 2) := by decide +kernel
theorem at169_135 : am_at 169 135 = some (.bipush 97, 2) := by decide +kernel
theorem at169_137 : am_at 169 137 = some (.bipush 99, 2) := by decide +kernel
theorem at169_139 : am_at 169 139 = some (.bipush 116, 2) := by decide +kernel
theorem at169_141 : am_at 169 141 = some (.bipush 115, 2) := by decide +kernel
theorem at169_143 : am_at 169 143 = some (.iconst 0, 1) := by decide +kernel
theorem at169_144 : am_at 169 144 = some (.invokestatic 168, 3) := by decide +kernel
theorem at169_147 : am_at 169 147 = some (.lreturn, 1) := by decide +kernel
theorem at169_148 : am_at 169 148 = some (.bipush 116, 2) := by decide +kernel
theorem at169_150 : am_at 169 150 = some (.bipush 97, 2) := by decide +kernel
theorem at169_152 : am_at 169 152 = some (.bipush 98, 2) := by decide +kernel
theorem at169_154 : am_at 169 154 = some (.bipush 108, 2) := by decide +kernel
theorem at169_156 : am_at 169 156 = some (.bipush 101, 2) := by decide +kernel
theorem at169_158 : am_at 169 158 = some (.iconst 0, 1) := by decide +kernel
theorem at169_159 : am_at 169 159 = some (.invokestatic 168, 3) := by decide +kernel
theorem at169_162 : am_at 169 162 = some (.lreturn, 1) := by decide +kernel
theorem at169_163 : am_at 169 163 = some (.bipush 100, 2) := by decide +kernel
theorem at169_165 : am_at 169 165 = some (.bipush 97, 2) := by decide +kernel
theorem at169_167 : am_at 169 167 = some (.bipush 121, 2) := by decide +kernel
theorem at169_169 : am_at 169 169 = some (.iconst 0, 1) := by decide +kernel
theorem at169_170 : am_at 169 170 = some (.iconst 0, 1) := by decide +kernel
theorem at169_171 : am_at 169 171 = some (.iconst 0, 1) := by decide +kernel
theorem at169_172 : am_at 169 172 = some (.invokestatic 168, 3) := by decide +kernel
theorem at169_175 : am_at 169 175 = some (.lreturn, 1) := by decide +kernel
theorem at169_176 : am_at 169 176 = some (.bipush 112, 2) := by decide +kernel
theorem at169_178 : am_at 169 178 = some (.bipush 101, 2) := by decide +kernel
theorem at169_180 : am_at 169 180 = some (.bipush 114, 2) := by decide +kernel
theorem at169_182 : am_at 169 182 = some (.bipush 115, 2) := by decide +kernel
theorem at169_184 : am_at 169 184 = some (.bipush 111, 2) := by decide +kernel
theorem at169_186 : am_at 169 186 = some (.bipush 110, 2) := by decide +kernel
theorem at169_188 : am_at 169 188 = some (.invokestatic 168, 3) := by decide +kernel
theorem at169_191 : am_at 169 191 = some (.lreturn, 1) := by decide +kernel
theorem at169_192 : am_at 169 192 = some (.bipush 102, 2) := by decide +kernel
theorem at169_194 : am_at 169 194 = some (.bipush 97, 2) := by decide +kernel
theorem at169_196 : am_at 169 196 = some (.bipush 99, 2) := by decide +kernel
theorem at169_198 : am_at 169 198 = some (.bipush 116, 2) := by decide +kernel
theorem at169_200 : am_at 169 200 = some (.iconst 0, 1) := by decide +kernel
theorem at169_201 : am_at 169 201 = some (.iconst 0, 1) := by decide +kernel
theorem at169_202 : am_at 169 202 = some (.invokestatic 168, 3) := by decide +kernel
theorem at169_205 : am_at 169 205 = some (.lreturn, 1) := by decide +kernel
theorem at169_206 : am_at 169 206 = some (.bipush 100, 2) := by decide +kernel
theorem at169_208 : am_at 169 208 = some (.bipush 101, 2) := by decide +kernel
theorem at169_210 : am_at 169 210 = some (.bipush 98, 2) := by decide +kernel
theorem at169_212 : am_at 169 212 = some (.bipush 116, 2) := by decide +kernel
theorem at169_214 : am_at 169 214 = some (.iconst 0, 1) := by decide +kernel
theorem at169_215 : am_at 169 215 = some (.iconst 0, 1) := by decide +kernel
theorem at169_216 : am_at 169 216 = some (.invokestatic 168, 3) := by decide +kernel
theorem at169_219 : am_at 169 219 = some (.lreturn, 1) := by decide +kernel
theorem at169_220 : am_at 169 220 = some (.bipush 116, 2) := by decide +kernel
theorem at169_222 : am_at 169 222 = some (.bipush 97, 2) := by decide +kernel
theorem at169_224 : am_at 169 224 = some (.bipush 108, 2) := by decide +kernel
theorem at169_226 : am_at 169 226 = some (.bipush 107, 2) := by decide +kernel
theorem at169_228 : am_at 169 228 = some (.iconst 0, 1) := by decide +kernel
theorem at169_229 : am_at 169 229 = some (.iconst 0, 1) := by decide +kernel
theorem at169_230 : am_at 169 230 = some (.invokestatic 168, 3) := by decide +kernel
theorem at169_233 : am_at 169 233 = some (.lreturn, 1) := by decide +kernel
theorem at169_234 : am_at 169 234 = some (.bipush 112, 2) := by decide +kernel
theorem at169_236 : am_at 169 236 = some (.bipush 114, 2) := by decide +kernel
theorem at169_238 : am_at 169 238 = some (.bipush 105, 2) := by decide +kernel
theorem at169_240 : am_at 169 240 = some (.bipush 99, 2) := by decide +kernel
theorem at169_242 : am_at 169 242 = some (.bipush 101, 2) := by decide +kernel
theorem at169_244 : am_at 169 244 = some (.iconst 0, 1) := by decide +kernel
theorem at169_245 : am_at 169 245 = some (.invokestatic 168, 3) := by decide +kernel
theorem at169_248 : am_at 169 248 = some (.lreturn, 1) := by decide +kernel
theorem at169_249 : am_at 169 249 = some (.bipush 107, 2) := by decide +kernel
theorem at169_251 : am_at 169 251 = some (.bipush 101, 2) := by decide +kernel
theorem at169_253 : am_at 169 253 = some (.bipush 101, 2) := by decide +kernel
theorem at169_255 : am_at 169 255 = some (.bipush 112, 2) := by decide +kernel
theorem at169_257 : am_at 169 257 = some (.bipush 115, 2) := by decide +kernel
theorem at169_259 : am_at 169 259 = some (.iconst 0, 1) := by decide +kernel
theorem at169_260 : am_at 169 260 = some (.invokestatic 168, 3) := by decide +kernel
theorem at169_263 : am_at 169 263 = some (.lreturn, 1) := by decide +kernel
theorem at169_264 : am_at 169 264 = some (.bipush 97, 2) := by decide +kernel
theorem at169_266 : am_at 169 266 = some (.bipush 110, 2) := by decide +kernel
theorem at169_268 : am_at 169 268 = some (.bipush 100, 2) := by decide +kernel
theorem at169_270 : am_at 169 270 = some (.iconst 0, 1) := by decide +kernel
theorem at169_271 : am_at 169 271 = some (.iconst 0, 1) := by decide +kernel
theorem at169_272 : am_at 169 272 = some (.iconst 0, 1) := by decide +kernel
theorem at169_273 : am_at 169 273 = some (.invokestatic 168, 3) := by decide +kernel
theorem at169_276 : am_at 169 276 = some (.lreturn, 1) := by decide +kernel
theorem at169_277 : am_at 169 277 = some (.bipush 111, 2) := by decide +kernel
theorem at169_279 : am_at 169 279 = some (.bipush 114, 2) := by decide +kernel
theorem at169_281 : am_at 169 281 = some (.iconst 0, 1) := by decide +kernel
theorem at169_282 : am_at 169 282 = some (.iconst 0, 1) := by decide +kernel
theorem at169_283 : am_at 169 283 = some (.iconst 0, 1) := by decide +kernel
theorem at169_284 : am_at 169 284 = some (.iconst 0, 1) := by decide +kernel
theorem at169_285 : am_at 169 285 = some (.invokestatic 168, 3) := by decide +kernel
theorem at169_288 : am_at 169 288 = some (.lreturn, 1) := by decide +kernel
theorem at169_289 : am_at 169 289 = some (.bipush 110, 2) := by decide +kernel
theorem at169_291 : am_at 169 291 = some (.bipush 111, 2) := by decide +kernel
theorem at169_293 : am_at 169 293 = some (.bipush 116, 2) := by decide +kernel
theorem at169_295 : am_at 169 295 = some (.iconst 0, 1) := by decide +kernel
theorem at169_296 : am_at 169 296 = some (.iconst 0, 1) := by decide +kernel
theorem at169_297 : am_at 169 297 = some (.iconst 0, 1) := by decide +kernel
theorem at169_298 : am_at 169 298 = some (.invokestatic 168, 3) := by decide +kernel
theorem at169_301 : am_at 169 301 = some (.lreturn, 1) := by decide +kernel
theorem at170_0 : am_at 170 0 = some (.aload_n 0, 1) := by decide +kernel
theorem at170_1 : am_at 170 1 = some (.getfield 110190, 3) := by decide +kernel
theorem at170_4 : am_at 170 4 = some (.iconst 1, 1) := by decide +kernel
theorem at170_5 : am_at 170 5 = some (.if_icmp .ne 12, 3) := by decide +kernel
theorem at170_8 : am_at 170 8 = some (.aload_n 0, 1) := by decide +kernel
theorem at170_9 : am_at 170 9 = some (.getfield 110210, 3) := by decide +kernel
theorem at170_12 : am_at 170 12 = some (.bipush 6, 2) := by decide +kernel
theorem at170_14 : am_at 170 14 = some (.if_icmp .le 5, 3) := by decide +kernel
theorem at170_17 : am_at 170 17 = some (.iconst (-1), 1) := by decide +kernel
theorem at170_18 : am_at 170 18 = some (.ireturn, 1) := by decide +kernel
theorem at170_19 : am_at 170 19 = some (.iconst 0, 1) := by decide +kernel
theorem at170_20 : am_at 170 20 = some (.istore_n 1, 1) := by decide +kernel
theorem at170_21 : am_at 170 21 = some (.iload_n 1, 1) := by decide +kernel
theorem at170_22 : am_at 170 22 = some (.bipush 16, 2) := by decide +kernel
theorem at170_24 : am_at 170 24 = some (.if_icmp .ge 23, 3) := by decide +kernel
theorem at170_27 : am_at 170 27 = some (.iload_n 1, 1) := by decide +kernel
theorem at170_28 : am_at 170 28 = some (.invokestatic 169, 3) := by decide +kernel
theorem at170_31 : am_at 170 31 = some (.aload_n 0, 1) := by decide +kernel
theorem at170_32 : am_at 170 32 = some (.getfield 110243, 3) := by decide +kernel
theorem at170_35 : am_at 170 35 = some (.lcmp, 1) := by decide +kernel
theorem at170_36 : am_at 170 36 = some (.ifCond .ne 5, 3) := by decide +kernel
theorem at170_39 : am_at 170 39 = some (.iload_n 1, 1) := by decide +kernel
theorem at170_40 : am_at 170 40 = some (.ireturn, 1) := by decide +kernel
theorem at170_41 : am_at 170 41 = some (.iinc 1 1, 3) := by decide +kernel
theorem at170_44 : am_at 170 44 = some (.goto (-23), 3) := by decide +kernel
theorem at170_47 : am_at 170 47 = some (.iconst (-1), 1) := by decide +kernel
theorem at170_48 : am_at 170 48 = some (.ireturn, 1) := by decide +kernel
theorem at171_0 : am_at 171 0 = some (.aload_n 0, 1) := by decide +kernel
theorem at171_1 : am_at 171 1 = some (.getfield 110140, 3) := by decide +kernel
theorem at171_4 : am_at 171 4 = some (.ifCond .eq 4, 3) := by decide +kernel
theorem at171_7 : am_at 171 7 = some (.return_, 1) := by decide +kernel
theorem at171_8 : am_at 171 8 = some (.aload_n 0, 1) := by decide +kernel
theorem at171_9 : am_at 171 9 = some (.iload_n 1, 1) := by decide +kernel
theorem at171_10 : am_at 171 10 = some (.putfield 110140, 3) := by decide +kernel
theorem at171_13 : am_at 171 13 = some (.aload_n 0, 1) := by decide +kernel
theorem at171_14 : am_at 171 14 = some (.aload_n 0, 1) := by decide +kernel
theorem at171_15 : am_at 171 15 = some (.getfield 110200, 3) := by decide +kernel
theorem at171_18 : am_at 171 18 = some (.putfield 110150, 3) := by decide +kernel
theorem at171_21 : am_at 171 21 = some (.return_, 1) := by decide +kernel
theorem at172_0 : am_at 172 0 = some (.aload_n 0, 1) := by decide +kernel
theorem at172_1 : am_at 172 1 = some (.getfield 110140, 3) := by decide +kernel
theorem at172_4 : am_at 172 4 = some (.ifCond .ne 7, 3) := by decide +kernel
theorem at172_7 : am_at 172 7 = some (.iconst 1, 1) := by decide +kernel
theorem at172_8 : am_at 172 8 = some (.goto 4, 3) := by decide +kernel
theorem at172_11 : am_at 172 11 = some (.iconst 0, 1) := by decide +kernel
theorem at172_12 : am_at 172 12 = some (.ireturn, 1) := by decide +kernel
theorem at173_0 : am_at 173 0 = some (.aload_n 0, 1) := by decide +kernel
theorem at173_1 : am_at 173 1 = some (.getfield 110190, 3) := by decide +kernel
theorem at173_4 : am_at 173 4 = some (.iconst 3, 1) := by decide +kernel
theorem at173_5 : am_at 173 5 = some (.if_icmp .ne 15, 3) := by decide +kernel
theorem at173_8 : am_at 173 8 = some (.aload_n 0, 1) := by decide +kernel
theorem at173_9 : am_at 173 9 = some (.getfield 110230, 3) := by decide +kernel
theorem at173_12 : am_at 173 12 = some (.iload_n 1, 1) := by decide +kernel
theorem at173_13 : am_at 173 13 = some (.if_icmp .ne 7, 3) := by decide +kernel
theorem at173_16 : am_at 173 16 = some (.iconst 1, 1) := by decide +kernel
theorem at173_17 : am_at 173 17 = some (.goto 4, 3) := by decide +kernel
theorem at173_20 : am_at 173 20 = some (.iconst 0, 1) := by decide +kernel
theorem at173_21 : am_at 173 21 = some (.ireturn, 1) := by decide +kernel
theorem at174_0 : am_at 174 0 = some (.aload_n 0, 1) := by decide +kernel
theorem at174_1 : am_at 174 1 = some (.invokevirtual 172, 3) := by decide +kernel
theorem at174_4 : am_at 174 4 = some (.ifCond .ne 4, 3) := by decide +kernel
theorem at174_7 : am_at 174 7 = some (.return_, 1) := by decide +kernel
theorem at174_8 : am_at 174 8 = some (.iload_n 1, 1) := by decide +kernel
theorem at174_9 : am_at 174 9 = some (.ifCond .eq 10, 3) := by decide +kernel
theorem at174_12 : am_at 174 12 = some (.aload_n 0, 1) := by decide +kernel
theorem at174_13 : am_at 174 13 = some (.invokevirtual 167, 3) := by decide +kernel
theorem at174_16 : am_at 174 16 = some (.goto 8, 3) := by decide +kernel
theorem at174_19 : am_at 174 19 = some (.aload_n 0, 1) := by decide +kernel
theorem at174_20 : am_at 174 20 = some (.iconst 1, 1) := by decide +kernel
theorem at174_21 : am_at 174 21 = some (.invokevirtual 171, 3) := by decide +kernel
theorem at174_24 : am_at 174 24 = some (.return_, 1) := by decide +kernel
theorem at175_0 : am_at 175 0 = some (.aload_n 0, 1) := by decide +kernel
theorem at175_1 : am_at 175 1 = some (.invokevirtual 172, 3) := by decide +kernel
theorem at175_4 : am_at 175 4 = some (.ifCond .ne 5, 3) := by decide +kernel
theorem at175_7 : am_at 175 7 = some (.iconst 0, 1) := by decide +kernel
theorem at175_8 : am_at 175 8 = some (.ireturn, 1) := by decide +kernel
theorem at175_9 : am_at 175 9 = some (.aload_n 0, 1) := by decide +kernel
theorem at175_10 : am_at 175 10 = some (.getfield 110190, 3) := by decide +kernel
theorem at175_13 : am_at 175 13 = some (.iconst 2, 1) := by decide +kernel
theorem at175_14 : am_at 175 14 = some (.if_icmp .eq 11, 3) := by decide +kernel
theorem at175_17 : am_at 175 17 = some (.aload_n 0, 1) := by decide +kernel
theorem at175_18 : am_at 175 18 = some (.iconst 1, 1) := by decide +kernel
theorem at175_19 : am_at 175 19 = some (.invokevirtual 171, 3) := by decide +kernel
theorem at175_22 : am_at 175 22 = some (.goto 32, 3) := by decide +kernel
theorem at175_25 : am_at 175 25 = some (.aload_n 0, 1) := by decide +kernel
theorem at175_26 : am_at 175 26 = some (.getfield 110210, 3) := by decide +kernel
theorem at175_29 : am_at 175 29 = some (.iconst 4, 1) := by decide +kernel
theorem at175_30 : am_at 175 30 = some (.if_icmp .gt 19, 3) := by decide +kernel
theorem at175_33 : am_at 175 33 = some (.aload_n 0, 1) := by decide +kernel
theorem at175_34 : am_at 175 34 = some (.getfield 110220, 3) := by decide +kernel
theorem at175_37 : am_at 175 37 = some (.iload_n 1, 1) := by decide +kernel
theorem at175_38 : am_at 175 38 = some (.if_icmp .lt 11, 3) := by decide +kernel
theorem at175_41 : am_at 175 41 = some (.aload_n 0, 1) := by decide +kernel
theorem at175_42 : am_at 175 42 = some (.getfield 110220, 3) := by decide +kernel
theorem at175_45 : am_at 175 45 = some (.iload_n 2, 1) := by decide +kernel
theorem at175_46 : am_at 175 46 = some (.if_icmp .le 8, 3) := by decide +kernel
theorem at175_49 : am_at 175 49 = some (.aload_n 0, 1) := by decide +kernel
theorem at175_50 : am_at 175 50 = some (.iconst 2, 1) := by decide +kernel
theorem at175_51 : am_at 175 51 = some (.invokevirtual 171, 3) := by decide +kernel
theorem at175_54 : am_at 175 54 = some (.aload_n 0, 1) := by decide +kernel
theorem at175_55 : am_at 175 55 = some (.getfield 110220, 3) := by decide +kernel
theorem at175_58 : am_at 175 58 = some (.istore_n 3, 1) := by decide +kernel
theorem at175_59 : am_at 175 59 = some (.aload_n 0, 1) := by decide +kernel
theorem at175_60 : am_at 175 60 = some (.invokevirtual 172, 3) := by decide +kernel
theorem at175_63 : am_at 175 63 = some (.ifCond .eq 7, 3) := by decide +kernel
theorem at175_66 : am_at 175 66 = some (.aload_n 0, 1) := by decide +kernel
theorem at175_67 : am_at 175 67 = some (.invokevirtual 167, 3) := by decide +kernel
theorem at175_70 : am_at 175 70 = some (.iload_n 3, 1) := by decide +kernel
theorem at175_71 : am_at 175 71 = some (.ireturn, 1) := by decide +kernel
theorem at176_0 : am_at 176 0 = some (.aload_n 0, 1) := by decide +kernel
theorem at176_1 : am_at 176 1 = some (.invokevirtual 172, 3) := by decide +kernel
theorem at176_4 : am_at 176 4 = some (.ifCond .ne 5, 3) := by decide +kernel
theorem at176_7 : am_at 176 7 = some (.iconst 0, 1) := by decide +kernel
theorem at176_8 : am_at 176 8 = some (.ireturn, 1) := by decide +kernel
theorem at176_9 : am_at 176 9 = some (.aload_n 0, 1) := by decide +kernel
theorem at176_10 : am_at 176 10 = some (.getfield 110190, 3) := by decide +kernel
theorem at176_13 : am_at 176 13 = some (.iconst 2, 1) := by decide +kernel
theorem at176_14 : am_at 176 14 = some (.if_icmp .eq 11, 3) := by decide +kernel
theorem at176_17 : am_at 176 17 = some (.aload_n 0, 1) := by decide +kernel
theorem at176_18 : am_at 176 18 = some (.iconst 1, 1) := by decide +kernel
theorem at176_19 : am_at 176 19 = some (.invokevirtual 171, 3) := by decide +kernel
theorem at176_22 : am_at 176 22 = some (.goto 35, 3) := by decide +kernel
theorem at176_25 : am_at 176 25 = some (.aload_n 0, 1) := by decide +kernel
theorem at176_26 : am_at 176 26 = some (.getfield 110210, 3) := by decide +kernel
theorem at176_29 : am_at 176 29 = some (.iconst 4, 1) := by decide +kernel
theorem at176_30 : am_at 176 30 = some (.if_icmp .le 11, 3) := by decide +kernel
theorem at176_33 : am_at 176 33 = some (.aload_n 0, 1) := by decide +kernel
theorem at176_34 : am_at 176 34 = some (.iconst 2, 1) := by decide +kernel
theorem at176_35 : am_at 176 35 = some (.invokevirtual 171, 3) := by decide +kernel
theorem at176_38 : am_at 176 38 = some (.goto 19, 3) := by decide +kernel
theorem at176_41 : am_at 176 41 = some (.aload_n 0, 1) := by decide +kernel
theorem at176_42 : am_at 176 42 = some (.getfield 110220, 3) := by decide +kernel
theorem at176_45 : am_at 176 45 = some (.aload_n 0, 1) := by decide +kernel
theorem at176_46 : am_at 176 46 = some (.getfield 110250, 3) := by decide +kernel
theorem at176_49 : am_at 176 49 = some (.if_icmp .lt 8, 3) := by decide +kernel
theorem at176_52 : am_at 176 52 = some (.aload_n 0, 1) := by decide +kernel
theorem at176_53 : am_at 176 53 = some (.iconst 3, 1) := by decide +kernel
theorem at176_54 : am_at 176 54 = some (.invokevirtual 171, 3) := by decide +kernel
theorem at176_57 : am_at 176 57 = some (.aload_n 0, 1) := by decide +kernel
theorem at176_58 : am_at 176 58 = some (.getfield 110220, 3) := by decide +kernel
theorem at176_61 : am_at 176 61 = some (.ireturn, 1) := by decide +kernel
theorem at177_0 : am_at 177 0 = some (.aload_n 0, 1) := by decide +kernel
theorem at177_1 : am_at 177 1 = some (.getfield 110382, 3) := by decide +kernel
theorem at177_4 : am_at 177 4 = some (.aload_n 0, 1) := by decide +kernel
theorem at177_5 : am_at 177 5 = some (.getfield 110300, 3) := by decide +kernel
theorem at177_8 : am_at 177 8 = some (.iload_n 1, 1) := by decide +kernel
theorem at177_9 : am_at 177 9 = some (.iastore, 1) := by decide +kernel
theorem at177_10 : am_at 177 10 = some (.aload_n 0, 1) := by decide +kernel
theorem at177_11 : am_at 177 11 = some (.dup, 1) := by decide +kernel
theorem at177_12 : am_at 177 12 = some (.getfield 110300, 3) := by decide +kernel
theorem at177_15 : am_at 177 15 = some (.iconst 1, 1) := by decide +kernel
theorem at177_16 : am_at 177 16 = some (.iadd, 1) := by decide +kernel
theorem at177_17 : am_at 177 17 = some (.putfield 110300, 3) := by decide +kernel
theorem at177_20 : am_at 177 20 = some (.return_, 1) := by decide +kernel
theorem at178_0 : am_at 178 0 = some (.iload_n 0, 1) := by decide +kernel
theorem at178_1 : am_at 178 1 = some (.bipush 14, 2) := by decide +kernel
theorem at178_3 : am_at 178 3 = some (.if_icmp .lt 7, 3) := by decide +kernel
theorem at178_6 : am_at 178 6 = some (.iconst 1, 1) := by decide +kernel
theorem at178_7 : am_at 178 7 = some (.goto 4, 3) := by decide +kernel
theorem at178_10 : am_at 178 10 = some (.iconst 0, 1) := by decide +kernel
theorem at178_11 : am_at 178 11 = some (.ireturn, 1) := by decide +kernel
theorem at179_0 : am_at 179 0 = some (.iload_n 0, 1) := by decide +kernel
theorem at179_1 : am_at 179 1 = some (.iconst 5, 1) := by decide +kernel
theorem at179_2 : am_at 179 2 = some (.if_icmp .ne 7, 3) := by decide +kernel
theorem at179_5 : am_at 179 5 = some (.iconst 1, 1) := by decide +kernel
theorem at179_6 : am_at 179 6 = some (.goto 55, 3) := by decide +kernel
theorem at179_9 : am_at 179 9 = some (.iload_n 0, 1) := by decide +kernel
theorem at179_10 : am_at 179 10 = some (.iconst 4, 1) := by decide +kernel
theorem at179_11 : am_at 179 11 = some (.if_icmp .ne 7, 3) := by decide +kernel
theorem at179_14 : am_at 179 14 = some (.iconst 2, 1) := by decide +kernel
theorem at179_15 : am_at 179 15 = some (.goto 46, 3) := by decide +kernel
theorem at179_18 : am_at 179 18 = some (.iload_n 0, 1) := by decide +kernel
theorem at179_19 : am_at 179 19 = some (.iconst 3, 1) := by decide +kernel
theorem at179_20 : am_at 179 20 = some (.if_icmp .ne 7, 3) := by decide +kernel
theorem at179_23 : am_at 179 23 = some (.iconst 3, 1) := by decide +kernel
theorem at179_24 : am_at 179 24 = some (.goto 37, 3) := by decide +kernel
theorem at179_27 : am_at 179 27 = some (.iload_n 0, 1) := by decide +kernel
theorem at179_28 : am_at 179 28 = some (.bipush 6, 2) := by decide +kernel
theorem at179_30 : am_at 179 30 = some (.if_icmp .eq 9, 3) := by decide +kernel
theorem at179_33 : am_at 179 33 = some (.iload_n 0, 1) := by decide +kernel
theorem at179_34 : am_at 179 34 = some (.bipush 7, 2) := by decide +kernel
theorem at179_36 : am_at 179 36 = some (.if_icmp .ne 7, 3) := by decide +kernel
theorem at179_39 : am_at 179 39 = some (.iconst 4, 1) := by decide +kernel
theorem at179_40 : am_at 179 40 = some (.goto 21, 3) := by decide +kernel
theorem at179_43 : am_at 179 43 = some (.iload_n 0, 1) := by decide +kernel
theorem at179_44 : am_at 179 44 = some (.bipush 8, 2) := by decide +kernel
theorem at179_46 : am_at 179 46 = some (.if_icmp .eq 9, 3) := by decide +kernel
theorem at179_49 : am_at 179 49 = some (.iload_n 0, 1) := by decide +kernel
theorem at179_50 : am_at 179 50 = some (.bipush 9, 2) := by decide +kernel
theorem at179_52 : am_at 179 52 = some (.if_icmp .ne 7, 3) := by decide +kernel
theorem at179_55 : am_at 179 55 = some (.iconst 5, 1) := by decide +kernel
theorem at179_56 : am_at 179 56 = some (.goto 5, 3) := by decide +kernel
theorem at179_59 : am_at 179 59 = some (.bipush 6, 2) := by decide +kernel
theorem at179_61 : am_at 179 61 = some (.ireturn, 1) := by decide +kernel
theorem at180_0 : am_at 180 0 = some (.aload_n 0, 1) := by decide +kernel
theorem at180_1 : am_at 180 1 = some (.getfield 110310, 3) := by decide +kernel
theorem at180_4 : am_at 180 4 = some (.ifCond .le 64, 3) := by decide +kernel
theorem at180_7 : am_at 180 7 = some (.aload_n 0, 1) := by decide +kernel
theorem at180_8 : am_at 180 8 = some (.getfield 110392, 3) := by decide +kernel
theorem at180_11 : am_at 180 11 = some (.aload_n 0, 1) := by decide +kernel
theorem at180_12 : am_at 180 12 = some (.getfield 110310, 3) := by decide +kernel
theorem at180_15 : am_at 180 15 = some (.iconst 1, 1) := by decide +kernel
theorem at180_16 : am_at 180 16 = some (.isub, 1) := by decide +kernel
theorem at180_17 : am_at 180 17 = some (.iaload, 1) := by decide +kernel
theorem at180_18 : am_at 180 18 = some (.invokestatic 178, 3) := by decide +kernel
theorem at180_21 : am_at 180 21 = some (.ifCond .ne 47, 3) := by decide +kernel
theorem at180_24 : am_at 180 24 = some (.aload_n 0, 1) := by decide +kernel
theorem at180_25 : am_at 180 25 = some (.getfield 110392, 3) := by decide +kernel
theorem at180_28 : am_at 180 28 = some (.aload_n 0, 1) := by decide +kernel
theorem at180_29 : am_at 180 29 = some (.getfield 110310, 3) := by decide +kernel
theorem at180_32 : am_at 180 32 = some (.iconst 1, 1) := by decide +kernel
theorem at180_33 : am_at 180 33 = some (.isub, 1) := by decide +kernel
theorem at180_34 : am_at 180 34 = some (.iaload, 1) := by decide +kernel
theorem at180_35 : am_at 180 35 = some (.invokestatic 179, 3) := by decide +kernel
theorem at180_38 : am_at 180 38 = some (.iload_n 1, 1) := by decide +kernel
theorem at180_39 : am_at 180 39 = some (.if_icmp .lt 29, 3) := by decide +kernel
theorem at180_42 : am_at 180 42 = some (.aload_n 0, 1) := by decide +kernel
theorem at180_43 : am_at 180 43 = some (.dup, 1) := by decide +kernel
theorem at180_44 : am_at 180 44 = some (.getfield 110310, 3) := by decide +kernel
theorem at180_47 : am_at 180 47 = some (.iconst 1, 1) := by decide +kernel
theorem at180_48 : am_at 180 48 = some (.isub, 1) := by decide +kernel
theorem at180_49 : am_at 180 49 = some (.putfield 110310, 3) := by decide +kernel
theorem at180_52 : am_at 180 52 = some (.aload_n 0, 1) := by decide +kernel
theorem at180_53 : am_at 180 53 = some (.aload_n 0, 1) := by decide +kernel
theorem at180_54 : am_at 180 54 = some (.getfield 110392, 3) := by decide +kernel
theorem at180_57 : am_at 180 57 = some (.aload_n 0, 1) := by decide +kernel
theorem at180_58 : am_at 180 58 = some (.getfield 110310, 3) := by decide +kernel
theorem at180_61 : am_at 180 61 = some (.iaload, 1) := by decide +kernel
theorem at180_62 : am_at 180 62 = some (.invokevirtual 177, 3) := by decide +kernel
theorem at180_65 : am_at 180 65 = some (.goto (-65), 3) := by decide +kernel
theorem at180_68 : am_at 180 68 = some (.return_, 1) := by decide +kernel
theorem at181_0 : am_at 181 0 = some (.aload_n 0, 1) := by decide +kernel
theorem at181_1 : am_at 181 1 = some (.getfield 110392, 3) := by decide +kernel
theorem at181_4 : am_at 181 4 = some (.aload_n 0, 1) := by decide +kernel
theorem at181_5 : am_at 181 5 = some (.getfield 110310, 3) := by decide +kernel
theorem at181_8 : am_at 181 8 = some (.iload_n 1, 1) := by decide +kernel
theorem at181_9 : am_at 181 9 = some (.iastore, 1) := by decide +kernel
theorem at181_10 : am_at 181 10 = some (.aload_n 0, 1) := by decide +kernel
theorem at181_11 : am_at 181 11 = some (.dup, 1) := by decide +kernel
theorem at181_12 : am_at 181 12 = some (.getfield 110310, 3) := by decide +kernel
theorem at181_15 : am_at 181 15 = some (.iconst 1, 1) := by decide +kernel
theorem at181_16 : am_at 181 16 = some (.iadd, 1) := by decide +kernel
theorem at181_17 : am_at 181 17 = some (.putfield 110310, 3) := by decide +kernel
theorem at181_20 : am_at 181 20 = some (.return_, 1) := by decide +kernel
theorem at182_0 : am_at 182 0 = some (.aload_n 0, 1) := by decide +kernel
theorem at182_1 : am_at 182 1 = some (.invokevirtual 172, 3) := by decide +kernel
theorem at182_4 : am_at 182 4 = some (.ifCond .ne 4, 3) := by decide +kernel
theorem at182_7 : am_at 182 7 = some (.return_, 1) := by decide +kernel
theorem at182_8 : am_at 182 8 = some (.aload_n 0, 1) := by decide +kernel
theorem at182_9 : am_at 182 9 = some (.getfield 110190, 3) := by decide +kernel
theorem at182_12 : am_at 182 12 = some (.iconst 2, 1) := by decide +kernel
theorem at182_13 : am_at 182 13 = some (.if_icmp .ne 32, 3) := by decide +kernel
theorem at182_16 : am_at 182 16 = some (.aload_n 0, 1) := by decide +kernel
theorem at182_17 : am_at 182 17 = some (.getfield 110210, 3) := by decide +kernel
theorem at182_20 : am_at 182 20 = some (.iconst 4, 1) := by decide +kernel
theorem at182_21 : am_at 182 21 = some (.if_icmp .le 8, 3) := by decide +kernel
theorem at182_24 : am_at 182 24 = some (.aload_n 0, 1) := by decide +kernel
theorem at182_25 : am_at 182 25 = some (.iconst 2, 1) := by decide +kernel
theorem at182_26 : am_at 182 26 = some (.invokevirtual 171, 3) := by decide +kernel
theorem at182_29 : am_at 182 29 = some (.aload_n 0, 1) := by decide +kernel
theorem at182_30 : am_at 182 30 = some (.iconst 1, 1) := by decide +kernel
theorem at182_31 : am_at 182 31 = some (.invokevirtual 177, 3) := by decide +kernel
theorem at182_34 : am_at 182 34 = some (.aload_n 0, 1) := by decide +kernel
theorem at182_35 : am_at 182 35 = some (.aload_n 0, 1) := by decide +kernel
theorem at182_36 : am_at 182 36 = some (.getfield 110220, 3) := by decide +kernel
theorem at182_39 : am_at 182 39 = some (.invokevirtual 177, 3) := by decide +kernel
theorem at182_42 : am_at 182 42 = some (.goto 49, 3) := by decide +kernel
theorem at182_45 : am_at 182 45 = some (.aload_n 0, 1) := by decide +kernel
theorem at182_46 : am_at 182 46 = some (.getfield 110190, 3) := by decide +kernel
theorem at182_49 : am_at 182 49 = some (.iconst 1, 1) := by decide +kernel
theorem at182_50 : am_at 182 50 = some (.if_icmp .ne 36, 3) := by decide +kernel
theorem at182_53 : am_at 182 53 = some (.aload_n 0, 1) := by decide +kernel
theorem at182_54 : am_at 182 54 = some (.invokevirtual 170, 3) := by decide +kernel
theorem at182_57 : am_at 182 57 = some (.istore_n 1, 1) := by decide +kernel
theorem at182_58 : am_at 182 58 = some (.iload_n 1, 1) := by decide +kernel
theorem at182_59 : am_at 182 59 = some (.ifCond .lt 9, 3) := by decide +kernel
theorem at182_62 : am_at 182 62 = some (.iload_n 1, 1) := by decide +kernel
theorem at182_63 : am_at 182 63 = some (.bipush 6, 2) := by decide +kernel
theorem at182_65 : am_at 182 65 = some (.if_icmp .le 8, 3) := by decide +kernel
theorem at182_68 : am_at 182 68 = some (.aload_n 0, 1) := by decide +kernel
theorem at182_69 : am_at 182 69 = some (.iconst 3, 1) := by decide +kernel
theorem at182_70 : am_at 182 70 = some (.invokevirtual 171, 3) := by decide +kernel
theorem at182_73 : am_at 182 73 = some (.aload_n 0, 1) := by decide +kernel
theorem at182_74 : am_at 182 74 = some (.iconst 2, 1) := by decide +kernel
theorem at182_75 : am_at 182 75 = some (.invokevirtual 177, 3) := by decide +kernel
theorem at182_78 : am_at 182 78 = some (.aload_n 0, 1) := by decide +kernel
theorem at182_79 : am_at 182 79 = some (.iload_n 1, 1) := by decide +kernel
theorem at182_80 : am_at 182 80 = some (.invokevirtual 177, 3) := by decide +kernel
theorem at182_83 : am_at 182 83 = some (.goto 8, 3) := by decide +kernel
theorem at182_86 : am_at 182 86 = some (.aload_n 0, 1) := by decide +kernel
theorem at182_87 : am_at 182 87 = some (.iconst 1, 1) := by decide +kernel
theorem at182_88 : am_at 182 88 = some (.invokevirtual 171, 3) := by decide +kernel
theorem at182_91 : am_at 182 91 = some (.aload_n 0, 1) := by decide +kernel
theorem at182_92 : am_at 182 92 = some (.invokevirtual 172, 3) := by decide +kernel
theorem at182_95 : am_at 182 95 = some (.ifCond .eq 7, 3) := by decide +kernel
theorem at182_98 : am_at 182 98 = some (.aload_n 0, 1) := by decide +kernel
theorem at182_99 : am_at 182 99 = some (.invokevirtual 167, 3) := by decide +kernel
theorem at182_102 : am_at 182 102 = some (.return_, 1) := by decide +kernel
theorem at183_0 : am_at 183 0 = some (.aload_n 0, 1) := by decide +kernel
theorem at183_1 : am_at 183 1 = some (.getfield 110320, 3) := by decide +kernel
theorem at183_4 : am_at 183 4 = some (.bipush 6, 2) := by decide +kernel
theorem at183_6 : am_at 183 6 = some (.if_icmp .ge 24, 3) := by decide +kernel
theorem at183_9 : am_at 183 9 = some (.aload_n 0, 1) := by decide +kernel
theorem at183_10 : am_at 183 10 = some (.dup, 1) := by decide +kernel
theorem at183_11 : am_at 183 11 = some (.getfield 110320, 3) := by decide +kernel
theorem at183_14 : am_at 183 14 = some (.iconst 1, 1) := by decide +kernel
theorem at183_15 : am_at 183 15 = some (.iadd, 1) := by decide +kernel
theorem at183_16 : am_at 183 16 = some (.putfield 110320, 3) := by decide +kernel
theorem at183_19 : am_at 183 19 = some (.aload_n 0, 1) := by decide +kernel
theorem at183_20 : am_at 183 20 = some (.getfield 110402, 3) := by decide +kernel
theorem at183_23 : am_at 183 23 = some (.aload_n 0, 1) := by decide +kernel
theorem at183_24 : am_at 183 24 = some (.getfield 110320, 3) := by decide +kernel
theorem at183_27 : am_at 183 27 = some (.iconst 0, 1) := by decide +kernel
theorem at183_28 : am_at 183 28 = some (.bastore, 1) := by decide +kernel
theorem at183_29 : am_at 183 29 = some (.return_, 1) := by decide +kernel
theorem at183_30 : am_at 183 30 = some (.aload_n 0, 1) := by decide +kernel
theorem at183_31 : am_at 183 31 = some (.aload_n 0, 1) := by decide +kernel
theorem at183_32 : am_at 183 32 = some (.getfield 110190, 3) := by decide +kernel
theorem at183_35 : am_at 183 35 = some (.iconst 2, 1) := by decide +kernel
theorem at183_36 : am_at 183 36 = some (.if_icmp .eq 20, 3) := by decide +kernel
theorem at183_39 : am_at 183 39 = some (.aload_n 0, 1) := by decide +kernel
theorem at183_40 : am_at 183 40 = some (.getfield 110190, 3) := by decide +kernel
theorem at183_43 : am_at 183 43 = some (.iconst 1, 1) := by decide +kernel
theorem at183_44 : am_at 183 44 = some (.if_icmp .eq 12, 3) := by decide +kernel
theorem at183_47 : am_at 183 47 = some (.aload_n 0, 1) := by decide +kernel
theorem at183_48 : am_at 183 48 = some (.bipush 40, 2) := by decide +kernel
theorem at183_50 : am_at 183 50 = some (.invokevirtual 173, 3) := by decide +kernel
theorem at183_53 : am_at 183 53 = some (.ifCond .eq 7, 3) := by decide +kernel
theorem at183_56 : am_at 183 56 = some (.iconst 2, 1) := by decide +kernel
theorem at183_57 : am_at 183 57 = some (.goto 4, 3) := by decide +kernel
theorem at183_60 : am_at 183 60 = some (.iconst 1, 1) := by decide +kernel
theorem at183_61 : am_at 183 61 = some (.invokevirtual 171, 3) := by decide +kernel
theorem at183_64 : am_at 183 64 = some (.return_, 1) := by decide +kernel
theorem at184_0 : am_at 184 0 = some (.iload_n 1, 1) := by decide +kernel
theorem at184_1 : am_at 184 1 = some (.istore_n 2, 1) := by decide +kernel
theorem at184_2 : am_at 184 2 = some (.iconst 1, 1) := by decide +kernel
theorem at184_3 : am_at 184 3 = some (.istore_n 3, 1) := by decide +kernel
theorem at184_4 : am_at 184 4 = some (.iload_n 3, 1) := by decide +kernel
theorem at184_5 : am_at 184 5 = some (.ifCond .eq 115, 3) := by decide +kernel
theorem at184_8 : am_at 184 8 = some (.aload_n 0, 1) := by decide +kernel
theorem at184_9 : am_at 184 9 = some (.invokevirtual 172, 3) := by decide +kernel
theorem at184_12 : am_at 184 12 = some (.ifCond .eq 108, 3) := by decide +kernel
theorem at184_15 : am_at 184 15 = some (.iconst 0, 1) := by decide +kernel
theorem at184_16 : am_at 184 16 = some (.istore 4, 2) := by decide +kernel
theorem at184_18 : am_at 184 18 = some (.aload_n 0, 1) := by decide +kernel
theorem at184_19 : am_at 184 19 = some (.invokevirtual 172, 3) := by decide +kernel
theorem at184_22 : am_at 184 22 = some (.ifCond .eq 53, 3) := by decide +kernel
theorem at184_25 : am_at 184 25 = some (.iload_n 2, 1) := by decide +kernel
theorem at184_26 : am_at 184 26 = some (.ifCond .eq 49, 3) := by decide +kernel
theorem at184_29 : am_at 184 29 = some (.aload_n 0, 1) := by decide +kernel
theorem at184_30 : am_at 184 30 = some (.invokevirtual 170, 3) := by decide +kernel
theorem at184_33 : am_at 184 33 = some (.bipush 15, 2) := by decide +kernel
theorem at184_35 : am_at 184 35 = some (.if_icmp .ne 40, 3) := by decide +kernel
theorem at184_38 : am_at 184 38 = some (.iload 4, 2) := by decide +kernel
theorem at184_40 : am_at 184 40 = some (.bipush 6, 2) := by decide +kernel
theorem at184_42 : am_at 184 42 = some (.if_icmp .ne 8, 3) := by decide +kernel
theorem at184_45 : am_at 184 45 = some (.aload_n 0, 1) := by decide +kernel
theorem at184_46 : am_at 184 46 = some (.iconst 2, 1) := by decide +kernel
theorem at184_47 : am_at 184 47 = some (.invokevirtual 171, 3) := by decide +kernel
theorem at184_50 : am_at 184 50 = some (.iinc 4 1, 3) := by decide +kernel
theorem at184_53 : am_at 184 53 = some (.aload_n 0, 1) := by decide +kernel
theorem at184_54 : am_at 184 54 = some (.invokevirtual 172, 3) := by decide +kernel
theorem at184_57 : am_at 184 57 = some (.ifCond .ne 6, 3) := by decide +kernel
theorem at184_60 : am_at 184 60 = some (.goto (-42), 3) := by decide +kernel
theorem at184_63 : am_at 184 63 = some (.aload_n 0, 1) := by decide +kernel
theorem at184_64 : am_at 184 64 = some (.iconst 3, 1) := by decide +kernel
theorem at184_65 : am_at 184 65 = some (.invokevirtual 181, 3) := by decide +kernel
theorem at184_68 : am_at 184 68 = some (.aload_n 0, 1) := by decide +kernel
theorem at184_69 : am_at 184 69 = some (.invokevirtual 167, 3) := by decide +kernel
theorem at184_72 : am_at 184 72 = some (.goto (-54), 3) := by decide +kernel
theorem at184_75 : am_at 184 75 = some (.aload_n 0, 1) := by decide +kernel
theorem at184_76 : am_at 184 76 = some (.invokevirtual 172, 3) := by decide +kernel
theorem at184_79 : am_at 184 79 = some (.ifCond .eq 16, 3) := by decide +kernel
theorem at184_82 : am_at 184 82 = some (.aload_n 0, 1) := by decide +kernel
theorem at184_83 : am_at 184 83 = some (.bipush 40, 2) := by decide +kernel
theorem at184_85 : am_at 184 85 = some (.invokevirtual 173, 3) := by decide +kernel
theorem at184_88 : am_at 184 88 = some (.ifCond .eq 7, 3) := by decide +kernel
theorem at184_91 : am_at 184 91 = some (.iconst 1, 1) := by decide +kernel
theorem at184_92 : am_at 184 92 = some (.goto 4, 3) := by decide +kernel
theorem at184_95 : am_at 184 95 = some (.iconst 0, 1) := by decide +kernel
theorem at184_96 : am_at 184 96 = some (.istore_n 3, 1) := by decide +kernel
theorem at184_97 : am_at 184 97 = some (.iload_n 3, 1) := by decide +kernel
theorem at184_98 : am_at 184 98 = some (.ifCond .eq 19, 3) := by decide +kernel
theorem at184_101 : am_at 184 101 = some (.aload_n 0, 1) := by decide +kernel
theorem at184_102 : am_at 184 102 = some (.bipush 14, 2) := by decide +kernel
theorem at184_104 : am_at 184 104 = some (.invokevirtual 181, 3) := by decide +kernel
theorem at184_107 : am_at 184 107 = some (.aload_n 0, 1) := by decide +kernel
theorem at184_108 : am_at 184 108 = some (.invokevirtual 167, 3) := by decide +kernel
theorem at184_111 : am_at 184 111 = some (.aload_n 0, 1) := by decide +kernel
theorem at184_112 : am_at 184 112 = some (.invokevirtual 183, 3) := by decide +kernel
theorem at184_115 : am_at 184 115 = some (.iconst 1, 1) := by decide +kernel
theorem at184_116 : am_at 184 116 = some (.istore_n 2, 1) := by decide +kernel
theorem at184_117 : am_at 184 117 = some (.goto (-113), 3) := by decide +kernel
theorem at184_120 : am_at 184 120 = some (.aload_n 0, 1) := by decide +kernel
theorem at184_121 : am_at 184 121 = some (.invokevirtual 182, 3) := by decide +kernel
theorem at184_124 : am_at 184 124 = some (.return_, 1) := by decide +kernel
theorem at185_0 : am_at 185 0 = some (.aload_n 0, 1) := by decide +kernel
theorem at185_1 : am_at 185 1 = some (.getfield 110310, 3) := by decide +kernel
theorem at185_4 : am_at 185 4 = some (.iconst 1, 1) := by decide +kernel
theorem at185_5 : am_at 185 5 = some (.isub, 1) := by decide +kernel
theorem at185_6 : am_at 185 6 = some (.istore_n 1, 1) := by decide +kernel
theorem at185_7 : am_at 185 7 = some (.iload_n 1, 1) := by decide +kernel
theorem at185_8 : am_at 185 8 = some (.ifCond .lt 21, 3) := by decide +kernel
theorem at185_11 : am_at 185 11 = some (.aload_n 0, 1) := by decide +kernel
theorem at185_12 : am_at 185 12 = some (.getfield 110392, 3) := by decide +kernel
theorem at185_15 : am_at 185 15 = some (.iload_n 1, 1) := by decide +kernel
theorem at185_16 : am_at 185 16 = some (.iaload, 1) := by decide +kernel
theorem at185_17 : am_at 185 17 = some (.invokestatic 178, 3) := by decide +kernel
theorem at185_20 : am_at 185 20 = some (.ifCond .ne 9, 3) := by decide +kernel
theorem at185_23 : am_at 185 23 = some (.iinc 1 (-1), 3) := by decide +kernel
theorem at185_26 : am_at 185 26 = some (.goto (-19), 3) := by decide +kernel
theorem at185_29 : am_at 185 29 = some (.iload_n 1, 1) := by decide +kernel
theorem at185_30 : am_at 185 30 = some (.ifCond .lt 7, 3) := by decide +kernel
theorem at185_33 : am_at 185 33 = some (.iconst 1, 1) := by decide +kernel
theorem at185_34 : am_at 185 34 = some (.goto 4, 3) := by decide +kernel
theorem at185_37 : am_at 185 37 = some (.iconst 0, 1) := by decide +kernel
theorem at185_38 : am_at 185 38 = some (.ireturn, 1) := by decide +kernel
theorem at186_0 : am_at 186 0 = some (.aload_n 0, 1) := by decide +kernel
theorem at186_1 : am_at 186 1 = some (.iconst 0, 1) := by decide +kernel
theorem at186_2 : am_at 186 2 = some (.invokevirtual 180, 3) := by decide +kernel
theorem at186_5 : am_at 186 5 = some (.aload_n 0, 1) := by decide +kernel
theorem at186_6 : am_at 186 6 = some (.dup, 1) := by decide +kernel
theorem at186_7 : am_at 186 7 = some (.getfield 110310, 3) := by decide +kernel
theorem at186_10 : am_at 186 10 = some (.iconst 1, 1) := by decide +kernel
theorem at186_11 : am_at 186 11 = some (.isub, 1) := by decide +kernel
theorem at186_12 : am_at 186 12 = some (.putfield 110310, 3) := by decide +kernel
theorem at186_15 : am_at 186 15 = some (.aload_n 0, 1) := by decide +kernel
theorem at186_16 : am_at 186 16 = some (.dup, 1) := by decide +kernel
theorem at186_17 : am_at 186 17 = some (.getfield 110320, 3) := by decide +kernel
theorem at186_20 : am_at 186 20 = some (.iconst 1, 1) := by decide +kernel
theorem at186_21 : am_at 186 21 = some (.isub, 1) := by decide +kernel
theorem at186_22 : am_at 186 22 = some (.putfield 110320, 3) := by decide +kernel
theorem at186_25 : am_at 186 25 = some (.aload_n 0, 1) := by decide +kernel
theorem at186_26 : am_at 186 26 = some (.invokevirtual 167, 3) := by decide +kernel
theorem at186_29 : am_at 186 29 = some (.return_, 1) := by decide +kernel
theorem at187_0 : am_at 187 0 = some (.aload_n 0, 1) := by decide +kernel
theorem at187_1 : am_at 187 1 = some (.invokevirtual 172, 3) := by decide +kernel
theorem at187_4 : am_at 187 4 = some (.ifCond .ne 4, 3) := by decide +kernel
theorem at187_7 : am_at 187 7 = some (.return_, 1) := by decide +kernel
theorem at187_8 : am_at 187 8 = some (.aload_n 0, 1) := by decide +kernel
theorem at187_9 : am_at 187 9 = some (.iconst 0, 1) := by decide +kernel
theorem at187_10 : am_at 187 10 = some (.putfield 110310, 3) := by decide +kernel
theorem at187_13 : am_at 187 13 = some (.aload_n 0, 1) := by decide +kernel
theorem at187_14 : am_at 187 14 = some (.iconst 0, 1) := by decide +kernel
theorem at187_15 : am_at 187 15 = some (.putfield 110320, 3) := by decide +kernel
theorem at187_18 : am_at 187 18 = some (.aload_n 0, 1) := by decide +kernel
theorem at187_19 : am_at 187 19 = some (.invokevirtual 183, 3) := by decide +kernel
theorem at187_22 : am_at 187 22 = some (.aload_n 0, 1) := by decide +kernel
theorem at187_23 : am_at 187 23 = some (.iconst 1, 1) := by decide +kernel
theorem at187_24 : am_at 187 24 = some (.invokevirtual 184, 3) := by decide +kernel
theorem at187_27 : am_at 187 27 = some (.iconst 1, 1) := by decide +kernel
theorem at187_28 : am_at 187 28 = some (.istore_n 1, 1) := by decide +kernel
theorem at187_29 : am_at 187 29 = some (.iload_n 1, 1) := by decide +kernel
theorem at187_30 : am_at 187 30 = some (.ifCond .eq 295, 3) := by decide +kernel
theorem at187_33 : am_at 187 33 = some (.aload_n 0, 1) := by decide +kernel
theorem at187_34 : am_at 187 34 = some (.invokevirtual 172, 3) := by decide +kernel
theorem at187_37 : am_at 187 37 = some (.ifCond .eq 288, 3) := by decide +kernel
theorem at187_40 : am_at 187 40 = some (.aload_n 0, 1) := by decide +kernel
theorem at187_41 : am_at 187 41 = some (.invokevirtual 170, 3) := by decide +kernel
theorem at187_44 : am_at 187 44 = some (.istore_n 2, 1) := by decide +kernel
theorem at187_45 : am_at 187 45 = some (.iload_n 2, 1) := by decide +kernel
theorem at187_46 : am_at 187 46 = some (.bipush 13, 2) := by decide +kernel
theorem at187_48 : am_at 187 48 = some (.if_icmp .eq 9, 3) := by decide +kernel
theorem at187_51 : am_at 187 51 = some (.iload_n 2, 1) := by decide +kernel
theorem at187_52 : am_at 187 52 = some (.bipush 14, 2) := by decide +kernel
theorem at187_54 : am_at 187 54 = some (.if_icmp .ne 55, 3) := by decide +kernel
theorem at187_57 : am_at 187 57 = some (.aload_n 0, 1) := by decide +kernel
theorem at187_58 : am_at 187 58 = some (.iload_n 2, 1) := by decide +kernel
theorem at187_59 : am_at 187 59 = some (.bipush 13, 2) := by decide +kernel
theorem at187_61 : am_at 187 61 = some (.if_icmp .ne 7, 3) := by decide +kernel
theorem at187_64 : am_at 187 64 = some (.iconst 2, 1) := by decide +kernel
theorem at187_65 : am_at 187 65 = some (.goto 4, 3) := by decide +kernel
theorem at187_68 : am_at 187 68 = some (.iconst 1, 1) := by decide +kernel
theorem at187_69 : am_at 187 69 = some (.invokevirtual 180, 3) := by decide +kernel
theorem at187_72 : am_at 187 72 = some (.aload_n 0, 1) := by decide +kernel
theorem at187_73 : am_at 187 73 = some (.iload_n 2, 1) := by decide +kernel
theorem at187_74 : am_at 187 74 = some (.bipush 13, 2) := by decide +kernel
theorem at187_76 : am_at 187 76 = some (.if_icmp .ne 7, 3) := by decide +kernel
theorem at187_79 : am_at 187 79 = some (.iconst 4, 1) := by decide +kernel
theorem at187_80 : am_at 187 80 = some (.goto 4, 3) := by decide +kernel
theorem at187_83 : am_at 187 83 = some (.iconst 5, 1) := by decide +kernel
theorem at187_84 : am_at 187 84 = some (.invokevirtual 181, 3) := by decide +kernel
theorem at187_87 : am_at 187 87 = some (.aload_n 0, 1) := by decide +kernel
theorem at187_88 : am_at 187 88 = some (.getfield 110402, 3) := by decide +kernel
theorem at187_91 : am_at 187 91 = some (.aload_n 0, 1) := by decide +kernel
theorem at187_92 : am_at 187 92 = some (.getfield 110320, 3) := by decide +kernel
theorem at187_95 : am_at 187 95 = some (.iconst 0, 1) := by decide +kernel
theorem at187_96 : am_at 187 96 = some (.bastore, 1) := by decide +kernel
theorem at187_97 : am_at 187 97 = some (.aload_n 0, 1) := by decide +kernel
theorem at187_98 : am_at 187 98 = some (.invokevirtual 167, 3) := by decide +kernel
theorem at187_101 : am_at 187 101 = some (.aload_n 0, 1) := by decide +kernel
theorem at187_102 : am_at 187 102 = some (.iconst 1, 1) := by decide +kernel
theorem at187_103 : am_at 187 103 = some (.invokevirtual 184, 3) := by decide +kernel
theorem at187_106 : am_at 187 106 = some (.goto 216, 3) := by decide +kernel
theorem at187_109 : am_at 187 109 = some (.aload_n 0, 1) := by decide +kernel
theorem at187_110 : am_at 187 110 = some (.bipush 60, 2) := by decide +kernel
theorem at187_112 : am_at 187 112 = some (.invokevirtual 173, 3) := by decide +kernel
theorem at187_115 : am_at 187 115 = some (.ifCond .ne 12, 3) := by decide +kernel
theorem at187_118 : am_at 187 118 = some (.aload_n 0, 1) := by decide +kernel
theorem at187_119 : am_at 187 119 = some (.bipush 61, 2) := by decide +kernel
theorem at187_121 : am_at 187 121 = some (.invokevirtual 173, 3) := by decide +kernel
theorem at187_124 : am_at 187 124 = some (.ifCond .eq 62, 3) := by decide +kernel
theorem at187_127 : am_at 187 127 = some (.aload_n 0, 1) := by decide +kernel
theorem at187_128 : am_at 187 128 = some (.getfield 110402, 3) := by decide +kernel
theorem at187_131 : am_at 187 131 = some (.aload_n 0, 1) := by decide +kernel
theorem at187_132 : am_at 187 132 = some (.getfield 110320, 3) := by decide +kernel
theorem at187_135 : am_at 187 135 = some (.baload, 1) := by decide +kernel
theorem at187_136 : am_at 187 136 = some (.ifCond .ne 50, 3) := by decide +kernel
theorem at187_139 : am_at 187 139 = some (.aload_n 0, 1) := by decide +kernel
theorem at187_140 : am_at 187 140 = some (.iconst 4, 1) := by decide +kernel
theorem at187_141 : am_at 187 141 = some (.invokevirtual 180, 3) := by decide +kernel
theorem at187_144 : am_at 187 144 = some (.aload_n 0, 1) := by decide +kernel
theorem at187_145 : am_at 187 145 = some (.aload_n 0, 1) := by decide +kernel
theorem at187_146 : am_at 187 146 = some (.bipush 60, 2) := by decide +kernel
theorem at187_148 : am_at 187 148 = some (.invokevirtual 173, 3) := by decide +kernel
theorem at187_151 : am_at 187 151 = some (.ifCond .eq 8, 3) := by decide +kernel
theorem at187_154 : am_at 187 154 = some (.bipush 6, 2) := by decide +kernel
theorem at187_156 : am_at 187 156 = some (.goto 5, 3) := by decide +kernel
theorem at187_159 : am_at 187 159 = some (.bipush 7, 2) := by decide +kernel
theorem at187_161 : am_at 187 161 = some (.invokevirtual 181, 3) := by decide +kernel
theorem at187_164 : am_at 187 164 = some (.aload_n 0, 1) := by decide +kernel
theorem at187_165 : am_at 187 165 = some (.getfield 110402, 3) := by decide +kernel
theorem at187_168 : am_at 187 168 = some (.aload_n 0, 1) := by decide +kernel
theorem at187_169 : am_at 187 169 = some (.getfield 110320, 3) := by decide +kernel
theorem at187_172 : am_at 187 172 = some (.iconst 1, 1) := by decide +kernel
theorem at187_173 : am_at 187 173 = some (.bastore, 1) := by decide +kernel
theorem at187_174 : am_at 187 174 = some (.aload_n 0, 1) := by decide +kernel
theorem at187_175 : am_at 187 175 = some (.invokevirtual 167, 3) := by decide +kernel
theorem at187_178 : am_at 187 178 = some (.aload_n 0, 1) := by decide +kernel
theorem at187_179 : am_at 187 179 = some (.iconst 0, 1) := by decide +kernel
theorem at187_180 : am_at 187 180 = some (.invokevirtual 184, 3) := by decide +kernel
theorem at187_183 : am_at 187 183 = some (.goto 139, 3) := by decide +kernel
theorem at187_186 : am_at 187 186 = some (.aload_n 0, 1) := by decide +kernel
theorem at187_187 : am_at 187 187 = some (.bipush 43, 2) := by decide +kernel
theorem at187_189 : am_at 187 189 = some (.invokevirtual 173, 3) := by decide +kernel
theorem at187_192 : am_at 187 192 = some (.ifCond .ne 12, 3) := by decide +kernel
theorem at187_195 : am_at 187 195 = some (.aload_n 0, 1) := by decide +kernel
theorem at187_196 : am_at 187 196 = some (.bipush 45, 2) := by decide +kernel
theorem at187_198 : am_at 187 198 = some (.invokevirtual 173, 3) := by decide +kernel
theorem at187_201 : am_at 187 201 = some (.ifCond .eq 40, 3) := by decide +kernel
theorem at187_204 : am_at 187 204 = some (.aload_n 0, 1) := by decide +kernel
theorem at187_205 : am_at 187 205 = some (.iconst 5, 1) := by decide +kernel
theorem at187_206 : am_at 187 206 = some (.invokevirtual 180, 3) := by decide +kernel
theorem at187_209 : am_at 187 209 = some (.aload_n 0, 1) := by decide +kernel
theorem at187_210 : am_at 187 210 = some (.aload_n 0, 1) := by decide +kernel
theorem at187_211 : am_at 187 211 = some (.bipush 43, 2) := by decide +kernel
theorem at187_213 : am_at 187 213 = some (.invokevirtual 173, 3) := by decide +kernel
theorem at187_216 : am_at 187 216 = some (.ifCond .eq 8, 3) := by decide +kernel
theorem at187_219 : am_at 187 219 = some (.bipush 8, 2) := by decide +kernel
theorem at187_221 : am_at 187 221 = some (.goto 5, 3) := by decide +kernel
theorem at187_224 : am_at 187 224 = some (.bipush 9, 2) := by decide +kernel
theorem at187_226 : am_at 187 226 = some (.invokevirtual 181, 3) := by decide +kernel
theorem at187_229 : am_at 187 229 = some (.aload_n 0, 1) := by decide +kernel
theorem at187_230 : am_at 187 230 = some (.invokevirtual 167, 3) := by decide +kernel
theorem at187_233 : am_at 187 233 = some (.aload_n 0, 1) := by decide +kernel
theorem at187_234 : am_at 187 234 = some (.iconst 0, 1) := by decide +kernel
theorem at187_235 : am_at 187 235 = some (.invokevirtual 184, 3) := by decide +kernel
theorem at187_238 : am_at 187 238 = some (.goto 84, 3) := by decide +kernel
theorem at187_241 : am_at 187 241 = some (.aload_n 0, 1) := by decide +kernel
theorem at187_242 : am_at 187 242 = some (.bipush 42, 2) := by decide +kernel
theorem at187_244 : am_at 187 244 = some (.invokevirtual 173, 3) := by decide +kernel
theorem at187_247 : am_at 187 247 = some (.ifCond .ne 12, 3) := by decide +kernel
theorem at187_250 : am_at 187 250 = some (.aload_n 0, 1) := by decide +kernel
theorem at187_251 : am_at 187 251 = some (.bipush 47, 2) := by decide +kernel
theorem at187_253 : am_at 187 253 = some (.invokevirtual 173, 3) := by decide +kernel
theorem at187_256 : am_at 187 256 = some (.ifCond .eq 41, 3) := by decide +kernel
theorem at187_259 : am_at 187 259 = some (.aload_n 0, 1) := by decide +kernel
theorem at187_260 : am_at 187 260 = some (.bipush 6, 2) := by decide +kernel
theorem at187_262 : am_at 187 262 = some (.invokevirtual 180, 3) := by decide +kernel
theorem at187_265 : am_at 187 265 = some (.aload_n 0, 1) := by decide +kernel
theorem at187_266 : am_at 187 266 = some (.aload_n 0, 1) := by decide +kernel
theorem at187_267 : am_at 187 267 = some (.bipush 42, 2) := by decide +kernel
theorem at187_269 : am_at 187 269 = some (.invokevirtual 173, 3) := by decide +kernel
theorem at187_272 : am_at 187 272 = some (.ifCond .eq 8, 3) := by decide +kernel
theorem at187_275 : am_at 187 275 = some (.bipush 10, 2) := by decide +kernel
theorem at187_277 : am_at 187 277 = some (.goto 5, 3) := by decide +kernel
theorem at187_280 : am_at 187 280 = some (.bipush 11, 2) := by decide +kernel
theorem at187_282 : am_at 187 282 = some (.invokevirtual 181, 3) := by decide +kernel
theorem at187_285 : am_at 187 285 = some (.aload_n 0, 1) := by decide +kernel
theorem at187_286 : am_at 187 286 = some (.invokevirtual 167, 3) := by decide +kernel
theorem at187_289 : am_at 187 289 = some (.aload_n 0, 1) := by decide +kernel
theorem at187_290 : am_at 187 290 = some (.iconst 0, 1) := by decide +kernel
theorem at187_291 : am_at 187 291 = some (.invokevirtual 184, 3) := by decide +kernel
theorem at187_294 : am_at 187 294 = some (.goto 28, 3) := by decide +kernel
theorem at187_297 : am_at 187 297 = some (.aload_n 0, 1) := by decide +kernel
theorem at187_298 : am_at 187 298 = some (.bipush 41, 2) := by decide +kernel
theorem at187_300 : am_at 187 300 = some (.invokevirtual 173, 3) := by decide +kernel
theorem at187_303 : am_at 187 303 = some (.ifCond .eq 17, 3) := by decide +kernel
theorem at187_306 : am_at 187 306 = some (.aload_n 0, 1) := by decide +kernel
theorem at187_307 : am_at 187 307 = some (.invokevirtual 185, 3) := by decide +kernel
theorem at187_310 : am_at 187 310 = some (.ifCond .eq 10, 3) := by decide +kernel
theorem at187_313 : am_at 187 313 = some (.aload_n 0, 1) := by decide +kernel
theorem at187_314 : am_at 187 314 = some (.invokevirtual 186, 3) := by decide +kernel
theorem at187_317 : am_at 187 317 = some (.goto 5, 3) := by decide +kernel
theorem at187_320 : am_at 187 320 = some (.iconst 0, 1) := by decide +kernel
theorem at187_321 : am_at 187 321 = some (.istore_n 1, 1) := by decide +kernel
theorem at187_322 : am_at 187 322 = some (.goto (-293), 3) := by decide +kernel
theorem at187_325 : am_at 187 325 = some (.aload_n 0, 1) := by decide +kernel
theorem at187_326 : am_at 187 326 = some (.invokevirtual 172, 3) := by decide +kernel
theorem at187_329 : am_at 187 329 = some (.ifCond .eq 16, 3) := by decide +kernel
theorem at187_332 : am_at 187 332 = some (.aload_n 0, 1) := by decide +kernel
theorem at187_333 : am_at 187 333 = some (.getfield 110320, 3) := by decide +kernel
theorem at187_336 : am_at 187 336 = some (.iconst 1, 1) := by decide +kernel
theorem at187_337 : am_at 187 337 = some (.if_icmp .le 8, 3) := by decide +kernel
theorem at187_340 : am_at 187 340 = some (.aload_n 0, 1) := by decide +kernel
theorem at187_341 : am_at 187 341 = some (.iconst 1, 1) := by decide +kernel
theorem at187_342 : am_at 187 342 = some (.invokevirtual 171, 3) := by decide +kernel
theorem at187_345 : am_at 187 345 = some (.aload_n 0, 1) := by decide +kernel
theorem at187_346 : am_at 187 346 = some (.iconst 0, 1) := by decide +kernel
theorem at187_347 : am_at 187 347 = some (.invokevirtual 180, 3) := by decide +kernel
theorem at187_350 : am_at 187 350 = some (.aload_n 0, 1) := by decide +kernel
theorem at187_351 : am_at 187 351 = some (.iconst 0, 1) := by decide +kernel
theorem at187_352 : am_at 187 352 = some (.invokevirtual 177, 3) := by decide +kernel
theorem at187_355 : am_at 187 355 = some (.return_, 1) := by decide +kernel
theorem at188_0 : am_at 188 0 = some (.aload_n 0, 1) := by decide +kernel
theorem at188_1 : am_at 188 1 = some (.getfield 110260, 3) := by decide +kernel
theorem at188_4 : am_at 188 4 = some (.bipush 10, 2) := by decide +kernel
theorem at188_6 : am_at 188 6 = some (.if_icmp .ne 8, 3) := by decide +kernel
theorem at188_9 : am_at 188 9 = some (.aload_n 0, 1) := by decide +kernel
theorem at188_10 : am_at 188 10 = some (.iconst 2, 1) := by decide +kernel
theorem at188_11 : am_at 188 11 = some (.invokevirtual 171, 3) := by decide +kernel
theorem at188_14 : am_at 188 14 = some (.aload_n 0, 1) := by decide +kernel
theorem at188_15 : am_at 188 15 = some (.invokevirtual 172, 3) := by decide +kernel
theorem at188_18 : am_at 188 18 = some (.ifCond .ne 4, 3) := by decide +kernel
theorem at188_21 : am_at 188 21 = some (.return_, 1) := by decide +kernel
theorem at188_22 : am_at 188 22 = some (.aload_n 0, 1) := by decide +kernel
theorem at188_23 : am_at 188 23 = some (.invokevirtual 167, 3) := by decide +kernel
theorem at188_26 : am_at 188 26 = some (.bipush 6, 2) := by decide +kernel
theorem at188_28 : am_at 188 28 = some (.aload_n 0, 1) := by decide +kernel
theorem at188_29 : am_at 188 29 = some (.getfield 110260, 3) := by decide +kernel
theorem at188_32 : am_at 188 32 = some (.imul, 1) := by decide +kernel
theorem at188_33 : am_at 188 33 = some (.istore_n 1, 1) := by decide +kernel
theorem at188_34 : am_at 188 34 = some (.aload_n 0, 1) := by decide +kernel
theorem at188_35 : am_at 188 35 = some (.getfield 110332, 3) := by decide +kernel
theorem at188_38 : am_at 188 38 = some (.iload_n 1, 1) := by decide +kernel
theorem at188_39 : am_at 188 39 = some (.aload_n 0, 1) := by decide +kernel
theorem at188_40 : am_at 188 40 = some (.iconst 0, 1) := by decide +kernel
theorem at188_41 : am_at 188 41 = some (.sipush 400, 3) := by decide +kernel
theorem at188_44 : am_at 188 44 = some (.invokevirtual 175, 3) := by decide +kernel
theorem at188_47 : am_at 188 47 = some (.iastore, 1) := by decide +kernel
theorem at188_48 : am_at 188 48 = some (.aload_n 0, 1) := by decide +kernel
theorem at188_49 : am_at 188 49 = some (.getfield 110332, 3) := by decide +kernel
theorem at188_52 : am_at 188 52 = some (.iload_n 1, 1) := by decide +kernel
theorem at188_53 : am_at 188 53 = some (.iconst 1, 1) := by decide +kernel
theorem at188_54 : am_at 188 54 = some (.iadd, 1) := by decide +kernel
theorem at188_55 : am_at 188 55 = some (.aload_n 0, 1) := by decide +kernel
theorem at188_56 : am_at 188 56 = some (.iconst 1, 1) := by decide +kernel
theorem at188_57 : am_at 188 57 = some (.bipush 9, 2) := by decide +kernel
theorem at188_59 : am_at 188 59 = some (.invokevirtual 175, 3) := by decide +kernel
theorem at188_62 : am_at 188 62 = some (.iastore, 1) := by decide +kernel
theorem at188_63 : am_at 188 63 = some (.aload_n 0, 1) := by decide +kernel
theorem at188_64 : am_at 188 64 = some (.getfield 110332, 3) := by decide +kernel
theorem at188_67 : am_at 188 67 = some (.iload_n 1, 1) := by decide +kernel
theorem at188_68 : am_at 188 68 = some (.iconst 2, 1) := by decide +kernel
theorem at188_69 : am_at 188 69 = some (.iadd, 1) := by decide +kernel
theorem at188_70 : am_at 188 70 = some (.iconst 0, 1) := by decide +kernel
theorem at188_71 : am_at 188 71 = some (.iastore, 1) := by decide +kernel
theorem at188_72 : am_at 188 72 = some (.iconst 3, 1) := by decide +kernel
theorem at188_73 : am_at 188 73 = some (.istore_n 2, 1) := by decide +kernel
theorem at188_74 : am_at 188 74 = some (.iload_n 2, 1) := by decide +kernel
theorem at188_75 : am_at 188 75 = some (.bipush 6, 2) := by decide +kernel
theorem at188_77 : am_at 188 77 = some (.if_icmp .ge 18, 3) := by decide +kernel
theorem at188_80 : am_at 188 80 = some (.aload_n 0, 1) := by decide +kernel
theorem at188_81 : am_at 188 81 = some (.getfield 110332, 3) := by decide +kernel
theorem at188_84 : am_at 188 84 = some (.iload_n 1, 1) := by decide +kernel
theorem at188_85 : am_at 188 85 = some (.iload_n 2, 1) := by decide +kernel
theorem at188_86 : am_at 188 86 = some (.iadd, 1) := by decide +kernel
theorem at188_87 : am_at 188 87 = some (.iconst (-1), 1) := by decide +kernel
theorem at188_88 : am_at 188 88 = some (.iastore, 1) := by decide +kernel
theorem at188_89 : am_at 188 89 = some (.iinc 2 1, 3) := by decide +kernel
theorem at188_92 : am_at 188 92 = some (.goto (-18), 3) := by decide +kernel
theorem at188_95 : am_at 188 95 = some (.iconst 1, 1) := by decide +kernel
theorem at188_96 : am_at 188 96 = some (.istore_n 2, 1) := by decide +kernel
theorem at188_97 : am_at 188 97 = some (.iload_n 2, 1) := by decide +kernel
theorem at188_98 : am_at 188 98 = some (.ifCond .eq 86, 3) := by decide +kernel
theorem at188_101 : am_at 188 101 = some (.aload_n 0, 1) := by decide +kernel
theorem at188_102 : am_at 188 102 = some (.invokevirtual 172, 3) := by decide +kernel
theorem at188_105 : am_at 188 105 = some (.ifCond .eq 79, 3) := by decide +kernel
theorem at188_108 : am_at 188 108 = some (.aload_n 0, 1) := by decide +kernel
theorem at188_109 : am_at 188 109 = some (.invokevirtual 176, 3) := by decide +kernel
theorem at188_112 : am_at 188 112 = some (.istore_n 3, 1) := by decide +kernel
theorem at188_113 : am_at 188 113 = some (.aload_n 0, 1) := by decide +kernel
theorem at188_114 : am_at 188 114 = some (.invokevirtual 172, 3) := by decide +kernel
theorem at188_117 : am_at 188 117 = some (.ifCond .eq 24, 3) := by decide +kernel
theorem at188_120 : am_at 188 120 = some (.aload_n 0, 1) := by decide +kernel
theorem at188_121 : am_at 188 121 = some (.getfield 110332, 3) := by decide +kernel
theorem at188_124 : am_at 188 124 = some (.iload_n 1, 1) := by decide +kernel
theorem at188_125 : am_at 188 125 = some (.iconst 2, 1) := by decide +kernel
theorem at188_126 : am_at 188 126 = some (.iadd, 1) := by decide +kernel
theorem at188_127 : am_at 188 127 = some (.iaload, 1) := by decide +kernel
theorem at188_128 : am_at 188 128 = some (.iload_n 3, 1) := by decide +kernel
theorem at188_129 : am_at 188 129 = some (.ishr, 1) := by decide +kernel
theorem at188_130 : am_at 188 130 = some (.iconst 1, 1) := by decide +kernel
theorem at188_131 : am_at 188 131 = some (.iand, 1) := by decide +kernel
theorem at188_132 : am_at 188 132 = some (.iconst 1, 1) := by decide +kernel
theorem at188_133 : am_at 188 133 = some (.if_icmp .ne 8, 3) := by decide +kernel
theorem at188_136 : am_at 188 136 = some (.aload_n 0, 1) := by decide +kernel
theorem at188_137 : am_at 188 137 = some (.iconst 4, 1) := by decide +kernel
theorem at188_138 : am_at 188 138 = some (.invokevirtual 171, 3) := by decide +kernel
theorem at188_141 : am_at 188 141 = some (.aload_n 0, 1) := by decide +kernel
theorem at188_142 : am_at 188 142 = some (.invokevirtual 172, 3) := by decide +kernel
theorem at188_145 : am_at 188 145 = some (.ifCond .ne 4, 3) := by decide +kernel
theorem at188_148 : am_at 188 148 = some (.return_, 1) := by decide +kernel
theorem at188_149 : am_at 188 149 = some (.aload_n 0, 1) := by decide +kernel
theorem at188_150 : am_at 188 150 = some (.getfield 110332, 3) := by decide +kernel
theorem at188_153 : am_at 188 153 = some (.iload_n 1, 1) := by decide +kernel
theorem at188_154 : am_at 188 154 = some (.iconst 2, 1) := by decide +kernel
theorem at188_155 : am_at 188 155 = some (.iadd, 1) := by decide +kernel
theorem at188_156 : am_at 188 156 = some (.dup2, 1) := by decide +kernel
theorem at188_157 : am_at 188 157 = some (.iaload, 1) := by decide +kernel
theorem at188_158 : am_at 188 158 = some (.iconst 1, 1) := by decide +kernel
theorem at188_159 : am_at 188 159 = some (.iload_n 3, 1) := by decide +kernel
theorem at188_160 : am_at 188 160 = some (.ishl, 1) := by decide +kernel
theorem at188_161 : am_at 188 161 = some (.ior, 1) := by decide +kernel
theorem at188_162 : am_at 188 162 = some (.iastore, 1) := by decide +kernel
theorem at188_163 : am_at 188 163 = some (.aload_n 0, 1) := by decide +kernel
theorem at188_164 : am_at 188 164 = some (.invokevirtual 167, 3) := by decide +kernel
theorem at188_167 : am_at 188 167 = some (.aload_n 0, 1) := by decide +kernel
theorem at188_168 : am_at 188 168 = some (.getfield 110190, 3) := by decide +kernel
theorem at188_171 : am_at 188 171 = some (.iconst 2, 1) := by decide +kernel
theorem at188_172 : am_at 188 172 = some (.if_icmp .ne 7, 3) := by decide +kernel
theorem at188_175 : am_at 188 175 = some (.iconst 1, 1) := by decide +kernel
theorem at188_176 : am_at 188 176 = some (.goto 4, 3) := by decide +kernel
theorem at188_179 : am_at 188 179 = some (.iconst 0, 1) := by decide +kernel
theorem at188_180 : am_at 188 180 = some (.istore_n 2, 1) := by decide +kernel
theorem at188_181 : am_at 188 181 = some (.goto (-84), 3) := by decide +kernel
theorem at188_184 : am_at 188 184 = some (.aload_n 0, 1) := by decide +kernel
theorem at188_185 : am_at 188 185 = some (.invokevirtual 172, 3) := by decide +kernel
theorem at188_188 : am_at 188 188 = some (.ifCond .eq 109, 3) := by decide +kernel
theorem at188_191 : am_at 188 191 = some (.aload_n 0, 1) := by decide +kernel
theorem at188_192 : am_at 188 192 = some (.invokevirtual 170, 3) := by decide +kernel
theorem at188_195 : am_at 188 195 = some (.bipush 9, 2) := by decide +kernel
theorem at188_197 : am_at 188 197 = some (.if_icmp .ne 100, 3) := by decide +kernel
theorem at188_200 : am_at 188 200 = some (.aload_n 0, 1) := by decide +kernel
theorem at188_201 : am_at 188 201 = some (.invokevirtual 167, 3) := by decide +kernel
theorem at188_204 : am_at 188 204 = some (.aload_n 0, 1) := by decide +kernel
theorem at188_205 : am_at 188 205 = some (.getfield 110332, 3) := by decide +kernel
theorem at188_208 : am_at 188 208 = some (.iload_n 1, 1) := by decide +kernel
theorem at188_209 : am_at 188 209 = some (.iconst 3, 1) := by decide +kernel
theorem at188_210 : am_at 188 210 = some (.iadd, 1) := by decide +kernel
theorem at188_211 : am_at 188 211 = some (.aload_n 0, 1) := by decide +kernel
theorem at188_212 : am_at 188 212 = some (.invokevirtual 176, 3) := by decide +kernel
theorem at188_215 : am_at 188 215 = some (.iastore, 1) := by decide +kernel
theorem at188_216 : am_at 188 216 = some (.aload_n 0, 1) := by decide +kernel
theorem at188_217 : am_at 188 217 = some (.invokevirtual 172, 3) := by decide +kernel
theorem at188_220 : am_at 188 220 = some (.ifCond .eq 7, 3) := by decide +kernel
theorem at188_223 : am_at 188 223 = some (.aload_n 0, 1) := by decide +kernel
theorem at188_224 : am_at 188 224 = some (.invokevirtual 167, 3) := by decide +kernel
theorem at188_227 : am_at 188 227 = some (.aload_n 0, 1) := by decide +kernel
theorem at188_228 : am_at 188 228 = some (.getfield 110332, 3) := by decide +kernel
theorem at188_231 : am_at 188 231 = some (.iload_n 1, 1) := by decide +kernel
theorem at188_232 : am_at 188 232 = some (.iconst 4, 1) := by decide +kernel
theorem at188_233 : am_at 188 233 = some (.iadd, 1) := by decide +kernel
theorem at188_234 : am_at 188 234 = some (.aload_n 0, 1) := by decide +kernel
theorem at188_235 : am_at 188 235 = some (.invokevirtual 176, 3) := by decide +kernel
theorem at188_238 : am_at 188 238 = some (.iastore, 1) := by decide +kernel
theorem at188_239 : am_at 188 239 = some (.aload_n 0, 1) := by decide +kernel
theorem at188_240 : am_at 188 240 = some (.invokevirtual 172, 3) := by decide +kernel
theorem at188_243 : am_at 188 243 = some (.ifCond .eq 27, 3) := by decide +kernel
theorem at188_246 : am_at 188 246 = some (.aload_n 0, 1) := by decide +kernel
theorem at188_247 : am_at 188 247 = some (.getfield 110332, 3) := by decide +kernel
theorem at188_250 : am_at 188 250 = some (.iload_n 1, 1) := by decide +kernel
theorem at188_251 : am_at 188 251 = some (.iconst 4, 1) := by decide +kernel
theorem at188_252 : am_at 188 252 = some (.iadd, 1) := by decide +kernel
theorem at188_253 : am_at 188 253 = some (.iaload, 1) := by decide +kernel
theorem at188_254 : am_at 188 254 = some (.aload_n 0, 1) := by decide +kernel
theorem at188_255 : am_at 188 255 = some (.getfield 110332, 3) := by decide +kernel
theorem at188_258 : am_at 188 258 = some (.iload_n 1, 1) := by decide +kernel
theorem at188_259 : am_at 188 259 = some (.iconst 3, 1) := by decide +kernel
theorem at188_260 : am_at 188 260 = some (.iadd, 1) := by decide +kernel
theorem at188_261 : am_at 188 261 = some (.iaload, 1) := by decide +kernel
theorem at188_262 : am_at 188 262 = some (.if_icmp .ne 8, 3) := by decide +kernel
theorem at188_265 : am_at 188 265 = some (.aload_n 0, 1) := by decide +kernel
theorem at188_266 : am_at 188 266 = some (.iconst 4, 1) := by decide +kernel
theorem at188_267 : am_at 188 267 = some (.invokevirtual 171, 3) := by decide +kernel
theorem at188_270 : am_at 188 270 = some (.aload_n 0, 1) := by decide +kernel
theorem at188_271 : am_at 188 271 = some (.invokevirtual 172, 3) := by decide +kernel
theorem at188_274 : am_at 188 274 = some (.ifCond .eq 7, 3) := by decide +kernel
theorem at188_277 : am_at 188 277 = some (.aload_n 0, 1) := by decide +kernel
theorem at188_278 : am_at 188 278 = some (.invokevirtual 167, 3) := by decide +kernel
theorem at188_281 : am_at 188 281 = some (.aload_n 0, 1) := by decide +kernel
theorem at188_282 : am_at 188 282 = some (.getfield 110332, 3) := by decide +kernel
theorem at188_285 : am_at 188 285 = some (.iload_n 1, 1) := by decide +kernel
theorem at188_286 : am_at 188 286 = some (.iconst 5, 1) := by decide +kernel
theorem at188_287 : am_at 188 287 = some (.iadd, 1) := by decide +kernel
theorem at188_288 : am_at 188 288 = some (.aload_n 0, 1) := by decide +kernel
theorem at188_289 : am_at 188 289 = some (.iconst 1, 1) := by decide +kernel
theorem at188_290 : am_at 188 290 = some (.sipush 999, 3) := by decide +kernel
theorem at188_293 : am_at 188 293 = some (.invokevirtual 175, 3) := by decide +kernel
theorem at188_296 : am_at 188 296 = some (.iastore, 1) := by decide +kernel
theorem at188_297 : am_at 188 297 = some (.aload_n 0, 1) := by decide +kernel
theorem at188_298 : am_at 188 298 = some (.invokevirtual 172, 3) := by decide +kernel
theorem at188_301 : am_at 188 301 = some (.ifCond .eq 13, 3) := by decide +kernel
theorem at188_304 : am_at 188 304 = some (.aload_n 0, 1) := by decide +kernel
theorem at188_305 : am_at 188 305 = some (.dup, 1) := by decide +kernel
theorem at188_306 : am_at 188 306 = some (.getfield 110260, 3) := by decide +kernel
theorem at188_309 : am_at 188 309 = some (.iconst 1, 1) := by decide +kernel
theorem at188_310 : am_at 188 310 = some (.iadd, 1) := by decide +kernel
theorem at188_311 : am_at 188 311 = some (.putfield 110260, 3) := by decide +kernel
theorem at188_314 : am_at 188 314 = some (.return_, 1) := by decide +kernel
theorem at189_0 : am_at 189 0 = some (.aload_n 0, 1) := by decide +kernel
theorem at189_1 : am_at 189 1 = some (.getfield 110270, 3) := by decide +kernel
theorem at189_4 : am_at 189 4 = some (.bipush 10, 2) := by decide +kernel
theorem at189_6 : am_at 189 6 = some (.if_icmp .ne 8, 3) := by decide +kernel
theorem at189_9 : am_at 189 9 = some (.aload_n 0, 1) := by decide +kernel
theorem at189_10 : am_at 189 10 = some (.iconst 2, 1) := by decide +kernel
theorem at189_11 : am_at 189 11 = some (.invokevirtual 171, 3) := by decide +kernel
theorem at189_14 : am_at 189 14 = some (.aload_n 0, 1) := by decide +kernel
theorem at189_15 : am_at 189 15 = some (.invokevirtual 172, 3) := by decide +kernel
theorem at189_18 : am_at 189 18 = some (.ifCond .ne 4, 3) := by decide +kernel
theorem at189_21 : am_at 189 21 = some (.return_, 1) := by decide +kernel
theorem at189_22 : am_at 189 22 = some (.aload_n 0, 1) := by decide +kernel
theorem at189_23 : am_at 189 23 = some (.invokevirtual 167, 3) := by decide +kernel
theorem at189_26 : am_at 189 26 = some (.aload_n 0, 1) := by decide +kernel
theorem at189_27 : am_at 189 27 = some (.invokevirtual 176, 3) := by decide +kernel
theorem at189_30 : am_at 189 30 = some (.istore_n 1, 1) := by decide +kernel
theorem at189_31 : am_at 189 31 = some (.aload_n 0, 1) := by decide +kernel
theorem at189_32 : am_at 189 32 = some (.invokevirtual 172, 3) := by decide +kernel
theorem at189_35 : am_at 189 35 = some (.ifCond .eq 7, 3) := by decide +kernel
theorem at189_38 : am_at 189 38 = some (.aload_n 0, 1) := by decide +kernel
theorem at189_39 : am_at 189 39 = some (.invokevirtual 167, 3) := by decide +kernel
theorem at189_42 : am_at 189 42 = some (.aload_n 0, 1) := by decide +kernel
theorem at189_43 : am_at 189 43 = some (.invokevirtual 176, 3) := by decide +kernel
theorem at189_46 : am_at 189 46 = some (.istore_n 2, 1) := by decide +kernel
theorem at189_47 : am_at 189 47 = some (.iload_n 1, 1) := by decide +kernel
theorem at189_48 : am_at 189 48 = some (.iload_n 2, 1) := by decide +kernel
theorem at189_49 : am_at 189 49 = some (.if_icmp .ne 7, 3) := by decide +kernel
theorem at189_52 : am_at 189 52 = some (.iconst 1, 1) := by decide +kernel
theorem at189_53 : am_at 189 53 = some (.goto 4, 3) := by decide +kernel
theorem at189_56 : am_at 189 56 = some (.iconst 0, 1) := by decide +kernel
theorem at189_57 : am_at 189 57 = some (.istore_n 3, 1) := by decide +kernel
theorem at189_58 : am_at 189 58 = some (.iconst 0, 1) := by decide +kernel
theorem at189_59 : am_at 189 59 = some (.istore 4, 2) := by decide +kernel
theorem at189_61 : am_at 189 61 = some (.iload 4, 2) := by decide +kernel
theorem at189_63 : am_at 189 63 = some (.aload_n 0, 1) := by decide +kernel
theorem at189_64 : am_at 189 64 = some (.getfield 110270, 3) := by decide +kernel
theorem at189_67 : am_at 189 67 = some (.if_icmp .ge 75, 3) := by decide +kernel
theorem at189_70 : am_at 189 70 = some (.iload_n 3, 1) := by decide +kernel
theorem at189_71 : am_at 189 71 = some (.ifCond .ne 59, 3) := by decide +kernel
theorem at189_74 : am_at 189 74 = some (.aload_n 0, 1) := by decide +kernel
theorem at189_75 : am_at 189 75 = some (.getfield 110342, 3) := by decide +kernel
theorem at189_78 : am_at 189 78 = some (.iconst 2, 1) := by decide +kernel
theorem at189_79 : am_at 189 79 = some (.iload 4, 2) := by decide +kernel
theorem at189_81 : am_at 189 81 = some (.imul, 1) := by decide +kernel
theorem at189_82 : am_at 189 82 = some (.iaload, 1) := by decide +kernel
theorem at189_83 : am_at 189 83 = some (.iload_n 1, 1) := by decide +kernel
theorem at189_84 : am_at 189 84 = some (.if_icmp .ne 18, 3) := by decide +kernel
theorem at189_87 : am_at 189 87 = some (.aload_n 0, 1) := by decide +kernel
theorem at189_88 : am_at 189 88 = some (.getfield 110342, 3) := by decide +kernel
theorem at189_91 : am_at 189 91 = some (.iconst 2, 1) := by decide +kernel
theorem at189_92 : am_at 189 92 = some (.iload 4, 2) := by decide +kernel
theorem at189_94 : am_at 189 94 = some (.imul, 1) := by decide +kernel
theorem at189_95 : am_at 189 95 = some (.iconst 1, 1) := by decide +kernel
theorem at189_96 : am_at 189 96 = some (.iadd, 1) := by decide +kernel
theorem at189_97 : am_at 189 97 = some (.iaload, 1) := by decide +kernel
theorem at189_98 : am_at 189 98 = some (.iload_n 2, 1) := by decide +kernel
theorem at189_99 : am_at 189 99 = some (.if_icmp .eq 31, 3) := by decide +kernel
theorem at189_102 : am_at 189 102 = some (.aload_n 0, 1) := by decide +kernel
theorem at189_103 : am_at 189 103 = some (.getfield 110342, 3) := by decide +kernel
theorem at189_106 : am_at 189 106 = some (.iconst 2, 1) := by decide +kernel
theorem at189_107 : am_at 189 107 = some (.iload 4, 2) := by decide +kernel
theorem at189_109 : am_at 189 109 = some (.imul, 1) := by decide +kernel
theorem at189_110 : am_at 189 110 = some (.iaload, 1) := by decide +kernel
theorem at189_111 : am_at 189 111 = some (.iload_n 2, 1) := by decide +kernel
theorem at189_112 : am_at 189 112 = some (.if_icmp .ne 22, 3) := by decide +kernel
theorem at189_115 : am_at 189 115 = some (.aload_n 0, 1) := by decide +kernel
theorem at189_116 : am_at 189 116 = some (.getfield 110342, 3) := by decide +kernel
theorem at189_119 : am_at 189 119 = some (.iconst 2, 1) := by decide +kernel
theorem at189_120 : am_at 189 120 = some (.iload 4, 2) := by decide +kernel
theorem at189_122 : am_at 189 122 = some (.imul, 1) := by decide +kernel
theorem at189_123 : am_at 189 123 = some (.iconst 1, 1) := by decide +kernel
theorem at189_124 : am_at 189 124 = some (.iadd, 1) := by decide +kernel
theorem at189_125 : am_at 189 125 = some (.iaload, 1) := by decide +kernel
theorem at189_126 : am_at 189 126 = some (.iload_n 1, 1) := by decide +kernel
theorem at189_127 : am_at 189 127 = some (.if_icmp .ne 7, 3) := by decide +kernel
theorem at189_130 : am_at 189 130 = some (.iconst 1, 1) := by decide +kernel
theorem at189_131 : am_at 189 131 = some (.goto 4, 3) := by decide +kernel
theorem at189_134 : am_at 189 134 = some (.iconst 0, 1) := by decide +kernel
theorem at189_135 : am_at 189 135 = some (.istore_n 3, 1) := by decide +kernel
theorem at189_136 : am_at 189 136 = some (.iinc 4 1, 3) := by decide +kernel
theorem at189_139 : am_at 189 139 = some (.goto (-78), 3) := by decide +kernel
theorem at189_142 : am_at 189 142 = some (.aload_n 0, 1) := by decide +kernel
theorem at189_143 : am_at 189 143 = some (.invokevirtual 172, 3) := by decide +kernel
theorem at189_146 : am_at 189 146 = some (.ifCond .eq 12, 3) := by decide +kernel
theorem at189_149 : am_at 189 149 = some (.iload_n 3, 1) := by decide +kernel
theorem at189_150 : am_at 189 150 = some (.ifCond .eq 8, 3) := by decide +kernel
theorem at189_153 : am_at 189 153 = some (.aload_n 0, 1) := by decide +kernel
theorem at189_154 : am_at 189 154 = some (.iconst 4, 1) := by decide +kernel
theorem at189_155 : am_at 189 155 = some (.invokevirtual 171, 3) := by decide +kernel
theorem at189_158 : am_at 189 158 = some (.aload_n 0, 1) := by decide +kernel
theorem at189_159 : am_at 189 159 = some (.invokevirtual 172, 3) := by decide +kernel
theorem at189_162 : am_at 189 162 = some (.ifCond .ne 4, 3) := by decide +kernel
theorem at189_165 : am_at 189 165 = some (.return_, 1) := by decide +kernel
theorem at189_166 : am_at 189 166 = some (.aload_n 0, 1) := by decide +kernel
theorem at189_167 : am_at 189 167 = some (.getfield 110342, 3) := by decide +kernel
theorem at189_170 : am_at 189 170 = some (.iconst 2, 1) := by decide +kernel
theorem at189_171 : am_at 189 171 = some (.aload_n 0, 1) := by decide +kernel
theorem at189_172 : am_at 189 172 = some (.getfield 110270, 3) := by decide +kernel
theorem at189_175 : am_at 189 175 = some (.imul, 1) := by decide +kernel
theorem at189_176 : am_at 189 176 = some (.iload_n 1, 1) := by decide +kernel
theorem at189_177 : am_at 189 177 = some (.iastore, 1) := by decide +kernel
theorem at189_178 : am_at 189 178 = some (.aload_n 0, 1) := by decide +kernel
theorem at189_179 : am_at 189 179 = some (.getfield 110342, 3) := by decide +kernel
theorem at189_182 : am_at 189 182 = some (.iconst 2, 1) := by decide +kernel
theorem at189_183 : am_at 189 183 = some (.aload_n 0, 1) := by decide +kernel
theorem at189_184 : am_at 189 184 = some (.getfield 110270, 3) := by decide +kernel
theorem at189_187 : am_at 189 187 = some (.imul, 1) := by decide +kernel
theorem at189_188 : am_at 189 188 = some (.iconst 1, 1) := by decide +kernel
theorem at189_189 : am_at 189 189 = some (.iadd, 1) := by decide +kernel
theorem at189_190 : am_at 189 190 = some (.iload_n 2, 1) := by decide +kernel
theorem at189_191 : am_at 189 191 = some (.iastore, 1) := by decide +kernel
theorem at189_192 : am_at 189 192 = some (.aload_n 0, 1) := by decide +kernel
theorem at189_193 : am_at 189 193 = some (.dup, 1) := by decide +kernel
theorem at189_194 : am_at 189 194 = some (.getfield 110270, 3) := by decide +kernel
theorem at189_197 : am_at 189 197 = some (.iconst 1, 1) := by decide +kernel
theorem at189_198 : am_at 189 198 = some (.iadd, 1) := by decide +kernel
theorem at189_199 : am_at 189 199 = some (.putfield 110270, 3) := by decide +kernel
theorem at189_202 : am_at 189 202 = some (.aload_n 0, 1) := by decide +kernel
theorem at189_203 : am_at 189 203 = some (.invokevirtual 167, 3) := by decide +kernel
theorem at189_206 : am_at 189 206 = some (.return_, 1) := by decide +kernel
