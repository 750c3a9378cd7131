/-! Where each resolved instruction stands, by program. -/
theorem at190_0 : am_at 190 0 = some (.aload_n 0, 1) := by decide +kernel
theorem at190_1 : am_at 190 1 = some (.getfield 110280, 3) := by decide +kernel
theorem at190_4 : am_at 190 4 = some (.bipush 8, 2) := by decide +kernel
theorem at190_6 : am_at 190 6 = some (.if_icmp .ne 8, 3) := by decide +kernel
theorem at190_9 : am_at 190 9 = some (.aload_n 0, 1) := by decide +kernel
theorem at190_10 : am_at 190 10 = some (.iconst 2, 1) := by decide +kernel
theorem at190_11 : am_at 190 11 = some (.invokevirtual 171, 3) := by decide +kernel
theorem at190_14 : am_at 190 14 = some (.aload_n 0, 1) := by decide +kernel
theorem at190_15 : am_at 190 15 = some (.invokevirtual 172, 3) := by decide +kernel
theorem at190_18 : am_at 190 18 = some (.ifCond .ne 4, 3) := by decide +kernel
theorem at190_21 : am_at 190 21 = some (.return_, 1) := by decide +kernel
theorem at190_22 : am_at 190 22 = some (.aload_n 0, 1) := by decide +kernel
theorem at190_23 : am_at 190 23 = some (.invokevirtual 167, 3) := by decide +kernel
theorem at190_26 : am_at 190 26 = some (.aload_n 0, 1) := by decide +kernel
theorem at190_27 : am_at 190 27 = some (.getfield 110190, 3) := by decide +kernel
theorem at190_30 : am_at 190 30 = some (.iconst 2, 1) := by decide +kernel
theorem at190_31 : am_at 190 31 = some (.if_icmp .eq 11, 3) := by decide +kernel
theorem at190_34 : am_at 190 34 = some (.aload_n 0, 1) := by decide +kernel
theorem at190_35 : am_at 190 35 = some (.iconst 1, 1) := by decide +kernel
theorem at190_36 : am_at 190 36 = some (.invokevirtual 171, 3) := by decide +kernel
theorem at190_39 : am_at 190 39 = some (.goto 26, 3) := by decide +kernel
theorem at190_42 : am_at 190 42 = some (.aload_n 0, 1) := by decide +kernel
theorem at190_43 : am_at 190 43 = some (.getfield 110210, 3) := by decide +kernel
theorem at190_46 : am_at 190 46 = some (.iconst 4, 1) := by decide +kernel
theorem at190_47 : am_at 190 47 = some (.if_icmp .gt 13, 3) := by decide +kernel
theorem at190_50 : am_at 190 50 = some (.aload_n 0, 1) := by decide +kernel
theorem at190_51 : am_at 190 51 = some (.getfield 110220, 3) := by decide +kernel
theorem at190_54 : am_at 190 54 = some (.sipush 400, 3) := by decide +kernel
theorem at190_57 : am_at 190 57 = some (.if_icmp .le 8, 3) := by decide +kernel
theorem at190_60 : am_at 190 60 = some (.aload_n 0, 1) := by decide +kernel
theorem at190_61 : am_at 190 61 = some (.iconst 2, 1) := by decide +kernel
theorem at190_62 : am_at 190 62 = some (.invokevirtual 171, 3) := by decide +kernel
theorem at190_65 : am_at 190 65 = some (.iconst 0, 1) := by decide +kernel
theorem at190_66 : am_at 190 66 = some (.istore_n 1, 1) := by decide +kernel
theorem at190_67 : am_at 190 67 = some (.iload_n 1, 1) := by decide +kernel
theorem at190_68 : am_at 190 68 = some (.aload_n 0, 1) := by decide +kernel
theorem at190_69 : am_at 190 69 = some (.getfield 110280, 3) := by decide +kernel
theorem at190_72 : am_at 190 72 = some (.if_icmp .ge 36, 3) := by decide +kernel
theorem at190_75 : am_at 190 75 = some (.aload_n 0, 1) := by decide +kernel
theorem at190_76 : am_at 190 76 = some (.invokevirtual 172, 3) := by decide +kernel
theorem at190_79 : am_at 190 79 = some (.ifCond .eq 29, 3) := by decide +kernel
theorem at190_82 : am_at 190 82 = some (.aload_n 0, 1) := by decide +kernel
theorem at190_83 : am_at 190 83 = some (.getfield 110352, 3) := by decide +kernel
theorem at190_86 : am_at 190 86 = some (.iconst 2, 1) := by decide +kernel
theorem at190_87 : am_at 190 87 = some (.iload_n 1, 1) := by decide +kernel
theorem at190_88 : am_at 190 88 = some (.imul, 1) := by decide +kernel
theorem at190_89 : am_at 190 89 = some (.iaload, 1) := by decide +kernel
theorem at190_90 : am_at 190 90 = some (.aload_n 0, 1) := by decide +kernel
theorem at190_91 : am_at 190 91 = some (.getfield 110220, 3) := by decide +kernel
theorem at190_94 : am_at 190 94 = some (.if_icmp .ne 8, 3) := by decide +kernel
theorem at190_97 : am_at 190 97 = some (.aload_n 0, 1) := by decide +kernel
theorem at190_98 : am_at 190 98 = some (.iconst 4, 1) := by decide +kernel
theorem at190_99 : am_at 190 99 = some (.invokevirtual 171, 3) := by decide +kernel
theorem at190_102 : am_at 190 102 = some (.iinc 1 1, 3) := by decide +kernel
theorem at190_105 : am_at 190 105 = some (.goto (-38), 3) := by decide +kernel
theorem at190_108 : am_at 190 108 = some (.aload_n 0, 1) := by decide +kernel
theorem at190_109 : am_at 190 109 = some (.invokevirtual 172, 3) := by decide +kernel
theorem at190_112 : am_at 190 112 = some (.ifCond .ne 4, 3) := by decide +kernel
theorem at190_115 : am_at 190 115 = some (.return_, 1) := by decide +kernel
theorem at190_116 : am_at 190 116 = some (.aload_n 0, 1) := by decide +kernel
theorem at190_117 : am_at 190 117 = some (.getfield 110352, 3) := by decide +kernel
theorem at190_120 : am_at 190 120 = some (.iconst 2, 1) := by decide +kernel
theorem at190_121 : am_at 190 121 = some (.aload_n 0, 1) := by decide +kernel
theorem at190_122 : am_at 190 122 = some (.getfield 110280, 3) := by decide +kernel
theorem at190_125 : am_at 190 125 = some (.imul, 1) := by decide +kernel
theorem at190_126 : am_at 190 126 = some (.aload_n 0, 1) := by decide +kernel
theorem at190_127 : am_at 190 127 = some (.getfield 110220, 3) := by decide +kernel
theorem at190_130 : am_at 190 130 = some (.iastore, 1) := by decide +kernel
theorem at190_131 : am_at 190 131 = some (.aload_n 0, 1) := by decide +kernel
theorem at190_132 : am_at 190 132 = some (.invokevirtual 167, 3) := by decide +kernel
theorem at190_135 : am_at 190 135 = some (.aload_n 0, 1) := by decide +kernel
theorem at190_136 : am_at 190 136 = some (.getfield 110352, 3) := by decide +kernel
theorem at190_139 : am_at 190 139 = some (.iconst 2, 1) := by decide +kernel
theorem at190_140 : am_at 190 140 = some (.aload_n 0, 1) := by decide +kernel
theorem at190_141 : am_at 190 141 = some (.getfield 110280, 3) := by decide +kernel
theorem at190_144 : am_at 190 144 = some (.imul, 1) := by decide +kernel
theorem at190_145 : am_at 190 145 = some (.iconst 1, 1) := by decide +kernel
theorem at190_146 : am_at 190 146 = some (.iadd, 1) := by decide +kernel
theorem at190_147 : am_at 190 147 = some (.aload_n 0, 1) := by decide +kernel
theorem at190_148 : am_at 190 148 = some (.iconst 0, 1) := by decide +kernel
theorem at190_149 : am_at 190 149 = some (.bipush 99, 2) := by decide +kernel
theorem at190_151 : am_at 190 151 = some (.invokevirtual 175, 3) := by decide +kernel
theorem at190_154 : am_at 190 154 = some (.iastore, 1) := by decide +kernel
theorem at190_155 : am_at 190 155 = some (.aload_n 0, 1) := by decide +kernel
theorem at190_156 : am_at 190 156 = some (.invokevirtual 172, 3) := by decide +kernel
theorem at190_159 : am_at 190 159 = some (.ifCond .eq 13, 3) := by decide +kernel
theorem at190_162 : am_at 190 162 = some (.aload_n 0, 1) := by decide +kernel
theorem at190_163 : am_at 190 163 = some (.dup, 1) := by decide +kernel
theorem at190_164 : am_at 190 164 = some (.getfield 110280, 3) := by decide +kernel
theorem at190_167 : am_at 190 167 = some (.iconst 1, 1) := by decide +kernel
theorem at190_168 : am_at 190 168 = some (.iadd, 1) := by decide +kernel
theorem at190_169 : am_at 190 169 = some (.putfield 110280, 3) := by decide +kernel
theorem at190_172 : am_at 190 172 = some (.return_, 1) := by decide +kernel
theorem at191_0 : am_at 191 0 = some (.aload_n 0, 1) := by decide +kernel
theorem at191_1 : am_at 191 1 = some (.invokevirtual 170, 3) := by decide +kernel
theorem at191_4 : am_at 191 4 = some (.istore_n 1, 1) := by decide +kernel
theorem at191_5 : am_at 191 5 = some (.iload_n 1, 1) := by decide +kernel
theorem at191_6 : am_at 191 6 = some (.bipush 7, 2) := by decide +kernel
theorem at191_8 : am_at 191 8 = some (.if_icmp .ne 81, 3) := by decide +kernel
theorem at191_11 : am_at 191 11 = some (.aload_n 0, 1) := by decide +kernel
theorem at191_12 : am_at 191 12 = some (.getfield 110250, 3) := by decide +kernel
theorem at191_15 : am_at 191 15 = some (.bipush 6, 2) := by decide +kernel
theorem at191_17 : am_at 191 17 = some (.if_icmp .ne 8, 3) := by decide +kernel
theorem at191_20 : am_at 191 20 = some (.aload_n 0, 1) := by decide +kernel
theorem at191_21 : am_at 191 21 = some (.iconst 2, 1) := by decide +kernel
theorem at191_22 : am_at 191 22 = some (.invokevirtual 171, 3) := by decide +kernel
theorem at191_25 : am_at 191 25 = some (.aload_n 0, 1) := by decide +kernel
theorem at191_26 : am_at 191 26 = some (.invokevirtual 172, 3) := by decide +kernel
theorem at191_29 : am_at 191 29 = some (.ifCond .ne 4, 3) := by decide +kernel
theorem at191_32 : am_at 191 32 = some (.return_, 1) := by decide +kernel
theorem at191_33 : am_at 191 33 = some (.aload_n 0, 1) := by decide +kernel
theorem at191_34 : am_at 191 34 = some (.invokevirtual 167, 3) := by decide +kernel
theorem at191_37 : am_at 191 37 = some (.aload_n 0, 1) := by decide +kernel
theorem at191_38 : am_at 191 38 = some (.getfield 110362, 3) := by decide +kernel
theorem at191_41 : am_at 191 41 = some (.aload_n 0, 1) := by decide +kernel
theorem at191_42 : am_at 191 42 = some (.getfield 110250, 3) := by decide +kernel
theorem at191_45 : am_at 191 45 = some (.aload_n 0, 1) := by decide +kernel
theorem at191_46 : am_at 191 46 = some (.iconst 0, 1) := by decide +kernel
theorem at191_47 : am_at 191 47 = some (.sipush 9999, 3) := by decide +kernel
theorem at191_50 : am_at 191 50 = some (.invokevirtual 175, 3) := by decide +kernel
theorem at191_53 : am_at 191 53 = some (.iastore, 1) := by decide +kernel
theorem at191_54 : am_at 191 54 = some (.aload_n 0, 1) := by decide +kernel
theorem at191_55 : am_at 191 55 = some (.getfield 110372, 3) := by decide +kernel
theorem at191_58 : am_at 191 58 = some (.aload_n 0, 1) := by decide +kernel
theorem at191_59 : am_at 191 59 = some (.getfield 110250, 3) := by decide +kernel
theorem at191_62 : am_at 191 62 = some (.aload_n 0, 1) := by decide +kernel
theorem at191_63 : am_at 191 63 = some (.iconst 0, 1) := by decide +kernel
theorem at191_64 : am_at 191 64 = some (.iconst 3, 1) := by decide +kernel
theorem at191_65 : am_at 191 65 = some (.invokevirtual 175, 3) := by decide +kernel
theorem at191_68 : am_at 191 68 = some (.iastore, 1) := by decide +kernel
theorem at191_69 : am_at 191 69 = some (.aload_n 0, 1) := by decide +kernel
theorem at191_70 : am_at 191 70 = some (.invokevirtual 172, 3) := by decide +kernel
theorem at191_73 : am_at 191 73 = some (.ifCond .eq 106, 3) := by decide +kernel
theorem at191_76 : am_at 191 76 = some (.aload_n 0, 1) := by decide +kernel
theorem at191_77 : am_at 191 77 = some (.dup, 1) := by decide +kernel
theorem at191_78 : am_at 191 78 = some (.getfield 110250, 3) := by decide +kernel
theorem at191_81 : am_at 191 81 = some (.iconst 1, 1) := by decide +kernel
theorem at191_82 : am_at 191 82 = some (.iadd, 1) := by decide +kernel
theorem at191_83 : am_at 191 83 = some (.putfield 110250, 3) := by decide +kernel
theorem at191_86 : am_at 191 86 = some (.goto 93, 3) := by decide +kernel
theorem at191_89 : am_at 191 89 = some (.iload_n 1, 1) := by decide +kernel
theorem at191_90 : am_at 191 90 = some (.bipush 8, 2) := by decide +kernel
theorem at191_92 : am_at 191 92 = some (.if_icmp .ne 10, 3) := by decide +kernel
theorem at191_95 : am_at 191 95 = some (.aload_n 0, 1) := by decide +kernel
theorem at191_96 : am_at 191 96 = some (.invokevirtual 188, 3) := by decide +kernel
theorem at191_99 : am_at 191 99 = some (.goto 80, 3) := by decide +kernel
theorem at191_102 : am_at 191 102 = some (.iload_n 1, 1) := by decide +kernel
theorem at191_103 : am_at 191 103 = some (.bipush 10, 2) := by decide +kernel
theorem at191_105 : am_at 191 105 = some (.if_icmp .ne 10, 3) := by decide +kernel
theorem at191_108 : am_at 191 108 = some (.aload_n 0, 1) := by decide +kernel
theorem at191_109 : am_at 191 109 = some (.invokevirtual 189, 3) := by decide +kernel
theorem at191_112 : am_at 191 112 = some (.goto 67, 3) := by decide +kernel
theorem at191_115 : am_at 191 115 = some (.iload_n 1, 1) := by decide +kernel
theorem at191_116 : am_at 191 116 = some (.bipush 11, 2) := by decide +kernel
theorem at191_118 : am_at 191 118 = some (.if_icmp .ne 10, 3) := by decide +kernel
theorem at191_121 : am_at 191 121 = some (.aload_n 0, 1) := by decide +kernel
theorem at191_122 : am_at 191 122 = some (.invokevirtual 190, 3) := by decide +kernel
theorem at191_125 : am_at 191 125 = some (.goto 54, 3) := by decide +kernel
theorem at191_128 : am_at 191 128 = some (.iload_n 1, 1) := by decide +kernel
theorem at191_129 : am_at 191 129 = some (.bipush 12, 2) := by decide +kernel
theorem at191_131 : am_at 191 131 = some (.if_icmp .ne 43, 3) := by decide +kernel
theorem at191_134 : am_at 191 134 = some (.aload_n 0, 1) := by decide +kernel
theorem at191_135 : am_at 191 135 = some (.getfield 110290, 3) := by decide +kernel
theorem at191_138 : am_at 191 138 = some (.iconst (-1), 1) := by decide +kernel
theorem at191_139 : am_at 191 139 = some (.if_icmp .eq 8, 3) := by decide +kernel
theorem at191_142 : am_at 191 142 = some (.aload_n 0, 1) := by decide +kernel
theorem at191_143 : am_at 191 143 = some (.iconst 5, 1) := by decide +kernel
theorem at191_144 : am_at 191 144 = some (.invokevirtual 171, 3) := by decide +kernel
theorem at191_147 : am_at 191 147 = some (.aload_n 0, 1) := by decide +kernel
theorem at191_148 : am_at 191 148 = some (.invokevirtual 172, 3) := by decide +kernel
theorem at191_151 : am_at 191 151 = some (.ifCond .ne 4, 3) := by decide +kernel
theorem at191_154 : am_at 191 154 = some (.return_, 1) := by decide +kernel
theorem at191_155 : am_at 191 155 = some (.aload_n 0, 1) := by decide +kernel
theorem at191_156 : am_at 191 156 = some (.invokevirtual 167, 3) := by decide +kernel
theorem at191_159 : am_at 191 159 = some (.aload_n 0, 1) := by decide +kernel
theorem at191_160 : am_at 191 160 = some (.aload_n 0, 1) := by decide +kernel
theorem at191_161 : am_at 191 161 = some (.getfield 110300, 3) := by decide +kernel
theorem at191_164 : am_at 191 164 = some (.putfield 110290, 3) := by decide +kernel
theorem at191_167 : am_at 191 167 = some (.aload_n 0, 1) := by decide +kernel
theorem at191_168 : am_at 191 168 = some (.invokevirtual 187, 3) := by decide +kernel
theorem at191_171 : am_at 191 171 = some (.goto 8, 3) := by decide +kernel
theorem at191_174 : am_at 191 174 = some (.aload_n 0, 1) := by decide +kernel
theorem at191_175 : am_at 191 175 = some (.iconst 1, 1) := by decide +kernel
theorem at191_176 : am_at 191 176 = some (.invokevirtual 171, 3) := by decide +kernel
theorem at191_179 : am_at 191 179 = some (.aload_n 0, 1) := by decide +kernel
theorem at191_180 : am_at 191 180 = some (.aload_n 0, 1) := by decide +kernel
theorem at191_181 : am_at 191 181 = some (.bipush 59, 2) := by decide +kernel
theorem at191_183 : am_at 191 183 = some (.invokevirtual 173, 3) := by decide +kernel
theorem at191_186 : am_at 191 186 = some (.invokevirtual 174, 3) := by decide +kernel
theorem at191_189 : am_at 191 189 = some (.return_, 1) := by decide +kernel
theorem at192_0 : am_at 192 0 = some (.aload_n 0, 1) := by decide +kernel
theorem at192_1 : am_at 192 1 = some (.iconst 0, 1) := by decide +kernel
theorem at192_2 : am_at 192 2 = some (.putfield 110000, 3) := by decide +kernel
theorem at192_5 : am_at 192 5 = some (.aload_n 0, 1) := by decide +kernel
theorem at192_6 : am_at 192 6 = some (.iload_n 1, 1) := by decide +kernel
theorem at192_7 : am_at 192 7 = some (.ifCond .lt 15, 3) := by decide +kernel
theorem at192_10 : am_at 192 10 = some (.iload_n 1, 1) := by decide +kernel
theorem at192_11 : am_at 192 11 = some (.aload_n 0, 1) := by decide +kernel
theorem at192_12 : am_at 192 12 = some (.getfield 110130, 3) := by decide +kernel
theorem at192_15 : am_at 192 15 = some (.if_icmp .gt 7, 3) := by decide +kernel
theorem at192_18 : am_at 192 18 = some (.iconst 1, 1) := by decide +kernel
theorem at192_19 : am_at 192 19 = some (.goto 4, 3) := by decide +kernel
theorem at192_22 : am_at 192 22 = some (.iconst 0, 1) := by decide +kernel
theorem at192_23 : am_at 192 23 = some (.iconst 1, 1) := by decide +kernel
theorem at192_24 : am_at 192 24 = some (.invokevirtual 158, 3) := by decide +kernel
theorem at192_27 : am_at 192 27 = some (.ifCond .ne 5, 3) := by decide +kernel
theorem at192_30 : am_at 192 30 = some (.iconst 0, 1) := by decide +kernel
theorem at192_31 : am_at 192 31 = some (.ireturn, 1) := by decide +kernel
theorem at192_32 : am_at 192 32 = some (.aload_n 0, 1) := by decide +kernel
theorem at192_33 : am_at 192 33 = some (.iconst 0, 1) := by decide +kernel
theorem at192_34 : am_at 192 34 = some (.putfield 110130, 3) := by decide +kernel
theorem at192_37 : am_at 192 37 = some (.aload_n 0, 1) := by decide +kernel
theorem at192_38 : am_at 192 38 = some (.iconst (-1), 1) := by decide +kernel
theorem at192_39 : am_at 192 39 = some (.putfield 110150, 3) := by decide +kernel
theorem at192_42 : am_at 192 42 = some (.aload_n 0, 1) := by decide +kernel
theorem at192_43 : am_at 192 43 = some (.iconst 0, 1) := by decide +kernel
theorem at192_44 : am_at 192 44 = some (.putfield 110140, 3) := by decide +kernel
theorem at192_47 : am_at 192 47 = some (.aload_n 0, 1) := by decide +kernel
theorem at192_48 : am_at 192 48 = some (.iload_n 1, 1) := by decide +kernel
theorem at192_49 : am_at 192 49 = some (.putfield 110170, 3) := by decide +kernel
theorem at192_52 : am_at 192 52 = some (.aload_n 0, 1) := by decide +kernel
theorem at192_53 : am_at 192 53 = some (.iconst 0, 1) := by decide +kernel
theorem at192_54 : am_at 192 54 = some (.putfield 110180, 3) := by decide +kernel
theorem at192_57 : am_at 192 57 = some (.aload_n 0, 1) := by decide +kernel
theorem at192_58 : am_at 192 58 = some (.iconst 0, 1) := by decide +kernel
theorem at192_59 : am_at 192 59 = some (.putfield 110250, 3) := by decide +kernel
theorem at192_62 : am_at 192 62 = some (.aload_n 0, 1) := by decide +kernel
theorem at192_63 : am_at 192 63 = some (.iconst 0, 1) := by decide +kernel
theorem at192_64 : am_at 192 64 = some (.putfield 110260, 3) := by decide +kernel
theorem at192_67 : am_at 192 67 = some (.aload_n 0, 1) := by decide +kernel
theorem at192_68 : am_at 192 68 = some (.iconst 0, 1) := by decide +kernel
theorem at192_69 : am_at 192 69 = some (.putfield 110270, 3) := by decide +kernel
theorem at192_72 : am_at 192 72 = some (.aload_n 0, 1) := by decide +kernel
theorem at192_73 : am_at 192 73 = some (.iconst 0, 1) := by decide +kernel
theorem at192_74 : am_at 192 74 = some (.putfield 110280, 3) := by decide +kernel
theorem at192_77 : am_at 192 77 = some (.aload_n 0, 1) := by decide +kernel
theorem at192_78 : am_at 192 78 = some (.iconst (-1), 1) := by decide +kernel
theorem at192_79 : am_at 192 79 = some (.putfield 110290, 3) := by decide +kernel
theorem at192_82 : am_at 192 82 = some (.aload_n 0, 1) := by decide +kernel
theorem at192_83 : am_at 192 83 = some (.iconst 0, 1) := by decide +kernel
theorem at192_84 : am_at 192 84 = some (.putfield 110300, 3) := by decide +kernel
theorem at192_87 : am_at 192 87 = some (.aload_n 0, 1) := by decide +kernel
theorem at192_88 : am_at 192 88 = some (.invokevirtual 167, 3) := by decide +kernel
theorem at192_91 : am_at 192 91 = some (.aload_n 0, 1) := by decide +kernel
theorem at192_92 : am_at 192 92 = some (.invokevirtual 172, 3) := by decide +kernel
theorem at192_95 : am_at 192 95 = some (.ifCond .eq 17, 3) := by decide +kernel
theorem at192_98 : am_at 192 98 = some (.aload_n 0, 1) := by decide +kernel
theorem at192_99 : am_at 192 99 = some (.getfield 110190, 3) := by decide +kernel
theorem at192_102 : am_at 192 102 = some (.ifCond .eq 10, 3) := by decide +kernel
theorem at192_105 : am_at 192 105 = some (.aload_n 0, 1) := by decide +kernel
theorem at192_106 : am_at 192 106 = some (.invokevirtual 191, 3) := by decide +kernel
theorem at192_109 : am_at 192 109 = some (.goto (-18), 3) := by decide +kernel
theorem at192_112 : am_at 192 112 = some (.aload_n 0, 1) := by decide +kernel
theorem at192_113 : am_at 192 113 = some (.invokevirtual 172, 3) := by decide +kernel
theorem at192_116 : am_at 192 116 = some (.ifCond .ne 18, 3) := by decide +kernel
theorem at192_119 : am_at 192 119 = some (.aload_n 0, 1) := by decide +kernel
theorem at192_120 : am_at 192 120 = some (.getfield 110162, 3) := by decide +kernel
theorem at192_123 : am_at 192 123 = some (.iconst 0, 1) := by decide +kernel
theorem at192_124 : am_at 192 124 = some (.dup2, 1) := by decide +kernel
theorem at192_125 : am_at 192 125 = some (.iaload, 1) := by decide +kernel
theorem at192_126 : am_at 192 126 = some (.iconst 1, 1) := by decide +kernel
theorem at192_127 : am_at 192 127 = some (.iadd, 1) := by decide +kernel
theorem at192_128 : am_at 192 128 = some (.iastore, 1) := by decide +kernel
theorem at192_129 : am_at 192 129 = some (.aload_n 0, 1) := by decide +kernel
theorem at192_130 : am_at 192 130 = some (.getfield 110140, 3) := by decide +kernel
theorem at192_133 : am_at 192 133 = some (.ireturn, 1) := by decide +kernel
theorem at192_134 : am_at 192 134 = some (.aload_n 0, 1) := by decide +kernel
theorem at192_135 : am_at 192 135 = some (.aload_n 0, 1) := by decide +kernel
theorem at192_136 : am_at 192 136 = some (.getfield 110250, 3) := by decide +kernel
theorem at192_139 : am_at 192 139 = some (.putfield 110010, 3) := by decide +kernel
theorem at192_142 : am_at 192 142 = some (.aload_n 0, 1) := by decide +kernel
theorem at192_143 : am_at 192 143 = some (.aload_n 0, 1) := by decide +kernel
theorem at192_144 : am_at 192 144 = some (.getfield 110260, 3) := by decide +kernel
theorem at192_147 : am_at 192 147 = some (.putfield 110020, 3) := by decide +kernel
theorem at192_150 : am_at 192 150 = some (.aload_n 0, 1) := by decide +kernel
theorem at192_151 : am_at 192 151 = some (.aload_n 0, 1) := by decide +kernel
theorem at192_152 : am_at 192 152 = some (.getfield 110270, 3) := by decide +kernel
theorem at192_155 : am_at 192 155 = some (.putfield 110030, 3) := by decide +kernel
theorem at192_158 : am_at 192 158 = some (.aload_n 0, 1) := by decide +kernel
theorem at192_159 : am_at 192 159 = some (.aload_n 0, 1) := by decide +kernel
theorem at192_160 : am_at 192 160 = some (.getfield 110280, 3) := by decide +kernel
theorem at192_163 : am_at 192 163 = some (.putfield 110040, 3) := by decide +kernel
theorem at192_166 : am_at 192 166 = some (.aload_n 0, 1) := by decide +kernel
theorem at192_167 : am_at 192 167 = some (.aload_n 0, 1) := by decide +kernel
theorem at192_168 : am_at 192 168 = some (.getfield 110290, 3) := by decide +kernel
theorem at192_171 : am_at 192 171 = some (.putfield 110050, 3) := by decide +kernel
theorem at192_174 : am_at 192 174 = some (.aload_n 0, 1) := by decide +kernel
theorem at192_175 : am_at 192 175 = some (.aload_n 0, 1) := by decide +kernel
theorem at192_176 : am_at 192 176 = some (.getfield 110332, 3) := by decide +kernel
theorem at192_179 : am_at 192 179 = some (.aload_n 0, 1) := by decide +kernel
theorem at192_180 : am_at 192 180 = some (.getfield 110062, 3) := by decide +kernel
theorem at192_183 : am_at 192 183 = some (.invokevirtual 160, 3) := by decide +kernel
theorem at192_186 : am_at 192 186 = some (.aload_n 0, 1) := by decide +kernel
theorem at192_187 : am_at 192 187 = some (.aload_n 0, 1) := by decide +kernel
theorem at192_188 : am_at 192 188 = some (.getfield 110342, 3) := by decide +kernel
theorem at192_191 : am_at 192 191 = some (.aload_n 0, 1) := by decide +kernel
theorem at192_192 : am_at 192 192 = some (.getfield 110072, 3) := by decide +kernel
theorem at192_195 : am_at 192 195 = some (.invokevirtual 160, 3) := by decide +kernel
theorem at192_198 : am_at 192 198 = some (.aload_n 0, 1) := by decide +kernel
theorem at192_199 : am_at 192 199 = some (.aload_n 0, 1) := by decide +kernel
theorem at192_200 : am_at 192 200 = some (.getfield 110352, 3) := by decide +kernel
theorem at192_203 : am_at 192 203 = some (.aload_n 0, 1) := by decide +kernel
theorem at192_204 : am_at 192 204 = some (.getfield 110082, 3) := by decide +kernel
theorem at192_207 : am_at 192 207 = some (.invokevirtual 160, 3) := by decide +kernel
theorem at192_210 : am_at 192 210 = some (.aload_n 0, 1) := by decide +kernel
theorem at192_211 : am_at 192 211 = some (.aload_n 0, 1) := by decide +kernel
theorem at192_212 : am_at 192 212 = some (.getfield 110362, 3) := by decide +kernel
theorem at192_215 : am_at 192 215 = some (.aload_n 0, 1) := by decide +kernel
theorem at192_216 : am_at 192 216 = some (.getfield 110092, 3) := by decide +kernel
theorem at192_219 : am_at 192 219 = some (.invokevirtual 160, 3) := by decide +kernel
theorem at192_222 : am_at 192 222 = some (.aload_n 0, 1) := by decide +kernel
theorem at192_223 : am_at 192 223 = some (.aload_n 0, 1) := by decide +kernel
theorem at192_224 : am_at 192 224 = some (.getfield 110372, 3) := by decide +kernel
theorem at192_227 : am_at 192 227 = some (.aload_n 0, 1) := by decide +kernel
theorem at192_228 : am_at 192 228 = some (.getfield 110102, 3) := by decide +kernel
theorem at192_231 : am_at 192 231 = some (.invokevirtual 160, 3) := by decide +kernel
theorem at192_234 : am_at 192 234 = some (.aload_n 0, 1) := by decide +kernel
theorem at192_235 : am_at 192 235 = some (.aload_n 0, 1) := by decide +kernel
theorem at192_236 : am_at 192 236 = some (.getfield 110382, 3) := by decide +kernel
theorem at192_239 : am_at 192 239 = some (.aload_n 0, 1) := by decide +kernel
theorem at192_240 : am_at 192 240 = some (.getfield 110112, 3) := by decide +kernel
theorem at192_243 : am_at 192 243 = some (.invokevirtual 160, 3) := by decide +kernel
theorem at192_246 : am_at 192 246 = some (.aload_n 0, 1) := by decide +kernel
theorem at192_247 : am_at 192 247 = some (.invokevirtual 194, 3) := by decide +kernel
theorem at192_250 : am_at 192 250 = some (.aload_n 0, 1) := by decide +kernel
theorem at192_251 : am_at 192 251 = some (.iconst 0, 1) := by decide +kernel
theorem at192_252 : am_at 192 252 = some (.putfield 110590, 3) := by decide +kernel
theorem at192_255 : am_at 192 255 = some (.aload_n 0, 1) := by decide +kernel
theorem at192_256 : am_at 192 256 = some (.iconst (-1), 1) := by decide +kernel
theorem at192_257 : am_at 192 257 = some (.putfield 110510, 3) := by decide +kernel
theorem at192_260 : am_at 192 260 = some (.aload_n 0, 1) := by decide +kernel
theorem at192_261 : am_at 192 261 = some (.iconst 0, 1) := by decide +kernel
theorem at192_262 : am_at 192 262 = some (.putfield 110581, 3) := by decide +kernel
theorem at192_265 : am_at 192 265 = some (.aload_n 0, 1) := by decide +kernel
theorem at192_266 : am_at 192 266 = some (.iconst 0, 1) := by decide +kernel
theorem at192_267 : am_at 192 267 = some (.putfield 110621, 3) := by decide +kernel
theorem at192_270 : am_at 192 270 = some (.iconst 0, 1) := by decide +kernel
theorem at192_271 : am_at 192 271 = some (.ireturn, 1) := by decide +kernel
theorem at193_0 : am_at 193 0 = some (.aload_n 0, 1) := by decide +kernel
theorem at193_1 : am_at 193 1 = some (.iconst 0, 1) := by decide +kernel
theorem at193_2 : am_at 193 2 = some (.putfield 110000, 3) := by decide +kernel
theorem at193_5 : am_at 193 5 = some (.aload_n 0, 1) := by decide +kernel
theorem at193_6 : am_at 193 6 = some (.getfield 110150, 3) := by decide +kernel
theorem at193_9 : am_at 193 9 = some (.ireturn, 1) := by decide +kernel
theorem at194_0 : am_at 194 0 = some (.iconst 0, 1) := by decide +kernel
theorem at194_1 : am_at 194 1 = some (.istore_n 1, 1) := by decide +kernel
theorem at194_2 : am_at 194 2 = some (.iload_n 1, 1) := by decide +kernel
theorem at194_3 : am_at 194 3 = some (.sipush 139, 3) := by decide +kernel
theorem at194_6 : am_at 194 6 = some (.if_icmp .ge 32, 3) := by decide +kernel
theorem at194_9 : am_at 194 9 = some (.aload_n 0, 1) := by decide +kernel
theorem at194_10 : am_at 194 10 = some (.getfield 110412, 3) := by decide +kernel
theorem at194_13 : am_at 194 13 = some (.iload_n 1, 1) := by decide +kernel
theorem at194_14 : am_at 194 14 = some (.iload_n 1, 1) := by decide +kernel
theorem at194_15 : am_at 194 15 = some (.bipush 19, 2) := by decide +kernel
theorem at194_17 : am_at 194 17 = some (.if_icmp .lt 13, 3) := by decide +kernel
theorem at194_20 : am_at 194 20 = some (.iload_n 1, 1) := by decide +kernel
theorem at194_21 : am_at 194 21 = some (.bipush 79, 2) := by decide +kernel
theorem at194_23 : am_at 194 23 = some (.if_icmp .ge 7, 3) := by decide +kernel
theorem at194_26 : am_at 194 26 = some (.iconst (-1), 1) := by decide +kernel
theorem at194_27 : am_at 194 27 = some (.goto 4, 3) := by decide +kernel
theorem at194_30 : am_at 194 30 = some (.iconst 0, 1) := by decide +kernel
theorem at194_31 : am_at 194 31 = some (.iastore, 1) := by decide +kernel
theorem at194_32 : am_at 194 32 = some (.iinc 1 1, 3) := by decide +kernel
theorem at194_35 : am_at 194 35 = some (.goto (-33), 3) := by decide +kernel
theorem at194_38 : am_at 194 38 = some (.iconst 0, 1) := by decide +kernel
theorem at194_39 : am_at 194 39 = some (.istore_n 1, 1) := by decide +kernel
theorem at194_40 : am_at 194 40 = some (.iload_n 1, 1) := by decide +kernel
theorem at194_41 : am_at 194 41 = some (.aload_n 0, 1) := by decide +kernel
theorem at194_42 : am_at 194 42 = some (.getfield 110010, 3) := by decide +kernel
theorem at194_45 : am_at 194 45 = some (.if_icmp .ge 38, 3) := by decide +kernel
theorem at194_48 : am_at 194 48 = some (.aload_n 0, 1) := by decide +kernel
theorem at194_49 : am_at 194 49 = some (.getfield 110412, 3) := by decide +kernel
theorem at194_52 : am_at 194 52 = some (.iconst 1, 1) := by decide +kernel
theorem at194_53 : am_at 194 53 = some (.iload_n 1, 1) := by decide +kernel
theorem at194_54 : am_at 194 54 = some (.iadd, 1) := by decide +kernel
theorem at194_55 : am_at 194 55 = some (.aload_n 0, 1) := by decide +kernel
theorem at194_56 : am_at 194 56 = some (.getfield 110092, 3) := by decide +kernel
theorem at194_59 : am_at 194 59 = some (.iload_n 1, 1) := by decide +kernel
theorem at194_60 : am_at 194 60 = some (.iaload, 1) := by decide +kernel
theorem at194_61 : am_at 194 61 = some (.iastore, 1) := by decide +kernel
theorem at194_62 : am_at 194 62 = some (.aload_n 0, 1) := by decide +kernel
theorem at194_63 : am_at 194 63 = some (.getfield 110412, 3) := by decide +kernel
theorem at194_66 : am_at 194 66 = some (.bipush 7, 2) := by decide +kernel
theorem at194_68 : am_at 194 68 = some (.iload_n 1, 1) := by decide +kernel
theorem at194_69 : am_at 194 69 = some (.iadd, 1) := by decide +kernel
theorem at194_70 : am_at 194 70 = some (.aload_n 0, 1) := by decide +kernel
theorem at194_71 : am_at 194 71 = some (.getfield 110102, 3) := by decide +kernel
theorem at194_74 : am_at 194 74 = some (.iload_n 1, 1) := by decide +kernel
theorem at194_75 : am_at 194 75 = some (.iaload, 1) := by decide +kernel
theorem at194_76 : am_at 194 76 = some (.iastore, 1) := by decide +kernel
theorem at194_77 : am_at 194 77 = some (.iinc 1 1, 3) := by decide +kernel
theorem at194_80 : am_at 194 80 = some (.goto (-40), 3) := by decide +kernel
theorem at194_83 : am_at 194 83 = some (.aload_n 0, 1) := by decide +kernel
theorem at194_84 : am_at 194 84 = some (.iconst 0, 1) := by decide +kernel
theorem at194_85 : am_at 194 85 = some (.putfield 110440, 3) := by decide +kernel
theorem at194_88 : am_at 194 88 = some (.return_, 1) := by decide +kernel
theorem at195_0 : am_at 195 0 = some (.aload_n 0, 1) := by decide +kernel
theorem at195_1 : am_at 195 1 = some (.getfield 110440, 3) := by decide +kernel
theorem at195_4 : am_at 195 4 = some (.bipush 40, 2) := by decide +kernel
theorem at195_6 : am_at 195 6 = some (.if_icmp .ne 46, 3) := by decide +kernel
theorem at195_9 : am_at 195 9 = some (.sipush 139, 3) := by decide +kernel
theorem at195_12 : am_at 195 12 = some (.istore_n 1, 1) := by decide +kernel
theorem at195_13 : am_at 195 13 = some (.iload_n 1, 1) := by decide +kernel
theorem at195_14 : am_at 195 14 = some (.sipush 5560, 3) := by decide +kernel
theorem at195_17 : am_at 195 17 = some (.if_icmp .ge 25, 3) := by decide +kernel
theorem at195_20 : am_at 195 20 = some (.aload_n 0, 1) := by decide +kernel
theorem at195_21 : am_at 195 21 = some (.getfield 110432, 3) := by decide +kernel
theorem at195_24 : am_at 195 24 = some (.iload_n 1, 1) := by decide +kernel
theorem at195_25 : am_at 195 25 = some (.sipush 139, 3) := by decide +kernel
theorem at195_28 : am_at 195 28 = some (.isub, 1) := by decide +kernel
theorem at195_29 : am_at 195 29 = some (.aload_n 0, 1) := by decide +kernel
theorem at195_30 : am_at 195 30 = some (.getfield 110432, 3) := by decide +kernel
theorem at195_33 : am_at 195 33 = some (.iload_n 1, 1) := by decide +kernel
theorem at195_34 : am_at 195 34 = some (.iaload, 1) := by decide +kernel
theorem at195_35 : am_at 195 35 = some (.iastore, 1) := by decide +kernel
theorem at195_36 : am_at 195 36 = some (.iinc 1 1, 3) := by decide +kernel
theorem at195_39 : am_at 195 39 = some (.goto (-26), 3) := by decide +kernel
theorem at195_42 : am_at 195 42 = some (.aload_n 0, 1) := by decide +kernel
theorem at195_43 : am_at 195 43 = some (.dup, 1) := by decide +kernel
theorem at195_44 : am_at 195 44 = some (.getfield 110440, 3) := by decide +kernel
theorem at195_47 : am_at 195 47 = some (.iconst 1, 1) := by decide +kernel
theorem at195_48 : am_at 195 48 = some (.isub, 1) := by decide +kernel
theorem at195_49 : am_at 195 49 = some (.putfield 110440, 3) := by decide +kernel
theorem at195_52 : am_at 195 52 = some (.iconst 0, 1) := by decide +kernel
theorem at195_53 : am_at 195 53 = some (.istore_n 1, 1) := by decide +kernel
theorem at195_54 : am_at 195 54 = some (.iload_n 1, 1) := by decide +kernel
theorem at195_55 : am_at 195 55 = some (.sipush 139, 3) := by decide +kernel
theorem at195_58 : am_at 195 58 = some (.if_icmp .ge 30, 3) := by decide +kernel
theorem at195_61 : am_at 195 61 = some (.aload_n 0, 1) := by decide +kernel
theorem at195_62 : am_at 195 62 = some (.getfield 110432, 3) := by decide +kernel
theorem at195_65 : am_at 195 65 = some (.sipush 139, 3) := by decide +kernel
theorem at195_68 : am_at 195 68 = some (.aload_n 0, 1) := by decide +kernel
theorem at195_69 : am_at 195 69 = some (.getfield 110440, 3) := by decide +kernel
theorem at195_72 : am_at 195 72 = some (.imul, 1) := by decide +kernel
theorem at195_73 : am_at 195 73 = some (.iload_n 1, 1) := by decide +kernel
theorem at195_74 : am_at 195 74 = some (.iadd, 1) := by decide +kernel
theorem at195_75 : am_at 195 75 = some (.aload_n 0, 1) := by decide +kernel
theorem at195_76 : am_at 195 76 = some (.getfield 110412, 3) := by decide +kernel
theorem at195_79 : am_at 195 79 = some (.iload_n 1, 1) := by decide +kernel
theorem at195_80 : am_at 195 80 = some (.iaload, 1) := by decide +kernel
theorem at195_81 : am_at 195 81 = some (.iastore, 1) := by decide +kernel
theorem at195_82 : am_at 195 82 = some (.iinc 1 1, 3) := by decide +kernel
theorem at195_85 : am_at 195 85 = some (.goto (-31), 3) := by decide +kernel
theorem at195_88 : am_at 195 88 = some (.aload_n 0, 1) := by decide +kernel
theorem at195_89 : am_at 195 89 = some (.dup, 1) := by decide +kernel
theorem at195_90 : am_at 195 90 = some (.getfield 110440, 3) := by decide +kernel
theorem at195_93 : am_at 195 93 = some (.iconst 1, 1) := by decide +kernel
theorem at195_94 : am_at 195 94 = some (.iadd, 1) := by decide +kernel
theorem at195_95 : am_at 195 95 = some (.putfield 110440, 3) := by decide +kernel
theorem at195_98 : am_at 195 98 = some (.return_, 1) := by decide +kernel
theorem at196_0 : am_at 196 0 = some (.aload_n 0, 1) := by decide +kernel
theorem at196_1 : am_at 196 1 = some (.getfield 110162, 3) := by decide +kernel
theorem at196_4 : am_at 196 4 = some (.iload_n 1, 1) := by decide +kernel
theorem at196_5 : am_at 196 5 = some (.dup2, 1) := by decide +kernel
theorem at196_6 : am_at 196 6 = some (.iaload, 1) := by decide +kernel
theorem at196_7 : am_at 196 7 = some (.iconst 1, 1) := by decide +kernel
theorem at196_8 : am_at 196 8 = some (.iadd, 1) := by decide +kernel
theorem at196_9 : am_at 196 9 = some (.iastore, 1) := by decide +kernel
theorem at196_10 : am_at 196 10 = some (.iconst (-1), 1) := by decide +kernel
theorem at196_11 : am_at 196 11 = some (.ireturn, 1) := by decide +kernel
theorem at197_0 : am_at 197 0 = some (.aload_n 0, 1) := by decide +kernel
theorem at197_1 : am_at 197 1 = some (.iconst 0, 1) := by decide +kernel
theorem at197_2 : am_at 197 2 = some (.putfield 110000, 3) := by decide +kernel
theorem at197_5 : am_at 197 5 = some (.aload_n 0, 1) := by decide +kernel
theorem at197_6 : am_at 197 6 = some (.getfield 110440, 3) := by decide +kernel
theorem at197_9 : am_at 197 9 = some (.ifCond .ne 5, 3) := by decide +kernel
theorem at197_12 : am_at 197 12 = some (.iconst (-1), 1) := by decide +kernel
theorem at197_13 : am_at 197 13 = some (.ireturn, 1) := by decide +kernel
theorem at197_14 : am_at 197 14 = some (.aload_n 0, 1) := by decide +kernel
theorem at197_15 : am_at 197 15 = some (.dup, 1) := by decide +kernel
theorem at197_16 : am_at 197 16 = some (.getfield 110440, 3) := by decide +kernel
theorem at197_19 : am_at 197 19 = some (.iconst 1, 1) := by decide +kernel
theorem at197_20 : am_at 197 20 = some (.isub, 1) := by decide +kernel
theorem at197_21 : am_at 197 21 = some (.putfield 110440, 3) := by decide +kernel
theorem at197_24 : am_at 197 24 = some (.iconst 0, 1) := by decide +kernel
theorem at197_25 : am_at 197 25 = some (.istore_n 1, 1) := by decide +kernel
theorem at197_26 : am_at 197 26 = some (.iload_n 1, 1) := by decide +kernel
theorem at197_27 : am_at 197 27 = some (.sipush 139, 3) := by decide +kernel
theorem at197_30 : am_at 197 30 = some (.if_icmp .ge 30, 3) := by decide +kernel
theorem at197_33 : am_at 197 33 = some (.aload_n 0, 1) := by decide +kernel
theorem at197_34 : am_at 197 34 = some (.getfield 110412, 3) := by decide +kernel
theorem at197_37 : am_at 197 37 = some (.iload_n 1, 1) := by decide +kernel
theorem at197_38 : am_at 197 38 = some (.aload_n 0, 1) := by decide +kernel
theorem at197_39 : am_at 197 39 = some (.getfield 110432, 3) := by decide +kernel
theorem at197_42 : am_at 197 42 = some (.sipush 139, 3) := by decide +kernel
theorem at197_45 : am_at 197 45 = some (.aload_n 0, 1) := by decide +kernel
theorem at197_46 : am_at 197 46 = some (.getfield 110440, 3) := by decide +kernel
theorem at197_49 : am_at 197 49 = some (.imul, 1) := by decide +kernel
theorem at197_50 : am_at 197 50 = some (.iload_n 1, 1) := by decide +kernel
theorem at197_51 : am_at 197 51 = some (.iadd, 1) := by decide +kernel
theorem at197_52 : am_at 197 52 = some (.iaload, 1) := by decide +kernel
theorem at197_53 : am_at 197 53 = some (.iastore, 1) := by decide +kernel
theorem at197_54 : am_at 197 54 = some (.iinc 1 1, 3) := by decide +kernel
theorem at197_57 : am_at 197 57 = some (.goto (-31), 3) := by decide +kernel
theorem at197_60 : am_at 197 60 = some (.aload_n 0, 1) := by decide +kernel
theorem at197_61 : am_at 197 61 = some (.getfield 110440, 3) := by decide +kernel
theorem at197_64 : am_at 197 64 = some (.ireturn, 1) := by decide +kernel
theorem at198_0 : am_at 198 0 = some (.iconst (-1), 1) := by decide +kernel
theorem at198_1 : am_at 198 1 = some (.istore_n 2, 1) := by decide +kernel
theorem at198_2 : am_at 198 2 = some (.iconst 0, 1) := by decide +kernel
theorem at198_3 : am_at 198 3 = some (.istore_n 3, 1) := by decide +kernel
theorem at198_4 : am_at 198 4 = some (.iload_n 3, 1) := by decide +kernel
theorem at198_5 : am_at 198 5 = some (.aload_n 0, 1) := by decide +kernel
theorem at198_6 : am_at 198 6 = some (.getfield 110040, 3) := by decide +kernel
theorem at198_9 : am_at 198 9 = some (.if_icmp .ge 47, 3) := by decide +kernel
theorem at198_12 : am_at 198 12 = some (.aload_n 0, 1) := by decide +kernel
theorem at198_13 : am_at 198 13 = some (.getfield 110082, 3) := by decide +kernel
theorem at198_16 : am_at 198 16 = some (.iconst 2, 1) := by decide +kernel
theorem at198_17 : am_at 198 17 = some (.iload_n 3, 1) := by decide +kernel
theorem at198_18 : am_at 198 18 = some (.imul, 1) := by decide +kernel
theorem at198_19 : am_at 198 19 = some (.iaload, 1) := by decide +kernel
theorem at198_20 : am_at 198 20 = some (.iload_n 1, 1) := by decide +kernel
theorem at198_21 : am_at 198 21 = some (.if_icmp .gt 29, 3) := by decide +kernel
theorem at198_24 : am_at 198 24 = some (.iload_n 2, 1) := by decide +kernel
theorem at198_25 : am_at 198 25 = some (.iconst (-1), 1) := by decide +kernel
theorem at198_26 : am_at 198 26 = some (.if_icmp .eq 22, 3) := by decide +kernel
theorem at198_29 : am_at 198 29 = some (.aload_n 0, 1) := by decide +kernel
theorem at198_30 : am_at 198 30 = some (.getfield 110082, 3) := by decide +kernel
theorem at198_33 : am_at 198 33 = some (.iconst 2, 1) := by decide +kernel
theorem at198_34 : am_at 198 34 = some (.iload_n 3, 1) := by decide +kernel
theorem at198_35 : am_at 198 35 = some (.imul, 1) := by decide +kernel
theorem at198_36 : am_at 198 36 = some (.iaload, 1) := by decide +kernel
theorem at198_37 : am_at 198 37 = some (.aload_n 0, 1) := by decide +kernel
theorem at198_38 : am_at 198 38 = some (.getfield 110082, 3) := by decide +kernel
theorem at198_41 : am_at 198 41 = some (.iconst 2, 1) := by decide +kernel
theorem at198_42 : am_at 198 42 = some (.iload_n 2, 1) := by decide +kernel
theorem at198_43 : am_at 198 43 = some (.imul, 1) := by decide +kernel
theorem at198_44 : am_at 198 44 = some (.iaload, 1) := by decide +kernel
theorem at198_45 : am_at 198 45 = some (.if_icmp .le 5, 3) := by decide +kernel
theorem at198_48 : am_at 198 48 = some (.iload_n 3, 1) := by decide +kernel
theorem at198_49 : am_at 198 49 = some (.istore_n 2, 1) := by decide +kernel
theorem at198_50 : am_at 198 50 = some (.iinc 3 1, 3) := by decide +kernel
theorem at198_53 : am_at 198 53 = some (.goto (-49), 3) := by decide +kernel
theorem at198_56 : am_at 198 56 = some (.iload_n 2, 1) := by decide +kernel
theorem at198_57 : am_at 198 57 = some (.iconst (-1), 1) := by decide +kernel
theorem at198_58 : am_at 198 58 = some (.if_icmp .ne 7, 3) := by decide +kernel
theorem at198_61 : am_at 198 61 = some (.iconst 5, 1) := by decide +kernel
theorem at198_62 : am_at 198 62 = some (.goto 13, 3) := by decide +kernel
theorem at198_65 : am_at 198 65 = some (.aload_n 0, 1) := by decide +kernel
theorem at198_66 : am_at 198 66 = some (.getfield 110082, 3) := by decide +kernel
theorem at198_69 : am_at 198 69 = some (.iconst 2, 1) := by decide +kernel
theorem at198_70 : am_at 198 70 = some (.iload_n 2, 1) := by decide +kernel
theorem at198_71 : am_at 198 71 = some (.imul, 1) := by decide +kernel
theorem at198_72 : am_at 198 72 = some (.iconst 1, 1) := by decide +kernel
theorem at198_73 : am_at 198 73 = some (.iadd, 1) := by decide +kernel
theorem at198_74 : am_at 198 74 = some (.iaload, 1) := by decide +kernel
theorem at198_75 : am_at 198 75 = some (.ireturn, 1) := by decide +kernel
theorem at199_0 : am_at 199 0 = some (.aload_n 0, 1) := by decide +kernel
theorem at199_1 : am_at 199 1 = some (.bipush 19, 2) := by decide +kernel
theorem at199_3 : am_at 199 3 = some (.bipush 10, 2) := by decide +kernel
theorem at199_5 : am_at 199 5 = some (.iload_n 1, 1) := by decide +kernel
theorem at199_6 : am_at 199 6 = some (.imul, 1) := by decide +kernel
theorem at199_7 : am_at 199 7 = some (.iadd, 1) := by decide +kernel
theorem at199_8 : am_at 199 8 = some (.iload_n 2, 1) := by decide +kernel
theorem at199_9 : am_at 199 9 = some (.iadd, 1) := by decide +kernel
theorem at199_10 : am_at 199 10 = some (.iaload, 1) := by decide +kernel
theorem at199_11 : am_at 199 11 = some (.iconst (-1), 1) := by decide +kernel
theorem at199_12 : am_at 199 12 = some (.if_icmp .eq 7, 3) := by decide +kernel
theorem at199_15 : am_at 199 15 = some (.iconst 1, 1) := by decide +kernel
theorem at199_16 : am_at 199 16 = some (.goto 4, 3) := by decide +kernel
theorem at199_19 : am_at 199 19 = some (.iconst 0, 1) := by decide +kernel
theorem at199_20 : am_at 199 20 = some (.ireturn, 1) := by decide +kernel
theorem at200_0 : am_at 200 0 = some (.iconst 0, 1) := by decide +kernel
theorem at200_1 : am_at 200 1 = some (.istore_n 3, 1) := by decide +kernel
theorem at200_2 : am_at 200 2 = some (.iconst 0, 1) := by decide +kernel
theorem at200_3 : am_at 200 3 = some (.istore 4, 2) := by decide +kernel
theorem at200_5 : am_at 200 5 = some (.iload 4, 2) := by decide +kernel
theorem at200_7 : am_at 200 7 = some (.aload_n 0, 1) := by decide +kernel
theorem at200_8 : am_at 200 8 = some (.getfield 110020, 3) := by decide +kernel
theorem at200_11 : am_at 200 11 = some (.if_icmp .ge 30, 3) := by decide +kernel
theorem at200_14 : am_at 200 14 = some (.iload_n 3, 1) := by decide +kernel
theorem at200_15 : am_at 200 15 = some (.aload_n 1, 1) := by decide +kernel
theorem at200_16 : am_at 200 16 = some (.iload_n 2, 1) := by decide +kernel
theorem at200_17 : am_at 200 17 = some (.iload 4, 2) := by decide +kernel
theorem at200_19 : am_at 200 19 = some (.invokestatic 199, 3) := by decide +kernel
theorem at200_22 : am_at 200 22 = some (.ifCond .eq 10, 3) := by decide +kernel
theorem at200_25 : am_at 200 25 = some (.iconst 1, 1) := by decide +kernel
theorem at200_26 : am_at 200 26 = some (.iload 4, 2) := by decide +kernel
theorem at200_28 : am_at 200 28 = some (.ishl, 1) := by decide +kernel
theorem at200_29 : am_at 200 29 = some (.goto 4, 3) := by decide +kernel
theorem at200_32 : am_at 200 32 = some (.iconst 0, 1) := by decide +kernel
theorem at200_33 : am_at 200 33 = some (.ior, 1) := by decide +kernel
theorem at200_34 : am_at 200 34 = some (.istore_n 3, 1) := by decide +kernel
theorem at200_35 : am_at 200 35 = some (.iinc 4 1, 3) := by decide +kernel
theorem at200_38 : am_at 200 38 = some (.goto (-33), 3) := by decide +kernel
theorem at200_41 : am_at 200 41 = some (.iload_n 3, 1) := by decide +kernel
theorem at200_42 : am_at 200 42 = some (.ireturn, 1) := by decide +kernel
theorem at201_0 : am_at 201 0 = some (.iconst 0, 1) := by decide +kernel
theorem at201_1 : am_at 201 1 = some (.istore_n 3, 1) := by decide +kernel
theorem at201_2 : am_at 201 2 = some (.iconst 0, 1) := by decide +kernel
theorem at201_3 : am_at 201 3 = some (.istore 4, 2) := by decide +kernel
theorem at201_5 : am_at 201 5 = some (.iload 4, 2) := by decide +kernel
theorem at201_7 : am_at 201 7 = some (.aload_n 0, 1) := by decide +kernel
theorem at201_8 : am_at 201 8 = some (.getfield 110010, 3) := by decide +kernel
theorem at201_11 : am_at 201 11 = some (.if_icmp .ge 30, 3) := by decide +kernel
theorem at201_14 : am_at 201 14 = some (.iload_n 3, 1) := by decide +kernel
theorem at201_15 : am_at 201 15 = some (.aload_n 1, 1) := by decide +kernel
theorem at201_16 : am_at 201 16 = some (.iload 4, 2) := by decide +kernel
theorem at201_18 : am_at 201 18 = some (.iload_n 2, 1) := by decide +kernel
theorem at201_19 : am_at 201 19 = some (.invokestatic 199, 3) := by decide +kernel
theorem at201_22 : am_at 201 22 = some (.ifCond .eq 10, 3) := by decide +kernel
theorem at201_25 : am_at 201 25 = some (.iconst 1, 1) := by decide +kernel
theorem at201_26 : am_at 201 26 = some (.iload 4, 2) := by decide +kernel
theorem at201_28 : am_at 201 28 = some (.ishl, 1) := by decide +kernel
theorem at201_29 : am_at 201 29 = some (.goto 4, 3) := by decide +kernel
theorem at201_32 : am_at 201 32 = some (.iconst 0, 1) := by decide +kernel
theorem at201_33 : am_at 201 33 = some (.ior, 1) := by decide +kernel
theorem at201_34 : am_at 201 34 = some (.istore_n 3, 1) := by decide +kernel
theorem at201_35 : am_at 201 35 = some (.iinc 4 1, 3) := by decide +kernel
theorem at201_38 : am_at 201 38 = some (.goto (-33), 3) := by decide +kernel
theorem at201_41 : am_at 201 41 = some (.iload_n 3, 1) := by decide +kernel
theorem at201_42 : am_at 201 42 = some (.ireturn, 1) := by decide +kernel
theorem at202_0 : am_at 202 0 = some (.iconst 0, 1) := by decide +kernel
theorem at202_1 : am_at 202 1 = some (.istore_n 2, 1) := by decide +kernel
theorem at202_2 : am_at 202 2 = some (.iconst 0, 1) := by decide +kernel
theorem at202_3 : am_at 202 3 = some (.istore_n 3, 1) := by decide +kernel
theorem at202_4 : am_at 202 4 = some (.iload_n 3, 1) := by decide +kernel
theorem at202_5 : am_at 202 5 = some (.aload_n 0, 1) := by decide +kernel
theorem at202_6 : am_at 202 6 = some (.getfield 110010, 3) := by decide +kernel
theorem at202_9 : am_at 202 9 = some (.if_icmp .ge 21, 3) := by decide +kernel
theorem at202_12 : am_at 202 12 = some (.iload_n 2, 1) := by decide +kernel
theorem at202_13 : am_at 202 13 = some (.aload_n 0, 1) := by decide +kernel
theorem at202_14 : am_at 202 14 = some (.aload_n 1, 1) := by decide +kernel
theorem at202_15 : am_at 202 15 = some (.iload_n 3, 1) := by decide +kernel
theorem at202_16 : am_at 202 16 = some (.invokevirtual 200, 3) := by decide +kernel
theorem at202_19 : am_at 202 19 = some (.invokestatic 161, 3) := by decide +kernel
theorem at202_22 : am_at 202 22 = some (.iadd, 1) := by decide +kernel
theorem at202_23 : am_at 202 23 = some (.istore_n 2, 1) := by decide +kernel
theorem at202_24 : am_at 202 24 = some (.iinc 3 1, 3) := by decide +kernel
theorem at202_27 : am_at 202 27 = some (.goto (-23), 3) := by decide +kernel
theorem at202_30 : am_at 202 30 = some (.iload_n 2, 1) := by decide +kernel
theorem at202_31 : am_at 202 31 = some (.ireturn, 1) := by decide +kernel
theorem at203_0 : am_at 203 0 = some (.aload_n 0, 1) := by decide +kernel
theorem at203_1 : am_at 203 1 = some (.iconst 0, 1) := by decide +kernel
theorem at203_2 : am_at 203 2 = some (.putfield 110000, 3) := by decide +kernel
theorem at203_5 : am_at 203 5 = some (.aload_n 0, 1) := by decide +kernel
theorem at203_6 : am_at 203 6 = some (.iload_n 1, 1) := by decide +kernel
theorem at203_7 : am_at 203 7 = some (.iconst 0, 1) := by decide +kernel
theorem at203_8 : am_at 203 8 = some (.bipush 12, 2) := by decide +kernel
theorem at203_10 : am_at 203 10 = some (.invokestatic 159, 3) := by decide +kernel
theorem at203_13 : am_at 203 13 = some (.iconst 1, 1) := by decide +kernel
theorem at203_14 : am_at 203 14 = some (.invokevirtual 158, 3) := by decide +kernel
theorem at203_17 : am_at 203 17 = some (.ifCond .ne 5, 3) := by decide +kernel
theorem at203_20 : am_at 203 20 = some (.iconst 0, 1) := by decide +kernel
theorem at203_21 : am_at 203 21 = some (.ireturn, 1) := by decide +kernel
theorem at203_22 : am_at 203 22 = some (.iload_n 1, 1) := by decide +kernel
theorem at203_23 : am_at 203 23 = some (.tableswitch 127 0 12 #[65, 70, 75, 80, 85, 92, 103, 108, 113, 127, 127, 127, 118], 65) := by decide +kernel
theorem at203_88 : am_at 203 88 = some (.aload_n 0, 1) := by decide +kernel
theorem at203_89 : am_at 203 89 = some (.getfield 110010, 3) := by decide +kernel
theorem at203_92 : am_at 203 92 = some (.ireturn, 1) := by decide +kernel
theorem at203_93 : am_at 203 93 = some (.aload_n 0, 1) := by decide +kernel
theorem at203_94 : am_at 203 94 = some (.getfield 110020, 3) := by decide +kernel
theorem at203_97 : am_at 203 97 = some (.ireturn, 1) := by decide +kernel
theorem at203_98 : am_at 203 98 = some (.aload_n 0, 1) := by decide +kernel
theorem at203_99 : am_at 203 99 = some (.getfield 110030, 3) := by decide +kernel
theorem at203_102 : am_at 203 102 = some (.ireturn, 1) := by decide +kernel
theorem at203_103 : am_at 203 103 = some (.aload_n 0, 1) := by decide +kernel
theorem at203_104 : am_at 203 104 = some (.getfield 110040, 3) := by decide +kernel
theorem at203_107 : am_at 203 107 = some (.ireturn, 1) := by decide +kernel
theorem at203_108 : am_at 203 108 = some (.aload_n 0, 1) := by decide +kernel
theorem at203_109 : am_at 203 109 = some (.getfield 110412, 3) := by decide +kernel
theorem at203_112 : am_at 203 112 = some (.iconst 0, 1) := by decide +kernel
theorem at203_113 : am_at 203 113 = some (.iaload, 1) := by decide +kernel
theorem at203_114 : am_at 203 114 = some (.ireturn, 1) := by decide +kernel
theorem at203_115 : am_at 203 115 = some (.aload_n 0, 1) := by decide +kernel
theorem at203_116 : am_at 203 116 = some (.aload_n 0, 1) := by decide +kernel
theorem at203_117 : am_at 203 117 = some (.getfield 110412, 3) := by decide +kernel
theorem at203_120 : am_at 203 120 = some (.iconst 0, 1) := by decide +kernel
theorem at203_121 : am_at 203 121 = some (.iaload, 1) := by decide +kernel
theorem at203_122 : am_at 203 122 = some (.invokevirtual 198, 3) := by decide +kernel
theorem at203_125 : am_at 203 125 = some (.ireturn, 1) := by decide +kernel
theorem at203_126 : am_at 203 126 = some (.aload_n 0, 1) := by decide +kernel
theorem at203_127 : am_at 203 127 = some (.getfield 110440, 3) := by decide +kernel
theorem at203_130 : am_at 203 130 = some (.ireturn, 1) := by decide +kernel
theorem at203_131 : am_at 203 131 = some (.aload_n 0, 1) := by decide +kernel
theorem at203_132 : am_at 203 132 = some (.getfield 110590, 3) := by decide +kernel
theorem at203_135 : am_at 203 135 = some (.ireturn, 1) := by decide +kernel
theorem at203_136 : am_at 203 136 = some (.aload_n 0, 1) := by decide +kernel
theorem at203_137 : am_at 203 137 = some (.getfield 110130, 3) := by decide +kernel
theorem at203_140 : am_at 203 140 = some (.ireturn, 1) := by decide +kernel
theorem at203_141 : am_at 203 141 = some (.aload_n 0, 1) := by decide +kernel
theorem at203_142 : am_at 203 142 = some (.aload_n 0, 1) := by decide +kernel
theorem at203_143 : am_at 203 143 = some (.getfield 110412, 3) := by decide +kernel
theorem at203_146 : am_at 203 146 = some (.invokevirtual 202, 3) := by decide +kernel
theorem at203_149 : am_at 203 149 = some (.ireturn, 1) := by decide +kernel
theorem at203_150 : am_at 203 150 = some (.aload_n 0, 1) := by decide +kernel
theorem at203_151 : am_at 203 151 = some (.getfield 110162, 3) := by decide +kernel
theorem at203_154 : am_at 203 154 = some (.iload_n 1, 1) := by decide +kernel
theorem at203_155 : am_at 203 155 = some (.bipush 9, 2) := by decide +kernel
theorem at203_157 : am_at 203 157 = some (.isub, 1) := by decide +kernel
theorem at203_158 : am_at 203 158 = some (.iaload, 1) := by decide +kernel
theorem at203_159 : am_at 203 159 = some (.ireturn, 1) := by decide +kernel
theorem at204_0 : am_at 204 0 = some (.aload_n 0, 1) := by decide +kernel
theorem at204_1 : am_at 204 1 = some (.iload_n 1, 1) := by decide +kernel
theorem at204_2 : am_at 204 2 = some (.ifCond .lt 15, 3) := by decide +kernel
theorem at204_5 : am_at 204 5 = some (.iload_n 1, 1) := by decide +kernel
theorem at204_6 : am_at 204 6 = some (.aload_n 0, 1) := by decide +kernel
theorem at204_7 : am_at 204 7 = some (.getfield 110010, 3) := by decide +kernel
theorem at204_10 : am_at 204 10 = some (.if_icmp .ge 7, 3) := by decide +kernel
theorem at204_13 : am_at 204 13 = some (.iconst 1, 1) := by decide +kernel
theorem at204_14 : am_at 204 14 = some (.goto 4, 3) := by decide +kernel
theorem at204_17 : am_at 204 17 = some (.iconst 0, 1) := by decide +kernel
theorem at204_18 : am_at 204 18 = some (.iconst 1, 1) := by decide +kernel
theorem at204_19 : am_at 204 19 = some (.invokevirtual 158, 3) := by decide +kernel
theorem at204_22 : am_at 204 22 = some (.ireturn, 1) := by decide +kernel
theorem at205_0 : am_at 205 0 = some (.aload_n 0, 1) := by decide +kernel
theorem at205_1 : am_at 205 1 = some (.iload_n 1, 1) := by decide +kernel
theorem at205_2 : am_at 205 2 = some (.ifCond .lt 15, 3) := by decide +kernel
theorem at205_5 : am_at 205 5 = some (.iload_n 1, 1) := by decide +kernel
theorem at205_6 : am_at 205 6 = some (.aload_n 0, 1) := by decide +kernel
theorem at205_7 : am_at 205 7 = some (.getfield 110020, 3) := by decide +kernel
theorem at205_10 : am_at 205 10 = some (.if_icmp .ge 7, 3) := by decide +kernel
theorem at205_13 : am_at 205 13 = some (.iconst 1, 1) := by decide +kernel
theorem at205_14 : am_at 205 14 = some (.goto 4, 3) := by decide +kernel
theorem at205_17 : am_at 205 17 = some (.iconst 0, 1) := by decide +kernel
theorem at205_18 : am_at 205 18 = some (.iconst 1, 1) := by decide +kernel
theorem at205_19 : am_at 205 19 = some (.invokevirtual 158, 3) := by decide +kernel
theorem at205_22 : am_at 205 22 = some (.ireturn, 1) := by decide +kernel
theorem at206_0 : am_at 206 0 = some (.aload_n 0, 1) := by decide +kernel
theorem at206_1 : am_at 206 1 = some (.iload_n 1, 1) := by decide +kernel
theorem at206_2 : am_at 206 2 = some (.iconst 0, 1) := by decide +kernel
theorem at206_3 : am_at 206 3 = some (.iload_n 2, 1) := by decide +kernel
theorem at206_4 : am_at 206 4 = some (.invokestatic 159, 3) := by decide +kernel
theorem at206_7 : am_at 206 7 = some (.iconst 1, 1) := by decide +kernel
theorem at206_8 : am_at 206 8 = some (.invokevirtual 158, 3) := by decide +kernel
theorem at206_11 : am_at 206 11 = some (.ireturn, 1) := by decide +kernel
theorem at207_0 : am_at 207 0 = some (.aload_n 0, 1) := by decide +kernel
theorem at207_1 : am_at 207 1 = some (.iconst 0, 1) := by decide +kernel
theorem at207_2 : am_at 207 2 = some (.putfield 110000, 3) := by decide +kernel
theorem at207_5 : am_at 207 5 = some (.aload_n 0, 1) := by decide +kernel
theorem at207_6 : am_at 207 6 = some (.iload_n 1, 1) := by decide +kernel
theorem at207_7 : am_at 207 7 = some (.invokevirtual 204, 3) := by decide +kernel
theorem at207_10 : am_at 207 10 = some (.ifCond .eq 12, 3) := by decide +kernel
theorem at207_13 : am_at 207 13 = some (.aload_n 0, 1) := by decide +kernel
theorem at207_14 : am_at 207 14 = some (.iload_n 2, 1) := by decide +kernel
theorem at207_15 : am_at 207 15 = some (.iconst 3, 1) := by decide +kernel
theorem at207_16 : am_at 207 16 = some (.invokevirtual 206, 3) := by decide +kernel
theorem at207_19 : am_at 207 19 = some (.ifCond .ne 5, 3) := by decide +kernel
theorem at207_22 : am_at 207 22 = some (.iconst 0, 1) := by decide +kernel
theorem at207_23 : am_at 207 23 = some (.ireturn, 1) := by decide +kernel
theorem at207_24 : am_at 207 24 = some (.iload_n 2, 1) := by decide +kernel
theorem at207_25 : am_at 207 25 = some (.ifCond .ne 14, 3) := by decide +kernel
theorem at207_28 : am_at 207 28 = some (.aload_n 0, 1) := by decide +kernel
theorem at207_29 : am_at 207 29 = some (.getfield 110412, 3) := by decide +kernel
theorem at207_32 : am_at 207 32 = some (.iconst 1, 1) := by decide +kernel
theorem at207_33 : am_at 207 33 = some (.iload_n 1, 1) := by decide +kernel
theorem at207_34 : am_at 207 34 = some (.iadd, 1) := by decide +kernel
theorem at207_35 : am_at 207 35 = some (.iaload, 1) := by decide +kernel
theorem at207_36 : am_at 207 36 = some (.goto 46, 3) := by decide +kernel
theorem at207_39 : am_at 207 39 = some (.iload_n 2, 1) := by decide +kernel
theorem at207_40 : am_at 207 40 = some (.iconst 1, 1) := by decide +kernel
theorem at207_41 : am_at 207 41 = some (.if_icmp .ne 15, 3) := by decide +kernel
theorem at207_44 : am_at 207 44 = some (.aload_n 0, 1) := by decide +kernel
theorem at207_45 : am_at 207 45 = some (.getfield 110412, 3) := by decide +kernel
theorem at207_48 : am_at 207 48 = some (.bipush 7, 2) := by decide +kernel
theorem at207_50 : am_at 207 50 = some (.iload_n 1, 1) := by decide +kernel
theorem at207_51 : am_at 207 51 = some (.iadd, 1) := by decide +kernel
theorem at207_52 : am_at 207 52 = some (.iaload, 1) := by decide +kernel
theorem at207_53 : am_at 207 53 = some (.goto 29, 3) := by decide +kernel
theorem at207_56 : am_at 207 56 = some (.iload_n 2, 1) := by decide +kernel
theorem at207_57 : am_at 207 57 = some (.iconst 2, 1) := by decide +kernel
theorem at207_58 : am_at 207 58 = some (.if_icmp .ne 15, 3) := by decide +kernel
theorem at207_61 : am_at 207 61 = some (.aload_n 0, 1) := by decide +kernel
theorem at207_62 : am_at 207 62 = some (.getfield 110412, 3) := by decide +kernel
theorem at207_65 : am_at 207 65 = some (.bipush 13, 2) := by decide +kernel
theorem at207_67 : am_at 207 67 = some (.iload_n 1, 1) := by decide +kernel
theorem at207_68 : am_at 207 68 = some (.iadd, 1) := by decide +kernel
theorem at207_69 : am_at 207 69 = some (.iaload, 1) := by decide +kernel
theorem at207_70 : am_at 207 70 = some (.goto 12, 3) := by decide +kernel
theorem at207_73 : am_at 207 73 = some (.aload_n 0, 1) := by decide +kernel
theorem at207_74 : am_at 207 74 = some (.aload_n 0, 1) := by decide +kernel
theorem at207_75 : am_at 207 75 = some (.getfield 110412, 3) := by decide +kernel
theorem at207_78 : am_at 207 78 = some (.iload_n 1, 1) := by decide +kernel
theorem at207_79 : am_at 207 79 = some (.invokevirtual 200, 3) := by decide +kernel
theorem at207_82 : am_at 207 82 = some (.ireturn, 1) := by decide +kernel
theorem at208_0 : am_at 208 0 = some (.aload_n 0, 1) := by decide +kernel
theorem at208_1 : am_at 208 1 = some (.iconst 0, 1) := by decide +kernel
theorem at208_2 : am_at 208 2 = some (.putfield 110000, 3) := by decide +kernel
theorem at208_5 : am_at 208 5 = some (.aload_n 0, 1) := by decide +kernel
theorem at208_6 : am_at 208 6 = some (.iload_n 1, 1) := by decide +kernel
theorem at208_7 : am_at 208 7 = some (.invokevirtual 205, 3) := by decide +kernel
theorem at208_10 : am_at 208 10 = some (.ifCond .eq 13, 3) := by decide +kernel
theorem at208_13 : am_at 208 13 = some (.aload_n 0, 1) := by decide +kernel
theorem at208_14 : am_at 208 14 = some (.iload_n 2, 1) := by decide +kernel
theorem at208_15 : am_at 208 15 = some (.bipush 6, 2) := by decide +kernel
theorem at208_17 : am_at 208 17 = some (.invokevirtual 206, 3) := by decide +kernel
theorem at208_20 : am_at 208 20 = some (.ifCond .ne 5, 3) := by decide +kernel
theorem at208_23 : am_at 208 23 = some (.iconst 0, 1) := by decide +kernel
theorem at208_24 : am_at 208 24 = some (.ireturn, 1) := by decide +kernel
theorem at208_25 : am_at 208 25 = some (.iload_n 2, 1) := by decide +kernel
theorem at208_26 : am_at 208 26 = some (.iconst 3, 1) := by decide +kernel
theorem at208_27 : am_at 208 27 = some (.if_icmp .ne 15, 3) := by decide +kernel
theorem at208_30 : am_at 208 30 = some (.aload_n 0, 1) := by decide +kernel
theorem at208_31 : am_at 208 31 = some (.aload_n 0, 1) := by decide +kernel
theorem at208_32 : am_at 208 32 = some (.getfield 110412, 3) := by decide +kernel
theorem at208_35 : am_at 208 35 = some (.iload_n 1, 1) := by decide +kernel
theorem at208_36 : am_at 208 36 = some (.invokevirtual 201, 3) := by decide +kernel
theorem at208_39 : am_at 208 39 = some (.goto 25, 3) := by decide +kernel
theorem at208_42 : am_at 208 42 = some (.aload_n 0, 1) := by decide +kernel
theorem at208_43 : am_at 208 43 = some (.getfield 110062, 3) := by decide +kernel
theorem at208_46 : am_at 208 46 = some (.bipush 6, 2) := by decide +kernel
theorem at208_48 : am_at 208 48 = some (.iload_n 1, 1) := by decide +kernel
theorem at208_49 : am_at 208 49 = some (.imul, 1) := by decide +kernel
theorem at208_50 : am_at 208 50 = some (.iload_n 2, 1) := by decide +kernel
theorem at208_51 : am_at 208 51 = some (.iconst 3, 1) := by decide +kernel
theorem at208_52 : am_at 208 52 = some (.if_icmp .ge 7, 3) := by decide +kernel
theorem at208_55 : am_at 208 55 = some (.iload_n 2, 1) := by decide +kernel
theorem at208_56 : am_at 208 56 = some (.goto 6, 3) := by decide +kernel
theorem at208_59 : am_at 208 59 = some (.iload_n 2, 1) := by decide +kernel
theorem at208_60 : am_at 208 60 = some (.iconst 1, 1) := by decide +kernel
theorem at208_61 : am_at 208 61 = some (.isub, 1) := by decide +kernel
theorem at208_62 : am_at 208 62 = some (.iadd, 1) := by decide +kernel
theorem at208_63 : am_at 208 63 = some (.iaload, 1) := by decide +kernel
theorem at208_64 : am_at 208 64 = some (.ireturn, 1) := by decide +kernel
theorem at209_0 : am_at 209 0 = some (.aload_n 0, 1) := by decide +kernel
theorem at209_1 : am_at 209 1 = some (.iconst 0, 1) := by decide +kernel
theorem at209_2 : am_at 209 2 = some (.putfield 110000, 3) := by decide +kernel
theorem at209_5 : am_at 209 5 = some (.aload_n 0, 1) := by decide +kernel
theorem at209_6 : am_at 209 6 = some (.iload_n 1, 1) := by decide +kernel
theorem at209_7 : am_at 209 7 = some (.invokevirtual 204, 3) := by decide +kernel
theorem at209_10 : am_at 209 10 = some (.ifCond .eq 11, 3) := by decide +kernel
theorem at209_13 : am_at 209 13 = some (.aload_n 0, 1) := by decide +kernel
theorem at209_14 : am_at 209 14 = some (.iload_n 2, 1) := by decide +kernel
theorem at209_15 : am_at 209 15 = some (.invokevirtual 205, 3) := by decide +kernel
theorem at209_18 : am_at 209 18 = some (.ifCond .ne 5, 3) := by decide +kernel
theorem at209_21 : am_at 209 21 = some (.iconst 0, 1) := by decide +kernel
theorem at209_22 : am_at 209 22 = some (.ireturn, 1) := by decide +kernel
theorem at209_23 : am_at 209 23 = some (.aload_n 0, 1) := by decide +kernel
theorem at209_24 : am_at 209 24 = some (.getfield 110412, 3) := by decide +kernel
theorem at209_27 : am_at 209 27 = some (.bipush 19, 2) := by decide +kernel
theorem at209_29 : am_at 209 29 = some (.bipush 10, 2) := by decide +kernel
theorem at209_31 : am_at 209 31 = some (.iload_n 1, 1) := by decide +kernel
theorem at209_32 : am_at 209 32 = some (.imul, 1) := by decide +kernel
theorem at209_33 : am_at 209 33 = some (.iadd, 1) := by decide +kernel
theorem at209_34 : am_at 209 34 = some (.iload_n 2, 1) := by decide +kernel
theorem at209_35 : am_at 209 35 = some (.iadd, 1) := by decide +kernel
theorem at209_36 : am_at 209 36 = some (.iaload, 1) := by decide +kernel
theorem at209_37 : am_at 209 37 = some (.istore_n 3, 1) := by decide +kernel
theorem at209_38 : am_at 209 38 = some (.iload_n 3, 1) := by decide +kernel
theorem at209_39 : am_at 209 39 = some (.iconst (-1), 1) := by decide +kernel
theorem at209_40 : am_at 209 40 = some (.if_icmp .eq 28, 3) := by decide +kernel
theorem at209_43 : am_at 209 43 = some (.aload_n 0, 1) := by decide +kernel
theorem at209_44 : am_at 209 44 = some (.getfield 110412, 3) := by decide +kernel
theorem at209_47 : am_at 209 47 = some (.bipush 79, 2) := by decide +kernel
theorem at209_49 : am_at 209 49 = some (.bipush 10, 2) := by decide +kernel
theorem at209_51 : am_at 209 51 = some (.iload_n 1, 1) := by decide +kernel
theorem at209_52 : am_at 209 52 = some (.imul, 1) := by decide +kernel
theorem at209_53 : am_at 209 53 = some (.iadd, 1) := by decide +kernel
theorem at209_54 : am_at 209 54 = some (.iload_n 2, 1) := by decide +kernel
theorem at209_55 : am_at 209 55 = some (.iadd, 1) := by decide +kernel
theorem at209_56 : am_at 209 56 = some (.iaload, 1) := by decide +kernel
theorem at209_57 : am_at 209 57 = some (.iconst 1, 1) := by decide +kernel
theorem at209_58 : am_at 209 58 = some (.if_icmp .ne 10, 3) := by decide +kernel
theorem at209_61 : am_at 209 61 = some (.bipush (-2), 2) := by decide +kernel
theorem at209_63 : am_at 209 63 = some (.iload_n 3, 1) := by decide +kernel
theorem at209_64 : am_at 209 64 = some (.isub, 1) := by decide +kernel
theorem at209_65 : am_at 209 65 = some (.goto 4, 3) := by decide +kernel
theorem at209_68 : am_at 209 68 = some (.iload_n 3, 1) := by decide +kernel
theorem at209_69 : am_at 209 69 = some (.ireturn, 1) := by decide +kernel
theorem at210_0 : am_at 210 0 = some (.iload_n 0, 1) := by decide +kernel
theorem at210_1 : am_at 210 1 = some (.tableswitch 105 4 10 #[43, 57, 71, 82, 93, 97, 101], 43) := by decide +kernel
theorem at210_44 : am_at 210 44 = some (.iload_n 1, 1) := by decide +kernel
theorem at210_45 : am_at 210 45 = some (.ifCond .eq 11, 3) := by decide +kernel
theorem at210_48 : am_at 210 48 = some (.iload_n 2, 1) := by decide +kernel
theorem at210_49 : am_at 210 49 = some (.ifCond .eq 7, 3) := by decide +kernel
theorem at210_52 : am_at 210 52 = some (.iconst 1, 1) := by decide +kernel
theorem at210_53 : am_at 210 53 = some (.goto 4, 3) := by decide +kernel
theorem at210_56 : am_at 210 56 = some (.iconst 0, 1) := by decide +kernel
theorem at210_57 : am_at 210 57 = some (.ireturn, 1) := by decide +kernel
theorem at210_58 : am_at 210 58 = some (.iload_n 1, 1) := by decide +kernel
theorem at210_59 : am_at 210 59 = some (.ifCond .ne 7, 3) := by decide +kernel
theorem at210_62 : am_at 210 62 = some (.iload_n 2, 1) := by decide +kernel
theorem at210_63 : am_at 210 63 = some (.ifCond .eq 7, 3) := by decide +kernel
theorem at210_66 : am_at 210 66 = some (.iconst 1, 1) := by decide +kernel
theorem at210_67 : am_at 210 67 = some (.goto 4, 3) := by decide +kernel
theorem at210_70 : am_at 210 70 = some (.iconst 0, 1) := by decide +kernel
theorem at210_71 : am_at 210 71 = some (.ireturn, 1) := by decide +kernel
theorem at210_72 : am_at 210 72 = some (.iload_n 1, 1) := by decide +kernel
theorem at210_73 : am_at 210 73 = some (.iload_n 2, 1) := by decide +kernel
theorem at210_74 : am_at 210 74 = some (.if_icmp .ge 7, 3) := by decide +kernel
theorem at210_77 : am_at 210 77 = some (.iconst 1, 1) := by decide +kernel
theorem at210_78 : am_at 210 78 = some (.goto 4, 3) := by decide +kernel
theorem at210_81 : am_at 210 81 = some (.iconst 0, 1) := by decide +kernel
theorem at210_82 : am_at 210 82 = some (.ireturn, 1) := by decide +kernel
theorem at210_83 : am_at 210 83 = some (.iload_n 1, 1) := by decide +kernel
theorem at210_84 : am_at 210 84 = some (.iload_n 2, 1) := by decide +kernel
theorem at210_85 : am_at 210 85 = some (.if_icmp .ne 7, 3) := by decide +kernel
theorem at210_88 : am_at 210 88 = some (.iconst 1, 1) := by decide +kernel
theorem at210_89 : am_at 210 89 = some (.goto 4, 3) := by decide +kernel
theorem at210_92 : am_at 210 92 = some (.iconst 0, 1) := by decide +kernel
theorem at210_93 : am_at 210 93 = some (.ireturn, 1) := by decide +kernel
theorem at210_94 : am_at 210 94 = some (.iload_n 1, 1) := by decide +kernel
theorem at210_95 : am_at 210 95 = some (.iload_n 2, 1) := by decide +kernel
theorem at210_96 : am_at 210 96 = some (.iadd, 1) := by decide +kernel
theorem at210_97 : am_at 210 97 = some (.ireturn, 1) := by decide +kernel
theorem at210_98 : am_at 210 98 = some (.iload_n 1, 1) := by decide +kernel
theorem at210_99 : am_at 210 99 = some (.iload_n 2, 1) := by decide +kernel
theorem at210_100 : am_at 210 100 = some (.isub, 1) := by decide +kernel
theorem at210_101 : am_at 210 101 = some (.ireturn, 1) := by decide +kernel
theorem at210_102 : am_at 210 102 = some (.iload_n 1, 1) := by decide +kernel
theorem at210_103 : am_at 210 103 = some (.iload_n 2, 1) := by decide +kernel
theorem at210_104 : am_at 210 104 = some (.imul, 1) := by decide +kernel
theorem at210_105 : am_at 210 105 = some (.ireturn, 1) := by decide +kernel
theorem at210_106 : am_at 210 106 = some (.iload_n 2, 1) := by decide +kernel
theorem at210_107 : am_at 210 107 = some (.ifCond .ne 7, 3) := by decide +kernel
theorem at210_110 : am_at 210 110 = some (.iconst 0, 1) := by decide +kernel
theorem at210_111 : am_at 210 111 = some (.goto 6, 3) := by decide +kernel
theorem at210_114 : am_at 210 114 = some (.iload_n 1, 1) := by decide +kernel
theorem at210_115 : am_at 210 115 = some (.iload_n 2, 1) := by decide +kernel
theorem at210_116 : am_at 210 116 = some (.idiv, 1) := by decide +kernel
theorem at210_117 : am_at 210 117 = some (.ireturn, 1) := by decide +kernel
theorem at211_0 : am_at 211 0 = some (.iconst 0, 1) := by decide +kernel
theorem at211_1 : am_at 211 1 = some (.istore_n 1, 1) := by decide +kernel
theorem at211_2 : am_at 211 2 = some (.aload_n 0, 1) := by decide +kernel
theorem at211_3 : am_at 211 3 = some (.getfield 110050, 3) := by decide +kernel
theorem at211_6 : am_at 211 6 = some (.istore_n 2, 1) := by decide +kernel
theorem at211_7 : am_at 211 7 = some (.aload_n 0, 1) := by decide +kernel
theorem at211_8 : am_at 211 8 = some (.getfield 110112, 3) := by decide +kernel
theorem at211_11 : am_at 211 11 = some (.iload_n 2, 1) := by decide +kernel
theorem at211_12 : am_at 211 12 = some (.iaload, 1) := by decide +kernel
theorem at211_13 : am_at 211 13 = some (.ifCond .eq 127, 3) := by decide +kernel
theorem at211_16 : am_at 211 16 = some (.aload_n 0, 1) := by decide +kernel
theorem at211_17 : am_at 211 17 = some (.getfield 110112, 3) := by decide +kernel
theorem at211_20 : am_at 211 20 = some (.iload_n 2, 1) := by decide +kernel
theorem at211_21 : am_at 211 21 = some (.iaload, 1) := by decide +kernel
theorem at211_22 : am_at 211 22 = some (.istore_n 3, 1) := by decide +kernel
theorem at211_23 : am_at 211 23 = some (.iinc 2 1, 3) := by decide +kernel
theorem at211_26 : am_at 211 26 = some (.iload_n 3, 1) := by decide +kernel
theorem at211_27 : am_at 211 27 = some (.iconst 1, 1) := by decide +kernel
theorem at211_28 : am_at 211 28 = some (.if_icmp .eq 8, 3) := by decide +kernel
theorem at211_31 : am_at 211 31 = some (.iload_n 3, 1) := by decide +kernel
theorem at211_32 : am_at 211 32 = some (.iconst 2, 1) := by decide +kernel
theorem at211_33 : am_at 211 33 = some (.if_icmp .ne 43, 3) := by decide +kernel
theorem at211_36 : am_at 211 36 = some (.aload_n 0, 1) := by decide +kernel
theorem at211_37 : am_at 211 37 = some (.getfield 110462, 3) := by decide +kernel
theorem at211_40 : am_at 211 40 = some (.iload_n 1, 1) := by decide +kernel
theorem at211_41 : am_at 211 41 = some (.iload_n 3, 1) := by decide +kernel
theorem at211_42 : am_at 211 42 = some (.iconst 1, 1) := by decide +kernel
theorem at211_43 : am_at 211 43 = some (.if_icmp .ne 12, 3) := by decide +kernel
theorem at211_46 : am_at 211 46 = some (.aload_n 0, 1) := by decide +kernel
theorem at211_47 : am_at 211 47 = some (.getfield 110112, 3) := by decide +kernel
theorem at211_50 : am_at 211 50 = some (.iload_n 2, 1) := by decide +kernel
theorem at211_51 : am_at 211 51 = some (.iaload, 1) := by decide +kernel
theorem at211_52 : am_at 211 52 = some (.goto 14, 3) := by decide +kernel
theorem at211_55 : am_at 211 55 = some (.aload_n 0, 1) := by decide +kernel
theorem at211_56 : am_at 211 56 = some (.getfield 110452, 3) := by decide +kernel
theorem at211_59 : am_at 211 59 = some (.aload_n 0, 1) := by decide +kernel
theorem at211_60 : am_at 211 60 = some (.getfield 110112, 3) := by decide +kernel
theorem at211_63 : am_at 211 63 = some (.iload_n 2, 1) := by decide +kernel
theorem at211_64 : am_at 211 64 = some (.iaload, 1) := by decide +kernel
theorem at211_65 : am_at 211 65 = some (.iaload, 1) := by decide +kernel
theorem at211_66 : am_at 211 66 = some (.iastore, 1) := by decide +kernel
theorem at211_67 : am_at 211 67 = some (.iinc 2 1, 3) := by decide +kernel
theorem at211_70 : am_at 211 70 = some (.iinc 1 1, 3) := by decide +kernel
theorem at211_73 : am_at 211 73 = some (.goto 64, 3) := by decide +kernel
theorem at211_76 : am_at 211 76 = some (.iload_n 3, 1) := by decide +kernel
theorem at211_77 : am_at 211 77 = some (.iconst 3, 1) := by decide +kernel
theorem at211_78 : am_at 211 78 = some (.if_icmp .ne 30, 3) := by decide +kernel
theorem at211_81 : am_at 211 81 = some (.aload_n 0, 1) := by decide +kernel
theorem at211_82 : am_at 211 82 = some (.getfield 110462, 3) := by decide +kernel
theorem at211_85 : am_at 211 85 = some (.iload_n 1, 1) := by decide +kernel
theorem at211_86 : am_at 211 86 = some (.iconst 1, 1) := by decide +kernel
theorem at211_87 : am_at 211 87 = some (.isub, 1) := by decide +kernel
theorem at211_88 : am_at 211 88 = some (.aload_n 0, 1) := by decide +kernel
theorem at211_89 : am_at 211 89 = some (.getfield 110462, 3) := by decide +kernel
theorem at211_92 : am_at 211 92 = some (.iload_n 1, 1) := by decide +kernel
theorem at211_93 : am_at 211 93 = some (.iconst 1, 1) := by decide +kernel
theorem at211_94 : am_at 211 94 = some (.isub, 1) := by decide +kernel
theorem at211_95 : am_at 211 95 = some (.iaload, 1) := by decide +kernel
theorem at211_96 : am_at 211 96 = some (.ifCond .ne 7, 3) := by decide +kernel
theorem at211_99 : am_at 211 99 = some (.iconst 1, 1) := by decide +kernel
theorem at211_100 : am_at 211 100 = some (.goto 4, 3) := by decide +kernel
theorem at211_103 : am_at 211 103 = some (.iconst 0, 1) := by decide +kernel
theorem at211_104 : am_at 211 104 = some (.iastore, 1) := by decide +kernel
theorem at211_105 : am_at 211 105 = some (.goto 32, 3) := by decide +kernel
theorem at211_108 : am_at 211 108 = some (.iinc 1 (-1), 3) := by decide +kernel
theorem at211_111 : am_at 211 111 = some (.aload_n 0, 1) := by decide +kernel
theorem at211_112 : am_at 211 112 = some (.getfield 110462, 3) := by decide +kernel
theorem at211_115 : am_at 211 115 = some (.iload_n 1, 1) := by decide +kernel
theorem at211_116 : am_at 211 116 = some (.iconst 1, 1) := by decide +kernel
theorem at211_117 : am_at 211 117 = some (.isub, 1) := by decide +kernel
theorem at211_118 : am_at 211 118 = some (.iload_n 3, 1) := by decide +kernel
theorem at211_119 : am_at 211 119 = some (.aload_n 0, 1) := by decide +kernel
theorem at211_120 : am_at 211 120 = some (.getfield 110462, 3) := by decide +kernel
theorem at211_123 : am_at 211 123 = some (.iload_n 1, 1) := by decide +kernel
theorem at211_124 : am_at 211 124 = some (.iconst 1, 1) := by decide +kernel
theorem at211_125 : am_at 211 125 = some (.isub, 1) := by decide +kernel
theorem at211_126 : am_at 211 126 = some (.iaload, 1) := by decide +kernel
theorem at211_127 : am_at 211 127 = some (.aload_n 0, 1) := by decide +kernel
theorem at211_128 : am_at 211 128 = some (.getfield 110462, 3) := by decide +kernel
theorem at211_131 : am_at 211 131 = some (.iload_n 1, 1) := by decide +kernel
theorem at211_132 : am_at 211 132 = some (.iaload, 1) := by decide +kernel
theorem at211_133 : am_at 211 133 = some (.invokestatic 210, 3) := by decide +kernel
theorem at211_136 : am_at 211 136 = some (.iastore, 1) := by decide +kernel
theorem at211_137 : am_at 211 137 = some (.goto (-130), 3) := by decide +kernel
theorem at211_140 : am_at 211 140 = some (.aload_n 0, 1) := by decide +kernel
theorem at211_141 : am_at 211 141 = some (.getfield 110462, 3) := by decide +kernel
theorem at211_144 : am_at 211 144 = some (.iconst 0, 1) := by decide +kernel
theorem at211_145 : am_at 211 145 = some (.iaload, 1) := by decide +kernel
theorem at211_146 : am_at 211 146 = some (.ireturn, 1) := by decide +kernel
theorem at212_0 : am_at 212 0 = some (.iconst 2, 1) := by decide +kernel
theorem at212_1 : am_at 212 1 = some (.iload 4, 2) := by decide +kernel
theorem at212_3 : am_at 212 3 = some (.imul, 1) := by decide +kernel
theorem at212_4 : am_at 212 4 = some (.istore 7, 2) := by decide +kernel
theorem at212_6 : am_at 212 6 = some (.aload_n 0, 1) := by decide +kernel
theorem at212_7 : am_at 212 7 = some (.getfield 110050, 3) := by decide +kernel
theorem at212_10 : am_at 212 10 = some (.iconst (-1), 1) := by decide +kernel
theorem at212_11 : am_at 212 11 = some (.if_icmp .eq 96, 3) := by decide +kernel
theorem at212_14 : am_at 212 14 = some (.aload_n 0, 1) := by decide +kernel
theorem at212_15 : am_at 212 15 = some (.getfield 110452, 3) := by decide +kernel
theorem at212_18 : am_at 212 18 = some (.iconst 0, 1) := by decide +kernel
theorem at212_19 : am_at 212 19 = some (.iload 4, 2) := by decide +kernel
theorem at212_21 : am_at 212 21 = some (.iastore, 1) := by decide +kernel
theorem at212_22 : am_at 212 22 = some (.aload_n 0, 1) := by decide +kernel
theorem at212_23 : am_at 212 23 = some (.getfield 110452, 3) := by decide +kernel
theorem at212_26 : am_at 212 26 = some (.iconst 1, 1) := by decide +kernel
theorem at212_27 : am_at 212 27 = some (.aload_n 0, 1) := by decide +kernel
theorem at212_28 : am_at 212 28 = some (.getfield 110062, 3) := by decide +kernel
theorem at212_31 : am_at 212 31 = some (.bipush 6, 2) := by decide +kernel
theorem at212_33 : am_at 212 33 = some (.iload_n 3, 1) := by decide +kernel
theorem at212_34 : am_at 212 34 = some (.imul, 1) := by decide +kernel
theorem at212_35 : am_at 212 35 = some (.iconst 1, 1) := by decide +kernel
theorem at212_36 : am_at 212 36 = some (.iadd, 1) := by decide +kernel
theorem at212_37 : am_at 212 37 = some (.iaload, 1) := by decide +kernel
theorem at212_38 : am_at 212 38 = some (.iastore, 1) := by decide +kernel
theorem at212_39 : am_at 212 39 = some (.aload_n 0, 1) := by decide +kernel
theorem at212_40 : am_at 212 40 = some (.getfield 110452, 3) := by decide +kernel
theorem at212_43 : am_at 212 43 = some (.iconst 2, 1) := by decide +kernel
theorem at212_44 : am_at 212 44 = some (.aload_n 1, 1) := by decide +kernel
theorem at212_45 : am_at 212 45 = some (.iconst 0, 1) := by decide +kernel
theorem at212_46 : am_at 212 46 = some (.iaload, 1) := by decide +kernel
theorem at212_47 : am_at 212 47 = some (.aload_n 0, 1) := by decide +kernel
theorem at212_48 : am_at 212 48 = some (.getfield 110062, 3) := by decide +kernel
theorem at212_51 : am_at 212 51 = some (.bipush 6, 2) := by decide +kernel
theorem at212_53 : am_at 212 53 = some (.iload_n 3, 1) := by decide +kernel
theorem at212_54 : am_at 212 54 = some (.imul, 1) := by decide +kernel
theorem at212_55 : am_at 212 55 = some (.iaload, 1) := by decide +kernel
theorem at212_56 : am_at 212 56 = some (.isub, 1) := by decide +kernel
theorem at212_57 : am_at 212 57 = some (.iastore, 1) := by decide +kernel
theorem at212_58 : am_at 212 58 = some (.aload_n 0, 1) := by decide +kernel
theorem at212_59 : am_at 212 59 = some (.getfield 110452, 3) := by decide +kernel
theorem at212_62 : am_at 212 62 = some (.iconst 3, 1) := by decide +kernel
theorem at212_63 : am_at 212 63 = some (.aload_n 1, 1) := by decide +kernel
theorem at212_64 : am_at 212 64 = some (.bipush 79, 2) := by decide +kernel
theorem at212_66 : am_at 212 66 = some (.bipush 10, 2) := by decide +kernel
theorem at212_68 : am_at 212 68 = some (.iload_n 2, 1) := by decide +kernel
theorem at212_69 : am_at 212 69 = some (.imul, 1) := by decide +kernel
theorem at212_70 : am_at 212 70 = some (.iadd, 1) := by decide +kernel
theorem at212_71 : am_at 212 71 = some (.iload_n 3, 1) := by decide +kernel
theorem at212_72 : am_at 212 72 = some (.iadd, 1) := by decide +kernel
theorem at212_73 : am_at 212 73 = some (.iaload, 1) := by decide +kernel
theorem at212_74 : am_at 212 74 = some (.iastore, 1) := by decide +kernel
theorem at212_75 : am_at 212 75 = some (.aload_n 0, 1) := by decide +kernel
theorem at212_76 : am_at 212 76 = some (.getfield 110452, 3) := by decide +kernel
theorem at212_79 : am_at 212 79 = some (.iconst 4, 1) := by decide +kernel
theorem at212_80 : am_at 212 80 = some (.iload 5, 2) := by decide +kernel
theorem at212_82 : am_at 212 82 = some (.iastore, 1) := by decide +kernel
theorem at212_83 : am_at 212 83 = some (.aload_n 0, 1) := by decide +kernel
theorem at212_84 : am_at 212 84 = some (.getfield 110452, 3) := by decide +kernel
theorem at212_87 : am_at 212 87 = some (.iconst 5, 1) := by decide +kernel
theorem at212_88 : am_at 212 88 = some (.iload 6, 2) := by decide +kernel
theorem at212_90 : am_at 212 90 = some (.iastore, 1) := by decide +kernel
theorem at212_91 : am_at 212 91 = some (.aload_n 0, 1) := by decide +kernel
theorem at212_92 : am_at 212 92 = some (.getfield 110452, 3) := by decide +kernel
theorem at212_95 : am_at 212 95 = some (.bipush 6, 2) := by decide +kernel
theorem at212_97 : am_at 212 97 = some (.aload_n 1, 1) := by decide +kernel
theorem at212_98 : am_at 212 98 = some (.iconst 0, 1) := by decide +kernel
theorem at212_99 : am_at 212 99 = some (.iaload, 1) := by decide +kernel
theorem at212_100 : am_at 212 100 = some (.iastore, 1) := by decide +kernel
theorem at212_101 : am_at 212 101 = some (.aload_n 0, 1) := by decide +kernel
theorem at212_102 : am_at 212 102 = some (.invokevirtual 211, 3) := by decide +kernel
theorem at212_105 : am_at 212 105 = some (.istore 7, 2) := by decide +kernel
theorem at212_107 : am_at 212 107 = some (.iload 7, 2) := by decide +kernel
theorem at212_109 : am_at 212 109 = some (.ifCond .ge 7, 3) := by decide +kernel
theorem at212_112 : am_at 212 112 = some (.iconst 0, 1) := by decide +kernel
theorem at212_113 : am_at 212 113 = some (.goto 17, 3) := by decide +kernel
theorem at212_116 : am_at 212 116 = some (.iload 7, 2) := by decide +kernel
theorem at212_118 : am_at 212 118 = some (.bipush 99, 2) := by decide +kernel
theorem at212_120 : am_at 212 120 = some (.if_icmp .le 8, 3) := by decide +kernel
theorem at212_123 : am_at 212 123 = some (.bipush 99, 2) := by decide +kernel
theorem at212_125 : am_at 212 125 = some (.goto 5, 3) := by decide +kernel
theorem at212_128 : am_at 212 128 = some (.iload 7, 2) := by decide +kernel
theorem at212_130 : am_at 212 130 = some (.ireturn, 1) := by decide +kernel
theorem at213_0 : am_at 213 0 = some (.aload_n 0, 1) := by decide +kernel
theorem at213_1 : am_at 213 1 = some (.aload_n 1, 1) := by decide +kernel
theorem at213_2 : am_at 213 2 = some (.iload_n 2, 1) := by decide +kernel
theorem at213_3 : am_at 213 3 = some (.invokevirtual 200, 3) := by decide +kernel
theorem at213_6 : am_at 213 6 = some (.invokestatic 161, 3) := by decide +kernel
theorem at213_9 : am_at 213 9 = some (.istore 5, 2) := by decide +kernel
theorem at213_11 : am_at 213 11 = some (.iconst 0, 1) := by decide +kernel
theorem at213_12 : am_at 213 12 = some (.istore 6, 2) := by decide +kernel
theorem at213_14 : am_at 213 14 = some (.iload 6, 2) := by decide +kernel
theorem at213_16 : am_at 213 16 = some (.aload_n 0, 1) := by decide +kernel
theorem at213_17 : am_at 213 17 = some (.getfield 110020, 3) := by decide +kernel
theorem at213_20 : am_at 213 20 = some (.if_icmp .ge 72, 3) := by decide +kernel
theorem at213_23 : am_at 213 23 = some (.aload_n 1, 1) := by decide +kernel
theorem at213_24 : am_at 213 24 = some (.iload_n 2, 1) := by decide +kernel
theorem at213_25 : am_at 213 25 = some (.iload 6, 2) := by decide +kernel
theorem at213_27 : am_at 213 27 = some (.invokestatic 199, 3) := by decide +kernel
theorem at213_30 : am_at 213 30 = some (.ifCond .ne 6, 3) := by decide +kernel
theorem at213_33 : am_at 213 33 = some (.goto 53, 3) := by decide +kernel
theorem at213_36 : am_at 213 36 = some (.aload_n 1, 1) := by decide +kernel
theorem at213_37 : am_at 213 37 = some (.iconst 0, 1) := by decide +kernel
theorem at213_38 : am_at 213 38 = some (.iaload, 1) := by decide +kernel
theorem at213_39 : am_at 213 39 = some (.aload_n 0, 1) := by decide +kernel
theorem at213_40 : am_at 213 40 = some (.aload_n 1, 1) := by decide +kernel
theorem at213_41 : am_at 213 41 = some (.iload_n 2, 1) := by decide +kernel
theorem at213_42 : am_at 213 42 = some (.iload 6, 2) := by decide +kernel
theorem at213_44 : am_at 213 44 = some (.iload_n 3, 1) := by decide +kernel
theorem at213_45 : am_at 213 45 = some (.iload 5, 2) := by decide +kernel
theorem at213_47 : am_at 213 47 = some (.iload 4, 2) := by decide +kernel
theorem at213_49 : am_at 213 49 = some (.invokevirtual 212, 3) := by decide +kernel
theorem at213_52 : am_at 213 52 = some (.iadd, 1) := by decide +kernel
theorem at213_53 : am_at 213 53 = some (.istore 7, 2) := by decide +kernel
theorem at213_55 : am_at 213 55 = some (.iload 7, 2) := by decide +kernel
theorem at213_57 : am_at 213 57 = some (.aload_n 1, 1) := by decide +kernel
theorem at213_58 : am_at 213 58 = some (.bipush 19, 2) := by decide +kernel
theorem at213_60 : am_at 213 60 = some (.bipush 10, 2) := by decide +kernel
theorem at213_62 : am_at 213 62 = some (.iload_n 2, 1) := by decide +kernel
theorem at213_63 : am_at 213 63 = some (.imul, 1) := by decide +kernel
theorem at213_64 : am_at 213 64 = some (.iadd, 1) := by decide +kernel
theorem at213_65 : am_at 213 65 = some (.iload 6, 2) := by decide +kernel
theorem at213_67 : am_at 213 67 = some (.iadd, 1) := by decide +kernel
theorem at213_68 : am_at 213 68 = some (.iaload, 1) := by decide +kernel
theorem at213_69 : am_at 213 69 = some (.if_icmp .le 17, 3) := by decide +kernel
theorem at213_72 : am_at 213 72 = some (.aload_n 1, 1) := by decide +kernel
theorem at213_73 : am_at 213 73 = some (.bipush 19, 2) := by decide +kernel
theorem at213_75 : am_at 213 75 = some (.bipush 10, 2) := by decide +kernel
theorem at213_77 : am_at 213 77 = some (.iload_n 2, 1) := by decide +kernel
theorem at213_78 : am_at 213 78 = some (.imul, 1) := by decide +kernel
theorem at213_79 : am_at 213 79 = some (.iadd, 1) := by decide +kernel
theorem at213_80 : am_at 213 80 = some (.iload 6, 2) := by decide +kernel
theorem at213_82 : am_at 213 82 = some (.iadd, 1) := by decide +kernel
theorem at213_83 : am_at 213 83 = some (.iload 7, 2) := by decide +kernel
theorem at213_85 : am_at 213 85 = some (.iastore, 1) := by decide +kernel
theorem at213_86 : am_at 213 86 = some (.iinc 6 1, 3) := by decide +kernel
theorem at213_89 : am_at 213 89 = some (.goto (-75), 3) := by decide +kernel
theorem at213_92 : am_at 213 92 = some (.return_, 1) := by decide +kernel
theorem at214_0 : am_at 214 0 = some (.iconst 0, 1) := by decide +kernel
theorem at214_1 : am_at 214 1 = some (.istore_n 3, 1) := by decide +kernel
theorem at214_2 : am_at 214 2 = some (.iconst 0, 1) := by decide +kernel
theorem at214_3 : am_at 214 3 = some (.istore 4, 2) := by decide +kernel
theorem at214_5 : am_at 214 5 = some (.iload 4, 2) := by decide +kernel
theorem at214_7 : am_at 214 7 = some (.aload_n 0, 1) := by decide +kernel
theorem at214_8 : am_at 214 8 = some (.getfield 110020, 3) := by decide +kernel
theorem at214_11 : am_at 214 11 = some (.if_icmp .ge 69, 3) := by decide +kernel
theorem at214_14 : am_at 214 14 = some (.aload_n 1, 1) := by decide +kernel
theorem at214_15 : am_at 214 15 = some (.iload_n 2, 1) := by decide +kernel
theorem at214_16 : am_at 214 16 = some (.iload 4, 2) := by decide +kernel
theorem at214_18 : am_at 214 18 = some (.invokestatic 199, 3) := by decide +kernel
theorem at214_21 : am_at 214 21 = some (.ifCond .eq 53, 3) := by decide +kernel
theorem at214_24 : am_at 214 24 = some (.aload_n 1, 1) := by decide +kernel
theorem at214_25 : am_at 214 25 = some (.bipush 19, 2) := by decide +kernel
theorem at214_27 : am_at 214 27 = some (.bipush 10, 2) := by decide +kernel
theorem at214_29 : am_at 214 29 = some (.iload_n 2, 1) := by decide +kernel
theorem at214_30 : am_at 214 30 = some (.imul, 1) := by decide +kernel
theorem at214_31 : am_at 214 31 = some (.iadd, 1) := by decide +kernel
theorem at214_32 : am_at 214 32 = some (.iload 4, 2) := by decide +kernel
theorem at214_34 : am_at 214 34 = some (.iadd, 1) := by decide +kernel
theorem at214_35 : am_at 214 35 = some (.iaload, 1) := by decide +kernel
theorem at214_36 : am_at 214 36 = some (.aload_n 1, 1) := by decide +kernel
theorem at214_37 : am_at 214 37 = some (.iconst 0, 1) := by decide +kernel
theorem at214_38 : am_at 214 38 = some (.iaload, 1) := by decide +kernel
theorem at214_39 : am_at 214 39 = some (.if_icmp .lt 6, 3) := by decide +kernel
theorem at214_42 : am_at 214 42 = some (.goto 32, 3) := by decide +kernel
theorem at214_45 : am_at 214 45 = some (.aload_n 1, 1) := by decide +kernel
theorem at214_46 : am_at 214 46 = some (.bipush 19, 2) := by decide +kernel
theorem at214_48 : am_at 214 48 = some (.bipush 10, 2) := by decide +kernel
theorem at214_50 : am_at 214 50 = some (.iload_n 2, 1) := by decide +kernel
theorem at214_51 : am_at 214 51 = some (.imul, 1) := by decide +kernel
theorem at214_52 : am_at 214 52 = some (.iadd, 1) := by decide +kernel
theorem at214_53 : am_at 214 53 = some (.iload 4, 2) := by decide +kernel
theorem at214_55 : am_at 214 55 = some (.iadd, 1) := by decide +kernel
theorem at214_56 : am_at 214 56 = some (.iconst (-1), 1) := by decide +kernel
theorem at214_57 : am_at 214 57 = some (.iastore, 1) := by decide +kernel
theorem at214_58 : am_at 214 58 = some (.aload_n 1, 1) := by decide +kernel
theorem at214_59 : am_at 214 59 = some (.bipush 79, 2) := by decide +kernel
theorem at214_61 : am_at 214 61 = some (.bipush 10, 2) := by decide +kernel
theorem at214_63 : am_at 214 63 = some (.iload_n 2, 1) := by decide +kernel
theorem at214_64 : am_at 214 64 = some (.imul, 1) := by decide +kernel
theorem at214_65 : am_at 214 65 = some (.iadd, 1) := by decide +kernel
theorem at214_66 : am_at 214 66 = some (.iload 4, 2) := by decide +kernel
theorem at214_68 : am_at 214 68 = some (.iadd, 1) := by decide +kernel
theorem at214_69 : am_at 214 69 = some (.iconst 0, 1) := by decide +kernel
theorem at214_70 : am_at 214 70 = some (.iastore, 1) := by decide +kernel
theorem at214_71 : am_at 214 71 = some (.iinc 3 1, 3) := by decide +kernel
theorem at214_74 : am_at 214 74 = some (.iinc 4 1, 3) := by decide +kernel
theorem at214_77 : am_at 214 77 = some (.goto (-72), 3) := by decide +kernel
theorem at214_80 : am_at 214 80 = some (.iload_n 3, 1) := by decide +kernel
theorem at214_81 : am_at 214 81 = some (.ireturn, 1) := by decide +kernel
theorem at215_0 : am_at 215 0 = some (.aload_n 0, 1) := by decide +kernel
theorem at215_1 : am_at 215 1 = some (.aload_n 1, 1) := by decide +kernel
theorem at215_2 : am_at 215 2 = some (.iconst 0, 1) := by decide +kernel
theorem at215_3 : am_at 215 3 = some (.iaload, 1) := by decide +kernel
theorem at215_4 : am_at 215 4 = some (.invokevirtual 198, 3) := by decide +kernel
theorem at215_7 : am_at 215 7 = some (.istore_n 2, 1) := by decide +kernel
theorem at215_8 : am_at 215 8 = some (.iconst 0, 1) := by decide +kernel
theorem at215_9 : am_at 215 9 = some (.istore_n 3, 1) := by decide +kernel
theorem at215_10 : am_at 215 10 = some (.iload_n 3, 1) := by decide +kernel
theorem at215_11 : am_at 215 11 = some (.iconst 4, 1) := by decide +kernel
theorem at215_12 : am_at 215 12 = some (.if_icmp .ge 23, 3) := by decide +kernel
theorem at215_15 : am_at 215 15 = some (.aload_n 0, 1) := by decide +kernel
theorem at215_16 : am_at 215 16 = some (.getfield 110472, 3) := by decide +kernel
theorem at215_19 : am_at 215 19 = some (.iload_n 3, 1) := by decide +kernel
theorem at215_20 : am_at 215 20 = some (.iconst 0, 1) := by decide +kernel
theorem at215_21 : am_at 215 21 = some (.iastore, 1) := by decide +kernel
theorem at215_22 : am_at 215 22 = some (.aload_n 0, 1) := by decide +kernel
theorem at215_23 : am_at 215 23 = some (.getfield 110482, 3) := by decide +kernel
theorem at215_26 : am_at 215 26 = some (.iload_n 3, 1) := by decide +kernel
theorem at215_27 : am_at 215 27 = some (.iconst 0, 1) := by decide +kernel
theorem at215_28 : am_at 215 28 = some (.iastore, 1) := by decide +kernel
theorem at215_29 : am_at 215 29 = some (.iinc 3 1, 3) := by decide +kernel
theorem at215_32 : am_at 215 32 = some (.goto (-22), 3) := by decide +kernel
theorem at215_35 : am_at 215 35 = some (.iconst 0, 1) := by decide +kernel
theorem at215_36 : am_at 215 36 = some (.istore_n 3, 1) := by decide +kernel
theorem at215_37 : am_at 215 37 = some (.iload_n 3, 1) := by decide +kernel
theorem at215_38 : am_at 215 38 = some (.aload_n 0, 1) := by decide +kernel
theorem at215_39 : am_at 215 39 = some (.getfield 110010, 3) := by decide +kernel
theorem at215_42 : am_at 215 42 = some (.if_icmp .ge 105, 3) := by decide +kernel
theorem at215_45 : am_at 215 45 = some (.iload_n 3, 1) := by decide +kernel
theorem at215_46 : am_at 215 46 = some (.aload_n 0, 1) := by decide +kernel
theorem at215_47 : am_at 215 47 = some (.getfield 110490, 3) := by decide +kernel
theorem at215_50 : am_at 215 50 = some (.if_icmp .eq 11, 3) := by decide +kernel
theorem at215_53 : am_at 215 53 = some (.aload_n 0, 1) := by decide +kernel
theorem at215_54 : am_at 215 54 = some (.getfield 110500, 3) := by decide +kernel
theorem at215_57 : am_at 215 57 = some (.iconst (-1), 1) := by decide +kernel
theorem at215_58 : am_at 215 58 = some (.if_icmp .eq 7, 3) := by decide +kernel
theorem at215_61 : am_at 215 61 = some (.iconst 0, 1) := by decide +kernel
theorem at215_62 : am_at 215 62 = some (.goto 9, 3) := by decide +kernel
theorem at215_65 : am_at 215 65 = some (.aload_n 1, 1) := by decide +kernel
theorem at215_66 : am_at 215 66 = some (.bipush 13, 2) := by decide +kernel
theorem at215_68 : am_at 215 68 = some (.iload_n 3, 1) := by decide +kernel
theorem at215_69 : am_at 215 69 = some (.iadd, 1) := by decide +kernel
theorem at215_70 : am_at 215 70 = some (.iaload, 1) := by decide +kernel
theorem at215_71 : am_at 215 71 = some (.istore 4, 2) := by decide +kernel
theorem at215_73 : am_at 215 73 = some (.iload_n 2, 1) := by decide +kernel
theorem at215_74 : am_at 215 74 = some (.ifCond .le 24, 3) := by decide +kernel
theorem at215_77 : am_at 215 77 = some (.iload 4, 2) := by decide +kernel
theorem at215_79 : am_at 215 79 = some (.aload_n 1, 1) := by decide +kernel
theorem at215_80 : am_at 215 80 = some (.iconst 1, 1) := by decide +kernel
theorem at215_81 : am_at 215 81 = some (.iload_n 3, 1) := by decide +kernel
theorem at215_82 : am_at 215 82 = some (.iadd, 1) := by decide +kernel
theorem at215_83 : am_at 215 83 = some (.iaload, 1) := by decide +kernel
theorem at215_84 : am_at 215 84 = some (.iload_n 2, 1) := by decide +kernel
theorem at215_85 : am_at 215 85 = some (.idiv, 1) := by decide +kernel
theorem at215_86 : am_at 215 86 = some (.if_icmp .le 12, 3) := by decide +kernel
theorem at215_89 : am_at 215 89 = some (.aload_n 1, 1) := by decide +kernel
theorem at215_90 : am_at 215 90 = some (.iconst 1, 1) := by decide +kernel
theorem at215_91 : am_at 215 91 = some (.iload_n 3, 1) := by decide +kernel
theorem at215_92 : am_at 215 92 = some (.iadd, 1) := by decide +kernel
theorem at215_93 : am_at 215 93 = some (.iaload, 1) := by decide +kernel
theorem at215_94 : am_at 215 94 = some (.iload_n 2, 1) := by decide +kernel
theorem at215_95 : am_at 215 95 = some (.idiv, 1) := by decide +kernel
theorem at215_96 : am_at 215 96 = some (.istore 4, 2) := by decide +kernel
theorem at215_98 : am_at 215 98 = some (.aload_n 1, 1) := by decide +kernel
theorem at215_99 : am_at 215 99 = some (.iconst 1, 1) := by decide +kernel
theorem at215_100 : am_at 215 100 = some (.iload_n 3, 1) := by decide +kernel
theorem at215_101 : am_at 215 101 = some (.iadd, 1) := by decide +kernel
theorem at215_102 : am_at 215 102 = some (.dup2, 1) := by decide +kernel
theorem at215_103 : am_at 215 103 = some (.iaload, 1) := by decide +kernel
theorem at215_104 : am_at 215 104 = some (.iload 4, 2) := by decide +kernel
theorem at215_106 : am_at 215 106 = some (.iload_n 2, 1) := by decide +kernel
theorem at215_107 : am_at 215 107 = some (.imul, 1) := by decide +kernel
theorem at215_108 : am_at 215 108 = some (.isub, 1) := by decide +kernel
theorem at215_109 : am_at 215 109 = some (.iastore, 1) := by decide +kernel
theorem at215_110 : am_at 215 110 = some (.aload_n 0, 1) := by decide +kernel
theorem at215_111 : am_at 215 111 = some (.getfield 110472, 3) := by decide +kernel
theorem at215_114 : am_at 215 114 = some (.aload_n 1, 1) := by decide +kernel
theorem at215_115 : am_at 215 115 = some (.bipush 7, 2) := by decide +kernel
theorem at215_117 : am_at 215 117 = some (.iload_n 3, 1) := by decide +kernel
theorem at215_118 : am_at 215 118 = some (.iadd, 1) := by decide +kernel
theorem at215_119 : am_at 215 119 = some (.iaload, 1) := by decide +kernel
theorem at215_120 : am_at 215 120 = some (.dup2, 1) := by decide +kernel
theorem at215_121 : am_at 215 121 = some (.iaload, 1) := by decide +kernel
theorem at215_122 : am_at 215 122 = some (.iload 4, 2) := by decide +kernel
theorem at215_124 : am_at 215 124 = some (.iadd, 1) := by decide +kernel
theorem at215_125 : am_at 215 125 = some (.iastore, 1) := by decide +kernel
theorem at215_126 : am_at 215 126 = some (.aload_n 0, 1) := by decide +kernel
theorem at215_127 : am_at 215 127 = some (.getfield 110482, 3) := by decide +kernel
theorem at215_130 : am_at 215 130 = some (.aload_n 1, 1) := by decide +kernel
theorem at215_131 : am_at 215 131 = some (.bipush 7, 2) := by decide +kernel
theorem at215_133 : am_at 215 133 = some (.iload_n 3, 1) := by decide +kernel
theorem at215_134 : am_at 215 134 = some (.iadd, 1) := by decide +kernel
theorem at215_135 : am_at 215 135 = some (.iaload, 1) := by decide +kernel
theorem at215_136 : am_at 215 136 = some (.dup2, 1) := by decide +kernel
theorem at215_137 : am_at 215 137 = some (.iaload, 1) := by decide +kernel
theorem at215_138 : am_at 215 138 = some (.iconst 1, 1) := by decide +kernel
theorem at215_139 : am_at 215 139 = some (.iadd, 1) := by decide +kernel
theorem at215_140 : am_at 215 140 = some (.iastore, 1) := by decide +kernel
theorem at215_141 : am_at 215 141 = some (.iinc 3 1, 3) := by decide +kernel
theorem at215_144 : am_at 215 144 = some (.goto (-107), 3) := by decide +kernel
theorem at215_147 : am_at 215 147 = some (.iconst 0, 1) := by decide +kernel
theorem at215_148 : am_at 215 148 = some (.istore_n 3, 1) := by decide +kernel
theorem at215_149 : am_at 215 149 = some (.iload_n 3, 1) := by decide +kernel
theorem at215_150 : am_at 215 150 = some (.aload_n 0, 1) := by decide +kernel
theorem at215_151 : am_at 215 151 = some (.getfield 110020, 3) := by decide +kernel
theorem at215_154 : am_at 215 154 = some (.if_icmp .ge 105, 3) := by decide +kernel
theorem at215_157 : am_at 215 157 = some (.aload_n 0, 1) := by decide +kernel
theorem at215_158 : am_at 215 158 = some (.getfield 110062, 3) := by decide +kernel
theorem at215_161 : am_at 215 161 = some (.bipush 6, 2) := by decide +kernel
theorem at215_163 : am_at 215 163 = some (.iload_n 3, 1) := by decide +kernel
theorem at215_164 : am_at 215 164 = some (.imul, 1) := by decide +kernel
theorem at215_165 : am_at 215 165 = some (.iaload, 1) := by decide +kernel
theorem at215_166 : am_at 215 166 = some (.aload_n 1, 1) := by decide +kernel
theorem at215_167 : am_at 215 167 = some (.iconst 0, 1) := by decide +kernel
theorem at215_168 : am_at 215 168 = some (.iaload, 1) := by decide +kernel
theorem at215_169 : am_at 215 169 = some (.if_icmp .eq 6, 3) := by decide +kernel
theorem at215_172 : am_at 215 172 = some (.goto 81, 3) := by decide +kernel
theorem at215_175 : am_at 215 175 = some (.iconst 0, 1) := by decide +kernel
theorem at215_176 : am_at 215 176 = some (.istore 4, 2) := by decide +kernel
theorem at215_178 : am_at 215 178 = some (.iload 4, 2) := by decide +kernel
theorem at215_180 : am_at 215 180 = some (.aload_n 0, 1) := by decide +kernel
theorem at215_181 : am_at 215 181 = some (.getfield 110010, 3) := by decide +kernel
theorem at215_184 : am_at 215 184 = some (.if_icmp .ge 69, 3) := by decide +kernel
theorem at215_187 : am_at 215 187 = some (.aload_n 0, 1) := by decide +kernel
theorem at215_188 : am_at 215 188 = some (.getfield 110062, 3) := by decide +kernel
theorem at215_191 : am_at 215 191 = some (.bipush 6, 2) := by decide +kernel
theorem at215_193 : am_at 215 193 = some (.iload_n 3, 1) := by decide +kernel
theorem at215_194 : am_at 215 194 = some (.imul, 1) := by decide +kernel
theorem at215_195 : am_at 215 195 = some (.iconst 2, 1) := by decide +kernel
theorem at215_196 : am_at 215 196 = some (.iadd, 1) := by decide +kernel
theorem at215_197 : am_at 215 197 = some (.iaload, 1) := by decide +kernel
theorem at215_198 : am_at 215 198 = some (.iload 4, 2) := by decide +kernel
theorem at215_200 : am_at 215 200 = some (.ishr, 1) := by decide +kernel
theorem at215_201 : am_at 215 201 = some (.iconst 1, 1) := by decide +kernel
theorem at215_202 : am_at 215 202 = some (.iand, 1) := by decide +kernel
theorem at215_203 : am_at 215 203 = some (.ifCond .ne 6, 3) := by decide +kernel
theorem at215_206 : am_at 215 206 = some (.goto 41, 3) := by decide +kernel
theorem at215_209 : am_at 215 209 = some (.aload_n 1, 1) := by decide +kernel
theorem at215_210 : am_at 215 210 = some (.iload 4, 2) := by decide +kernel
theorem at215_212 : am_at 215 212 = some (.iload_n 3, 1) := by decide +kernel
theorem at215_213 : am_at 215 213 = some (.invokestatic 199, 3) := by decide +kernel
theorem at215_216 : am_at 215 216 = some (.ifCond .ne 18, 3) := by decide +kernel
theorem at215_219 : am_at 215 219 = some (.aload_n 1, 1) := by decide +kernel
theorem at215_220 : am_at 215 220 = some (.bipush 19, 2) := by decide +kernel
theorem at215_222 : am_at 215 222 = some (.bipush 10, 2) := by decide +kernel
theorem at215_224 : am_at 215 224 = some (.iload 4, 2) := by decide +kernel
theorem at215_226 : am_at 215 226 = some (.imul, 1) := by decide +kernel
theorem at215_227 : am_at 215 227 = some (.iadd, 1) := by decide +kernel
theorem at215_228 : am_at 215 228 = some (.iload_n 3, 1) := by decide +kernel
theorem at215_229 : am_at 215 229 = some (.iadd, 1) := by decide +kernel
theorem at215_230 : am_at 215 230 = some (.aload_n 1, 1) := by decide +kernel
theorem at215_231 : am_at 215 231 = some (.iconst 0, 1) := by decide +kernel
theorem at215_232 : am_at 215 232 = some (.iaload, 1) := by decide +kernel
theorem at215_233 : am_at 215 233 = some (.iastore, 1) := by decide +kernel
theorem at215_234 : am_at 215 234 = some (.aload_n 1, 1) := by decide +kernel
theorem at215_235 : am_at 215 235 = some (.bipush 79, 2) := by decide +kernel
theorem at215_237 : am_at 215 237 = some (.bipush 10, 2) := by decide +kernel
theorem at215_239 : am_at 215 239 = some (.iload 4, 2) := by decide +kernel
theorem at215_241 : am_at 215 241 = some (.imul, 1) := by decide +kernel
theorem at215_242 : am_at 215 242 = some (.iadd, 1) := by decide +kernel
theorem at215_243 : am_at 215 243 = some (.iload_n 3, 1) := by decide +kernel
theorem at215_244 : am_at 215 244 = some (.iadd, 1) := by decide +kernel
theorem at215_245 : am_at 215 245 = some (.iconst 0, 1) := by decide +kernel
theorem at215_246 : am_at 215 246 = some (.iastore, 1) := by decide +kernel
theorem at215_247 : am_at 215 247 = some (.iinc 4 1, 3) := by decide +kernel
theorem at215_250 : am_at 215 250 = some (.goto (-72), 3) := by decide +kernel
theorem at215_253 : am_at 215 253 = some (.iinc 3 1, 3) := by decide +kernel
theorem at215_256 : am_at 215 256 = some (.goto (-107), 3) := by decide +kernel
theorem at215_259 : am_at 215 259 = some (.iconst 0, 1) := by decide +kernel
theorem at215_260 : am_at 215 260 = some (.istore_n 3, 1) := by decide +kernel
theorem at215_261 : am_at 215 261 = some (.iload_n 3, 1) := by decide +kernel
theorem at215_262 : am_at 215 262 = some (.aload_n 0, 1) := by decide +kernel
theorem at215_263 : am_at 215 263 = some (.getfield 110010, 3) := by decide +kernel
theorem at215_266 : am_at 215 266 = some (.if_icmp .ge 87, 3) := by decide +kernel
theorem at215_269 : am_at 215 269 = some (.aload_n 1, 1) := by decide +kernel
theorem at215_270 : am_at 215 270 = some (.bipush 7, 2) := by decide +kernel
theorem at215_272 : am_at 215 272 = some (.iload_n 3, 1) := by decide +kernel
theorem at215_273 : am_at 215 273 = some (.iadd, 1) := by decide +kernel
theorem at215_274 : am_at 215 274 = some (.iaload, 1) := by decide +kernel
theorem at215_275 : am_at 215 275 = some (.istore 4, 2) := by decide +kernel
theorem at215_277 : am_at 215 277 = some (.aload_n 0, 1) := by decide +kernel
theorem at215_278 : am_at 215 278 = some (.getfield 110500, 3) := by decide +kernel
theorem at215_281 : am_at 215 281 = some (.iconst (-1), 1) := by decide +kernel
theorem at215_282 : am_at 215 282 = some (.if_icmp .eq 25, 3) := by decide +kernel
theorem at215_285 : am_at 215 285 = some (.aload_n 0, 1) := by decide +kernel
theorem at215_286 : am_at 215 286 = some (.aload_n 1, 1) := by decide +kernel
theorem at215_287 : am_at 215 287 = some (.iload_n 3, 1) := by decide +kernel
theorem at215_288 : am_at 215 288 = some (.aload_n 0, 1) := by decide +kernel
theorem at215_289 : am_at 215 289 = some (.getfield 110500, 3) := by decide +kernel
theorem at215_292 : am_at 215 292 = some (.aload_n 0, 1) := by decide +kernel
theorem at215_293 : am_at 215 293 = some (.getfield 110010, 3) := by decide +kernel
theorem at215_296 : am_at 215 296 = some (.idiv, 1) := by decide +kernel
theorem at215_297 : am_at 215 297 = some (.aload_n 0, 1) := by decide +kernel
theorem at215_298 : am_at 215 298 = some (.getfield 110010, 3) := by decide +kernel
theorem at215_301 : am_at 215 301 = some (.invokevirtual 213, 3) := by decide +kernel
theorem at215_304 : am_at 215 304 = some (.goto 43, 3) := by decide +kernel
theorem at215_307 : am_at 215 307 = some (.aload_n 0, 1) := by decide +kernel
theorem at215_308 : am_at 215 308 = some (.aload_n 1, 1) := by decide +kernel
theorem at215_309 : am_at 215 309 = some (.iload_n 3, 1) := by decide +kernel
theorem at215_310 : am_at 215 310 = some (.iload_n 3, 1) := by decide +kernel
theorem at215_311 : am_at 215 311 = some (.aload_n 0, 1) := by decide +kernel
theorem at215_312 : am_at 215 312 = some (.getfield 110490, 3) := by decide +kernel
theorem at215_315 : am_at 215 315 = some (.if_icmp .ne 7, 3) := by decide +kernel
theorem at215_318 : am_at 215 318 = some (.iconst 0, 1) := by decide +kernel
theorem at215_319 : am_at 215 319 = some (.goto 18, 3) := by decide +kernel
theorem at215_322 : am_at 215 322 = some (.aload_n 0, 1) := by decide +kernel
theorem at215_323 : am_at 215 323 = some (.getfield 110472, 3) := by decide +kernel
theorem at215_326 : am_at 215 326 = some (.iload 4, 2) := by decide +kernel
theorem at215_328 : am_at 215 328 = some (.iaload, 1) := by decide +kernel
theorem at215_329 : am_at 215 329 = some (.aload_n 0, 1) := by decide +kernel
theorem at215_330 : am_at 215 330 = some (.getfield 110482, 3) := by decide +kernel
theorem at215_333 : am_at 215 333 = some (.iload 4, 2) := by decide +kernel
theorem at215_335 : am_at 215 335 = some (.iaload, 1) := by decide +kernel
theorem at215_336 : am_at 215 336 = some (.idiv, 1) := by decide +kernel
theorem at215_337 : am_at 215 337 = some (.aload_n 0, 1) := by decide +kernel
theorem at215_338 : am_at 215 338 = some (.getfield 110482, 3) := by decide +kernel
theorem at215_341 : am_at 215 341 = some (.iload 4, 2) := by decide +kernel
theorem at215_343 : am_at 215 343 = some (.iaload, 1) := by decide +kernel
theorem at215_344 : am_at 215 344 = some (.invokevirtual 213, 3) := by decide +kernel
theorem at215_347 : am_at 215 347 = some (.iinc 3 1, 3) := by decide +kernel
theorem at215_350 : am_at 215 350 = some (.goto (-89), 3) := by decide +kernel
theorem at215_353 : am_at 215 353 = some (.return_, 1) := by decide +kernel
theorem at216_0 : am_at 216 0 = some (.aload_n 0, 1) := by decide +kernel
theorem at216_1 : am_at 216 1 = some (.aload_n 1, 1) := by decide +kernel
theorem at216_2 : am_at 216 2 = some (.invokevirtual 215, 3) := by decide +kernel
theorem at216_5 : am_at 216 5 = some (.aload_n 1, 1) := by decide +kernel
theorem at216_6 : am_at 216 6 = some (.iconst 0, 1) := by decide +kernel
theorem at216_7 : am_at 216 7 = some (.dup2, 1) := by decide +kernel
theorem at216_8 : am_at 216 8 = some (.iaload, 1) := by decide +kernel
theorem at216_9 : am_at 216 9 = some (.iconst 1, 1) := by decide +kernel
theorem at216_10 : am_at 216 10 = some (.iadd, 1) := by decide +kernel
theorem at216_11 : am_at 216 11 = some (.iastore, 1) := by decide +kernel
theorem at216_12 : am_at 216 12 = some (.iconst 0, 1) := by decide +kernel
theorem at216_13 : am_at 216 13 = some (.istore_n 2, 1) := by decide +kernel
theorem at216_14 : am_at 216 14 = some (.iconst 0, 1) := by decide +kernel
theorem at216_15 : am_at 216 15 = some (.istore_n 3, 1) := by decide +kernel
theorem at216_16 : am_at 216 16 = some (.iload_n 3, 1) := by decide +kernel
theorem at216_17 : am_at 216 17 = some (.aload_n 0, 1) := by decide +kernel
theorem at216_18 : am_at 216 18 = some (.getfield 110010, 3) := by decide +kernel
theorem at216_21 : am_at 216 21 = some (.if_icmp .ge 18, 3) := by decide +kernel
theorem at216_24 : am_at 216 24 = some (.iload_n 2, 1) := by decide +kernel
theorem at216_25 : am_at 216 25 = some (.aload_n 0, 1) := by decide +kernel
theorem at216_26 : am_at 216 26 = some (.aload_n 1, 1) := by decide +kernel
theorem at216_27 : am_at 216 27 = some (.iload_n 3, 1) := by decide +kernel
theorem at216_28 : am_at 216 28 = some (.invokevirtual 214, 3) := by decide +kernel
theorem at216_31 : am_at 216 31 = some (.iadd, 1) := by decide +kernel
theorem at216_32 : am_at 216 32 = some (.istore_n 2, 1) := by decide +kernel
theorem at216_33 : am_at 216 33 = some (.iinc 3 1, 3) := by decide +kernel
theorem at216_36 : am_at 216 36 = some (.goto (-20), 3) := by decide +kernel
theorem at216_39 : am_at 216 39 = some (.iload_n 2, 1) := by decide +kernel
theorem at216_40 : am_at 216 40 = some (.ireturn, 1) := by decide +kernel
theorem at217_0 : am_at 217 0 = some (.aload_n 0, 1) := by decide +kernel
theorem at217_1 : am_at 217 1 = some (.aload_n 1, 1) := by decide +kernel
theorem at217_2 : am_at 217 2 = some (.iload_n 2, 1) := by decide +kernel
theorem at217_3 : am_at 217 3 = some (.iload_n 3, 1) := by decide +kernel
theorem at217_4 : am_at 217 4 = some (.iconst 1, 1) := by decide +kernel
theorem at217_5 : am_at 217 5 = some (.invokevirtual 213, 3) := by decide +kernel
theorem at217_8 : am_at 217 8 = some (.aload_n 1, 1) := by decide +kernel
theorem at217_9 : am_at 217 9 = some (.iconst 0, 1) := by decide +kernel
theorem at217_10 : am_at 217 10 = some (.dup2, 1) := by decide +kernel
theorem at217_11 : am_at 217 11 = some (.iaload, 1) := by decide +kernel
theorem at217_12 : am_at 217 12 = some (.iconst 1, 1) := by decide +kernel
theorem at217_13 : am_at 217 13 = some (.iadd, 1) := by decide +kernel
theorem at217_14 : am_at 217 14 = some (.iastore, 1) := by decide +kernel
theorem at217_15 : am_at 217 15 = some (.aload_n 0, 1) := by decide +kernel
theorem at217_16 : am_at 217 16 = some (.aload_n 1, 1) := by decide +kernel
theorem at217_17 : am_at 217 17 = some (.iload_n 2, 1) := by decide +kernel
theorem at217_18 : am_at 217 18 = some (.invokevirtual 214, 3) := by decide +kernel
theorem at217_21 : am_at 217 21 = some (.pop, 1) := by decide +kernel
theorem at217_22 : am_at 217 22 = some (.return_, 1) := by decide +kernel
theorem at218_0 : am_at 218 0 = some (.aload_n 1, 1) := by decide +kernel
theorem at218_1 : am_at 218 1 = some (.bipush 19, 2) := by decide +kernel
theorem at218_3 : am_at 218 3 = some (.bipush 10, 2) := by decide +kernel
theorem at218_5 : am_at 218 5 = some (.iload_n 3, 1) := by decide +kernel
theorem at218_6 : am_at 218 6 = some (.imul, 1) := by decide +kernel
theorem at218_7 : am_at 218 7 = some (.iadd, 1) := by decide +kernel
theorem at218_8 : am_at 218 8 = some (.iload_n 2, 1) := by decide +kernel
theorem at218_9 : am_at 218 9 = some (.iadd, 1) := by decide +kernel
theorem at218_10 : am_at 218 10 = some (.aload_n 1, 1) := by decide +kernel
theorem at218_11 : am_at 218 11 = some (.iconst 0, 1) := by decide +kernel
theorem at218_12 : am_at 218 12 = some (.iaload, 1) := by decide +kernel
theorem at218_13 : am_at 218 13 = some (.iastore, 1) := by decide +kernel
theorem at218_14 : am_at 218 14 = some (.aload_n 1, 1) := by decide +kernel
theorem at218_15 : am_at 218 15 = some (.bipush 79, 2) := by decide +kernel
theorem at218_17 : am_at 218 17 = some (.bipush 10, 2) := by decide +kernel
theorem at218_19 : am_at 218 19 = some (.iload_n 3, 1) := by decide +kernel
theorem at218_20 : am_at 218 20 = some (.imul, 1) := by decide +kernel
theorem at218_21 : am_at 218 21 = some (.iadd, 1) := by decide +kernel
theorem at218_22 : am_at 218 22 = some (.iload_n 2, 1) := by decide +kernel
theorem at218_23 : am_at 218 23 = some (.iadd, 1) := by decide +kernel
theorem at218_24 : am_at 218 24 = some (.iconst 1, 1) := by decide +kernel
theorem at218_25 : am_at 218 25 = some (.iastore, 1) := by decide +kernel
theorem at218_26 : am_at 218 26 = some (.return_, 1) := by decide +kernel
theorem at219_0 : am_at 219 0 = some (.aload_n 0, 1) := by decide +kernel
theorem at219_1 : am_at 219 1 = some (.iconst 0, 1) := by decide +kernel
theorem at219_2 : am_at 219 2 = some (.putfield 110000, 3) := by decide +kernel
theorem at219_5 : am_at 219 5 = some (.aload_n 0, 1) := by decide +kernel
theorem at219_6 : am_at 219 6 = some (.iload_n 1, 1) := by decide +kernel
theorem at219_7 : am_at 219 7 = some (.invokevirtual 204, 3) := by decide +kernel
theorem at219_10 : am_at 219 10 = some (.ifCond .ne 5, 3) := by decide +kernel
theorem at219_13 : am_at 219 13 = some (.iconst 0, 1) := by decide +kernel
theorem at219_14 : am_at 219 14 = some (.ireturn, 1) := by decide +kernel
theorem at219_15 : am_at 219 15 = some (.iload_n 2, 1) := by decide +kernel
theorem at219_16 : am_at 219 16 = some (.iconst 0, 1) := by decide +kernel
theorem at219_17 : am_at 219 17 = some (.bipush 20, 2) := by decide +kernel
theorem at219_19 : am_at 219 19 = some (.invokestatic 159, 3) := by decide +kernel
theorem at219_22 : am_at 219 22 = some (.ifCond .ne 9, 3) := by decide +kernel
theorem at219_25 : am_at 219 25 = some (.aload_n 0, 1) := by decide +kernel
theorem at219_26 : am_at 219 26 = some (.iconst 1, 1) := by decide +kernel
theorem at219_27 : am_at 219 27 = some (.invokevirtual 196, 3) := by decide +kernel
theorem at219_30 : am_at 219 30 = some (.ireturn, 1) := by decide +kernel
theorem at219_31 : am_at 219 31 = some (.aload_n 0, 1) := by decide +kernel
theorem at219_32 : am_at 219 32 = some (.invokevirtual 195, 3) := by decide +kernel
theorem at219_35 : am_at 219 35 = some (.aload_n 0, 1) := by decide +kernel
theorem at219_36 : am_at 219 36 = some (.getfield 110412, 3) := by decide +kernel
theorem at219_39 : am_at 219 39 = some (.bipush 13, 2) := by decide +kernel
theorem at219_41 : am_at 219 41 = some (.iload_n 1, 1) := by decide +kernel
theorem at219_42 : am_at 219 42 = some (.iadd, 1) := by decide +kernel
theorem at219_43 : am_at 219 43 = some (.iaload, 1) := by decide +kernel
theorem at219_44 : am_at 219 44 = some (.istore_n 3, 1) := by decide +kernel
theorem at219_45 : am_at 219 45 = some (.aload_n 0, 1) := by decide +kernel
theorem at219_46 : am_at 219 46 = some (.getfield 110412, 3) := by decide +kernel
theorem at219_49 : am_at 219 49 = some (.bipush 13, 2) := by decide +kernel
theorem at219_51 : am_at 219 51 = some (.iload_n 1, 1) := by decide +kernel
theorem at219_52 : am_at 219 52 = some (.iadd, 1) := by decide +kernel
theorem at219_53 : am_at 219 53 = some (.iload_n 2, 1) := by decide +kernel
theorem at219_54 : am_at 219 54 = some (.iastore, 1) := by decide +kernel
theorem at219_55 : am_at 219 55 = some (.iload_n 3, 1) := by decide +kernel
theorem at219_56 : am_at 219 56 = some (.ireturn, 1) := by decide +kernel
theorem at220_0 : am_at 220 0 = some (.aload_n 0, 1) := by decide +kernel
theorem at220_1 : am_at 220 1 = some (.iconst 0, 1) := by decide +kernel
theorem at220_2 : am_at 220 2 = some (.putfield 110000, 3) := by decide +kernel
theorem at220_5 : am_at 220 5 = some (.aload_n 0, 1) := by decide +kernel
theorem at220_6 : am_at 220 6 = some (.iload_n 1, 1) := by decide +kernel
theorem at220_7 : am_at 220 7 = some (.invokevirtual 204, 3) := by decide +kernel
theorem at220_10 : am_at 220 10 = some (.ifCond .ne 5, 3) := by decide +kernel
theorem at220_13 : am_at 220 13 = some (.iconst 0, 1) := by decide +kernel
theorem at220_14 : am_at 220 14 = some (.ireturn, 1) := by decide +kernel
theorem at220_15 : am_at 220 15 = some (.iload_n 2, 1) := by decide +kernel
theorem at220_16 : am_at 220 16 = some (.iconst 0, 1) := by decide +kernel
theorem at220_17 : am_at 220 17 = some (.iconst 3, 1) := by decide +kernel
theorem at220_18 : am_at 220 18 = some (.invokestatic 159, 3) := by decide +kernel
theorem at220_21 : am_at 220 21 = some (.ifCond .ne 9, 3) := by decide +kernel
theorem at220_24 : am_at 220 24 = some (.aload_n 0, 1) := by decide +kernel
theorem at220_25 : am_at 220 25 = some (.iconst 1, 1) := by decide +kernel
theorem at220_26 : am_at 220 26 = some (.invokevirtual 196, 3) := by decide +kernel
theorem at220_29 : am_at 220 29 = some (.ireturn, 1) := by decide +kernel
theorem at220_30 : am_at 220 30 = some (.aload_n 0, 1) := by decide +kernel
theorem at220_31 : am_at 220 31 = some (.invokevirtual 195, 3) := by decide +kernel
theorem at220_34 : am_at 220 34 = some (.aload_n 0, 1) := by decide +kernel
theorem at220_35 : am_at 220 35 = some (.getfield 110412, 3) := by decide +kernel
theorem at220_38 : am_at 220 38 = some (.bipush 7, 2) := by decide +kernel
theorem at220_40 : am_at 220 40 = some (.iload_n 1, 1) := by decide +kernel
theorem at220_41 : am_at 220 41 = some (.iadd, 1) := by decide +kernel
theorem at220_42 : am_at 220 42 = some (.iaload, 1) := by decide +kernel
theorem at220_43 : am_at 220 43 = some (.istore_n 3, 1) := by decide +kernel
theorem at220_44 : am_at 220 44 = some (.aload_n 0, 1) := by decide +kernel
theorem at220_45 : am_at 220 45 = some (.getfield 110412, 3) := by decide +kernel
theorem at220_48 : am_at 220 48 = some (.bipush 7, 2) := by decide +kernel
theorem at220_50 : am_at 220 50 = some (.iload_n 1, 1) := by decide +kernel
theorem at220_51 : am_at 220 51 = some (.iadd, 1) := by decide +kernel
theorem at220_52 : am_at 220 52 = some (.iload_n 2, 1) := by decide +kernel
theorem at220_53 : am_at 220 53 = some (.iastore, 1) := by decide +kernel
theorem at220_54 : am_at 220 54 = some (.iload_n 3, 1) := by decide +kernel
theorem at220_55 : am_at 220 55 = some (.ireturn, 1) := by decide +kernel
theorem at221_0 : am_at 221 0 = some (.aload_n 0, 1) := by decide +kernel
theorem at221_1 : am_at 221 1 = some (.iconst 0, 1) := by decide +kernel
theorem at221_2 : am_at 221 2 = some (.putfield 110000, 3) := by decide +kernel
theorem at221_5 : am_at 221 5 = some (.aload_n 0, 1) := by decide +kernel
theorem at221_6 : am_at 221 6 = some (.iload_n 1, 1) := by decide +kernel
theorem at221_7 : am_at 221 7 = some (.invokevirtual 205, 3) := by decide +kernel
theorem at221_10 : am_at 221 10 = some (.ifCond .eq 19, 3) := by decide +kernel
theorem at221_13 : am_at 221 13 = some (.aload_n 0, 1) := by decide +kernel
theorem at221_14 : am_at 221 14 = some (.iload_n 2, 1) := by decide +kernel
theorem at221_15 : am_at 221 15 = some (.invokevirtual 204, 3) := by decide +kernel
theorem at221_18 : am_at 221 18 = some (.ifCond .eq 11, 3) := by decide +kernel
theorem at221_21 : am_at 221 21 = some (.aload_n 0, 1) := by decide +kernel
theorem at221_22 : am_at 221 22 = some (.iload_n 3, 1) := by decide +kernel
theorem at221_23 : am_at 221 23 = some (.invokevirtual 204, 3) := by decide +kernel
theorem at221_26 : am_at 221 26 = some (.ifCond .ne 5, 3) := by decide +kernel
theorem at221_29 : am_at 221 29 = some (.iconst 0, 1) := by decide +kernel
theorem at221_30 : am_at 221 30 = some (.ireturn, 1) := by decide +kernel
theorem at221_31 : am_at 221 31 = some (.aload_n 0, 1) := by decide +kernel
theorem at221_32 : am_at 221 32 = some (.getfield 110412, 3) := by decide +kernel
theorem at221_35 : am_at 221 35 = some (.iload_n 2, 1) := by decide +kernel
theorem at221_36 : am_at 221 36 = some (.iload_n 1, 1) := by decide +kernel
theorem at221_37 : am_at 221 37 = some (.invokestatic 199, 3) := by decide +kernel
theorem at221_40 : am_at 221 40 = some (.ifCond .eq 15, 3) := by decide +kernel
theorem at221_43 : am_at 221 43 = some (.aload_n 0, 1) := by decide +kernel
theorem at221_44 : am_at 221 44 = some (.getfield 110412, 3) := by decide +kernel
theorem at221_47 : am_at 221 47 = some (.iload_n 3, 1) := by decide +kernel
theorem at221_48 : am_at 221 48 = some (.iload_n 1, 1) := by decide +kernel
theorem at221_49 : am_at 221 49 = some (.invokestatic 199, 3) := by decide +kernel
theorem at221_52 : am_at 221 52 = some (.ifCond .eq 17, 3) := by decide +kernel
theorem at221_55 : am_at 221 55 = some (.aload_n 0, 1) := by decide +kernel
theorem at221_56 : am_at 221 56 = some (.iconst 1, 1) := by decide +kernel
theorem at221_57 : am_at 221 57 = some (.invokevirtual 196, 3) := by decide +kernel
theorem at221_60 : am_at 221 60 = some (.ifCond .le 7, 3) := by decide +kernel
theorem at221_63 : am_at 221 63 = some (.iconst 1, 1) := by decide +kernel
theorem at221_64 : am_at 221 64 = some (.goto 4, 3) := by decide +kernel
theorem at221_67 : am_at 221 67 = some (.iconst 0, 1) := by decide +kernel
theorem at221_68 : am_at 221 68 = some (.ireturn, 1) := by decide +kernel
theorem at221_69 : am_at 221 69 = some (.aload_n 0, 1) := by decide +kernel
theorem at221_70 : am_at 221 70 = some (.invokevirtual 195, 3) := by decide +kernel
theorem at221_73 : am_at 221 73 = some (.aload_n 0, 1) := by decide +kernel
theorem at221_74 : am_at 221 74 = some (.aload_n 0, 1) := by decide +kernel
theorem at221_75 : am_at 221 75 = some (.getfield 110412, 3) := by decide +kernel
theorem at221_78 : am_at 221 78 = some (.iload_n 1, 1) := by decide +kernel
theorem at221_79 : am_at 221 79 = some (.iload_n 3, 1) := by decide +kernel
theorem at221_80 : am_at 221 80 = some (.invokevirtual 218, 3) := by decide +kernel
theorem at221_83 : am_at 221 83 = some (.iconst 1, 1) := by decide +kernel
theorem at221_84 : am_at 221 84 = some (.ireturn, 1) := by decide +kernel
theorem at222_0 : am_at 222 0 = some (.aload_n 0, 1) := by decide +kernel
theorem at222_1 : am_at 222 1 = some (.iconst 0, 1) := by decide +kernel
theorem at222_2 : am_at 222 2 = some (.putfield 110000, 3) := by decide +kernel
theorem at222_5 : am_at 222 5 = some (.iload_n 1, 1) := by decide +kernel
theorem at222_6 : am_at 222 6 = some (.iconst 1, 1) := by decide +kernel
theorem at222_7 : am_at 222 7 = some (.bipush 100, 2) := by decide +kernel
theorem at222_9 : am_at 222 9 = some (.invokestatic 159, 3) := by decide +kernel
theorem at222_12 : am_at 222 12 = some (.ifCond .ne 9, 3) := by decide +kernel
theorem at222_15 : am_at 222 15 = some (.aload_n 0, 1) := by decide +kernel
theorem at222_16 : am_at 222 16 = some (.iconst 1, 1) := by decide +kernel
theorem at222_17 : am_at 222 17 = some (.invokevirtual 196, 3) := by decide +kernel
theorem at222_20 : am_at 222 20 = some (.ireturn, 1) := by decide +kernel
theorem at222_21 : am_at 222 21 = some (.aload_n 0, 1) := by decide +kernel
theorem at222_22 : am_at 222 22 = some (.invokevirtual 195, 3) := by decide +kernel
theorem at222_25 : am_at 222 25 = some (.iconst 0, 1) := by decide +kernel
theorem at222_26 : am_at 222 26 = some (.istore_n 2, 1) := by decide +kernel
theorem at222_27 : am_at 222 27 = some (.iconst 0, 1) := by decide +kernel
theorem at222_28 : am_at 222 28 = some (.istore_n 3, 1) := by decide +kernel
theorem at222_29 : am_at 222 29 = some (.iload_n 3, 1) := by decide +kernel
theorem at222_30 : am_at 222 30 = some (.iload_n 1, 1) := by decide +kernel
theorem at222_31 : am_at 222 31 = some (.if_icmp .ge 20, 3) := by decide +kernel
theorem at222_34 : am_at 222 34 = some (.iload_n 2, 1) := by decide +kernel
theorem at222_35 : am_at 222 35 = some (.aload_n 0, 1) := by decide +kernel
theorem at222_36 : am_at 222 36 = some (.aload_n 0, 1) := by decide +kernel
theorem at222_37 : am_at 222 37 = some (.getfield 110412, 3) := by decide +kernel
theorem at222_40 : am_at 222 40 = some (.invokevirtual 216, 3) := by decide +kernel
theorem at222_43 : am_at 222 43 = some (.iadd, 1) := by decide +kernel
theorem at222_44 : am_at 222 44 = some (.istore_n 2, 1) := by decide +kernel
theorem at222_45 : am_at 222 45 = some (.iinc 3 1, 3) := by decide +kernel
theorem at222_48 : am_at 222 48 = some (.goto (-19), 3) := by decide +kernel
theorem at222_51 : am_at 222 51 = some (.iload_n 2, 1) := by decide +kernel
theorem at222_52 : am_at 222 52 = some (.ireturn, 1) := by decide +kernel
theorem at223_0 : am_at 223 0 = some (.aload_n 0, 1) := by decide +kernel
theorem at223_1 : am_at 223 1 = some (.iload_n 1, 1) := by decide +kernel
theorem at223_2 : am_at 223 2 = some (.iload_n 2, 1) := by decide +kernel
theorem at223_3 : am_at 223 3 = some (.bipush 100, 2) := by decide +kernel
theorem at223_5 : am_at 223 5 = some (.invokestatic 159, 3) := by decide +kernel
theorem at223_8 : am_at 223 8 = some (.iload_n 3, 1) := by decide +kernel
theorem at223_9 : am_at 223 9 = some (.invokevirtual 158, 3) := by decide +kernel
theorem at223_12 : am_at 223 12 = some (.ireturn, 1) := by decide +kernel
theorem at224_0 : am_at 224 0 = some (.aload_n 0, 1) := by decide +kernel
theorem at224_1 : am_at 224 1 = some (.aload_n 0, 1) := by decide +kernel
theorem at224_2 : am_at 224 2 = some (.getfield 110412, 3) := by decide +kernel
theorem at224_5 : am_at 224 5 = some (.aload_n 0, 1) := by decide +kernel
theorem at224_6 : am_at 224 6 = some (.getfield 110422, 3) := by decide +kernel
theorem at224_9 : am_at 224 9 = some (.invokevirtual 160, 3) := by decide +kernel
theorem at224_12 : am_at 224 12 = some (.return_, 1) := by decide +kernel
theorem at225_0 : am_at 225 0 = some (.aload_n 0, 1) := by decide +kernel
theorem at225_1 : am_at 225 1 = some (.iconst 0, 1) := by decide +kernel
theorem at225_2 : am_at 225 2 = some (.putfield 110000, 3) := by decide +kernel
theorem at225_5 : am_at 225 5 = some (.aload_n 0, 1) := by decide +kernel
theorem at225_6 : am_at 225 6 = some (.iload_n 1, 1) := by decide +kernel
theorem at225_7 : am_at 225 7 = some (.invokevirtual 205, 3) := by decide +kernel
theorem at225_10 : am_at 225 10 = some (.ifCond .eq 13, 3) := by decide +kernel
theorem at225_13 : am_at 225 13 = some (.aload_n 0, 1) := by decide +kernel
theorem at225_14 : am_at 225 14 = some (.iload_n 2, 1) := by decide +kernel
theorem at225_15 : am_at 225 15 = some (.iconst 0, 1) := by decide +kernel
theorem at225_16 : am_at 225 16 = some (.iconst 2, 1) := by decide +kernel
theorem at225_17 : am_at 225 17 = some (.invokevirtual 223, 3) := by decide +kernel
theorem at225_20 : am_at 225 20 = some (.ifCond .ne 5, 3) := by decide +kernel
theorem at225_23 : am_at 225 23 = some (.iconst 0, 1) := by decide +kernel
theorem at225_24 : am_at 225 24 = some (.ireturn, 1) := by decide +kernel
theorem at225_25 : am_at 225 25 = some (.aload_n 0, 1) := by decide +kernel
theorem at225_26 : am_at 225 26 = some (.invokevirtual 224, 3) := by decide +kernel
theorem at225_29 : am_at 225 29 = some (.iconst 0, 1) := by decide +kernel
theorem at225_30 : am_at 225 30 = some (.istore_n 3, 1) := by decide +kernel
theorem at225_31 : am_at 225 31 = some (.iload_n 3, 1) := by decide +kernel
theorem at225_32 : am_at 225 32 = some (.iload_n 2, 1) := by decide +kernel
theorem at225_33 : am_at 225 33 = some (.if_icmp .ge 18, 3) := by decide +kernel
theorem at225_36 : am_at 225 36 = some (.aload_n 0, 1) := by decide +kernel
theorem at225_37 : am_at 225 37 = some (.aload_n 0, 1) := by decide +kernel
theorem at225_38 : am_at 225 38 = some (.getfield 110422, 3) := by decide +kernel
theorem at225_41 : am_at 225 41 = some (.invokevirtual 216, 3) := by decide +kernel
theorem at225_44 : am_at 225 44 = some (.pop, 1) := by decide +kernel
theorem at225_45 : am_at 225 45 = some (.iinc 3 1, 3) := by decide +kernel
theorem at225_48 : am_at 225 48 = some (.goto (-17), 3) := by decide +kernel
theorem at225_51 : am_at 225 51 = some (.aload_n 0, 1) := by decide +kernel
theorem at225_52 : am_at 225 52 = some (.aload_n 0, 1) := by decide +kernel
theorem at225_53 : am_at 225 53 = some (.getfield 110422, 3) := by decide +kernel
theorem at225_56 : am_at 225 56 = some (.iload_n 1, 1) := by decide +kernel
theorem at225_57 : am_at 225 57 = some (.invokevirtual 201, 3) := by decide +kernel
theorem at225_60 : am_at 225 60 = some (.ireturn, 1) := by decide +kernel
theorem at226_0 : am_at 226 0 = some (.iconst 0, 1) := by decide +kernel
theorem at226_1 : am_at 226 1 = some (.istore_n 2, 1) := by decide +kernel
theorem at226_2 : am_at 226 2 = some (.iconst 0, 1) := by decide +kernel
theorem at226_3 : am_at 226 3 = some (.istore_n 3, 1) := by decide +kernel
theorem at226_4 : am_at 226 4 = some (.iload_n 3, 1) := by decide +kernel
theorem at226_5 : am_at 226 5 = some (.aload_n 0, 1) := by decide +kernel
theorem at226_6 : am_at 226 6 = some (.getfield 110010, 3) := by decide +kernel
theorem at226_9 : am_at 226 9 = some (.if_icmp .ge 18, 3) := by decide +kernel
theorem at226_12 : am_at 226 12 = some (.iload_n 2, 1) := by decide +kernel
theorem at226_13 : am_at 226 13 = some (.aload_n 0, 1) := by decide +kernel
theorem at226_14 : am_at 226 14 = some (.aload_n 1, 1) := by decide +kernel
theorem at226_15 : am_at 226 15 = some (.iload_n 3, 1) := by decide +kernel
theorem at226_16 : am_at 226 16 = some (.invokevirtual 200, 3) := by decide +kernel
theorem at226_19 : am_at 226 19 = some (.ior, 1) := by decide +kernel
theorem at226_20 : am_at 226 20 = some (.istore_n 2, 1) := by decide +kernel
theorem at226_21 : am_at 226 21 = some (.iinc 3 1, 3) := by decide +kernel
theorem at226_24 : am_at 226 24 = some (.goto (-20), 3) := by decide +kernel
theorem at226_27 : am_at 226 27 = some (.iload_n 2, 1) := by decide +kernel
theorem at226_28 : am_at 226 28 = some (.ireturn, 1) := by decide +kernel
theorem at227_0 : am_at 227 0 = some (.aload_n 0, 1) := by decide +kernel
theorem at227_1 : am_at 227 1 = some (.iconst 0, 1) := by decide +kernel
theorem at227_2 : am_at 227 2 = some (.putfield 110000, 3) := by decide +kernel
theorem at227_5 : am_at 227 5 = some (.aload_n 0, 1) := by decide +kernel
theorem at227_6 : am_at 227 6 = some (.iload_n 2, 1) := by decide +kernel
theorem at227_7 : am_at 227 7 = some (.iconst 1, 1) := by decide +kernel
theorem at227_8 : am_at 227 8 = some (.invokevirtual 206, 3) := by decide +kernel
theorem at227_11 : am_at 227 11 = some (.ifCond .eq 13, 3) := by decide +kernel
theorem at227_14 : am_at 227 14 = some (.aload_n 0, 1) := by decide +kernel
theorem at227_15 : am_at 227 15 = some (.iload_n 1, 1) := by decide +kernel
theorem at227_16 : am_at 227 16 = some (.iconst 0, 1) := by decide +kernel
theorem at227_17 : am_at 227 17 = some (.iconst 2, 1) := by decide +kernel
theorem at227_18 : am_at 227 18 = some (.invokevirtual 223, 3) := by decide +kernel
theorem at227_21 : am_at 227 21 = some (.ifCond .ne 5, 3) := by decide +kernel
theorem at227_24 : am_at 227 24 = some (.iconst 0, 1) := by decide +kernel
theorem at227_25 : am_at 227 25 = some (.ireturn, 1) := by decide +kernel
theorem at227_26 : am_at 227 26 = some (.aload_n 0, 1) := by decide +kernel
theorem at227_27 : am_at 227 27 = some (.invokevirtual 224, 3) := by decide +kernel
theorem at227_30 : am_at 227 30 = some (.aload_n 0, 1) := by decide +kernel
theorem at227_31 : am_at 227 31 = some (.aload_n 0, 1) := by decide +kernel
theorem at227_32 : am_at 227 32 = some (.getfield 110422, 3) := by decide +kernel
theorem at227_35 : am_at 227 35 = some (.invokevirtual 226, 3) := by decide +kernel
theorem at227_38 : am_at 227 38 = some (.istore_n 3, 1) := by decide +kernel
theorem at227_39 : am_at 227 39 = some (.iconst 1, 1) := by decide +kernel
theorem at227_40 : am_at 227 40 = some (.istore 4, 2) := by decide +kernel
theorem at227_42 : am_at 227 42 = some (.iload 4, 2) := by decide +kernel
theorem at227_44 : am_at 227 44 = some (.iload_n 1, 1) := by decide +kernel
theorem at227_45 : am_at 227 45 = some (.if_icmp .gt 77, 3) := by decide +kernel
theorem at227_48 : am_at 227 48 = some (.aload_n 0, 1) := by decide +kernel
theorem at227_49 : am_at 227 49 = some (.aload_n 0, 1) := by decide +kernel
theorem at227_50 : am_at 227 50 = some (.getfield 110422, 3) := by decide +kernel
theorem at227_53 : am_at 227 53 = some (.invokevirtual 216, 3) := by decide +kernel
theorem at227_56 : am_at 227 56 = some (.pop, 1) := by decide +kernel
theorem at227_57 : am_at 227 57 = some (.aload_n 0, 1) := by decide +kernel
theorem at227_58 : am_at 227 58 = some (.aload_n 0, 1) := by decide +kernel
theorem at227_59 : am_at 227 59 = some (.getfield 110422, 3) := by decide +kernel
theorem at227_62 : am_at 227 62 = some (.invokevirtual 226, 3) := by decide +kernel
theorem at227_65 : am_at 227 65 = some (.istore 5, 2) := by decide +kernel
theorem at227_67 : am_at 227 67 = some (.iload_n 3, 1) := by decide +kernel
theorem at227_68 : am_at 227 68 = some (.iload 5, 2) := by decide +kernel
theorem at227_70 : am_at 227 70 = some (.iconst (-1), 1) := by decide +kernel
theorem at227_71 : am_at 227 71 = some (.ixor, 1) := by decide +kernel
theorem at227_72 : am_at 227 72 = some (.iand, 1) := by decide +kernel
theorem at227_73 : am_at 227 73 = some (.istore 6, 2) := by decide +kernel
theorem at227_75 : am_at 227 75 = some (.iload 6, 2) := by decide +kernel
theorem at227_77 : am_at 227 77 = some (.ifCond .eq 34, 3) := by decide +kernel
theorem at227_80 : am_at 227 80 = some (.iconst 0, 1) := by decide +kernel
theorem at227_81 : am_at 227 81 = some (.istore 7, 2) := by decide +kernel
theorem at227_83 : am_at 227 83 = some (.iload 6, 2) := by decide +kernel
theorem at227_85 : am_at 227 85 = some (.iload 7, 2) := by decide +kernel
theorem at227_87 : am_at 227 87 = some (.ishr, 1) := by decide +kernel
theorem at227_88 : am_at 227 88 = some (.iconst 1, 1) := by decide +kernel
theorem at227_89 : am_at 227 89 = some (.iand, 1) := by decide +kernel
theorem at227_90 : am_at 227 90 = some (.ifCond .ne 9, 3) := by decide +kernel
theorem at227_93 : am_at 227 93 = some (.iinc 7 1, 3) := by decide +kernel
theorem at227_96 : am_at 227 96 = some (.goto (-13), 3) := by decide +kernel
theorem at227_99 : am_at 227 99 = some (.iload_n 2, 1) := by decide +kernel
theorem at227_100 : am_at 227 100 = some (.ifCond .ne 8, 3) := by decide +kernel
theorem at227_103 : am_at 227 103 = some (.iload 4, 2) := by decide +kernel
theorem at227_105 : am_at 227 105 = some (.goto 5, 3) := by decide +kernel
theorem at227_108 : am_at 227 108 = some (.iload 7, 2) := by decide +kernel
theorem at227_110 : am_at 227 110 = some (.ireturn, 1) := by decide +kernel
theorem at227_111 : am_at 227 111 = some (.iload_n 3, 1) := by decide +kernel
theorem at227_112 : am_at 227 112 = some (.iload 5, 2) := by decide +kernel
theorem at227_114 : am_at 227 114 = some (.ior, 1) := by decide +kernel
theorem at227_115 : am_at 227 115 = some (.istore_n 3, 1) := by decide +kernel
theorem at227_116 : am_at 227 116 = some (.iinc 4 1, 3) := by decide +kernel
theorem at227_119 : am_at 227 119 = some (.goto (-77), 3) := by decide +kernel
theorem at227_122 : am_at 227 122 = some (.iconst (-1), 1) := by decide +kernel
theorem at227_123 : am_at 227 123 = some (.ireturn, 1) := by decide +kernel
theorem at228_0 : am_at 228 0 = some (.aload_n 0, 1) := by decide +kernel
theorem at228_1 : am_at 228 1 = some (.iconst 0, 1) := by decide +kernel
theorem at228_2 : am_at 228 2 = some (.putfield 110000, 3) := by decide +kernel
theorem at228_5 : am_at 228 5 = some (.aload_n 0, 1) := by decide +kernel
theorem at228_6 : am_at 228 6 = some (.iload_n 1, 1) := by decide +kernel
theorem at228_7 : am_at 228 7 = some (.iconst 0, 1) := by decide +kernel
theorem at228_8 : am_at 228 8 = some (.bipush 120, 2) := by decide +kernel
theorem at228_10 : am_at 228 10 = some (.invokestatic 159, 3) := by decide +kernel
theorem at228_13 : am_at 228 13 = some (.iconst 1, 1) := by decide +kernel
theorem at228_14 : am_at 228 14 = some (.invokevirtual 158, 3) := by decide +kernel
theorem at228_17 : am_at 228 17 = some (.ifCond .ne 5, 3) := by decide +kernel
theorem at228_20 : am_at 228 20 = some (.iconst 0, 1) := by decide +kernel
theorem at228_21 : am_at 228 21 = some (.ireturn, 1) := by decide +kernel
theorem at228_22 : am_at 228 22 = some (.aload_n 0, 1) := by decide +kernel
theorem at228_23 : am_at 228 23 = some (.invokevirtual 224, 3) := by decide +kernel
theorem at228_26 : am_at 228 26 = some (.aload_n 0, 1) := by decide +kernel
theorem at228_27 : am_at 228 27 = some (.iload_n 1, 1) := by decide +kernel
theorem at228_28 : am_at 228 28 = some (.putfield 110500, 3) := by decide +kernel
theorem at228_31 : am_at 228 31 = some (.aload_n 0, 1) := by decide +kernel
theorem at228_32 : am_at 228 32 = some (.aload_n 0, 1) := by decide +kernel
theorem at228_33 : am_at 228 33 = some (.getfield 110422, 3) := by decide +kernel
theorem at228_36 : am_at 228 36 = some (.invokevirtual 216, 3) := by decide +kernel
theorem at228_39 : am_at 228 39 = some (.pop, 1) := by decide +kernel
theorem at228_40 : am_at 228 40 = some (.aload_n 0, 1) := by decide +kernel
theorem at228_41 : am_at 228 41 = some (.iconst (-1), 1) := by decide +kernel
theorem at228_42 : am_at 228 42 = some (.putfield 110500, 3) := by decide +kernel
theorem at228_45 : am_at 228 45 = some (.aload_n 0, 1) := by decide +kernel
theorem at228_46 : am_at 228 46 = some (.aload_n 0, 1) := by decide +kernel
theorem at228_47 : am_at 228 47 = some (.getfield 110422, 3) := by decide +kernel
theorem at228_50 : am_at 228 50 = some (.invokevirtual 202, 3) := by decide +kernel
theorem at228_53 : am_at 228 53 = some (.ireturn, 1) := by decide +kernel
theorem at229_0 : am_at 229 0 = some (.aload_n 0, 1) := by decide +kernel
theorem at229_1 : am_at 229 1 = some (.invokevirtual 224, 3) := by decide +kernel
theorem at229_4 : am_at 229 4 = some (.iconst 0, 1) := by decide +kernel
theorem at229_5 : am_at 229 5 = some (.istore_n 3, 1) := by decide +kernel
theorem at229_6 : am_at 229 6 = some (.iload_n 3, 1) := by decide +kernel
theorem at229_7 : am_at 229 7 = some (.iload_n 2, 1) := by decide +kernel
theorem at229_8 : am_at 229 8 = some (.if_icmp .ge 18, 3) := by decide +kernel
theorem at229_11 : am_at 229 11 = some (.aload_n 0, 1) := by decide +kernel
theorem at229_12 : am_at 229 12 = some (.aload_n 0, 1) := by decide +kernel
theorem at229_13 : am_at 229 13 = some (.getfield 110422, 3) := by decide +kernel
theorem at229_16 : am_at 229 16 = some (.invokevirtual 216, 3) := by decide +kernel
theorem at229_19 : am_at 229 19 = some (.pop, 1) := by decide +kernel
theorem at229_20 : am_at 229 20 = some (.iinc 3 1, 3) := by decide +kernel
theorem at229_23 : am_at 229 23 = some (.goto (-17), 3) := by decide +kernel
theorem at229_26 : am_at 229 26 = some (.aload_n 0, 1) := by decide +kernel
theorem at229_27 : am_at 229 27 = some (.aload_n 0, 1) := by decide +kernel
theorem at229_28 : am_at 229 28 = some (.getfield 110422, 3) := by decide +kernel
theorem at229_31 : am_at 229 31 = some (.iload_n 1, 1) := by decide +kernel
theorem at229_32 : am_at 229 32 = some (.invokevirtual 200, 3) := by decide +kernel
theorem at229_35 : am_at 229 35 = some (.invokestatic 161, 3) := by decide +kernel
theorem at229_38 : am_at 229 38 = some (.ireturn, 1) := by decide +kernel
theorem at230_0 : am_at 230 0 = some (.aload_n 0, 1) := by decide +kernel
theorem at230_1 : am_at 230 1 = some (.iconst 0, 1) := by decide +kernel
theorem at230_2 : am_at 230 2 = some (.putfield 110000, 3) := by decide +kernel
theorem at230_5 : am_at 230 5 = some (.aload_n 0, 1) := by decide +kernel
theorem at230_6 : am_at 230 6 = some (.iload_n 1, 1) := by decide +kernel
theorem at230_7 : am_at 230 7 = some (.invokevirtual 204, 3) := by decide +kernel
theorem at230_10 : am_at 230 10 = some (.ifCond .eq 13, 3) := by decide +kernel
theorem at230_13 : am_at 230 13 = some (.aload_n 0, 1) := by decide +kernel
theorem at230_14 : am_at 230 14 = some (.iload_n 2, 1) := by decide +kernel
theorem at230_15 : am_at 230 15 = some (.iconst 1, 1) := by decide +kernel
theorem at230_16 : am_at 230 16 = some (.iconst 2, 1) := by decide +kernel
theorem at230_17 : am_at 230 17 = some (.invokevirtual 223, 3) := by decide +kernel
theorem at230_20 : am_at 230 20 = some (.ifCond .ne 5, 3) := by decide +kernel
theorem at230_23 : am_at 230 23 = some (.iconst 0, 1) := by decide +kernel
theorem at230_24 : am_at 230 24 = some (.ireturn, 1) := by decide +kernel
theorem at230_25 : am_at 230 25 = some (.aload_n 0, 1) := by decide +kernel
theorem at230_26 : am_at 230 26 = some (.iload_n 1, 1) := by decide +kernel
theorem at230_27 : am_at 230 27 = some (.iload_n 2, 1) := by decide +kernel
theorem at230_28 : am_at 230 28 = some (.invokevirtual 229, 3) := by decide +kernel
theorem at230_31 : am_at 230 31 = some (.istore_n 3, 1) := by decide +kernel
theorem at230_32 : am_at 230 32 = some (.aload_n 0, 1) := by decide +kernel
theorem at230_33 : am_at 230 33 = some (.iload_n 1, 1) := by decide +kernel
theorem at230_34 : am_at 230 34 = some (.putfield 110490, 3) := by decide +kernel
theorem at230_37 : am_at 230 37 = some (.aload_n 0, 1) := by decide +kernel
theorem at230_38 : am_at 230 38 = some (.iload_n 1, 1) := by decide +kernel
theorem at230_39 : am_at 230 39 = some (.iload_n 2, 1) := by decide +kernel
theorem at230_40 : am_at 230 40 = some (.invokevirtual 229, 3) := by decide +kernel
theorem at230_43 : am_at 230 43 = some (.istore 4, 2) := by decide +kernel
theorem at230_45 : am_at 230 45 = some (.aload_n 0, 1) := by decide +kernel
theorem at230_46 : am_at 230 46 = some (.iconst (-1), 1) := by decide +kernel
theorem at230_47 : am_at 230 47 = some (.putfield 110490, 3) := by decide +kernel
theorem at230_50 : am_at 230 50 = some (.iload_n 3, 1) := by decide +kernel
theorem at230_51 : am_at 230 51 = some (.iload 4, 2) := by decide +kernel
theorem at230_53 : am_at 230 53 = some (.isub, 1) := by decide +kernel
theorem at230_54 : am_at 230 54 = some (.ireturn, 1) := by decide +kernel
theorem at231_0 : am_at 231 0 = some (.iconst 0, 1) := by decide +kernel
theorem at231_1 : am_at 231 1 = some (.istore_n 2, 1) := by decide +kernel
theorem at231_2 : am_at 231 2 = some (.iconst 0, 1) := by decide +kernel
theorem at231_3 : am_at 231 3 = some (.istore_n 3, 1) := by decide +kernel
theorem at231_4 : am_at 231 4 = some (.iload_n 3, 1) := by decide +kernel
theorem at231_5 : am_at 231 5 = some (.aload_n 0, 1) := by decide +kernel
theorem at231_6 : am_at 231 6 = some (.getfield 110010, 3) := by decide +kernel
theorem at231_9 : am_at 231 9 = some (.if_icmp .ge 17, 3) := by decide +kernel
theorem at231_12 : am_at 231 12 = some (.iload_n 2, 1) := by decide +kernel
theorem at231_13 : am_at 231 13 = some (.aload_n 1, 1) := by decide +kernel
theorem at231_14 : am_at 231 14 = some (.iconst 1, 1) := by decide +kernel
theorem at231_15 : am_at 231 15 = some (.iload_n 3, 1) := by decide +kernel
theorem at231_16 : am_at 231 16 = some (.iadd, 1) := by decide +kernel
theorem at231_17 : am_at 231 17 = some (.iaload, 1) := by decide +kernel
theorem at231_18 : am_at 231 18 = some (.iadd, 1) := by decide +kernel
theorem at231_19 : am_at 231 19 = some (.istore_n 2, 1) := by decide +kernel
theorem at231_20 : am_at 231 20 = some (.iinc 3 1, 3) := by decide +kernel
theorem at231_23 : am_at 231 23 = some (.goto (-19), 3) := by decide +kernel
theorem at231_26 : am_at 231 26 = some (.iload_n 2, 1) := by decide +kernel
theorem at231_27 : am_at 231 27 = some (.ireturn, 1) := by decide +kernel
theorem at232_0 : am_at 232 0 = some (.aload_n 0, 1) := by decide +kernel
theorem at232_1 : am_at 232 1 = some (.iconst 0, 1) := by decide +kernel
theorem at232_2 : am_at 232 2 = some (.putfield 110000, 3) := by decide +kernel
theorem at232_5 : am_at 232 5 = some (.aload_n 0, 1) := by decide +kernel
theorem at232_6 : am_at 232 6 = some (.iload_n 1, 1) := by decide +kernel
theorem at232_7 : am_at 232 7 = some (.iconst 0, 1) := by decide +kernel
theorem at232_8 : am_at 232 8 = some (.iconst 1, 1) := by decide +kernel
theorem at232_9 : am_at 232 9 = some (.invokevirtual 223, 3) := by decide +kernel
theorem at232_12 : am_at 232 12 = some (.ifCond .ne 5, 3) := by decide +kernel
theorem at232_15 : am_at 232 15 = some (.iconst 0, 1) := by decide +kernel
theorem at232_16 : am_at 232 16 = some (.ireturn, 1) := by decide +kernel
theorem at232_17 : am_at 232 17 = some (.aload_n 0, 1) := by decide +kernel
theorem at232_18 : am_at 232 18 = some (.invokevirtual 224, 3) := by decide +kernel
theorem at232_21 : am_at 232 21 = some (.iconst 0, 1) := by decide +kernel
theorem at232_22 : am_at 232 22 = some (.istore_n 2, 1) := by decide +kernel
theorem at232_23 : am_at 232 23 = some (.iload_n 2, 1) := by decide +kernel
theorem at232_24 : am_at 232 24 = some (.iload_n 1, 1) := by decide +kernel
theorem at232_25 : am_at 232 25 = some (.if_icmp .ge 18, 3) := by decide +kernel
theorem at232_28 : am_at 232 28 = some (.aload_n 0, 1) := by decide +kernel
theorem at232_29 : am_at 232 29 = some (.aload_n 0, 1) := by decide +kernel
theorem at232_30 : am_at 232 30 = some (.getfield 110422, 3) := by decide +kernel
theorem at232_33 : am_at 232 33 = some (.invokevirtual 216, 3) := by decide +kernel
theorem at232_36 : am_at 232 36 = some (.pop, 1) := by decide +kernel
theorem at232_37 : am_at 232 37 = some (.iinc 2 1, 3) := by decide +kernel
theorem at232_40 : am_at 232 40 = some (.goto (-17), 3) := by decide +kernel
theorem at232_43 : am_at 232 43 = some (.aload_n 0, 1) := by decide +kernel
theorem at232_44 : am_at 232 44 = some (.aload_n 0, 1) := by decide +kernel
theorem at232_45 : am_at 232 45 = some (.getfield 110412, 3) := by decide +kernel
theorem at232_48 : am_at 232 48 = some (.invokevirtual 231, 3) := by decide +kernel
theorem at232_51 : am_at 232 51 = some (.aload_n 0, 1) := by decide +kernel
theorem at232_52 : am_at 232 52 = some (.aload_n 0, 1) := by decide +kernel
theorem at232_53 : am_at 232 53 = some (.getfield 110422, 3) := by decide +kernel
theorem at232_56 : am_at 232 56 = some (.invokevirtual 231, 3) := by decide +kernel
theorem at232_59 : am_at 232 59 = some (.isub, 1) := by decide +kernel
theorem at232_60 : am_at 232 60 = some (.ireturn, 1) := by decide +kernel
theorem at233_0 : am_at 233 0 = some (.aload_n 0, 1) := by decide +kernel
theorem at233_1 : am_at 233 1 = some (.invokevirtual 224, 3) := by decide +kernel
theorem at233_4 : am_at 233 4 = some (.iconst 0, 1) := by decide +kernel
theorem at233_5 : am_at 233 5 = some (.istore 4, 2) := by decide +kernel
theorem at233_7 : am_at 233 7 = some (.iload 4, 2) := by decide +kernel
theorem at233_9 : am_at 233 9 = some (.iload_n 3, 1) := by decide +kernel
theorem at233_10 : am_at 233 10 = some (.if_icmp .ge 28, 3) := by decide +kernel
theorem at233_13 : am_at 233 13 = some (.aload_n 0, 1) := by decide +kernel
theorem at233_14 : am_at 233 14 = some (.aload_n 0, 1) := by decide +kernel
theorem at233_15 : am_at 233 15 = some (.getfield 110422, 3) := by decide +kernel
theorem at233_18 : am_at 233 18 = some (.iload_n 1, 1) := by decide +kernel
theorem at233_19 : am_at 233 19 = some (.iload 4, 2) := by decide +kernel
theorem at233_21 : am_at 233 21 = some (.ifCond .ne 7, 3) := by decide +kernel
theorem at233_24 : am_at 233 24 = some (.iload_n 2, 1) := by decide +kernel
theorem at233_25 : am_at 233 25 = some (.goto 4, 3) := by decide +kernel
theorem at233_28 : am_at 233 28 = some (.iconst 0, 1) := by decide +kernel
theorem at233_29 : am_at 233 29 = some (.invokevirtual 217, 3) := by decide +kernel
theorem at233_32 : am_at 233 32 = some (.iinc 4 1, 3) := by decide +kernel
theorem at233_35 : am_at 233 35 = some (.goto (-28), 3) := by decide +kernel
theorem at233_38 : am_at 233 38 = some (.aload_n 0, 1) := by decide +kernel
theorem at233_39 : am_at 233 39 = some (.aload_n 0, 1) := by decide +kernel
theorem at233_40 : am_at 233 40 = some (.getfield 110422, 3) := by decide +kernel
theorem at233_43 : am_at 233 43 = some (.iload_n 1, 1) := by decide +kernel
theorem at233_44 : am_at 233 44 = some (.invokevirtual 200, 3) := by decide +kernel
theorem at233_47 : am_at 233 47 = some (.ireturn, 1) := by decide +kernel
theorem at234_0 : am_at 234 0 = some (.aload_n 0, 1) := by decide +kernel
theorem at234_1 : am_at 234 1 = some (.iconst 0, 1) := by decide +kernel
theorem at234_2 : am_at 234 2 = some (.putfield 110000, 3) := by decide +kernel
theorem at234_5 : am_at 234 5 = some (.aload_n 0, 1) := by decide +kernel
theorem at234_6 : am_at 234 6 = some (.iload_n 1, 1) := by decide +kernel
theorem at234_7 : am_at 234 7 = some (.invokevirtual 204, 3) := by decide +kernel
theorem at234_10 : am_at 234 10 = some (.ifCond .eq 21, 3) := by decide +kernel
theorem at234_13 : am_at 234 13 = some (.aload_n 0, 1) := by decide +kernel
theorem at234_14 : am_at 234 14 = some (.iload_n 2, 1) := by decide +kernel
theorem at234_15 : am_at 234 15 = some (.invokevirtual 205, 3) := by decide +kernel
theorem at234_18 : am_at 234 18 = some (.ifCond .eq 13, 3) := by decide +kernel
theorem at234_21 : am_at 234 21 = some (.aload_n 0, 1) := by decide +kernel
theorem at234_22 : am_at 234 22 = some (.iload_n 3, 1) := by decide +kernel
theorem at234_23 : am_at 234 23 = some (.iconst 1, 1) := by decide +kernel
theorem at234_24 : am_at 234 24 = some (.iconst 2, 1) := by decide +kernel
theorem at234_25 : am_at 234 25 = some (.invokevirtual 223, 3) := by decide +kernel
theorem at234_28 : am_at 234 28 = some (.ifCond .ne 5, 3) := by decide +kernel
theorem at234_31 : am_at 234 31 = some (.iconst 0, 1) := by decide +kernel
theorem at234_32 : am_at 234 32 = some (.ireturn, 1) := by decide +kernel
theorem at234_33 : am_at 234 33 = some (.iconst 0, 1) := by decide +kernel
theorem at234_34 : am_at 234 34 = some (.istore 4, 2) := by decide +kernel
theorem at234_36 : am_at 234 36 = some (.iload 4, 2) := by decide +kernel
theorem at234_38 : am_at 234 38 = some (.bipush 20, 2) := by decide +kernel
theorem at234_40 : am_at 234 40 = some (.if_icmp .gt 28, 3) := by decide +kernel
theorem at234_43 : am_at 234 43 = some (.aload_n 0, 1) := by decide +kernel
theorem at234_44 : am_at 234 44 = some (.iload_n 1, 1) := by decide +kernel
theorem at234_45 : am_at 234 45 = some (.iload 4, 2) := by decide +kernel
theorem at234_47 : am_at 234 47 = some (.iload_n 3, 1) := by decide +kernel
theorem at234_48 : am_at 234 48 = some (.invokevirtual 233, 3) := by decide +kernel
theorem at234_51 : am_at 234 51 = some (.iload_n 2, 1) := by decide +kernel
theorem at234_52 : am_at 234 52 = some (.ishr, 1) := by decide +kernel
theorem at234_53 : am_at 234 53 = some (.iconst 1, 1) := by decide +kernel
theorem at234_54 : am_at 234 54 = some (.iand, 1) := by decide +kernel
theorem at234_55 : am_at 234 55 = some (.iconst 1, 1) := by decide +kernel
theorem at234_56 : am_at 234 56 = some (.if_icmp .ne 6, 3) := by decide +kernel
theorem at234_59 : am_at 234 59 = some (.iload 4, 2) := by decide +kernel
theorem at234_61 : am_at 234 61 = some (.ireturn, 1) := by decide +kernel
theorem at234_62 : am_at 234 62 = some (.iinc 4 1, 3) := by decide +kernel
theorem at234_65 : am_at 234 65 = some (.goto (-29), 3) := by decide +kernel
theorem at234_68 : am_at 234 68 = some (.iconst (-1), 1) := by decide +kernel
theorem at234_69 : am_at 234 69 = some (.ireturn, 1) := by decide +kernel
theorem at235_0 : am_at 235 0 = some (.aload_n 0, 1) := by decide +kernel
theorem at235_1 : am_at 235 1 = some (.iconst 0, 1) := by decide +kernel
theorem at235_2 : am_at 235 2 = some (.putfield 110000, 3) := by decide +kernel
theorem at235_5 : am_at 235 5 = some (.aload_n 0, 1) := by decide +kernel
theorem at235_6 : am_at 235 6 = some (.iload_n 1, 1) := by decide +kernel
theorem at235_7 : am_at 235 7 = some (.invokevirtual 204, 3) := by decide +kernel
theorem at235_10 : am_at 235 10 = some (.ifCond .eq 55, 3) := by decide +kernel
theorem at235_13 : am_at 235 13 = some (.aload_n 0, 1) := by decide +kernel
theorem at235_14 : am_at 235 14 = some (.iload_n 2, 1) := by decide +kernel
theorem at235_15 : am_at 235 15 = some (.ifCond .lt 42, 3) := by decide +kernel
theorem at235_18 : am_at 235 18 = some (.iload_n 2, 1) := by decide +kernel
theorem at235_19 : am_at 235 19 = some (.iconst 1, 1) := by decide +kernel
theorem at235_20 : am_at 235 20 = some (.aload_n 0, 1) := by decide +kernel
theorem at235_21 : am_at 235 21 = some (.getfield 110020, 3) := by decide +kernel
theorem at235_24 : am_at 235 24 = some (.ishl, 1) := by decide +kernel
theorem at235_25 : am_at 235 25 = some (.if_icmp .ge 32, 3) := by decide +kernel
theorem at235_28 : am_at 235 28 = some (.iload_n 2, 1) := by decide +kernel
theorem at235_29 : am_at 235 29 = some (.aload_n 0, 1) := by decide +kernel
theorem at235_30 : am_at 235 30 = some (.aload_n 0, 1) := by decide +kernel
theorem at235_31 : am_at 235 31 = some (.getfield 110412, 3) := by decide +kernel
theorem at235_34 : am_at 235 34 = some (.iload_n 1, 1) := by decide +kernel
theorem at235_35 : am_at 235 35 = some (.invokevirtual 200, 3) := by decide +kernel
theorem at235_38 : am_at 235 38 = some (.iconst (-1), 1) := by decide +kernel
theorem at235_39 : am_at 235 39 = some (.ixor, 1) := by decide +kernel
theorem at235_40 : am_at 235 40 = some (.iand, 1) := by decide +kernel
theorem at235_41 : am_at 235 41 = some (.ifCond .ne 16, 3) := by decide +kernel
theorem at235_44 : am_at 235 44 = some (.iload_n 3, 1) := by decide +kernel
theorem at235_45 : am_at 235 45 = some (.iconst 1, 1) := by decide +kernel
theorem at235_46 : am_at 235 46 = some (.iconst 5, 1) := by decide +kernel
theorem at235_47 : am_at 235 47 = some (.invokestatic 159, 3) := by decide +kernel
theorem at235_50 : am_at 235 50 = some (.ifCond .eq 7, 3) := by decide +kernel
theorem at235_53 : am_at 235 53 = some (.iconst 1, 1) := by decide +kernel
theorem at235_54 : am_at 235 54 = some (.goto 4, 3) := by decide +kernel
theorem at235_57 : am_at 235 57 = some (.iconst 0, 1) := by decide +kernel
theorem at235_58 : am_at 235 58 = some (.iconst 2, 1) := by decide +kernel
theorem at235_59 : am_at 235 59 = some (.invokevirtual 158, 3) := by decide +kernel
theorem at235_62 : am_at 235 62 = some (.ifCond .ne 5, 3) := by decide +kernel
theorem at235_65 : am_at 235 65 = some (.iconst 0, 1) := by decide +kernel
theorem at235_66 : am_at 235 66 = some (.ireturn, 1) := by decide +kernel
theorem at235_67 : am_at 235 67 = some (.iconst 1, 1) := by decide +kernel
theorem at235_68 : am_at 235 68 = some (.istore 4, 2) := by decide +kernel
theorem at235_70 : am_at 235 70 = some (.iconst 0, 1) := by decide +kernel
theorem at235_71 : am_at 235 71 = some (.istore 5, 2) := by decide +kernel
theorem at235_73 : am_at 235 73 = some (.iload 5, 2) := by decide +kernel
theorem at235_75 : am_at 235 75 = some (.iload_n 3, 1) := by decide +kernel
theorem at235_76 : am_at 235 76 = some (.if_icmp .ge 16, 3) := by decide +kernel
theorem at235_79 : am_at 235 79 = some (.iload 4, 2) := by decide +kernel
theorem at235_81 : am_at 235 81 = some (.bipush 7, 2) := by decide +kernel
theorem at235_83 : am_at 235 83 = some (.imul, 1) := by decide +kernel
theorem at235_84 : am_at 235 84 = some (.istore 4, 2) := by decide +kernel
theorem at235_86 : am_at 235 86 = some (.iinc 5 1, 3) := by decide +kernel
theorem at235_89 : am_at 235 89 = some (.goto (-16), 3) := by decide +kernel
theorem at235_92 : am_at 235 92 = some (.iconst (-1), 1) := by decide +kernel
theorem at235_93 : am_at 235 93 = some (.istore 5, 2) := by decide +kernel
theorem at235_95 : am_at 235 95 = some (.iconst 0, 1) := by decide +kernel
theorem at235_96 : am_at 235 96 = some (.istore 6, 2) := by decide +kernel
theorem at235_98 : am_at 235 98 = some (.iload 6, 2) := by decide +kernel
theorem at235_100 : am_at 235 100 = some (.iload 4, 2) := by decide +kernel
theorem at235_102 : am_at 235 102 = some (.if_icmp .ge 166, 3) := by decide +kernel
theorem at235_105 : am_at 235 105 = some (.iload 6, 2) := by decide +kernel
theorem at235_107 : am_at 235 107 = some (.istore 7, 2) := by decide +kernel
theorem at235_109 : am_at 235 109 = some (.iconst 0, 1) := by decide +kernel
theorem at235_110 : am_at 235 110 = some (.istore 8, 2) := by decide +kernel
theorem at235_112 : am_at 235 112 = some (.iload_n 3, 1) := by decide +kernel
theorem at235_113 : am_at 235 113 = some (.iconst 1, 1) := by decide +kernel
theorem at235_114 : am_at 235 114 = some (.isub, 1) := by decide +kernel
theorem at235_115 : am_at 235 115 = some (.istore 9, 2) := by decide +kernel
theorem at235_117 : am_at 235 117 = some (.iload 9, 2) := by decide +kernel
theorem at235_119 : am_at 235 119 = some (.ifCond .lt 52, 3) := by decide +kernel
theorem at235_122 : am_at 235 122 = some (.aload_n 0, 1) := by decide +kernel
theorem at235_123 : am_at 235 123 = some (.getfield 110532, 3) := by decide +kernel
theorem at235_126 : am_at 235 126 = some (.iload 9, 2) := by decide +kernel
theorem at235_128 : am_at 235 128 = some (.iload 7, 2) := by decide +kernel
theorem at235_130 : am_at 235 130 = some (.bipush 7, 2) := by decide +kernel
theorem at235_132 : am_at 235 132 = some (.irem, 1) := by decide +kernel
theorem at235_133 : am_at 235 133 = some (.iastore, 1) := by decide +kernel
theorem at235_134 : am_at 235 134 = some (.iload 8, 2) := by decide +kernel
theorem at235_136 : am_at 235 136 = some (.iload 7, 2) := by decide +kernel
theorem at235_138 : am_at 235 138 = some (.bipush 7, 2) := by decide +kernel
theorem at235_140 : am_at 235 140 = some (.irem, 1) := by decide +kernel
theorem at235_141 : am_at 235 141 = some (.aload_n 0, 1) := by decide +kernel
theorem at235_142 : am_at 235 142 = some (.aload_n 0, 1) := by decide +kernel
theorem at235_143 : am_at 235 143 = some (.getfield 110412, 3) := by decide +kernel
theorem at235_146 : am_at 235 146 = some (.iconst 0, 1) := by decide +kernel
theorem at235_147 : am_at 235 147 = some (.iaload, 1) := by decide +kernel
theorem at235_148 : am_at 235 148 = some (.iload 9, 2) := by decide +kernel
theorem at235_150 : am_at 235 150 = some (.iadd, 1) := by decide +kernel
theorem at235_151 : am_at 235 151 = some (.invokevirtual 198, 3) := by decide +kernel
theorem at235_154 : am_at 235 154 = some (.imul, 1) := by decide +kernel
theorem at235_155 : am_at 235 155 = some (.iadd, 1) := by decide +kernel
theorem at235_156 : am_at 235 156 = some (.istore 8, 2) := by decide +kernel
theorem at235_158 : am_at 235 158 = some (.iload 7, 2) := by decide +kernel
theorem at235_160 : am_at 235 160 = some (.bipush 7, 2) := by decide +kernel
theorem at235_162 : am_at 235 162 = some (.idiv, 1) := by decide +kernel
theorem at235_163 : am_at 235 163 = some (.istore 7, 2) := by decide +kernel
theorem at235_165 : am_at 235 165 = some (.iinc 9 (-1), 3) := by decide +kernel
theorem at235_168 : am_at 235 168 = some (.goto (-51), 3) := by decide +kernel
theorem at235_171 : am_at 235 171 = some (.iload 5, 2) := by decide +kernel
theorem at235_173 : am_at 235 173 = some (.iconst (-1), 1) := by decide +kernel
theorem at235_174 : am_at 235 174 = some (.if_icmp .eq 13, 3) := by decide +kernel
theorem at235_177 : am_at 235 177 = some (.iload 8, 2) := by decide +kernel
theorem at235_179 : am_at 235 179 = some (.iload 5, 2) := by decide +kernel
theorem at235_181 : am_at 235 181 = some (.if_icmp .lt 6, 3) := by decide +kernel
theorem at235_184 : am_at 235 184 = some (.goto 78, 3) := by decide +kernel
theorem at235_187 : am_at 235 187 = some (.aload_n 0, 1) := by decide +kernel
theorem at235_188 : am_at 235 188 = some (.invokevirtual 224, 3) := by decide +kernel
theorem at235_191 : am_at 235 191 = some (.iconst 0, 1) := by decide +kernel
theorem at235_192 : am_at 235 192 = some (.istore 9, 2) := by decide +kernel
theorem at235_194 : am_at 235 194 = some (.iload 9, 2) := by decide +kernel
theorem at235_196 : am_at 235 196 = some (.iload_n 3, 1) := by decide +kernel
theorem at235_197 : am_at 235 197 = some (.if_icmp .ge 25, 3) := by decide +kernel
theorem at235_200 : am_at 235 200 = some (.aload_n 0, 1) := by decide +kernel
theorem at235_201 : am_at 235 201 = some (.aload_n 0, 1) := by decide +kernel
theorem at235_202 : am_at 235 202 = some (.getfield 110422, 3) := by decide +kernel
theorem at235_205 : am_at 235 205 = some (.iload_n 1, 1) := by decide +kernel
theorem at235_206 : am_at 235 206 = some (.aload_n 0, 1) := by decide +kernel
theorem at235_207 : am_at 235 207 = some (.getfield 110532, 3) := by decide +kernel
theorem at235_210 : am_at 235 210 = some (.iload 9, 2) := by decide +kernel
theorem at235_212 : am_at 235 212 = some (.iaload, 1) := by decide +kernel
theorem at235_213 : am_at 235 213 = some (.invokevirtual 217, 3) := by decide +kernel
theorem at235_216 : am_at 235 216 = some (.iinc 9 1, 3) := by decide +kernel
theorem at235_219 : am_at 235 219 = some (.goto (-25), 3) := by decide +kernel
theorem at235_222 : am_at 235 222 = some (.iload_n 2, 1) := by decide +kernel
theorem at235_223 : am_at 235 223 = some (.aload_n 0, 1) := by decide +kernel
theorem at235_224 : am_at 235 224 = some (.aload_n 0, 1) := by decide +kernel
theorem at235_225 : am_at 235 225 = some (.getfield 110422, 3) := by decide +kernel
theorem at235_228 : am_at 235 228 = some (.iload_n 1, 1) := by decide +kernel
theorem at235_229 : am_at 235 229 = some (.invokevirtual 200, 3) := by decide +kernel
theorem at235_232 : am_at 235 232 = some (.iconst (-1), 1) := by decide +kernel
theorem at235_233 : am_at 235 233 = some (.ixor, 1) := by decide +kernel
theorem at235_234 : am_at 235 234 = some (.iand, 1) := by decide +kernel
theorem at235_235 : am_at 235 235 = some (.ifCond .eq 6, 3) := by decide +kernel
theorem at235_238 : am_at 235 238 = some (.goto 24, 3) := by decide +kernel
theorem at235_241 : am_at 235 241 = some (.iload 8, 2) := by decide +kernel
theorem at235_243 : am_at 235 243 = some (.istore 5, 2) := by decide +kernel
theorem at235_245 : am_at 235 245 = some (.aload_n 0, 1) := by decide +kernel
theorem at235_246 : am_at 235 246 = some (.iload_n 3, 1) := by decide +kernel
theorem at235_247 : am_at 235 247 = some (.putfield 110510, 3) := by decide +kernel
theorem at235_250 : am_at 235 250 = some (.aload_n 0, 1) := by decide +kernel
theorem at235_251 : am_at 235 251 = some (.aload_n 0, 1) := by decide +kernel
theorem at235_252 : am_at 235 252 = some (.getfield 110532, 3) := by decide +kernel
theorem at235_255 : am_at 235 255 = some (.aload_n 0, 1) := by decide +kernel
theorem at235_256 : am_at 235 256 = some (.getfield 110522, 3) := by decide +kernel
theorem at235_259 : am_at 235 259 = some (.invokevirtual 160, 3) := by decide +kernel
theorem at235_262 : am_at 235 262 = some (.iinc 6 1, 3) := by decide +kernel
theorem at235_265 : am_at 235 265 = some (.goto (-167), 3) := by decide +kernel
theorem at235_268 : am_at 235 268 = some (.iload 5, 2) := by decide +kernel
theorem at235_270 : am_at 235 270 = some (.ireturn, 1) := by decide +kernel
theorem at236_0 : am_at 236 0 = some (.aload_n 0, 1) := by decide +kernel
theorem at236_1 : am_at 236 1 = some (.iconst 0, 1) := by decide +kernel
theorem at236_2 : am_at 236 2 = some (.putfield 110000, 3) := by decide +kernel
theorem at236_5 : am_at 236 5 = some (.aload_n 0, 1) := by decide +kernel
theorem at236_6 : am_at 236 6 = some (.aload_n 0, 1) := by decide +kernel
theorem at236_7 : am_at 236 7 = some (.getfield 110510, 3) := by decide +kernel
theorem at236_10 : am_at 236 10 = some (.iconst (-1), 1) := by decide +kernel
theorem at236_11 : am_at 236 11 = some (.if_icmp .eq 19, 3) := by decide +kernel
theorem at236_14 : am_at 236 14 = some (.iload_n 1, 1) := by decide +kernel
theorem at236_15 : am_at 236 15 = some (.ifCond .lt 15, 3) := by decide +kernel
theorem at236_18 : am_at 236 18 = some (.iload_n 1, 1) := by decide +kernel
theorem at236_19 : am_at 236 19 = some (.aload_n 0, 1) := by decide +kernel
theorem at236_20 : am_at 236 20 = some (.getfield 110510, 3) := by decide +kernel
theorem at236_23 : am_at 236 23 = some (.if_icmp .ge 7, 3) := by decide +kernel
theorem at236_26 : am_at 236 26 = some (.iconst 1, 1) := by decide +kernel
theorem at236_27 : am_at 236 27 = some (.goto 4, 3) := by decide +kernel
theorem at236_30 : am_at 236 30 = some (.iconst 0, 1) := by decide +kernel
theorem at236_31 : am_at 236 31 = some (.iconst 1, 1) := by decide +kernel
theorem at236_32 : am_at 236 32 = some (.invokevirtual 158, 3) := by decide +kernel
theorem at236_35 : am_at 236 35 = some (.ifCond .eq 12, 3) := by decide +kernel
theorem at236_38 : am_at 236 38 = some (.aload_n 0, 1) := by decide +kernel
theorem at236_39 : am_at 236 39 = some (.getfield 110522, 3) := by decide +kernel
theorem at236_42 : am_at 236 42 = some (.iload_n 1, 1) := by decide +kernel
theorem at236_43 : am_at 236 43 = some (.iaload, 1) := by decide +kernel
theorem at236_44 : am_at 236 44 = some (.goto 4, 3) := by decide +kernel
theorem at236_47 : am_at 236 47 = some (.iconst 0, 1) := by decide +kernel
theorem at236_48 : am_at 236 48 = some (.ireturn, 1) := by decide +kernel
theorem at237_0 : am_at 237 0 = some (.aload_n 0, 1) := by decide +kernel
theorem at237_1 : am_at 237 1 = some (.iconst 0, 1) := by decide +kernel
theorem at237_2 : am_at 237 2 = some (.putfield 110000, 3) := by decide +kernel
theorem at237_5 : am_at 237 5 = some (.aload_n 0, 1) := by decide +kernel
theorem at237_6 : am_at 237 6 = some (.iload_n 1, 1) := by decide +kernel
theorem at237_7 : am_at 237 7 = some (.ifCond .lt 37, 3) := by decide +kernel
theorem at237_10 : am_at 237 10 = some (.iload_n 1, 1) := by decide +kernel
theorem at237_11 : am_at 237 11 = some (.iconst 1, 1) := by decide +kernel
theorem at237_12 : am_at 237 12 = some (.aload_n 0, 1) := by decide +kernel
theorem at237_13 : am_at 237 13 = some (.getfield 110020, 3) := by decide +kernel
theorem at237_16 : am_at 237 16 = some (.ishl, 1) := by decide +kernel
theorem at237_17 : am_at 237 17 = some (.if_icmp .ge 27, 3) := by decide +kernel
theorem at237_20 : am_at 237 20 = some (.iload_n 2, 1) := by decide +kernel
theorem at237_21 : am_at 237 21 = some (.iconst 0, 1) := by decide +kernel
theorem at237_22 : am_at 237 22 = some (.bipush 20, 2) := by decide +kernel
theorem at237_24 : am_at 237 24 = some (.invokestatic 159, 3) := by decide +kernel
theorem at237_27 : am_at 237 27 = some (.ifCond .eq 17, 3) := by decide +kernel
theorem at237_30 : am_at 237 30 = some (.iload_n 3, 1) := by decide +kernel
theorem at237_31 : am_at 237 31 = some (.iconst 1, 1) := by decide +kernel
theorem at237_32 : am_at 237 32 = some (.bipush 100, 2) := by decide +kernel
theorem at237_34 : am_at 237 34 = some (.invokestatic 159, 3) := by decide +kernel
theorem at237_37 : am_at 237 37 = some (.ifCond .eq 7, 3) := by decide +kernel
theorem at237_40 : am_at 237 40 = some (.iconst 1, 1) := by decide +kernel
theorem at237_41 : am_at 237 41 = some (.goto 4, 3) := by decide +kernel
theorem at237_44 : am_at 237 44 = some (.iconst 0, 1) := by decide +kernel
theorem at237_45 : am_at 237 45 = some (.iconst 1, 1) := by decide +kernel
theorem at237_46 : am_at 237 46 = some (.invokevirtual 158, 3) := by decide +kernel
theorem at237_49 : am_at 237 49 = some (.ifCond .ne 5, 3) := by decide +kernel
theorem at237_52 : am_at 237 52 = some (.iconst 0, 1) := by decide +kernel
theorem at237_53 : am_at 237 53 = some (.ireturn, 1) := by decide +kernel
theorem at237_54 : am_at 237 54 = some (.iconst 0, 1) := by decide +kernel
theorem at237_55 : am_at 237 55 = some (.istore 4, 2) := by decide +kernel
theorem at237_57 : am_at 237 57 = some (.iload 4, 2) := by decide +kernel
theorem at237_59 : am_at 237 59 = some (.aload_n 0, 1) := by decide +kernel
theorem at237_60 : am_at 237 60 = some (.getfield 110010, 3) := by decide +kernel
theorem at237_63 : am_at 237 63 = some (.if_icmp .ge 24, 3) := by decide +kernel
theorem at237_66 : am_at 237 66 = some (.aload_n 0, 1) := by decide +kernel
theorem at237_67 : am_at 237 67 = some (.getfield 110542, 3) := by decide +kernel
theorem at237_70 : am_at 237 70 = some (.iload 4, 2) := by decide +kernel
theorem at237_72 : am_at 237 72 = some (.aload_n 0, 1) := by decide +kernel
theorem at237_73 : am_at 237 73 = some (.iload 4, 2) := by decide +kernel
theorem at237_75 : am_at 237 75 = some (.iload_n 2, 1) := by decide +kernel
theorem at237_76 : am_at 237 76 = some (.iload_n 3, 1) := by decide +kernel
theorem at237_77 : am_at 237 77 = some (.invokevirtual 233, 3) := by decide +kernel
theorem at237_80 : am_at 237 80 = some (.iastore, 1) := by decide +kernel
theorem at237_81 : am_at 237 81 = some (.iinc 4 1, 3) := by decide +kernel
theorem at237_84 : am_at 237 84 = some (.goto (-27), 3) := by decide +kernel
theorem at237_87 : am_at 237 87 = some (.iconst (-1), 1) := by decide +kernel
theorem at237_88 : am_at 237 88 = some (.istore 4, 2) := by decide +kernel
theorem at237_90 : am_at 237 90 = some (.iconst 0, 1) := by decide +kernel
theorem at237_91 : am_at 237 91 = some (.istore 5, 2) := by decide +kernel
theorem at237_93 : am_at 237 93 = some (.iload 5, 2) := by decide +kernel
theorem at237_95 : am_at 237 95 = some (.iconst 1, 1) := by decide +kernel
theorem at237_96 : am_at 237 96 = some (.aload_n 0, 1) := by decide +kernel
theorem at237_97 : am_at 237 97 = some (.getfield 110010, 3) := by decide +kernel
theorem at237_100 : am_at 237 100 = some (.ishl, 1) := by decide +kernel
theorem at237_101 : am_at 237 101 = some (.if_icmp .ge 89, 3) := by decide +kernel
theorem at237_104 : am_at 237 104 = some (.iconst 0, 1) := by decide +kernel
theorem at237_105 : am_at 237 105 = some (.istore 6, 2) := by decide +kernel
theorem at237_107 : am_at 237 107 = some (.iconst 0, 1) := by decide +kernel
theorem at237_108 : am_at 237 108 = some (.istore 7, 2) := by decide +kernel
theorem at237_110 : am_at 237 110 = some (.iload 7, 2) := by decide +kernel
theorem at237_112 : am_at 237 112 = some (.aload_n 0, 1) := by decide +kernel
theorem at237_113 : am_at 237 113 = some (.getfield 110010, 3) := by decide +kernel
theorem at237_116 : am_at 237 116 = some (.if_icmp .ge 36, 3) := by decide +kernel
theorem at237_119 : am_at 237 119 = some (.iload 6, 2) := by decide +kernel
theorem at237_121 : am_at 237 121 = some (.iload 5, 2) := by decide +kernel
theorem at237_123 : am_at 237 123 = some (.iload 7, 2) := by decide +kernel
theorem at237_125 : am_at 237 125 = some (.ishr, 1) := by decide +kernel
theorem at237_126 : am_at 237 126 = some (.iconst 1, 1) := by decide +kernel
theorem at237_127 : am_at 237 127 = some (.iand, 1) := by decide +kernel
theorem at237_128 : am_at 237 128 = some (.iconst 1, 1) := by decide +kernel
theorem at237_129 : am_at 237 129 = some (.if_icmp .ne 13, 3) := by decide +kernel
theorem at237_132 : am_at 237 132 = some (.aload_n 0, 1) := by decide +kernel
theorem at237_133 : am_at 237 133 = some (.getfield 110542, 3) := by decide +kernel
theorem at237_136 : am_at 237 136 = some (.iload 7, 2) := by decide +kernel
theorem at237_138 : am_at 237 138 = some (.iaload, 1) := by decide +kernel
theorem at237_139 : am_at 237 139 = some (.goto 4, 3) := by decide +kernel
theorem at237_142 : am_at 237 142 = some (.iconst 0, 1) := by decide +kernel
theorem at237_143 : am_at 237 143 = some (.ior, 1) := by decide +kernel
theorem at237_144 : am_at 237 144 = some (.istore 6, 2) := by decide +kernel
theorem at237_146 : am_at 237 146 = some (.iinc 7 1, 3) := by decide +kernel
theorem at237_149 : am_at 237 149 = some (.goto (-39), 3) := by decide +kernel
theorem at237_152 : am_at 237 152 = some (.iload_n 1, 1) := by decide +kernel
theorem at237_153 : am_at 237 153 = some (.iload 6, 2) := by decide +kernel
theorem at237_155 : am_at 237 155 = some (.iconst (-1), 1) := by decide +kernel
theorem at237_156 : am_at 237 156 = some (.ixor, 1) := by decide +kernel
theorem at237_157 : am_at 237 157 = some (.iand, 1) := by decide +kernel
theorem at237_158 : am_at 237 158 = some (.ifCond .ne 26, 3) := by decide +kernel
theorem at237_161 : am_at 237 161 = some (.iload 4, 2) := by decide +kernel
theorem at237_163 : am_at 237 163 = some (.iconst (-1), 1) := by decide +kernel
theorem at237_164 : am_at 237 164 = some (.if_icmp .eq 16, 3) := by decide +kernel
theorem at237_167 : am_at 237 167 = some (.iload 5, 2) := by decide +kernel
theorem at237_169 : am_at 237 169 = some (.invokestatic 161, 3) := by decide +kernel
theorem at237_172 : am_at 237 172 = some (.iload 4, 2) := by decide +kernel
theorem at237_174 : am_at 237 174 = some (.invokestatic 161, 3) := by decide +kernel
theorem at237_177 : am_at 237 177 = some (.if_icmp .ge 7, 3) := by decide +kernel
theorem at237_180 : am_at 237 180 = some (.iload 5, 2) := by decide +kernel
theorem at237_182 : am_at 237 182 = some (.istore 4, 2) := by decide +kernel
theorem at237_184 : am_at 237 184 = some (.iinc 5 1, 3) := by decide +kernel
theorem at237_187 : am_at 237 187 = some (.goto (-94), 3) := by decide +kernel
theorem at237_190 : am_at 237 190 = some (.iload 4, 2) := by decide +kernel
theorem at237_192 : am_at 237 192 = some (.ireturn, 1) := by decide +kernel
theorem at238_0 : am_at 238 0 = some (.iconst 0, 1) := by decide +kernel
theorem at238_1 : am_at 238 1 = some (.istore_n 2, 1) := by decide +kernel
theorem at238_2 : am_at 238 2 = some (.iconst 0, 1) := by decide +kernel
theorem at238_3 : am_at 238 3 = some (.istore_n 3, 1) := by decide +kernel
theorem at238_4 : am_at 238 4 = some (.iload_n 3, 1) := by decide +kernel
theorem at238_5 : am_at 238 5 = some (.aload_n 0, 1) := by decide +kernel
theorem at238_6 : am_at 238 6 = some (.getfield 110020, 3) := by decide +kernel
theorem at238_9 : am_at 238 9 = some (.if_icmp .ge 36, 3) := by decide +kernel
theorem at238_12 : am_at 238 12 = some (.iload_n 2, 1) := by decide +kernel
theorem at238_13 : am_at 238 13 = some (.iload_n 1, 1) := by decide +kernel
theorem at238_14 : am_at 238 14 = some (.iload_n 3, 1) := by decide +kernel
theorem at238_15 : am_at 238 15 = some (.ishr, 1) := by decide +kernel
theorem at238_16 : am_at 238 16 = some (.iconst 1, 1) := by decide +kernel
theorem at238_17 : am_at 238 17 = some (.iand, 1) := by decide +kernel
theorem at238_18 : am_at 238 18 = some (.iconst 1, 1) := by decide +kernel
theorem at238_19 : am_at 238 19 = some (.if_icmp .ne 17, 3) := by decide +kernel
theorem at238_22 : am_at 238 22 = some (.aload_n 0, 1) := by decide +kernel
theorem at238_23 : am_at 238 23 = some (.getfield 110062, 3) := by decide +kernel
theorem at238_26 : am_at 238 26 = some (.bipush 6, 2) := by decide +kernel
theorem at238_28 : am_at 238 28 = some (.iload_n 3, 1) := by decide +kernel
theorem at238_29 : am_at 238 29 = some (.imul, 1) := by decide +kernel
theorem at238_30 : am_at 238 30 = some (.iconst 1, 1) := by decide +kernel
theorem at238_31 : am_at 238 31 = some (.iadd, 1) := by decide +kernel
theorem at238_32 : am_at 238 32 = some (.iaload, 1) := by decide +kernel
theorem at238_33 : am_at 238 33 = some (.goto 4, 3) := by decide +kernel
theorem at238_36 : am_at 238 36 = some (.iconst 0, 1) := by decide +kernel
theorem at238_37 : am_at 238 37 = some (.iadd, 1) := by decide +kernel
theorem at238_38 : am_at 238 38 = some (.istore_n 2, 1) := by decide +kernel
theorem at238_39 : am_at 238 39 = some (.iinc 3 1, 3) := by decide +kernel
theorem at238_42 : am_at 238 42 = some (.goto (-38), 3) := by decide +kernel
theorem at238_45 : am_at 238 45 = some (.iload_n 2, 1) := by decide +kernel
theorem at238_46 : am_at 238 46 = some (.ireturn, 1) := by decide +kernel
theorem at239_0 : am_at 239 0 = some (.aload_n 0, 1) := by decide +kernel
theorem at239_1 : am_at 239 1 = some (.iconst 0, 1) := by decide +kernel
theorem at239_2 : am_at 239 2 = some (.putfield 110000, 3) := by decide +kernel
theorem at239_5 : am_at 239 5 = some (.aload_n 0, 1) := by decide +kernel
theorem at239_6 : am_at 239 6 = some (.iload_n 1, 1) := by decide +kernel
theorem at239_7 : am_at 239 7 = some (.iconst 0, 1) := by decide +kernel
theorem at239_8 : am_at 239 8 = some (.bipush 30, 2) := by decide +kernel
theorem at239_10 : am_at 239 10 = some (.invokestatic 159, 3) := by decide +kernel
theorem at239_13 : am_at 239 13 = some (.ifCond .eq 17, 3) := by decide +kernel
theorem at239_16 : am_at 239 16 = some (.iload_n 2, 1) := by decide +kernel
theorem at239_17 : am_at 239 17 = some (.iconst 1, 1) := by decide +kernel
theorem at239_18 : am_at 239 18 = some (.bipush 100, 2) := by decide +kernel
theorem at239_20 : am_at 239 20 = some (.invokestatic 159, 3) := by decide +kernel
theorem at239_23 : am_at 239 23 = some (.ifCond .eq 7, 3) := by decide +kernel
theorem at239_26 : am_at 239 26 = some (.iconst 1, 1) := by decide +kernel
theorem at239_27 : am_at 239 27 = some (.goto 4, 3) := by decide +kernel
theorem at239_30 : am_at 239 30 = some (.iconst 0, 1) := by decide +kernel
theorem at239_31 : am_at 239 31 = some (.iconst 1, 1) := by decide +kernel
theorem at239_32 : am_at 239 32 = some (.invokevirtual 158, 3) := by decide +kernel
theorem at239_35 : am_at 239 35 = some (.ifCond .ne 5, 3) := by decide +kernel
theorem at239_38 : am_at 239 38 = some (.iconst 0, 1) := by decide +kernel
theorem at239_39 : am_at 239 39 = some (.ireturn, 1) := by decide +kernel
theorem at239_40 : am_at 239 40 = some (.iconst 0, 1) := by decide +kernel
theorem at239_41 : am_at 239 41 = some (.istore_n 3, 1) := by decide +kernel
theorem at239_42 : am_at 239 42 = some (.iload_n 3, 1) := by decide +kernel
theorem at239_43 : am_at 239 43 = some (.aload_n 0, 1) := by decide +kernel
theorem at239_44 : am_at 239 44 = some (.getfield 110010, 3) := by decide +kernel
theorem at239_47 : am_at 239 47 = some (.if_icmp .ge 49, 3) := by decide +kernel
theorem at239_50 : am_at 239 50 = some (.iconst 0, 1) := by decide +kernel
theorem at239_51 : am_at 239 51 = some (.istore 4, 2) := by decide +kernel
theorem at239_53 : am_at 239 53 = some (.iload 4, 2) := by decide +kernel
theorem at239_55 : am_at 239 55 = some (.bipush 20, 2) := by decide +kernel
theorem at239_57 : am_at 239 57 = some (.if_icmp .gt 33, 3) := by decide +kernel
theorem at239_60 : am_at 239 60 = some (.aload_n 0, 1) := by decide +kernel
theorem at239_61 : am_at 239 61 = some (.getfield 110552, 3) := by decide +kernel
theorem at239_64 : am_at 239 64 = some (.bipush 21, 2) := by decide +kernel
theorem at239_66 : am_at 239 66 = some (.iload_n 3, 1) := by decide +kernel
theorem at239_67 : am_at 239 67 = some (.imul, 1) := by decide +kernel
theorem at239_68 : am_at 239 68 = some (.iload 4, 2) := by decide +kernel
theorem at239_70 : am_at 239 70 = some (.iadd, 1) := by decide +kernel
theorem at239_71 : am_at 239 71 = some (.aload_n 0, 1) := by decide +kernel
theorem at239_72 : am_at 239 72 = some (.aload_n 0, 1) := by decide +kernel
theorem at239_73 : am_at 239 73 = some (.iload_n 3, 1) := by decide +kernel
theorem at239_74 : am_at 239 74 = some (.iload 4, 2) := by decide +kernel
theorem at239_76 : am_at 239 76 = some (.iload_n 2, 1) := by decide +kernel
theorem at239_77 : am_at 239 77 = some (.invokevirtual 233, 3) := by decide +kernel
theorem at239_80 : am_at 239 80 = some (.invokevirtual 238, 3) := by decide +kernel
theorem at239_83 : am_at 239 83 = some (.iastore, 1) := by decide +kernel
theorem at239_84 : am_at 239 84 = some (.iinc 4 1, 3) := by decide +kernel
theorem at239_87 : am_at 239 87 = some (.goto (-34), 3) := by decide +kernel
theorem at239_90 : am_at 239 90 = some (.iinc 3 1, 3) := by decide +kernel
theorem at239_93 : am_at 239 93 = some (.goto (-51), 3) := by decide +kernel
theorem at239_96 : am_at 239 96 = some (.iconst 0, 1) := by decide +kernel
theorem at239_97 : am_at 239 97 = some (.istore_n 3, 1) := by decide +kernel
theorem at239_98 : am_at 239 98 = some (.iload_n 3, 1) := by decide +kernel
theorem at239_99 : am_at 239 99 = some (.bipush 30, 2) := by decide +kernel
theorem at239_101 : am_at 239 101 = some (.if_icmp .gt 32, 3) := by decide +kernel
theorem at239_104 : am_at 239 104 = some (.aload_n 0, 1) := by decide +kernel
theorem at239_105 : am_at 239 105 = some (.getfield 110562, 3) := by decide +kernel
theorem at239_108 : am_at 239 108 = some (.bipush 31, 2) := by decide +kernel
theorem at239_110 : am_at 239 110 = some (.aload_n 0, 1) := by decide +kernel
theorem at239_111 : am_at 239 111 = some (.getfield 110010, 3) := by decide +kernel
theorem at239_114 : am_at 239 114 = some (.imul, 1) := by decide +kernel
theorem at239_115 : am_at 239 115 = some (.iload_n 3, 1) := by decide +kernel
theorem at239_116 : am_at 239 116 = some (.iadd, 1) := by decide +kernel
theorem at239_117 : am_at 239 117 = some (.iload_n 3, 1) := by decide +kernel
theorem at239_118 : am_at 239 118 = some (.ifCond .ne 7, 3) := by decide +kernel
theorem at239_121 : am_at 239 121 = some (.iconst 0, 1) := by decide +kernel
theorem at239_122 : am_at 239 122 = some (.goto 4, 3) := by decide +kernel
theorem at239_125 : am_at 239 125 = some (.iconst (-1), 1) := by decide +kernel
theorem at239_126 : am_at 239 126 = some (.iastore, 1) := by decide +kernel
theorem at239_127 : am_at 239 127 = some (.iinc 3 1, 3) := by decide +kernel
theorem at239_130 : am_at 239 130 = some (.goto (-32), 3) := by decide +kernel
theorem at239_133 : am_at 239 133 = some (.aload_n 0, 1) := by decide +kernel
theorem at239_134 : am_at 239 134 = some (.getfield 110010, 3) := by decide +kernel
theorem at239_137 : am_at 239 137 = some (.iconst 1, 1) := by decide +kernel
theorem at239_138 : am_at 239 138 = some (.isub, 1) := by decide +kernel
theorem at239_139 : am_at 239 139 = some (.istore_n 3, 1) := by decide +kernel
theorem at239_140 : am_at 239 140 = some (.iload_n 3, 1) := by decide +kernel
theorem at239_141 : am_at 239 141 = some (.ifCond .lt 127, 3) := by decide +kernel
theorem at239_144 : am_at 239 144 = some (.iconst 0, 1) := by decide +kernel
theorem at239_145 : am_at 239 145 = some (.istore 4, 2) := by decide +kernel
theorem at239_147 : am_at 239 147 = some (.iload 4, 2) := by decide +kernel
theorem at239_149 : am_at 239 149 = some (.bipush 30, 2) := by decide +kernel
theorem at239_151 : am_at 239 151 = some (.if_icmp .gt 111, 3) := by decide +kernel
theorem at239_154 : am_at 239 154 = some (.iconst (-1), 1) := by decide +kernel
theorem at239_155 : am_at 239 155 = some (.istore 5, 2) := by decide +kernel
theorem at239_157 : am_at 239 157 = some (.iconst 0, 1) := by decide +kernel
theorem at239_158 : am_at 239 158 = some (.istore 6, 2) := by decide +kernel
theorem at239_160 : am_at 239 160 = some (.iload 6, 2) := by decide +kernel
theorem at239_162 : am_at 239 162 = some (.bipush 20, 2) := by decide +kernel
theorem at239_164 : am_at 239 164 = some (.if_icmp .gt 78, 3) := by decide +kernel
theorem at239_167 : am_at 239 167 = some (.iload 6, 2) := by decide +kernel
theorem at239_169 : am_at 239 169 = some (.iload 4, 2) := by decide +kernel
theorem at239_171 : am_at 239 171 = some (.if_icmp .gt 71, 3) := by decide +kernel
theorem at239_174 : am_at 239 174 = some (.aload_n 0, 1) := by decide +kernel
theorem at239_175 : am_at 239 175 = some (.getfield 110562, 3) := by decide +kernel
theorem at239_178 : am_at 239 178 = some (.bipush 31, 2) := by decide +kernel
theorem at239_180 : am_at 239 180 = some (.iload_n 3, 1) := by decide +kernel
theorem at239_181 : am_at 239 181 = some (.iconst 1, 1) := by decide +kernel
theorem at239_182 : am_at 239 182 = some (.iadd, 1) := by decide +kernel
theorem at239_183 : am_at 239 183 = some (.imul, 1) := by decide +kernel
theorem at239_184 : am_at 239 184 = some (.iload 4, 2) := by decide +kernel
theorem at239_186 : am_at 239 186 = some (.iadd, 1) := by decide +kernel
theorem at239_187 : am_at 239 187 = some (.iload 6, 2) := by decide +kernel
theorem at239_189 : am_at 239 189 = some (.isub, 1) := by decide +kernel
theorem at239_190 : am_at 239 190 = some (.iaload, 1) := by decide +kernel
theorem at239_191 : am_at 239 191 = some (.istore 7, 2) := by decide +kernel
theorem at239_193 : am_at 239 193 = some (.iload 7, 2) := by decide +kernel
theorem at239_195 : am_at 239 195 = some (.iconst (-1), 1) := by decide +kernel
theorem at239_196 : am_at 239 196 = some (.if_icmp .eq 40, 3) := by decide +kernel
theorem at239_199 : am_at 239 199 = some (.aload_n 0, 1) := by decide +kernel
theorem at239_200 : am_at 239 200 = some (.getfield 110552, 3) := by decide +kernel
theorem at239_203 : am_at 239 203 = some (.bipush 21, 2) := by decide +kernel
theorem at239_205 : am_at 239 205 = some (.iload_n 3, 1) := by decide +kernel
theorem at239_206 : am_at 239 206 = some (.imul, 1) := by decide +kernel
theorem at239_207 : am_at 239 207 = some (.iload 6, 2) := by decide +kernel
theorem at239_209 : am_at 239 209 = some (.iadd, 1) := by decide +kernel
theorem at239_210 : am_at 239 210 = some (.iaload, 1) := by decide +kernel
theorem at239_211 : am_at 239 211 = some (.iload 7, 2) := by decide +kernel
theorem at239_213 : am_at 239 213 = some (.iadd, 1) := by decide +kernel
theorem at239_214 : am_at 239 214 = some (.iload 5, 2) := by decide +kernel
theorem at239_216 : am_at 239 216 = some (.if_icmp .le 20, 3) := by decide +kernel
theorem at239_219 : am_at 239 219 = some (.aload_n 0, 1) := by decide +kernel
theorem at239_220 : am_at 239 220 = some (.getfield 110552, 3) := by decide +kernel
theorem at239_223 : am_at 239 223 = some (.bipush 21, 2) := by decide +kernel
theorem at239_225 : am_at 239 225 = some (.iload_n 3, 1) := by decide +kernel
theorem at239_226 : am_at 239 226 = some (.imul, 1) := by decide +kernel
theorem at239_227 : am_at 239 227 = some (.iload 6, 2) := by decide +kernel
theorem at239_229 : am_at 239 229 = some (.iadd, 1) := by decide +kernel
theorem at239_230 : am_at 239 230 = some (.iaload, 1) := by decide +kernel
theorem at239_231 : am_at 239 231 = some (.iload 7, 2) := by decide +kernel
theorem at239_233 : am_at 239 233 = some (.iadd, 1) := by decide +kernel
theorem at239_234 : am_at 239 234 = some (.istore 5, 2) := by decide +kernel
theorem at239_236 : am_at 239 236 = some (.iinc 6 1, 3) := by decide +kernel
theorem at239_239 : am_at 239 239 = some (.goto (-79), 3) := by decide +kernel
theorem at239_242 : am_at 239 242 = some (.aload_n 0, 1) := by decide +kernel
theorem at239_243 : am_at 239 243 = some (.getfield 110562, 3) := by decide +kernel
theorem at239_246 : am_at 239 246 = some (.bipush 31, 2) := by decide +kernel
theorem at239_248 : am_at 239 248 = some (.iload_n 3, 1) := by decide +kernel
theorem at239_249 : am_at 239 249 = some (.imul, 1) := by decide +kernel
theorem at239_250 : am_at 239 250 = some (.iload 4, 2) := by decide +kernel
theorem at239_252 : am_at 239 252 = some (.iadd, 1) := by decide +kernel
theorem at239_253 : am_at 239 253 = some (.iload 5, 2) := by decide +kernel
theorem at239_255 : am_at 239 255 = some (.iastore, 1) := by decide +kernel
theorem at239_256 : am_at 239 256 = some (.iinc 4 1, 3) := by decide +kernel
theorem at239_259 : am_at 239 259 = some (.goto (-112), 3) := by decide +kernel
theorem at239_262 : am_at 239 262 = some (.iinc 3 (-1), 3) := by decide +kernel
theorem at239_265 : am_at 239 265 = some (.goto (-125), 3) := by decide +kernel
theorem at239_268 : am_at 239 268 = some (.iconst 0, 1) := by decide +kernel
theorem at239_269 : am_at 239 269 = some (.istore_n 3, 1) := by decide +kernel
theorem at239_270 : am_at 239 270 = some (.iconst 1, 1) := by decide +kernel
theorem at239_271 : am_at 239 271 = some (.istore 4, 2) := by decide +kernel
theorem at239_273 : am_at 239 273 = some (.iload 4, 2) := by decide +kernel
theorem at239_275 : am_at 239 275 = some (.iload_n 1, 1) := by decide +kernel
theorem at239_276 : am_at 239 276 = some (.if_icmp .gt 28, 3) := by decide +kernel
theorem at239_279 : am_at 239 279 = some (.aload_n 0, 1) := by decide +kernel
theorem at239_280 : am_at 239 280 = some (.getfield 110562, 3) := by decide +kernel
theorem at239_283 : am_at 239 283 = some (.iload 4, 2) := by decide +kernel
theorem at239_285 : am_at 239 285 = some (.iaload, 1) := by decide +kernel
theorem at239_286 : am_at 239 286 = some (.aload_n 0, 1) := by decide +kernel
theorem at239_287 : am_at 239 287 = some (.getfield 110562, 3) := by decide +kernel
theorem at239_290 : am_at 239 290 = some (.iload_n 3, 1) := by decide +kernel
theorem at239_291 : am_at 239 291 = some (.iaload, 1) := by decide +kernel
theorem at239_292 : am_at 239 292 = some (.if_icmp .le 6, 3) := by decide +kernel
theorem at239_295 : am_at 239 295 = some (.iload 4, 2) := by decide +kernel
theorem at239_297 : am_at 239 297 = some (.istore_n 3, 1) := by decide +kernel
theorem at239_298 : am_at 239 298 = some (.iinc 4 1, 3) := by decide +kernel
theorem at239_301 : am_at 239 301 = some (.goto (-28), 3) := by decide +kernel
theorem at239_304 : am_at 239 304 = some (.iload_n 3, 1) := by decide +kernel
theorem at239_305 : am_at 239 305 = some (.istore 4, 2) := by decide +kernel
theorem at239_307 : am_at 239 307 = some (.iconst 0, 1) := by decide +kernel
theorem at239_308 : am_at 239 308 = some (.istore 5, 2) := by decide +kernel
theorem at239_310 : am_at 239 310 = some (.iload 5, 2) := by decide +kernel
theorem at239_312 : am_at 239 312 = some (.aload_n 0, 1) := by decide +kernel
theorem at239_313 : am_at 239 313 = some (.getfield 110010, 3) := by decide +kernel
theorem at239_316 : am_at 239 316 = some (.if_icmp .ge 104, 3) := by decide +kernel
theorem at239_319 : am_at 239 319 = some (.iconst 0, 1) := by decide +kernel
theorem at239_320 : am_at 239 320 = some (.istore 6, 2) := by decide +kernel
theorem at239_322 : am_at 239 322 = some (.aload_n 0, 1) := by decide +kernel
theorem at239_323 : am_at 239 323 = some (.getfield 110562, 3) := by decide +kernel
theorem at239_326 : am_at 239 326 = some (.bipush 31, 2) := by decide +kernel
theorem at239_328 : am_at 239 328 = some (.iload 5, 2) := by decide +kernel
theorem at239_330 : am_at 239 330 = some (.iconst 1, 1) := by decide +kernel
theorem at239_331 : am_at 239 331 = some (.iadd, 1) := by decide +kernel
theorem at239_332 : am_at 239 332 = some (.imul, 1) := by decide +kernel
theorem at239_333 : am_at 239 333 = some (.iload 4, 2) := by decide +kernel
theorem at239_335 : am_at 239 335 = some (.iadd, 1) := by decide +kernel
theorem at239_336 : am_at 239 336 = some (.iload 6, 2) := by decide +kernel
theorem at239_338 : am_at 239 338 = some (.isub, 1) := by decide +kernel
theorem at239_339 : am_at 239 339 = some (.iaload, 1) := by decide +kernel
theorem at239_340 : am_at 239 340 = some (.iconst (-1), 1) := by decide +kernel
theorem at239_341 : am_at 239 341 = some (.if_icmp .eq 51, 3) := by decide +kernel
theorem at239_344 : am_at 239 344 = some (.aload_n 0, 1) := by decide +kernel
theorem at239_345 : am_at 239 345 = some (.getfield 110552, 3) := by decide +kernel
theorem at239_348 : am_at 239 348 = some (.bipush 21, 2) := by decide +kernel
theorem at239_350 : am_at 239 350 = some (.iload 5, 2) := by decide +kernel
theorem at239_352 : am_at 239 352 = some (.imul, 1) := by decide +kernel
theorem at239_353 : am_at 239 353 = some (.iload 6, 2) := by decide +kernel
theorem at239_355 : am_at 239 355 = some (.iadd, 1) := by decide +kernel
theorem at239_356 : am_at 239 356 = some (.iaload, 1) := by decide +kernel
theorem at239_357 : am_at 239 357 = some (.aload_n 0, 1) := by decide +kernel
theorem at239_358 : am_at 239 358 = some (.getfield 110562, 3) := by decide +kernel
theorem at239_361 : am_at 239 361 = some (.bipush 31, 2) := by decide +kernel
theorem at239_363 : am_at 239 363 = some (.iload 5, 2) := by decide +kernel
theorem at239_365 : am_at 239 365 = some (.iconst 1, 1) := by decide +kernel
theorem at239_366 : am_at 239 366 = some (.iadd, 1) := by decide +kernel
theorem at239_367 : am_at 239 367 = some (.imul, 1) := by decide +kernel
theorem at239_368 : am_at 239 368 = some (.iload 4, 2) := by decide +kernel
theorem at239_370 : am_at 239 370 = some (.iadd, 1) := by decide +kernel
theorem at239_371 : am_at 239 371 = some (.iload 6, 2) := by decide +kernel
theorem at239_373 : am_at 239 373 = some (.isub, 1) := by decide +kernel
theorem at239_374 : am_at 239 374 = some (.iaload, 1) := by decide +kernel
theorem at239_375 : am_at 239 375 = some (.iadd, 1) := by decide +kernel
theorem at239_376 : am_at 239 376 = some (.aload_n 0, 1) := by decide +kernel
theorem at239_377 : am_at 239 377 = some (.getfield 110562, 3) := by decide +kernel
theorem at239_380 : am_at 239 380 = some (.bipush 31, 2) := by decide +kernel
theorem at239_382 : am_at 239 382 = some (.iload 5, 2) := by decide +kernel
theorem at239_384 : am_at 239 384 = some (.imul, 1) := by decide +kernel
theorem at239_385 : am_at 239 385 = some (.iload 4, 2) := by decide +kernel
theorem at239_387 : am_at 239 387 = some (.iadd, 1) := by decide +kernel
theorem at239_388 : am_at 239 388 = some (.iaload, 1) := by decide +kernel
theorem at239_389 : am_at 239 389 = some (.if_icmp .eq 9, 3) := by decide +kernel
theorem at239_392 : am_at 239 392 = some (.iinc 6 1, 3) := by decide +kernel
theorem at239_395 : am_at 239 395 = some (.goto (-73), 3) := by decide +kernel
theorem at239_398 : am_at 239 398 = some (.aload_n 0, 1) := by decide +kernel
theorem at239_399 : am_at 239 399 = some (.getfield 110572, 3) := by decide +kernel
theorem at239_402 : am_at 239 402 = some (.iload 5, 2) := by decide +kernel
theorem at239_404 : am_at 239 404 = some (.iload 6, 2) := by decide +kernel
theorem at239_406 : am_at 239 406 = some (.iastore, 1) := by decide +kernel
theorem at239_407 : am_at 239 407 = some (.iload 4, 2) := by decide +kernel
theorem at239_409 : am_at 239 409 = some (.iload 6, 2) := by decide +kernel
theorem at239_411 : am_at 239 411 = some (.isub, 1) := by decide +kernel
theorem at239_412 : am_at 239 412 = some (.istore 4, 2) := by decide +kernel
theorem at239_414 : am_at 239 414 = some (.iinc 5 1, 3) := by decide +kernel
theorem at239_417 : am_at 239 417 = some (.goto (-107), 3) := by decide +kernel
theorem at239_420 : am_at 239 420 = some (.aload_n 0, 1) := by decide +kernel
theorem at239_421 : am_at 239 421 = some (.iconst 1, 1) := by decide +kernel
theorem at239_422 : am_at 239 422 = some (.putfield 110581, 3) := by decide +kernel
theorem at239_425 : am_at 239 425 = some (.aload_n 0, 1) := by decide +kernel
theorem at239_426 : am_at 239 426 = some (.getfield 110562, 3) := by decide +kernel
theorem at239_429 : am_at 239 429 = some (.iload_n 3, 1) := by decide +kernel
theorem at239_430 : am_at 239 430 = some (.iaload, 1) := by decide +kernel
theorem at239_431 : am_at 239 431 = some (.ireturn, 1) := by decide +kernel
theorem at240_0 : am_at 240 0 = some (.aload_n 0, 1) := by decide +kernel
theorem at240_1 : am_at 240 1 = some (.iconst 0, 1) := by decide +kernel
theorem at240_2 : am_at 240 2 = some (.putfield 110000, 3) := by decide +kernel
theorem at240_5 : am_at 240 5 = some (.aload_n 0, 1) := by decide +kernel
theorem at240_6 : am_at 240 6 = some (.iload_n 1, 1) := by decide +kernel
theorem at240_7 : am_at 240 7 = some (.invokevirtual 204, 3) := by decide +kernel
theorem at240_10 : am_at 240 10 = some (.ifCond .eq 24, 3) := by decide +kernel
theorem at240_13 : am_at 240 13 = some (.aload_n 0, 1) := by decide +kernel
theorem at240_14 : am_at 240 14 = some (.aload_n 0, 1) := by decide +kernel
theorem at240_15 : am_at 240 15 = some (.getfield 110581, 3) := by decide +kernel
theorem at240_18 : am_at 240 18 = some (.iconst 1, 1) := by decide +kernel
theorem at240_19 : am_at 240 19 = some (.invokevirtual 158, 3) := by decide +kernel
theorem at240_22 : am_at 240 22 = some (.ifCond .eq 12, 3) := by decide +kernel
theorem at240_25 : am_at 240 25 = some (.aload_n 0, 1) := by decide +kernel
theorem at240_26 : am_at 240 26 = some (.getfield 110572, 3) := by decide +kernel
theorem at240_29 : am_at 240 29 = some (.iload_n 1, 1) := by decide +kernel
theorem at240_30 : am_at 240 30 = some (.iaload, 1) := by decide +kernel
theorem at240_31 : am_at 240 31 = some (.goto 4, 3) := by decide +kernel
theorem at240_34 : am_at 240 34 = some (.iconst 0, 1) := by decide +kernel
theorem at240_35 : am_at 240 35 = some (.ireturn, 1) := by decide +kernel
theorem at241_0 : am_at 241 0 = some (.iconst 0, 1) := by decide +kernel
theorem at241_1 : am_at 241 1 = some (.istore_n 2, 1) := by decide +kernel
theorem at241_2 : am_at 241 2 = some (.iconst 0, 1) := by decide +kernel
theorem at241_3 : am_at 241 3 = some (.istore_n 3, 1) := by decide +kernel
theorem at241_4 : am_at 241 4 = some (.iload_n 3, 1) := by decide +kernel
theorem at241_5 : am_at 241 5 = some (.aload_n 0, 1) := by decide +kernel
theorem at241_6 : am_at 241 6 = some (.getfield 110030, 3) := by decide +kernel
theorem at241_9 : am_at 241 9 = some (.if_icmp .ge 67, 3) := by decide +kernel
theorem at241_12 : am_at 241 12 = some (.iconst 1, 1) := by decide +kernel
theorem at241_13 : am_at 241 13 = some (.aload_n 0, 1) := by decide +kernel
theorem at241_14 : am_at 241 14 = some (.getfield 110072, 3) := by decide +kernel
theorem at241_17 : am_at 241 17 = some (.iconst 2, 1) := by decide +kernel
theorem at241_18 : am_at 241 18 = some (.iload_n 3, 1) := by decide +kernel
theorem at241_19 : am_at 241 19 = some (.imul, 1) := by decide +kernel
theorem at241_20 : am_at 241 20 = some (.iaload, 1) := by decide +kernel
theorem at241_21 : am_at 241 21 = some (.ishl, 1) := by decide +kernel
theorem at241_22 : am_at 241 22 = some (.istore 4, 2) := by decide +kernel
theorem at241_24 : am_at 241 24 = some (.iconst 1, 1) := by decide +kernel
theorem at241_25 : am_at 241 25 = some (.aload_n 0, 1) := by decide +kernel
theorem at241_26 : am_at 241 26 = some (.getfield 110072, 3) := by decide +kernel
theorem at241_29 : am_at 241 29 = some (.iconst 2, 1) := by decide +kernel
theorem at241_30 : am_at 241 30 = some (.iload_n 3, 1) := by decide +kernel
theorem at241_31 : am_at 241 31 = some (.imul, 1) := by decide +kernel
theorem at241_32 : am_at 241 32 = some (.iconst 1, 1) := by decide +kernel
theorem at241_33 : am_at 241 33 = some (.iadd, 1) := by decide +kernel
theorem at241_34 : am_at 241 34 = some (.iaload, 1) := by decide +kernel
theorem at241_35 : am_at 241 35 = some (.ishl, 1) := by decide +kernel
theorem at241_36 : am_at 241 36 = some (.istore 5, 2) := by decide +kernel
theorem at241_38 : am_at 241 38 = some (.iload_n 2, 1) := by decide +kernel
theorem at241_39 : am_at 241 39 = some (.iload_n 1, 1) := by decide +kernel
theorem at241_40 : am_at 241 40 = some (.iload 4, 2) := by decide +kernel
theorem at241_42 : am_at 241 42 = some (.iand, 1) := by decide +kernel
theorem at241_43 : am_at 241 43 = some (.ifCond .eq 8, 3) := by decide +kernel
theorem at241_46 : am_at 241 46 = some (.iload 5, 2) := by decide +kernel
theorem at241_48 : am_at 241 48 = some (.goto 4, 3) := by decide +kernel
theorem at241_51 : am_at 241 51 = some (.iconst 0, 1) := by decide +kernel
theorem at241_52 : am_at 241 52 = some (.ior, 1) := by decide +kernel
theorem at241_53 : am_at 241 53 = some (.istore_n 2, 1) := by decide +kernel
theorem at241_54 : am_at 241 54 = some (.iload_n 2, 1) := by decide +kernel
theorem at241_55 : am_at 241 55 = some (.iload_n 1, 1) := by decide +kernel
theorem at241_56 : am_at 241 56 = some (.iload 5, 2) := by decide +kernel
theorem at241_58 : am_at 241 58 = some (.iand, 1) := by decide +kernel
theorem at241_59 : am_at 241 59 = some (.ifCond .eq 8, 3) := by decide +kernel
theorem at241_62 : am_at 241 62 = some (.iload 4, 2) := by decide +kernel
theorem at241_64 : am_at 241 64 = some (.goto 4, 3) := by decide +kernel
theorem at241_67 : am_at 241 67 = some (.iconst 0, 1) := by decide +kernel
theorem at241_68 : am_at 241 68 = some (.ior, 1) := by decide +kernel
theorem at241_69 : am_at 241 69 = some (.istore_n 2, 1) := by decide +kernel
theorem at241_70 : am_at 241 70 = some (.iinc 3 1, 3) := by decide +kernel
theorem at241_73 : am_at 241 73 = some (.goto (-69), 3) := by decide +kernel
theorem at241_76 : am_at 241 76 = some (.iload_n 2, 1) := by decide +kernel
theorem at241_77 : am_at 241 77 = some (.ireturn, 1) := by decide +kernel
theorem at242_0 : am_at 242 0 = some (.iload_n 1, 1) := by decide +kernel
theorem at242_1 : am_at 242 1 = some (.istore_n 3, 1) := by decide +kernel
theorem at242_2 : am_at 242 2 = some (.iconst 0, 1) := by decide +kernel
theorem at242_3 : am_at 242 3 = some (.istore 4, 2) := by decide +kernel
theorem at242_5 : am_at 242 5 = some (.iload 4, 2) := by decide +kernel
theorem at242_7 : am_at 242 7 = some (.aload_n 0, 1) := by decide +kernel
theorem at242_8 : am_at 242 8 = some (.getfield 110010, 3) := by decide +kernel
theorem at242_11 : am_at 242 11 = some (.if_icmp .gt 29, 3) := by decide +kernel
theorem at242_14 : am_at 242 14 = some (.iload_n 3, 1) := by decide +kernel
theorem at242_15 : am_at 242 15 = some (.iload_n 2, 1) := by decide +kernel
theorem at242_16 : am_at 242 16 = some (.ishr, 1) := by decide +kernel
theorem at242_17 : am_at 242 17 = some (.iconst 1, 1) := by decide +kernel
theorem at242_18 : am_at 242 18 = some (.iand, 1) := by decide +kernel
theorem at242_19 : am_at 242 19 = some (.iconst 1, 1) := by decide +kernel
theorem at242_20 : am_at 242 20 = some (.if_icmp .ne 6, 3) := by decide +kernel
theorem at242_23 : am_at 242 23 = some (.iload 4, 2) := by decide +kernel
theorem at242_25 : am_at 242 25 = some (.ireturn, 1) := by decide +kernel
theorem at242_26 : am_at 242 26 = some (.iload_n 3, 1) := by decide +kernel
theorem at242_27 : am_at 242 27 = some (.aload_n 0, 1) := by decide +kernel
theorem at242_28 : am_at 242 28 = some (.iload_n 3, 1) := by decide +kernel
theorem at242_29 : am_at 242 29 = some (.invokevirtual 241, 3) := by decide +kernel
theorem at242_32 : am_at 242 32 = some (.ior, 1) := by decide +kernel
theorem at242_33 : am_at 242 33 = some (.istore_n 3, 1) := by decide +kernel
theorem at242_34 : am_at 242 34 = some (.iinc 4 1, 3) := by decide +kernel
theorem at242_37 : am_at 242 37 = some (.goto (-32), 3) := by decide +kernel
theorem at242_40 : am_at 242 40 = some (.iconst (-1), 1) := by decide +kernel
theorem at242_41 : am_at 242 41 = some (.ireturn, 1) := by decide +kernel
theorem at243_0 : am_at 243 0 = some (.aload_n 0, 1) := by decide +kernel
theorem at243_1 : am_at 243 1 = some (.iconst 0, 1) := by decide +kernel
theorem at243_2 : am_at 243 2 = some (.putfield 110000, 3) := by decide +kernel
theorem at243_5 : am_at 243 5 = some (.aload_n 0, 1) := by decide +kernel
theorem at243_6 : am_at 243 6 = some (.iload_n 1, 1) := by decide +kernel
theorem at243_7 : am_at 243 7 = some (.invokevirtual 205, 3) := by decide +kernel
theorem at243_10 : am_at 243 10 = some (.ifCond .eq 28, 3) := by decide +kernel
theorem at243_13 : am_at 243 13 = some (.aload_n 0, 1) := by decide +kernel
theorem at243_14 : am_at 243 14 = some (.iload_n 2, 1) := by decide +kernel
theorem at243_15 : am_at 243 15 = some (.invokevirtual 204, 3) := by decide +kernel
theorem at243_18 : am_at 243 18 = some (.ifCond .eq 20, 3) := by decide +kernel
theorem at243_21 : am_at 243 21 = some (.aload_n 0, 1) := by decide +kernel
theorem at243_22 : am_at 243 22 = some (.aload_n 0, 1) := by decide +kernel
theorem at243_23 : am_at 243 23 = some (.aload_n 0, 1) := by decide +kernel
theorem at243_24 : am_at 243 24 = some (.getfield 110412, 3) := by decide +kernel
theorem at243_27 : am_at 243 27 = some (.iload_n 1, 1) := by decide +kernel
theorem at243_28 : am_at 243 28 = some (.invokevirtual 201, 3) := by decide +kernel
theorem at243_31 : am_at 243 31 = some (.iload_n 2, 1) := by decide +kernel
theorem at243_32 : am_at 243 32 = some (.invokevirtual 242, 3) := by decide +kernel
theorem at243_35 : am_at 243 35 = some (.goto 4, 3) := by decide +kernel
theorem at243_38 : am_at 243 38 = some (.iconst 0, 1) := by decide +kernel
theorem at243_39 : am_at 243 39 = some (.ireturn, 1) := by decide +kernel
theorem at244_0 : am_at 244 0 = some (.aload_n 0, 1) := by decide +kernel
theorem at244_1 : am_at 244 1 = some (.iconst 0, 1) := by decide +kernel
theorem at244_2 : am_at 244 2 = some (.putfield 110000, 3) := by decide +kernel
theorem at244_5 : am_at 244 5 = some (.aload_n 0, 1) := by decide +kernel
theorem at244_6 : am_at 244 6 = some (.iload_n 1, 1) := by decide +kernel
theorem at244_7 : am_at 244 7 = some (.invokevirtual 205, 3) := by decide +kernel
theorem at244_10 : am_at 244 10 = some (.ifCond .ne 5, 3) := by decide +kernel
theorem at244_13 : am_at 244 13 = some (.iconst 0, 1) := by decide +kernel
theorem at244_14 : am_at 244 14 = some (.ireturn, 1) := by decide +kernel
theorem at244_15 : am_at 244 15 = some (.iconst (-1), 1) := by decide +kernel
theorem at244_16 : am_at 244 16 = some (.istore_n 2, 1) := by decide +kernel
theorem at244_17 : am_at 244 17 = some (.iconst 0, 1) := by decide +kernel
theorem at244_18 : am_at 244 18 = some (.istore_n 3, 1) := by decide +kernel
theorem at244_19 : am_at 244 19 = some (.iconst 0, 1) := by decide +kernel
theorem at244_20 : am_at 244 20 = some (.istore 4, 2) := by decide +kernel
theorem at244_22 : am_at 244 22 = some (.iconst 0, 1) := by decide +kernel
theorem at244_23 : am_at 244 23 = some (.istore 5, 2) := by decide +kernel
theorem at244_25 : am_at 244 25 = some (.iload 5, 2) := by decide +kernel
theorem at244_27 : am_at 244 27 = some (.aload_n 0, 1) := by decide +kernel
theorem at244_28 : am_at 244 28 = some (.getfield 110010, 3) := by decide +kernel
theorem at244_31 : am_at 244 31 = some (.if_icmp .ge 138, 3) := by decide +kernel
theorem at244_34 : am_at 244 34 = some (.aload_n 0, 1) := by decide +kernel
theorem at244_35 : am_at 244 35 = some (.getfield 110412, 3) := by decide +kernel
theorem at244_38 : am_at 244 38 = some (.iload 5, 2) := by decide +kernel
theorem at244_40 : am_at 244 40 = some (.iload_n 1, 1) := by decide +kernel
theorem at244_41 : am_at 244 41 = some (.invokestatic 199, 3) := by decide +kernel
theorem at244_44 : am_at 244 44 = some (.ifCond .ne 6, 3) := by decide +kernel
theorem at244_47 : am_at 244 47 = some (.goto 116, 3) := by decide +kernel
theorem at244_50 : am_at 244 50 = some (.iconst 0, 1) := by decide +kernel
theorem at244_51 : am_at 244 51 = some (.istore 6, 2) := by decide +kernel
theorem at244_53 : am_at 244 53 = some (.iconst 0, 1) := by decide +kernel
theorem at244_54 : am_at 244 54 = some (.istore 7, 2) := by decide +kernel
theorem at244_56 : am_at 244 56 = some (.iconst 0, 1) := by decide +kernel
theorem at244_57 : am_at 244 57 = some (.istore 8, 2) := by decide +kernel
theorem at244_59 : am_at 244 59 = some (.iload 8, 2) := by decide +kernel
theorem at244_61 : am_at 244 61 = some (.aload_n 0, 1) := by decide +kernel
theorem at244_62 : am_at 244 62 = some (.getfield 110010, 3) := by decide +kernel
theorem at244_65 : am_at 244 65 = some (.if_icmp .ge 61, 3) := by decide +kernel
theorem at244_68 : am_at 244 68 = some (.aload_n 0, 1) := by decide +kernel
theorem at244_69 : am_at 244 69 = some (.iconst 1, 1) := by decide +kernel
theorem at244_70 : am_at 244 70 = some (.iload 5, 2) := by decide +kernel
theorem at244_72 : am_at 244 72 = some (.ishl, 1) := by decide +kernel
theorem at244_73 : am_at 244 73 = some (.iload 8, 2) := by decide +kernel
theorem at244_75 : am_at 244 75 = some (.invokevirtual 242, 3) := by decide +kernel
theorem at244_78 : am_at 244 78 = some (.istore 9, 2) := by decide +kernel
theorem at244_80 : am_at 244 80 = some (.iload 6, 2) := by decide +kernel
theorem at244_82 : am_at 244 82 = some (.iload 8, 2) := by decide +kernel
theorem at244_84 : am_at 244 84 = some (.iload 5, 2) := by decide +kernel
theorem at244_86 : am_at 244 86 = some (.if_icmp .eq 13, 3) := by decide +kernel
theorem at244_89 : am_at 244 89 = some (.iload 9, 2) := by decide +kernel
theorem at244_91 : am_at 244 91 = some (.iconst (-1), 1) := by decide +kernel
theorem at244_92 : am_at 244 92 = some (.if_icmp .eq 7, 3) := by decide +kernel
theorem at244_95 : am_at 244 95 = some (.iconst 1, 1) := by decide +kernel
theorem at244_96 : am_at 244 96 = some (.goto 4, 3) := by decide +kernel
theorem at244_99 : am_at 244 99 = some (.iconst 0, 1) := by decide +kernel
theorem at244_100 : am_at 244 100 = some (.iadd, 1) := by decide +kernel
theorem at244_101 : am_at 244 101 = some (.istore 6, 2) := by decide +kernel
theorem at244_103 : am_at 244 103 = some (.iload 7, 2) := by decide +kernel
theorem at244_105 : am_at 244 105 = some (.iload 9, 2) := by decide +kernel
theorem at244_107 : am_at 244 107 = some (.iconst (-1), 1) := by decide +kernel
theorem at244_108 : am_at 244 108 = some (.if_icmp .ne 7, 3) := by decide +kernel
theorem at244_111 : am_at 244 111 = some (.iconst 0, 1) := by decide +kernel
theorem at244_112 : am_at 244 112 = some (.goto 5, 3) := by decide +kernel
theorem at244_115 : am_at 244 115 = some (.iload 9, 2) := by decide +kernel
theorem at244_117 : am_at 244 117 = some (.iadd, 1) := by decide +kernel
theorem at244_118 : am_at 244 118 = some (.istore 7, 2) := by decide +kernel
theorem at244_120 : am_at 244 120 = some (.iinc 8 1, 3) := by decide +kernel
theorem at244_123 : am_at 244 123 = some (.goto (-64), 3) := by decide +kernel
theorem at244_126 : am_at 244 126 = some (.iload_n 2, 1) := by decide +kernel
theorem at244_127 : am_at 244 127 = some (.iconst (-1), 1) := by decide +kernel
theorem at244_128 : am_at 244 128 = some (.if_icmp .eq 25, 3) := by decide +kernel
theorem at244_131 : am_at 244 131 = some (.iload 6, 2) := by decide +kernel
theorem at244_133 : am_at 244 133 = some (.iload_n 3, 1) := by decide +kernel
theorem at244_134 : am_at 244 134 = some (.if_icmp .lt 29, 3) := by decide +kernel
theorem at244_137 : am_at 244 137 = some (.iload 6, 2) := by decide +kernel
theorem at244_139 : am_at 244 139 = some (.iload_n 3, 1) := by decide +kernel
theorem at244_140 : am_at 244 140 = some (.if_icmp .ne 13, 3) := by decide +kernel
theorem at244_143 : am_at 244 143 = some (.iload 7, 2) := by decide +kernel
theorem at244_145 : am_at 244 145 = some (.iload 4, 2) := by decide +kernel
theorem at244_147 : am_at 244 147 = some (.if_icmp .lt 6, 3) := by decide +kernel
theorem at244_150 : am_at 244 150 = some (.goto 13, 3) := by decide +kernel
theorem at244_153 : am_at 244 153 = some (.iload 5, 2) := by decide +kernel
theorem at244_155 : am_at 244 155 = some (.istore_n 2, 1) := by decide +kernel
theorem at244_156 : am_at 244 156 = some (.iload 6, 2) := by decide +kernel
theorem at244_158 : am_at 244 158 = some (.istore_n 3, 1) := by decide +kernel
theorem at244_159 : am_at 244 159 = some (.iload 7, 2) := by decide +kernel
theorem at244_161 : am_at 244 161 = some (.istore 4, 2) := by decide +kernel
theorem at244_163 : am_at 244 163 = some (.iinc 5 1, 3) := by decide +kernel
theorem at244_166 : am_at 244 166 = some (.goto (-141), 3) := by decide +kernel
theorem at244_169 : am_at 244 169 = some (.iload_n 2, 1) := by decide +kernel
theorem at244_170 : am_at 244 170 = some (.ireturn, 1) := by decide +kernel
theorem at245_0 : am_at 245 0 = some (.aload_n 0, 1) := by decide +kernel
theorem at245_1 : am_at 245 1 = some (.iconst 0, 1) := by decide +kernel
theorem at245_2 : am_at 245 2 = some (.putfield 110000, 3) := by decide +kernel
theorem at245_5 : am_at 245 5 = some (.aload_n 0, 1) := by decide +kernel
theorem at245_6 : am_at 245 6 = some (.iload_n 1, 1) := by decide +kernel
theorem at245_7 : am_at 245 7 = some (.iconst 0, 1) := by decide +kernel
theorem at245_8 : am_at 245 8 = some (.iconst 3, 1) := by decide +kernel
theorem at245_9 : am_at 245 9 = some (.invokestatic 159, 3) := by decide +kernel
theorem at245_12 : am_at 245 12 = some (.iconst 1, 1) := by decide +kernel
theorem at245_13 : am_at 245 13 = some (.invokevirtual 158, 3) := by decide +kernel
theorem at245_16 : am_at 245 16 = some (.ifCond .ne 5, 3) := by decide +kernel
theorem at245_19 : am_at 245 19 = some (.iconst 0, 1) := by decide +kernel
theorem at245_20 : am_at 245 20 = some (.ireturn, 1) := by decide +kernel
theorem at245_21 : am_at 245 21 = some (.iconst 0, 1) := by decide +kernel
theorem at245_22 : am_at 245 22 = some (.istore_n 2, 1) := by decide +kernel
theorem at245_23 : am_at 245 23 = some (.iconst 0, 1) := by decide +kernel
theorem at245_24 : am_at 245 24 = some (.istore_n 3, 1) := by decide +kernel
theorem at245_25 : am_at 245 25 = some (.iload_n 3, 1) := by decide +kernel
theorem at245_26 : am_at 245 26 = some (.aload_n 0, 1) := by decide +kernel
theorem at245_27 : am_at 245 27 = some (.getfield 110010, 3) := by decide +kernel
theorem at245_30 : am_at 245 30 = some (.if_icmp .ge 38, 3) := by decide +kernel
theorem at245_33 : am_at 245 33 = some (.iload_n 2, 1) := by decide +kernel
theorem at245_34 : am_at 245 34 = some (.aload_n 0, 1) := by decide +kernel
theorem at245_35 : am_at 245 35 = some (.getfield 110412, 3) := by decide +kernel
theorem at245_38 : am_at 245 38 = some (.bipush 7, 2) := by decide +kernel
theorem at245_40 : am_at 245 40 = some (.iload_n 3, 1) := by decide +kernel
theorem at245_41 : am_at 245 41 = some (.iadd, 1) := by decide +kernel
theorem at245_42 : am_at 245 42 = some (.iaload, 1) := by decide +kernel
theorem at245_43 : am_at 245 43 = some (.iload_n 1, 1) := by decide +kernel
theorem at245_44 : am_at 245 44 = some (.if_icmp .ne 15, 3) := by decide +kernel
theorem at245_47 : am_at 245 47 = some (.aload_n 0, 1) := by decide +kernel
theorem at245_48 : am_at 245 48 = some (.aload_n 0, 1) := by decide +kernel
theorem at245_49 : am_at 245 49 = some (.getfield 110412, 3) := by decide +kernel
theorem at245_52 : am_at 245 52 = some (.iload_n 3, 1) := by decide +kernel
theorem at245_53 : am_at 245 53 = some (.invokevirtual 200, 3) := by decide +kernel
theorem at245_56 : am_at 245 56 = some (.goto 4, 3) := by decide +kernel
theorem at245_59 : am_at 245 59 = some (.iconst 0, 1) := by decide +kernel
theorem at245_60 : am_at 245 60 = some (.ior, 1) := by decide +kernel
theorem at245_61 : am_at 245 61 = some (.istore_n 2, 1) := by decide +kernel
theorem at245_62 : am_at 245 62 = some (.iinc 3 1, 3) := by decide +kernel
theorem at245_65 : am_at 245 65 = some (.goto (-40), 3) := by decide +kernel
theorem at245_68 : am_at 245 68 = some (.iconst 0, 1) := by decide +kernel
theorem at245_69 : am_at 245 69 = some (.istore_n 3, 1) := by decide +kernel
theorem at245_70 : am_at 245 70 = some (.iconst 0, 1) := by decide +kernel
theorem at245_71 : am_at 245 71 = some (.istore 4, 2) := by decide +kernel
theorem at245_73 : am_at 245 73 = some (.iload 4, 2) := by decide +kernel
theorem at245_75 : am_at 245 75 = some (.aload_n 0, 1) := by decide +kernel
theorem at245_76 : am_at 245 76 = some (.getfield 110010, 3) := by decide +kernel
theorem at245_79 : am_at 245 79 = some (.if_icmp .ge 47, 3) := by decide +kernel
theorem at245_82 : am_at 245 82 = some (.iload_n 3, 1) := by decide +kernel
theorem at245_83 : am_at 245 83 = some (.aload_n 0, 1) := by decide +kernel
theorem at245_84 : am_at 245 84 = some (.getfield 110412, 3) := by decide +kernel
theorem at245_87 : am_at 245 87 = some (.bipush 7, 2) := by decide +kernel
theorem at245_89 : am_at 245 89 = some (.iload 4, 2) := by decide +kernel
theorem at245_91 : am_at 245 91 = some (.iadd, 1) := by decide +kernel
theorem at245_92 : am_at 245 92 = some (.iaload, 1) := by decide +kernel
theorem at245_93 : am_at 245 93 = some (.iload_n 1, 1) := by decide +kernel
theorem at245_94 : am_at 245 94 = some (.if_icmp .ne 23, 3) := by decide +kernel
theorem at245_97 : am_at 245 97 = some (.iload_n 2, 1) := by decide +kernel
theorem at245_98 : am_at 245 98 = some (.aload_n 0, 1) := by decide +kernel
theorem at245_99 : am_at 245 99 = some (.aload_n 0, 1) := by decide +kernel
theorem at245_100 : am_at 245 100 = some (.getfield 110412, 3) := by decide +kernel
theorem at245_103 : am_at 245 103 = some (.iload 4, 2) := by decide +kernel
theorem at245_105 : am_at 245 105 = some (.invokevirtual 200, 3) := by decide +kernel
theorem at245_108 : am_at 245 108 = some (.iconst (-1), 1) := by decide +kernel
theorem at245_109 : am_at 245 109 = some (.ixor, 1) := by decide +kernel
theorem at245_110 : am_at 245 110 = some (.iand, 1) := by decide +kernel
theorem at245_111 : am_at 245 111 = some (.invokestatic 161, 3) := by decide +kernel
theorem at245_114 : am_at 245 114 = some (.goto 4, 3) := by decide +kernel
theorem at245_117 : am_at 245 117 = some (.iconst 0, 1) := by decide +kernel
theorem at245_118 : am_at 245 118 = some (.iadd, 1) := by decide +kernel
theorem at245_119 : am_at 245 119 = some (.istore_n 3, 1) := by decide +kernel
theorem at245_120 : am_at 245 120 = some (.iinc 4 1, 3) := by decide +kernel
theorem at245_123 : am_at 245 123 = some (.goto (-50), 3) := by decide +kernel
theorem at245_126 : am_at 245 126 = some (.iload_n 3, 1) := by decide +kernel
theorem at245_127 : am_at 245 127 = some (.ireturn, 1) := by decide +kernel
theorem at246_0 : am_at 246 0 = some (.aload_n 0, 1) := by decide +kernel
theorem at246_1 : am_at 246 1 = some (.getfield 110062, 3) := by decide +kernel
theorem at246_4 : am_at 246 4 = some (.bipush 6, 2) := by decide +kernel
theorem at246_6 : am_at 246 6 = some (.iload_n 2, 1) := by decide +kernel
theorem at246_7 : am_at 246 7 = some (.imul, 1) := by decide +kernel
theorem at246_8 : am_at 246 8 = some (.iconst 3, 1) := by decide +kernel
theorem at246_9 : am_at 246 9 = some (.iadd, 1) := by decide +kernel
theorem at246_10 : am_at 246 10 = some (.iaload, 1) := by decide +kernel
theorem at246_11 : am_at 246 11 = some (.istore_n 3, 1) := by decide +kernel
theorem at246_12 : am_at 246 12 = some (.aload_n 0, 1) := by decide +kernel
theorem at246_13 : am_at 246 13 = some (.getfield 110062, 3) := by decide +kernel
theorem at246_16 : am_at 246 16 = some (.bipush 6, 2) := by decide +kernel
theorem at246_18 : am_at 246 18 = some (.iload_n 2, 1) := by decide +kernel
theorem at246_19 : am_at 246 19 = some (.imul, 1) := by decide +kernel
theorem at246_20 : am_at 246 20 = some (.iconst 4, 1) := by decide +kernel
theorem at246_21 : am_at 246 21 = some (.iadd, 1) := by decide +kernel
theorem at246_22 : am_at 246 22 = some (.iaload, 1) := by decide +kernel
theorem at246_23 : am_at 246 23 = some (.istore 4, 2) := by decide +kernel
theorem at246_25 : am_at 246 25 = some (.iload_n 3, 1) := by decide +kernel
theorem at246_26 : am_at 246 26 = some (.iconst (-1), 1) := by decide +kernel
theorem at246_27 : am_at 246 27 = some (.if_icmp .ne 5, 3) := by decide +kernel
theorem at246_30 : am_at 246 30 = some (.iconst 0, 1) := by decide +kernel
theorem at246_31 : am_at 246 31 = some (.ireturn, 1) := by decide +kernel
theorem at246_32 : am_at 246 32 = some (.iconst 1, 1) := by decide +kernel
theorem at246_33 : am_at 246 33 = some (.iload_n 3, 1) := by decide +kernel
theorem at246_34 : am_at 246 34 = some (.ishl, 1) := by decide +kernel
theorem at246_35 : am_at 246 35 = some (.iconst 1, 1) := by decide +kernel
theorem at246_36 : am_at 246 36 = some (.iload 4, 2) := by decide +kernel
theorem at246_38 : am_at 246 38 = some (.ishl, 1) := by decide +kernel
theorem at246_39 : am_at 246 39 = some (.ior, 1) := by decide +kernel
theorem at246_40 : am_at 246 40 = some (.istore 5, 2) := by decide +kernel
theorem at246_42 : am_at 246 42 = some (.aload_n 0, 1) := by decide +kernel
theorem at246_43 : am_at 246 43 = some (.aload_n 1, 1) := by decide +kernel
theorem at246_44 : am_at 246 44 = some (.iload_n 2, 1) := by decide +kernel
theorem at246_45 : am_at 246 45 = some (.invokevirtual 201, 3) := by decide +kernel
theorem at246_48 : am_at 246 48 = some (.istore 6, 2) := by decide +kernel
theorem at246_50 : am_at 246 50 = some (.iload 6, 2) := by decide +kernel
theorem at246_52 : am_at 246 52 = some (.iload 5, 2) := by decide +kernel
theorem at246_54 : am_at 246 54 = some (.iconst (-1), 1) := by decide +kernel
theorem at246_55 : am_at 246 55 = some (.ixor, 1) := by decide +kernel
theorem at246_56 : am_at 246 56 = some (.iand, 1) := by decide +kernel
theorem at246_57 : am_at 246 57 = some (.ifCond .ne 13, 3) := by decide +kernel
theorem at246_60 : am_at 246 60 = some (.iload 6, 2) := by decide +kernel
theorem at246_62 : am_at 246 62 = some (.iload 5, 2) := by decide +kernel
theorem at246_64 : am_at 246 64 = some (.iand, 1) := by decide +kernel
theorem at246_65 : am_at 246 65 = some (.iload 5, 2) := by decide +kernel
theorem at246_67 : am_at 246 67 = some (.if_icmp .ne 7, 3) := by decide +kernel
theorem at246_70 : am_at 246 70 = some (.iconst 1, 1) := by decide +kernel
theorem at246_71 : am_at 246 71 = some (.goto 4, 3) := by decide +kernel
theorem at246_74 : am_at 246 74 = some (.iconst 0, 1) := by decide +kernel
theorem at246_75 : am_at 246 75 = some (.ireturn, 1) := by decide +kernel
theorem at247_0 : am_at 247 0 = some (.iconst 0, 1) := by decide +kernel
theorem at247_1 : am_at 247 1 = some (.istore_n 3, 1) := by decide +kernel
theorem at247_2 : am_at 247 2 = some (.iconst 0, 1) := by decide +kernel
theorem at247_3 : am_at 247 3 = some (.istore 4, 2) := by decide +kernel
theorem at247_5 : am_at 247 5 = some (.iload 4, 2) := by decide +kernel
theorem at247_7 : am_at 247 7 = some (.aload_n 0, 1) := by decide +kernel
theorem at247_8 : am_at 247 8 = some (.getfield 110020, 3) := by decide +kernel
theorem at247_11 : am_at 247 11 = some (.if_icmp .ge 90, 3) := by decide +kernel
theorem at247_14 : am_at 247 14 = some (.aload_n 0, 1) := by decide +kernel
theorem at247_15 : am_at 247 15 = some (.aload_n 1, 1) := by decide +kernel
theorem at247_16 : am_at 247 16 = some (.iload 4, 2) := by decide +kernel
theorem at247_18 : am_at 247 18 = some (.invokevirtual 246, 3) := by decide +kernel
theorem at247_21 : am_at 247 21 = some (.ifCond .ne 6, 3) := by decide +kernel
theorem at247_24 : am_at 247 24 = some (.goto 71, 3) := by decide +kernel
theorem at247_27 : am_at 247 27 = some (.iload_n 3, 1) := by decide +kernel
theorem at247_28 : am_at 247 28 = some (.aload_n 0, 1) := by decide +kernel
theorem at247_29 : am_at 247 29 = some (.getfield 110062, 3) := by decide +kernel
theorem at247_32 : am_at 247 32 = some (.bipush 6, 2) := by decide +kernel
theorem at247_34 : am_at 247 34 = some (.iload 4, 2) := by decide +kernel
theorem at247_36 : am_at 247 36 = some (.imul, 1) := by decide +kernel
theorem at247_37 : am_at 247 37 = some (.iconst 3, 1) := by decide +kernel
theorem at247_38 : am_at 247 38 = some (.iadd, 1) := by decide +kernel
theorem at247_39 : am_at 247 39 = some (.iaload, 1) := by decide +kernel
theorem at247_40 : am_at 247 40 = some (.iload_n 2, 1) := by decide +kernel
theorem at247_41 : am_at 247 41 = some (.if_icmp .ne 18, 3) := by decide +kernel
theorem at247_44 : am_at 247 44 = some (.aload_n 0, 1) := by decide +kernel
theorem at247_45 : am_at 247 45 = some (.getfield 110062, 3) := by decide +kernel
theorem at247_48 : am_at 247 48 = some (.bipush 6, 2) := by decide +kernel
theorem at247_50 : am_at 247 50 = some (.iload 4, 2) := by decide +kernel
theorem at247_52 : am_at 247 52 = some (.imul, 1) := by decide +kernel
theorem at247_53 : am_at 247 53 = some (.iconst 5, 1) := by decide +kernel
theorem at247_54 : am_at 247 54 = some (.iadd, 1) := by decide +kernel
theorem at247_55 : am_at 247 55 = some (.iaload, 1) := by decide +kernel
theorem at247_56 : am_at 247 56 = some (.goto 37, 3) := by decide +kernel
theorem at247_59 : am_at 247 59 = some (.aload_n 0, 1) := by decide +kernel
theorem at247_60 : am_at 247 60 = some (.getfield 110062, 3) := by decide +kernel
theorem at247_63 : am_at 247 63 = some (.bipush 6, 2) := by decide +kernel
theorem at247_65 : am_at 247 65 = some (.iload 4, 2) := by decide +kernel
theorem at247_67 : am_at 247 67 = some (.imul, 1) := by decide +kernel
theorem at247_68 : am_at 247 68 = some (.iconst 4, 1) := by decide +kernel
theorem at247_69 : am_at 247 69 = some (.iadd, 1) := by decide +kernel
theorem at247_70 : am_at 247 70 = some (.iaload, 1) := by decide +kernel
theorem at247_71 : am_at 247 71 = some (.iload_n 2, 1) := by decide +kernel
theorem at247_72 : am_at 247 72 = some (.if_icmp .ne 20, 3) := by decide +kernel
theorem at247_75 : am_at 247 75 = some (.iconst 0, 1) := by decide +kernel
theorem at247_76 : am_at 247 76 = some (.aload_n 0, 1) := by decide +kernel
theorem at247_77 : am_at 247 77 = some (.getfield 110062, 3) := by decide +kernel
theorem at247_80 : am_at 247 80 = some (.bipush 6, 2) := by decide +kernel
theorem at247_82 : am_at 247 82 = some (.iload 4, 2) := by decide +kernel
theorem at247_84 : am_at 247 84 = some (.imul, 1) := by decide +kernel
theorem at247_85 : am_at 247 85 = some (.iconst 5, 1) := by decide +kernel
theorem at247_86 : am_at 247 86 = some (.iadd, 1) := by decide +kernel
theorem at247_87 : am_at 247 87 = some (.iaload, 1) := by decide +kernel
theorem at247_88 : am_at 247 88 = some (.isub, 1) := by decide +kernel
theorem at247_89 : am_at 247 89 = some (.goto 4, 3) := by decide +kernel
theorem at247_92 : am_at 247 92 = some (.iconst 0, 1) := by decide +kernel
theorem at247_93 : am_at 247 93 = some (.iadd, 1) := by decide +kernel
theorem at247_94 : am_at 247 94 = some (.istore_n 3, 1) := by decide +kernel
theorem at247_95 : am_at 247 95 = some (.iinc 4 1, 3) := by decide +kernel
theorem at247_98 : am_at 247 98 = some (.goto (-93), 3) := by decide +kernel
theorem at247_101 : am_at 247 101 = some (.iload_n 3, 1) := by decide +kernel
theorem at247_102 : am_at 247 102 = some (.ireturn, 1) := by decide +kernel
theorem at248_0 : am_at 248 0 = some (.aload_n 0, 1) := by decide +kernel
theorem at248_1 : am_at 248 1 = some (.iconst 0, 1) := by decide +kernel
theorem at248_2 : am_at 248 2 = some (.putfield 110000, 3) := by decide +kernel
theorem at248_5 : am_at 248 5 = some (.aload_n 0, 1) := by decide +kernel
theorem at248_6 : am_at 248 6 = some (.iload_n 1, 1) := by decide +kernel
theorem at248_7 : am_at 248 7 = some (.invokevirtual 205, 3) := by decide +kernel
theorem at248_10 : am_at 248 10 = some (.ifCond .eq 19, 3) := by decide +kernel
theorem at248_13 : am_at 248 13 = some (.aload_n 0, 1) := by decide +kernel
theorem at248_14 : am_at 248 14 = some (.aload_n 0, 1) := by decide +kernel
theorem at248_15 : am_at 248 15 = some (.getfield 110412, 3) := by decide +kernel
theorem at248_18 : am_at 248 18 = some (.iload_n 1, 1) := by decide +kernel
theorem at248_19 : am_at 248 19 = some (.invokevirtual 246, 3) := by decide +kernel
theorem at248_22 : am_at 248 22 = some (.ifCond .eq 7, 3) := by decide +kernel
theorem at248_25 : am_at 248 25 = some (.iconst 1, 1) := by decide +kernel
theorem at248_26 : am_at 248 26 = some (.goto 4, 3) := by decide +kernel
theorem at248_29 : am_at 248 29 = some (.iconst 0, 1) := by decide +kernel
theorem at248_30 : am_at 248 30 = some (.ireturn, 1) := by decide +kernel
theorem at249_0 : am_at 249 0 = some (.aload_n 0, 1) := by decide +kernel
theorem at249_1 : am_at 249 1 = some (.iconst 0, 1) := by decide +kernel
theorem at249_2 : am_at 249 2 = some (.putfield 110000, 3) := by decide +kernel
theorem at249_5 : am_at 249 5 = some (.aload_n 0, 1) := by decide +kernel
theorem at249_6 : am_at 249 6 = some (.iload_n 1, 1) := by decide +kernel
theorem at249_7 : am_at 249 7 = some (.invokevirtual 204, 3) := by decide +kernel
theorem at249_10 : am_at 249 10 = some (.ifCond .eq 15, 3) := by decide +kernel
theorem at249_13 : am_at 249 13 = some (.aload_n 0, 1) := by decide +kernel
theorem at249_14 : am_at 249 14 = some (.aload_n 0, 1) := by decide +kernel
theorem at249_15 : am_at 249 15 = some (.getfield 110412, 3) := by decide +kernel
theorem at249_18 : am_at 249 18 = some (.iload_n 1, 1) := by decide +kernel
theorem at249_19 : am_at 249 19 = some (.invokevirtual 247, 3) := by decide +kernel
theorem at249_22 : am_at 249 22 = some (.goto 4, 3) := by decide +kernel
theorem at249_25 : am_at 249 25 = some (.iconst 0, 1) := by decide +kernel
theorem at249_26 : am_at 249 26 = some (.ireturn, 1) := by decide +kernel
theorem at250_0 : am_at 250 0 = some (.aload_n 0, 1) := by decide +kernel
theorem at250_1 : am_at 250 1 = some (.iconst 0, 1) := by decide +kernel
theorem at250_2 : am_at 250 2 = some (.putfield 110000, 3) := by decide +kernel
theorem at250_5 : am_at 250 5 = some (.aload_n 0, 1) := by decide +kernel
theorem at250_6 : am_at 250 6 = some (.iload_n 1, 1) := by decide +kernel
theorem at250_7 : am_at 250 7 = some (.iconst 0, 1) := by decide +kernel
theorem at250_8 : am_at 250 8 = some (.iconst 1, 1) := by decide +kernel
theorem at250_9 : am_at 250 9 = some (.invokevirtual 223, 3) := by decide +kernel
theorem at250_12 : am_at 250 12 = some (.ifCond .ne 5, 3) := by decide +kernel
theorem at250_15 : am_at 250 15 = some (.iconst 0, 1) := by decide +kernel
theorem at250_16 : am_at 250 16 = some (.ireturn, 1) := by decide +kernel
theorem at250_17 : am_at 250 17 = some (.aload_n 0, 1) := by decide +kernel
theorem at250_18 : am_at 250 18 = some (.invokevirtual 224, 3) := by decide +kernel
theorem at250_21 : am_at 250 21 = some (.iconst 0, 1) := by decide +kernel
theorem at250_22 : am_at 250 22 = some (.istore_n 2, 1) := by decide +kernel
theorem at250_23 : am_at 250 23 = some (.iload_n 2, 1) := by decide +kernel
theorem at250_24 : am_at 250 24 = some (.iload_n 1, 1) := by decide +kernel
theorem at250_25 : am_at 250 25 = some (.if_icmp .ge 18, 3) := by decide +kernel
theorem at250_28 : am_at 250 28 = some (.aload_n 0, 1) := by decide +kernel
theorem at250_29 : am_at 250 29 = some (.aload_n 0, 1) := by decide +kernel
theorem at250_30 : am_at 250 30 = some (.getfield 110422, 3) := by decide +kernel
theorem at250_33 : am_at 250 33 = some (.invokevirtual 216, 3) := by decide +kernel
theorem at250_36 : am_at 250 36 = some (.pop, 1) := by decide +kernel
theorem at250_37 : am_at 250 37 = some (.iinc 2 1, 3) := by decide +kernel
theorem at250_40 : am_at 250 40 = some (.goto (-17), 3) := by decide +kernel
theorem at250_43 : am_at 250 43 = some (.iconst (-1), 1) := by decide +kernel
theorem at250_44 : am_at 250 44 = some (.istore_n 2, 1) := by decide +kernel
theorem at250_45 : am_at 250 45 = some (.iconst 0, 1) := by decide +kernel
theorem at250_46 : am_at 250 46 = some (.istore_n 3, 1) := by decide +kernel
theorem at250_47 : am_at 250 47 = some (.iconst 0, 1) := by decide +kernel
theorem at250_48 : am_at 250 48 = some (.istore 4, 2) := by decide +kernel
theorem at250_50 : am_at 250 50 = some (.iload 4, 2) := by decide +kernel
theorem at250_52 : am_at 250 52 = some (.aload_n 0, 1) := by decide +kernel
theorem at250_53 : am_at 250 53 = some (.getfield 110010, 3) := by decide +kernel
theorem at250_56 : am_at 250 56 = some (.if_icmp .ge 52, 3) := by decide +kernel
theorem at250_59 : am_at 250 59 = some (.aload_n 0, 1) := by decide +kernel
theorem at250_60 : am_at 250 60 = some (.aload_n 0, 1) := by decide +kernel
theorem at250_61 : am_at 250 61 = some (.getfield 110412, 3) := by decide +kernel
theorem at250_64 : am_at 250 64 = some (.iload 4, 2) := by decide +kernel
theorem at250_66 : am_at 250 66 = some (.invokevirtual 247, 3) := by decide +kernel
theorem at250_69 : am_at 250 69 = some (.aload_n 0, 1) := by decide +kernel
theorem at250_70 : am_at 250 70 = some (.aload_n 0, 1) := by decide +kernel
theorem at250_71 : am_at 250 71 = some (.getfield 110422, 3) := by decide +kernel
theorem at250_74 : am_at 250 74 = some (.iload 4, 2) := by decide +kernel
theorem at250_76 : am_at 250 76 = some (.invokevirtual 247, 3) := by decide +kernel
theorem at250_79 : am_at 250 79 = some (.isub, 1) := by decide +kernel
theorem at250_80 : am_at 250 80 = some (.istore 5, 2) := by decide +kernel
theorem at250_82 : am_at 250 82 = some (.iload_n 2, 1) := by decide +kernel
theorem at250_83 : am_at 250 83 = some (.iconst (-1), 1) := by decide +kernel
theorem at250_84 : am_at 250 84 = some (.if_icmp .eq 12, 3) := by decide +kernel
theorem at250_87 : am_at 250 87 = some (.iload 5, 2) := by decide +kernel
theorem at250_89 : am_at 250 89 = some (.iload_n 3, 1) := by decide +kernel
theorem at250_90 : am_at 250 90 = some (.if_icmp .gt 6, 3) := by decide +kernel
theorem at250_93 : am_at 250 93 = some (.goto 9, 3) := by decide +kernel
theorem at250_96 : am_at 250 96 = some (.iload 4, 2) := by decide +kernel
theorem at250_98 : am_at 250 98 = some (.istore_n 2, 1) := by decide +kernel
theorem at250_99 : am_at 250 99 = some (.iload 5, 2) := by decide +kernel
theorem at250_101 : am_at 250 101 = some (.istore_n 3, 1) := by decide +kernel
theorem at250_102 : am_at 250 102 = some (.iinc 4 1, 3) := by decide +kernel
theorem at250_105 : am_at 250 105 = some (.goto (-55), 3) := by decide +kernel
theorem at250_108 : am_at 250 108 = some (.iload_n 2, 1) := by decide +kernel
theorem at250_109 : am_at 250 109 = some (.ireturn, 1) := by decide +kernel
theorem at251_0 : am_at 251 0 = some (.aload_n 0, 1) := by decide +kernel
theorem at251_1 : am_at 251 1 = some (.iconst 0, 1) := by decide +kernel
theorem at251_2 : am_at 251 2 = some (.putfield 110000, 3) := by decide +kernel
theorem at251_5 : am_at 251 5 = some (.aload_n 0, 1) := by decide +kernel
theorem at251_6 : am_at 251 6 = some (.iload_n 1, 1) := by decide +kernel
theorem at251_7 : am_at 251 7 = some (.invokevirtual 204, 3) := by decide +kernel
theorem at251_10 : am_at 251 10 = some (.ifCond .eq 11, 3) := by decide +kernel
theorem at251_13 : am_at 251 13 = some (.aload_n 0, 1) := by decide +kernel
theorem at251_14 : am_at 251 14 = some (.iload_n 2, 1) := by decide +kernel
theorem at251_15 : am_at 251 15 = some (.invokevirtual 205, 3) := by decide +kernel
theorem at251_18 : am_at 251 18 = some (.ifCond .ne 5, 3) := by decide +kernel
theorem at251_21 : am_at 251 21 = some (.iconst 0, 1) := by decide +kernel
theorem at251_22 : am_at 251 22 = some (.ireturn, 1) := by decide +kernel
theorem at251_23 : am_at 251 23 = some (.aload_n 0, 1) := by decide +kernel
theorem at251_24 : am_at 251 24 = some (.getfield 110590, 3) := by decide +kernel
theorem at251_27 : am_at 251 27 = some (.bipush 8, 2) := by decide +kernel
theorem at251_29 : am_at 251 29 = some (.if_icmp .ne 9, 3) := by decide +kernel
theorem at251_32 : am_at 251 32 = some (.aload_n 0, 1) := by decide +kernel
theorem at251_33 : am_at 251 33 = some (.iconst 2, 1) := by decide +kernel
theorem at251_34 : am_at 251 34 = some (.invokevirtual 196, 3) := by decide +kernel
theorem at251_37 : am_at 251 37 = some (.ireturn, 1) := by decide +kernel
theorem at251_38 : am_at 251 38 = some (.aload_n 0, 1) := by decide +kernel
theorem at251_39 : am_at 251 39 = some (.getfield 110602, 3) := by decide +kernel
theorem at251_42 : am_at 251 42 = some (.iconst 3, 1) := by decide +kernel
theorem at251_43 : am_at 251 43 = some (.aload_n 0, 1) := by decide +kernel
theorem at251_44 : am_at 251 44 = some (.getfield 110590, 3) := by decide +kernel
theorem at251_47 : am_at 251 47 = some (.imul, 1) := by decide +kernel
theorem at251_48 : am_at 251 48 = some (.iload_n 1, 1) := by decide +kernel
theorem at251_49 : am_at 251 49 = some (.iastore, 1) := by decide +kernel
theorem at251_50 : am_at 251 50 = some (.aload_n 0, 1) := by decide +kernel
theorem at251_51 : am_at 251 51 = some (.getfield 110602, 3) := by decide +kernel
theorem at251_54 : am_at 251 54 = some (.iconst 3, 1) := by decide +kernel
theorem at251_55 : am_at 251 55 = some (.aload_n 0, 1) := by decide +kernel
theorem at251_56 : am_at 251 56 = some (.getfield 110590, 3) := by decide +kernel
theorem at251_59 : am_at 251 59 = some (.imul, 1) := by decide +kernel
theorem at251_60 : am_at 251 60 = some (.iconst 1, 1) := by decide +kernel
theorem at251_61 : am_at 251 61 = some (.iadd, 1) := by decide +kernel
theorem at251_62 : am_at 251 62 = some (.iload_n 2, 1) := by decide +kernel
theorem at251_63 : am_at 251 63 = some (.iastore, 1) := by decide +kernel
theorem at251_64 : am_at 251 64 = some (.aload_n 0, 1) := by decide +kernel
theorem at251_65 : am_at 251 65 = some (.getfield 110602, 3) := by decide +kernel
theorem at251_68 : am_at 251 68 = some (.iconst 3, 1) := by decide +kernel
theorem at251_69 : am_at 251 69 = some (.aload_n 0, 1) := by decide +kernel
theorem at251_70 : am_at 251 70 = some (.getfield 110590, 3) := by decide +kernel
theorem at251_73 : am_at 251 73 = some (.imul, 1) := by decide +kernel
theorem at251_74 : am_at 251 74 = some (.iconst 2, 1) := by decide +kernel
theorem at251_75 : am_at 251 75 = some (.iadd, 1) := by decide +kernel
theorem at251_76 : am_at 251 76 = some (.iload_n 3, 1) := by decide +kernel
theorem at251_77 : am_at 251 77 = some (.ifCond .eq 7, 3) := by decide +kernel
theorem at251_80 : am_at 251 80 = some (.iconst 1, 1) := by decide +kernel
theorem at251_81 : am_at 251 81 = some (.goto 4, 3) := by decide +kernel
theorem at251_84 : am_at 251 84 = some (.iconst 0, 1) := by decide +kernel
theorem at251_85 : am_at 251 85 = some (.iastore, 1) := by decide +kernel
theorem at251_86 : am_at 251 86 = some (.aload_n 0, 1) := by decide +kernel
theorem at251_87 : am_at 251 87 = some (.dup, 1) := by decide +kernel
theorem at251_88 : am_at 251 88 = some (.getfield 110590, 3) := by decide +kernel
theorem at251_91 : am_at 251 91 = some (.iconst 1, 1) := by decide +kernel
theorem at251_92 : am_at 251 92 = some (.iadd, 1) := by decide +kernel
theorem at251_93 : am_at 251 93 = some (.putfield 110590, 3) := by decide +kernel
theorem at251_96 : am_at 251 96 = some (.aload_n 0, 1) := by decide +kernel
theorem at251_97 : am_at 251 97 = some (.getfield 110590, 3) := by decide +kernel
theorem at251_100 : am_at 251 100 = some (.ireturn, 1) := by decide +kernel
theorem at252_0 : am_at 252 0 = some (.aload_n 0, 1) := by decide +kernel
theorem at252_1 : am_at 252 1 = some (.iconst 0, 1) := by decide +kernel
theorem at252_2 : am_at 252 2 = some (.putfield 110000, 3) := by decide +kernel
theorem at252_5 : am_at 252 5 = some (.aload_n 0, 1) := by decide +kernel
theorem at252_6 : am_at 252 6 = some (.iconst 0, 1) := by decide +kernel
theorem at252_7 : am_at 252 7 = some (.putfield 110590, 3) := by decide +kernel
theorem at252_10 : am_at 252 10 = some (.return_, 1) := by decide +kernel
theorem at253_0 : am_at 253 0 = some (.aload_n 0, 1) := by decide +kernel
theorem at253_1 : am_at 253 1 = some (.iload_n 1, 1) := by decide +kernel
theorem at253_2 : am_at 253 2 = some (.iload_n 2, 1) := by decide +kernel
theorem at253_3 : am_at 253 3 = some (.iconst 1, 1) := by decide +kernel
theorem at253_4 : am_at 253 4 = some (.invokevirtual 233, 3) := by decide +kernel
theorem at253_7 : am_at 253 7 = some (.istore_n 3, 1) := by decide +kernel
theorem at253_8 : am_at 253 8 = some (.iconst 0, 1) := by decide +kernel
theorem at253_9 : am_at 253 9 = some (.istore 4, 2) := by decide +kernel
theorem at253_11 : am_at 253 11 = some (.iload 4, 2) := by decide +kernel
theorem at253_13 : am_at 253 13 = some (.aload_n 0, 1) := by decide +kernel
theorem at253_14 : am_at 253 14 = some (.getfield 110590, 3) := by decide +kernel
theorem at253_17 : am_at 253 17 = some (.if_icmp .ge 53, 3) := by decide +kernel
theorem at253_20 : am_at 253 20 = some (.aload_n 0, 1) := by decide +kernel
theorem at253_21 : am_at 253 21 = some (.getfield 110602, 3) := by decide +kernel
theorem at253_24 : am_at 253 24 = some (.iconst 3, 1) := by decide +kernel
theorem at253_25 : am_at 253 25 = some (.iload 4, 2) := by decide +kernel
theorem at253_27 : am_at 253 27 = some (.imul, 1) := by decide +kernel
theorem at253_28 : am_at 253 28 = some (.iaload, 1) := by decide +kernel
theorem at253_29 : am_at 253 29 = some (.iload_n 1, 1) := by decide +kernel
theorem at253_30 : am_at 253 30 = some (.if_icmp .ne 34, 3) := by decide +kernel
theorem at253_33 : am_at 253 33 = some (.iload_n 3, 1) := by decide +kernel
theorem at253_34 : am_at 253 34 = some (.aload_n 0, 1) := by decide +kernel
theorem at253_35 : am_at 253 35 = some (.getfield 110602, 3) := by decide +kernel
theorem at253_38 : am_at 253 38 = some (.iconst 3, 1) := by decide +kernel
theorem at253_39 : am_at 253 39 = some (.iload 4, 2) := by decide +kernel
theorem at253_41 : am_at 253 41 = some (.imul, 1) := by decide +kernel
theorem at253_42 : am_at 253 42 = some (.iconst 1, 1) := by decide +kernel
theorem at253_43 : am_at 253 43 = some (.iadd, 1) := by decide +kernel
theorem at253_44 : am_at 253 44 = some (.iaload, 1) := by decide +kernel
theorem at253_45 : am_at 253 45 = some (.ishr, 1) := by decide +kernel
theorem at253_46 : am_at 253 46 = some (.iconst 1, 1) := by decide +kernel
theorem at253_47 : am_at 253 47 = some (.iand, 1) := by decide +kernel
theorem at253_48 : am_at 253 48 = some (.aload_n 0, 1) := by decide +kernel
theorem at253_49 : am_at 253 49 = some (.getfield 110602, 3) := by decide +kernel
theorem at253_52 : am_at 253 52 = some (.iconst 3, 1) := by decide +kernel
theorem at253_53 : am_at 253 53 = some (.iload 4, 2) := by decide +kernel
theorem at253_55 : am_at 253 55 = some (.imul, 1) := by decide +kernel
theorem at253_56 : am_at 253 56 = some (.iconst 2, 1) := by decide +kernel
theorem at253_57 : am_at 253 57 = some (.iadd, 1) := by decide +kernel
theorem at253_58 : am_at 253 58 = some (.iaload, 1) := by decide +kernel
theorem at253_59 : am_at 253 59 = some (.if_icmp .eq 5, 3) := by decide +kernel
theorem at253_62 : am_at 253 62 = some (.iconst 0, 1) := by decide +kernel
theorem at253_63 : am_at 253 63 = some (.ireturn, 1) := by decide +kernel
theorem at253_64 : am_at 253 64 = some (.iinc 4 1, 3) := by decide +kernel
theorem at253_67 : am_at 253 67 = some (.goto (-56), 3) := by decide +kernel
theorem at253_70 : am_at 253 70 = some (.iconst 1, 1) := by decide +kernel
theorem at253_71 : am_at 253 71 = some (.ireturn, 1) := by decide +kernel
theorem at254_0 : am_at 254 0 = some (.iconst 0, 1) := by decide +kernel
theorem at254_1 : am_at 254 1 = some (.istore_n 3, 1) := by decide +kernel
theorem at254_2 : am_at 254 2 = some (.iconst (-1), 1) := by decide +kernel
theorem at254_3 : am_at 254 3 = some (.istore 4, 2) := by decide +kernel
theorem at254_5 : am_at 254 5 = some (.bipush 20, 2) := by decide +kernel
theorem at254_7 : am_at 254 7 = some (.istore 5, 2) := by decide +kernel
theorem at254_9 : am_at 254 9 = some (.iload 5, 2) := by decide +kernel
theorem at254_11 : am_at 254 11 = some (.ifCond .lt 29, 3) := by decide +kernel
theorem at254_14 : am_at 254 14 = some (.aload_n 0, 1) := by decide +kernel
theorem at254_15 : am_at 254 15 = some (.iload_n 1, 1) := by decide +kernel
theorem at254_16 : am_at 254 16 = some (.iload 5, 2) := by decide +kernel
theorem at254_18 : am_at 254 18 = some (.invokevirtual 253, 3) := by decide +kernel
theorem at254_21 : am_at 254 21 = some (.ifCond .ne 6, 3) := by decide +kernel
theorem at254_24 : am_at 254 24 = some (.goto 10, 3) := by decide +kernel
theorem at254_27 : am_at 254 27 = some (.iinc 3 1, 3) := by decide +kernel
theorem at254_30 : am_at 254 30 = some (.iload 5, 2) := by decide +kernel
theorem at254_32 : am_at 254 32 = some (.istore 4, 2) := by decide +kernel
theorem at254_34 : am_at 254 34 = some (.iinc 5 (-1), 3) := by decide +kernel
theorem at254_37 : am_at 254 37 = some (.goto (-28), 3) := by decide +kernel
theorem at254_40 : am_at 254 40 = some (.iload_n 2, 1) := by decide +kernel
theorem at254_41 : am_at 254 41 = some (.ifCond .ne 7, 3) := by decide +kernel
theorem at254_44 : am_at 254 44 = some (.iload_n 3, 1) := by decide +kernel
theorem at254_45 : am_at 254 45 = some (.goto 5, 3) := by decide +kernel
theorem at254_48 : am_at 254 48 = some (.iload 4, 2) := by decide +kernel
theorem at254_50 : am_at 254 50 = some (.ireturn, 1) := by decide +kernel
theorem at255_0 : am_at 255 0 = some (.aload_n 0, 1) := by decide +kernel
theorem at255_1 : am_at 255 1 = some (.iconst 0, 1) := by decide +kernel
theorem at255_2 : am_at 255 2 = some (.putfield 110000, 3) := by decide +kernel
theorem at255_5 : am_at 255 5 = some (.aload_n 0, 1) := by decide +kernel
theorem at255_6 : am_at 255 6 = some (.iload_n 1, 1) := by decide +kernel
theorem at255_7 : am_at 255 7 = some (.invokevirtual 204, 3) := by decide +kernel
theorem at255_10 : am_at 255 10 = some (.ifCond .eq 21, 3) := by decide +kernel
theorem at255_13 : am_at 255 13 = some (.aload_n 0, 1) := by decide +kernel
theorem at255_14 : am_at 255 14 = some (.iload_n 2, 1) := by decide +kernel
theorem at255_15 : am_at 255 15 = some (.iconst 1, 1) := by decide +kernel
theorem at255_16 : am_at 255 16 = some (.invokevirtual 206, 3) := by decide +kernel
theorem at255_19 : am_at 255 19 = some (.ifCond .eq 12, 3) := by decide +kernel
theorem at255_22 : am_at 255 22 = some (.aload_n 0, 1) := by decide +kernel
theorem at255_23 : am_at 255 23 = some (.iload_n 1, 1) := by decide +kernel
theorem at255_24 : am_at 255 24 = some (.iload_n 2, 1) := by decide +kernel
theorem at255_25 : am_at 255 25 = some (.invokevirtual 254, 3) := by decide +kernel
theorem at255_28 : am_at 255 28 = some (.goto 4, 3) := by decide +kernel
theorem at255_31 : am_at 255 31 = some (.iconst 0, 1) := by decide +kernel
theorem at255_32 : am_at 255 32 = some (.ireturn, 1) := by decide +kernel
theorem at256_0 : am_at 256 0 = some (.aload_n 0, 1) := by decide +kernel
theorem at256_1 : am_at 256 1 = some (.iconst 0, 1) := by decide +kernel
theorem at256_2 : am_at 256 2 = some (.putfield 110000, 3) := by decide +kernel
theorem at256_5 : am_at 256 5 = some (.iconst 0, 1) := by decide +kernel
theorem at256_6 : am_at 256 6 = some (.istore_n 1, 1) := by decide +kernel
theorem at256_7 : am_at 256 7 = some (.iconst 0, 1) := by decide +kernel
theorem at256_8 : am_at 256 8 = some (.istore_n 2, 1) := by decide +kernel
theorem at256_9 : am_at 256 9 = some (.iload_n 2, 1) := by decide +kernel
theorem at256_10 : am_at 256 10 = some (.aload_n 0, 1) := by decide +kernel
theorem at256_11 : am_at 256 11 = some (.getfield 110010, 3) := by decide +kernel
theorem at256_14 : am_at 256 14 = some (.if_icmp .ge 28, 3) := by decide +kernel
theorem at256_17 : am_at 256 17 = some (.iload_n 1, 1) := by decide +kernel
theorem at256_18 : am_at 256 18 = some (.aload_n 0, 1) := by decide +kernel
theorem at256_19 : am_at 256 19 = some (.iload_n 2, 1) := by decide +kernel
theorem at256_20 : am_at 256 20 = some (.iconst 0, 1) := by decide +kernel
theorem at256_21 : am_at 256 21 = some (.invokevirtual 254, 3) := by decide +kernel
theorem at256_24 : am_at 256 24 = some (.ifCond .ne 9, 3) := by decide +kernel
theorem at256_27 : am_at 256 27 = some (.iconst 1, 1) := by decide +kernel
theorem at256_28 : am_at 256 28 = some (.iload_n 2, 1) := by decide +kernel
theorem at256_29 : am_at 256 29 = some (.ishl, 1) := by decide +kernel
theorem at256_30 : am_at 256 30 = some (.goto 4, 3) := by decide +kernel
theorem at256_33 : am_at 256 33 = some (.iconst 0, 1) := by decide +kernel
theorem at256_34 : am_at 256 34 = some (.ior, 1) := by decide +kernel
theorem at256_35 : am_at 256 35 = some (.istore_n 1, 1) := by decide +kernel
theorem at256_36 : am_at 256 36 = some (.iinc 2 1, 3) := by decide +kernel
theorem at256_39 : am_at 256 39 = some (.goto (-30), 3) := by decide +kernel
theorem at256_42 : am_at 256 42 = some (.iload_n 1, 1) := by decide +kernel
theorem at256_43 : am_at 256 43 = some (.ireturn, 1) := by decide +kernel
