/-! Where each resolved instruction stands, by program. -/
theorem at257_0 : am_at 257 0 = some (.aload_n 0, 1) := by decide +kernel
theorem at257_1 : am_at 257 1 = some (.getfield 110412, 3) := by decide +kernel
theorem at257_4 : am_at 257 4 = some (.iconst 1, 1) := by decide +kernel
theorem at257_5 : am_at 257 5 = some (.iload_n 1, 1) := by decide +kernel
theorem at257_6 : am_at 257 6 = some (.iadd, 1) := by decide +kernel
theorem at257_7 : am_at 257 7 = some (.iaload, 1) := by decide +kernel
theorem at257_8 : am_at 257 8 = some (.iload_n 2, 1) := by decide +kernel
theorem at257_9 : am_at 257 9 = some (.idiv, 1) := by decide +kernel
theorem at257_10 : am_at 257 10 = some (.istore_n 3, 1) := by decide +kernel
theorem at257_11 : am_at 257 11 = some (.iload_n 3, 1) := by decide +kernel
theorem at257_12 : am_at 257 12 = some (.bipush 10, 2) := by decide +kernel
theorem at257_14 : am_at 257 14 = some (.if_icmp .ge 7, 3) := by decide +kernel
theorem at257_17 : am_at 257 17 = some (.iload_n 3, 1) := by decide +kernel
theorem at257_18 : am_at 257 18 = some (.goto 5, 3) := by decide +kernel
theorem at257_21 : am_at 257 21 = some (.bipush 10, 2) := by decide +kernel
theorem at257_23 : am_at 257 23 = some (.ireturn, 1) := by decide +kernel
theorem at258_0 : am_at 258 0 = some (.iconst 0, 1) := by decide +kernel
theorem at258_1 : am_at 258 1 = some (.istore_n 2, 1) := by decide +kernel
theorem at258_2 : am_at 258 2 = some (.iconst 0, 1) := by decide +kernel
theorem at258_3 : am_at 258 3 = some (.istore_n 3, 1) := by decide +kernel
theorem at258_4 : am_at 258 4 = some (.iload_n 3, 1) := by decide +kernel
theorem at258_5 : am_at 258 5 = some (.aload_n 0, 1) := by decide +kernel
theorem at258_6 : am_at 258 6 = some (.getfield 110010, 3) := by decide +kernel
theorem at258_9 : am_at 258 9 = some (.if_icmp .ge 18, 3) := by decide +kernel
theorem at258_12 : am_at 258 12 = some (.iload_n 2, 1) := by decide +kernel
theorem at258_13 : am_at 258 13 = some (.aload_n 0, 1) := by decide +kernel
theorem at258_14 : am_at 258 14 = some (.iload_n 3, 1) := by decide +kernel
theorem at258_15 : am_at 258 15 = some (.iload_n 1, 1) := by decide +kernel
theorem at258_16 : am_at 258 16 = some (.invokevirtual 257, 3) := by decide +kernel
theorem at258_19 : am_at 258 19 = some (.iadd, 1) := by decide +kernel
theorem at258_20 : am_at 258 20 = some (.istore_n 2, 1) := by decide +kernel
theorem at258_21 : am_at 258 21 = some (.iinc 3 1, 3) := by decide +kernel
theorem at258_24 : am_at 258 24 = some (.goto (-20), 3) := by decide +kernel
theorem at258_27 : am_at 258 27 = some (.iload_n 2, 1) := by decide +kernel
theorem at258_28 : am_at 258 28 = some (.ireturn, 1) := by decide +kernel
theorem at259_0 : am_at 259 0 = some (.iload_n 3, 1) := by decide +kernel
theorem at259_1 : am_at 259 1 = some (.ifCond .eq 7, 3) := by decide +kernel
theorem at259_4 : am_at 259 4 = some (.iload_n 1, 1) := by decide +kernel
theorem at259_5 : am_at 259 5 = some (.goto 4, 3) := by decide +kernel
theorem at259_8 : am_at 259 8 = some (.iload_n 2, 1) := by decide +kernel
theorem at259_9 : am_at 259 9 = some (.istore 4, 2) := by decide +kernel
theorem at259_11 : am_at 259 11 = some (.iload_n 1, 1) := by decide +kernel
theorem at259_12 : am_at 259 12 = some (.iload_n 2, 1) := by decide +kernel
theorem at259_13 : am_at 259 13 = some (.if_icmp .gt 7, 3) := by decide +kernel
theorem at259_16 : am_at 259 16 = some (.iconst 1, 1) := by decide +kernel
theorem at259_17 : am_at 259 17 = some (.goto 4, 3) := by decide +kernel
theorem at259_20 : am_at 259 20 = some (.iconst 0, 1) := by decide +kernel
theorem at259_21 : am_at 259 21 = some (.iload_n 3, 1) := by decide +kernel
theorem at259_22 : am_at 259 22 = some (.if_icmp .ne 17, 3) := by decide +kernel
theorem at259_25 : am_at 259 25 = some (.aload_n 0, 1) := by decide +kernel
theorem at259_26 : am_at 259 26 = some (.iload 4, 2) := by decide +kernel
theorem at259_28 : am_at 259 28 = some (.invokevirtual 258, 3) := by decide +kernel
theorem at259_31 : am_at 259 31 = some (.iload 4, 2) := by decide +kernel
theorem at259_33 : am_at 259 33 = some (.iconst 2, 1) := by decide +kernel
theorem at259_34 : am_at 259 34 = some (.isub, 1) := by decide +kernel
theorem at259_35 : am_at 259 35 = some (.imul, 1) := by decide +kernel
theorem at259_36 : am_at 259 36 = some (.goto 4, 3) := by decide +kernel
theorem at259_39 : am_at 259 39 = some (.iconst 0, 1) := by decide +kernel
theorem at259_40 : am_at 259 40 = some (.ireturn, 1) := by decide +kernel
theorem at260_0 : am_at 260 0 = some (.aload_n 0, 1) := by decide +kernel
theorem at260_1 : am_at 260 1 = some (.iconst 0, 1) := by decide +kernel
theorem at260_2 : am_at 260 2 = some (.putfield 110000, 3) := by decide +kernel
theorem at260_5 : am_at 260 5 = some (.aload_n 0, 1) := by decide +kernel
theorem at260_6 : am_at 260 6 = some (.iload_n 1, 1) := by decide +kernel
theorem at260_7 : am_at 260 7 = some (.iconst 1, 1) := by decide +kernel
theorem at260_8 : am_at 260 8 = some (.invokevirtual 206, 3) := by decide +kernel
theorem at260_11 : am_at 260 11 = some (.ifCond .ne 5, 3) := by decide +kernel
theorem at260_14 : am_at 260 14 = some (.iconst 0, 1) := by decide +kernel
theorem at260_15 : am_at 260 15 = some (.ireturn, 1) := by decide +kernel
theorem at260_16 : am_at 260 16 = some (.iconst 0, 1) := by decide +kernel
theorem at260_17 : am_at 260 17 = some (.istore_n 2, 1) := by decide +kernel
theorem at260_18 : am_at 260 18 = some (.iconst (-1), 1) := by decide +kernel
theorem at260_19 : am_at 260 19 = some (.istore_n 3, 1) := by decide +kernel
theorem at260_20 : am_at 260 20 = some (.iconst 1, 1) := by decide +kernel
theorem at260_21 : am_at 260 21 = some (.istore 4, 2) := by decide +kernel
theorem at260_23 : am_at 260 23 = some (.iload 4, 2) := by decide +kernel
theorem at260_25 : am_at 260 25 = some (.bipush 9, 2) := by decide +kernel
theorem at260_27 : am_at 260 27 = some (.if_icmp .gt 123, 3) := by decide +kernel
theorem at260_30 : am_at 260 30 = some (.iconst 1, 1) := by decide +kernel
theorem at260_31 : am_at 260 31 = some (.istore 5, 2) := by decide +kernel
theorem at260_33 : am_at 260 33 = some (.iload 5, 2) := by decide +kernel
theorem at260_35 : am_at 260 35 = some (.bipush 9, 2) := by decide +kernel
theorem at260_37 : am_at 260 37 = some (.if_icmp .gt 107, 3) := by decide +kernel
theorem at260_40 : am_at 260 40 = some (.iconst 1, 1) := by decide +kernel
theorem at260_41 : am_at 260 41 = some (.istore 6, 2) := by decide +kernel
theorem at260_43 : am_at 260 43 = some (.iconst 1, 1) := by decide +kernel
theorem at260_44 : am_at 260 44 = some (.istore 7, 2) := by decide +kernel
theorem at260_46 : am_at 260 46 = some (.iload 7, 2) := by decide +kernel
theorem at260_48 : am_at 260 48 = some (.bipush 9, 2) := by decide +kernel
theorem at260_50 : am_at 260 50 = some (.if_icmp .gt 63, 3) := by decide +kernel
theorem at260_53 : am_at 260 53 = some (.iload 6, 2) := by decide +kernel
theorem at260_55 : am_at 260 55 = some (.ifCond .eq 49, 3) := by decide +kernel
theorem at260_58 : am_at 260 58 = some (.aload_n 0, 1) := by decide +kernel
theorem at260_59 : am_at 260 59 = some (.iload 7, 2) := by decide +kernel
theorem at260_61 : am_at 260 61 = some (.iload 5, 2) := by decide +kernel
theorem at260_63 : am_at 260 63 = some (.iconst 1, 1) := by decide +kernel
theorem at260_64 : am_at 260 64 = some (.invokevirtual 259, 3) := by decide +kernel
theorem at260_67 : am_at 260 67 = some (.aload_n 0, 1) := by decide +kernel
theorem at260_68 : am_at 260 68 = some (.iload 4, 2) := by decide +kernel
theorem at260_70 : am_at 260 70 = some (.iload 5, 2) := by decide +kernel
theorem at260_72 : am_at 260 72 = some (.iconst 1, 1) := by decide +kernel
theorem at260_73 : am_at 260 73 = some (.invokevirtual 259, 3) := by decide +kernel
theorem at260_76 : am_at 260 76 = some (.if_icmp .gt 28, 3) := by decide +kernel
theorem at260_79 : am_at 260 79 = some (.aload_n 0, 1) := by decide +kernel
theorem at260_80 : am_at 260 80 = some (.iload 4, 2) := by decide +kernel
theorem at260_82 : am_at 260 82 = some (.iload 7, 2) := by decide +kernel
theorem at260_84 : am_at 260 84 = some (.iconst 0, 1) := by decide +kernel
theorem at260_85 : am_at 260 85 = some (.invokevirtual 259, 3) := by decide +kernel
theorem at260_88 : am_at 260 88 = some (.aload_n 0, 1) := by decide +kernel
theorem at260_89 : am_at 260 89 = some (.iload 4, 2) := by decide +kernel
theorem at260_91 : am_at 260 91 = some (.iload 5, 2) := by decide +kernel
theorem at260_93 : am_at 260 93 = some (.iconst 0, 1) := by decide +kernel
theorem at260_94 : am_at 260 94 = some (.invokevirtual 259, 3) := by decide +kernel
theorem at260_97 : am_at 260 97 = some (.if_icmp .gt 7, 3) := by decide +kernel
theorem at260_100 : am_at 260 100 = some (.iconst 1, 1) := by decide +kernel
theorem at260_101 : am_at 260 101 = some (.goto 4, 3) := by decide +kernel
theorem at260_104 : am_at 260 104 = some (.iconst 0, 1) := by decide +kernel
theorem at260_105 : am_at 260 105 = some (.istore 6, 2) := by decide +kernel
theorem at260_107 : am_at 260 107 = some (.iinc 7 1, 3) := by decide +kernel
theorem at260_110 : am_at 260 110 = some (.goto (-64), 3) := by decide +kernel
theorem at260_113 : am_at 260 113 = some (.iload 6, 2) := by decide +kernel
theorem at260_115 : am_at 260 115 = some (.ifCond .ne 6, 3) := by decide +kernel
theorem at260_118 : am_at 260 118 = some (.goto 20, 3) := by decide +kernel
theorem at260_121 : am_at 260 121 = some (.iinc 2 1, 3) := by decide +kernel
theorem at260_124 : am_at 260 124 = some (.iload_n 3, 1) := by decide +kernel
theorem at260_125 : am_at 260 125 = some (.iconst (-1), 1) := by decide +kernel
theorem at260_126 : am_at 260 126 = some (.if_icmp .ne 12, 3) := by decide +kernel
theorem at260_129 : am_at 260 129 = some (.bipush 10, 2) := by decide +kernel
theorem at260_131 : am_at 260 131 = some (.iload 4, 2) := by decide +kernel
theorem at260_133 : am_at 260 133 = some (.imul, 1) := by decide +kernel
theorem at260_134 : am_at 260 134 = some (.iload 5, 2) := by decide +kernel
theorem at260_136 : am_at 260 136 = some (.iadd, 1) := by decide +kernel
theorem at260_137 : am_at 260 137 = some (.istore_n 3, 1) := by decide +kernel
theorem at260_138 : am_at 260 138 = some (.iinc 5 1, 3) := by decide +kernel
theorem at260_141 : am_at 260 141 = some (.goto (-108), 3) := by decide +kernel
theorem at260_144 : am_at 260 144 = some (.iinc 4 1, 3) := by decide +kernel
theorem at260_147 : am_at 260 147 = some (.goto (-124), 3) := by decide +kernel
theorem at260_150 : am_at 260 150 = some (.iload_n 1, 1) := by decide +kernel
theorem at260_151 : am_at 260 151 = some (.ifCond .ne 7, 3) := by decide +kernel
theorem at260_154 : am_at 260 154 = some (.iload_n 2, 1) := by decide +kernel
theorem at260_155 : am_at 260 155 = some (.goto 4, 3) := by decide +kernel
theorem at260_158 : am_at 260 158 = some (.iload_n 3, 1) := by decide +kernel
theorem at260_159 : am_at 260 159 = some (.ireturn, 1) := by decide +kernel
theorem at261_0 : am_at 261 0 = some (.aload_n 0, 1) := by decide +kernel
theorem at261_1 : am_at 261 1 = some (.iconst 0, 1) := by decide +kernel
theorem at261_2 : am_at 261 2 = some (.putfield 110000, 3) := by decide +kernel
theorem at261_5 : am_at 261 5 = some (.aload_n 0, 1) := by decide +kernel
theorem at261_6 : am_at 261 6 = some (.iload_n 1, 1) := by decide +kernel
theorem at261_7 : am_at 261 7 = some (.iconst 0, 1) := by decide +kernel
theorem at261_8 : am_at 261 8 = some (.bipush 60, 2) := by decide +kernel
theorem at261_10 : am_at 261 10 = some (.invokestatic 159, 3) := by decide +kernel
theorem at261_13 : am_at 261 13 = some (.iconst 1, 1) := by decide +kernel
theorem at261_14 : am_at 261 14 = some (.invokevirtual 158, 3) := by decide +kernel
theorem at261_17 : am_at 261 17 = some (.ifCond .ne 5, 3) := by decide +kernel
theorem at261_20 : am_at 261 20 = some (.iconst 0, 1) := by decide +kernel
theorem at261_21 : am_at 261 21 = some (.ireturn, 1) := by decide +kernel
theorem at261_22 : am_at 261 22 = some (.iconst 1, 1) := by decide +kernel
theorem at261_23 : am_at 261 23 = some (.istore_n 2, 1) := by decide +kernel
theorem at261_24 : am_at 261 24 = some (.iload_n 2, 1) := by decide +kernel
theorem at261_25 : am_at 261 25 = some (.bipush 99, 2) := by decide +kernel
theorem at261_27 : am_at 261 27 = some (.if_icmp .gt 20, 3) := by decide +kernel
theorem at261_30 : am_at 261 30 = some (.aload_n 0, 1) := by decide +kernel
theorem at261_31 : am_at 261 31 = some (.iload_n 2, 1) := by decide +kernel
theorem at261_32 : am_at 261 32 = some (.invokevirtual 258, 3) := by decide +kernel
theorem at261_35 : am_at 261 35 = some (.iload_n 1, 1) := by decide +kernel
theorem at261_36 : am_at 261 36 = some (.if_icmp .gt 5, 3) := by decide +kernel
theorem at261_39 : am_at 261 39 = some (.iload_n 2, 1) := by decide +kernel
theorem at261_40 : am_at 261 40 = some (.ireturn, 1) := by decide +kernel
theorem at261_41 : am_at 261 41 = some (.iinc 2 1, 3) := by decide +kernel
theorem at261_44 : am_at 261 44 = some (.goto (-20), 3) := by decide +kernel
theorem at261_47 : am_at 261 47 = some (.iconst (-1), 1) := by decide +kernel
theorem at261_48 : am_at 261 48 = some (.ireturn, 1) := by decide +kernel
theorem at262_0 : am_at 262 0 = some (.aload_n 0, 1) := by decide +kernel
theorem at262_1 : am_at 262 1 = some (.aload_n 0, 1) := by decide +kernel
theorem at262_2 : am_at 262 2 = some (.getfield 110610, 3) := by decide +kernel
theorem at262_5 : am_at 262 5 = some (.ldc_w 1103515245, 3) := by decide +kernel
theorem at262_8 : am_at 262 8 = some (.imul, 1) := by decide +kernel
theorem at262_9 : am_at 262 9 = some (.sipush 12345, 3) := by decide +kernel
theorem at262_12 : am_at 262 12 = some (.iadd, 1) := by decide +kernel
theorem at262_13 : am_at 262 13 = some (.putfield 110610, 3) := by decide +kernel
theorem at262_16 : am_at 262 16 = some (.aload_n 0, 1) := by decide +kernel
theorem at262_17 : am_at 262 17 = some (.getfield 110610, 3) := by decide +kernel
theorem at262_20 : am_at 262 20 = some (.bipush 16, 2) := by decide +kernel
theorem at262_22 : am_at 262 22 = some (.ishr, 1) := by decide +kernel
theorem at262_23 : am_at 262 23 = some (.sipush 32767, 3) := by decide +kernel
theorem at262_26 : am_at 262 26 = some (.iand, 1) := by decide +kernel
theorem at262_27 : am_at 262 27 = some (.iload_n 1, 1) := by decide +kernel
theorem at262_28 : am_at 262 28 = some (.irem, 1) := by decide +kernel
theorem at262_29 : am_at 262 29 = some (.ireturn, 1) := by decide +kernel
theorem at263_0 : am_at 263 0 = some (.iconst 0, 1) := by decide +kernel
theorem at263_1 : am_at 263 1 = some (.istore 4, 2) := by decide +kernel
theorem at263_3 : am_at 263 3 = some (.iload 4, 2) := by decide +kernel
theorem at263_5 : am_at 263 5 = some (.aload_n 0, 1) := by decide +kernel
theorem at263_6 : am_at 263 6 = some (.getfield 110020, 3) := by decide +kernel
theorem at263_9 : am_at 263 9 = some (.if_icmp .ge 37, 3) := by decide +kernel
theorem at263_12 : am_at 263 12 = some (.aload_n 1, 1) := by decide +kernel
theorem at263_13 : am_at 263 13 = some (.iload_n 2, 1) := by decide +kernel
theorem at263_14 : am_at 263 14 = some (.iload 4, 2) := by decide +kernel
theorem at263_16 : am_at 263 16 = some (.invokestatic 199, 3) := by decide +kernel
theorem at263_19 : am_at 263 19 = some (.ifCond .eq 21, 3) := by decide +kernel
theorem at263_22 : am_at 263 22 = some (.aload_n 1, 1) := by decide +kernel
theorem at263_23 : am_at 263 23 = some (.iload_n 3, 1) := by decide +kernel
theorem at263_24 : am_at 263 24 = some (.iload 4, 2) := by decide +kernel
theorem at263_26 : am_at 263 26 = some (.invokestatic 199, 3) := by decide +kernel
theorem at263_29 : am_at 263 29 = some (.ifCond .ne 11, 3) := by decide +kernel
theorem at263_32 : am_at 263 32 = some (.aload_n 0, 1) := by decide +kernel
theorem at263_33 : am_at 263 33 = some (.aload_n 1, 1) := by decide +kernel
theorem at263_34 : am_at 263 34 = some (.iload 4, 2) := by decide +kernel
theorem at263_36 : am_at 263 36 = some (.iload_n 3, 1) := by decide +kernel
theorem at263_37 : am_at 263 37 = some (.invokevirtual 218, 3) := by decide +kernel
theorem at263_40 : am_at 263 40 = some (.iinc 4 1, 3) := by decide +kernel
theorem at263_43 : am_at 263 43 = some (.goto (-40), 3) := by decide +kernel
theorem at263_46 : am_at 263 46 = some (.return_, 1) := by decide +kernel
theorem at264_0 : am_at 264 0 = some (.aload_n 0, 1) := by decide +kernel
theorem at264_1 : am_at 264 1 = some (.iconst 0, 1) := by decide +kernel
theorem at264_2 : am_at 264 2 = some (.putfield 110000, 3) := by decide +kernel
theorem at264_5 : am_at 264 5 = some (.iload_n 3, 1) := by decide +kernel
theorem at264_6 : am_at 264 6 = some (.iconst (-1), 1) := by decide +kernel
theorem at264_7 : am_at 264 7 = some (.if_icmp .eq 11, 3) := by decide +kernel
theorem at264_10 : am_at 264 10 = some (.aload_n 0, 1) := by decide +kernel
theorem at264_11 : am_at 264 11 = some (.iload_n 3, 1) := by decide +kernel
theorem at264_12 : am_at 264 12 = some (.invokevirtual 204, 3) := by decide +kernel
theorem at264_15 : am_at 264 15 = some (.ifCond .eq 18, 3) := by decide +kernel
theorem at264_18 : am_at 264 18 = some (.aload_n 0, 1) := by decide +kernel
theorem at264_19 : am_at 264 19 = some (.iload_n 2, 1) := by decide +kernel
theorem at264_20 : am_at 264 20 = some (.iconst 0, 1) := by decide +kernel
theorem at264_21 : am_at 264 21 = some (.bipush 60, 2) := by decide +kernel
theorem at264_23 : am_at 264 23 = some (.invokestatic 159, 3) := by decide +kernel
theorem at264_26 : am_at 264 26 = some (.iconst 2, 1) := by decide +kernel
theorem at264_27 : am_at 264 27 = some (.invokevirtual 158, 3) := by decide +kernel
theorem at264_30 : am_at 264 30 = some (.ifCond .ne 5, 3) := by decide +kernel
theorem at264_33 : am_at 264 33 = some (.iconst 0, 1) := by decide +kernel
theorem at264_34 : am_at 264 34 = some (.ireturn, 1) := by decide +kernel
theorem at264_35 : am_at 264 35 = some (.aload_n 0, 1) := by decide +kernel
theorem at264_36 : am_at 264 36 = some (.invokevirtual 224, 3) := by decide +kernel
theorem at264_39 : am_at 264 39 = some (.aload_n 0, 1) := by decide +kernel
theorem at264_40 : am_at 264 40 = some (.iload_n 1, 1) := by decide +kernel
theorem at264_41 : am_at 264 41 = some (.putfield 110610, 3) := by decide +kernel
theorem at264_44 : am_at 264 44 = some (.iconst 0, 1) := by decide +kernel
theorem at264_45 : am_at 264 45 = some (.istore 4, 2) := by decide +kernel
theorem at264_47 : am_at 264 47 = some (.iconst 0, 1) := by decide +kernel
theorem at264_48 : am_at 264 48 = some (.istore 5, 2) := by decide +kernel
theorem at264_50 : am_at 264 50 = some (.iload 5, 2) := by decide +kernel
theorem at264_52 : am_at 264 52 = some (.iload_n 2, 1) := by decide +kernel
theorem at264_53 : am_at 264 53 = some (.if_icmp .ge 128, 3) := by decide +kernel
theorem at264_56 : am_at 264 56 = some (.aload_n 0, 1) := by decide +kernel
theorem at264_57 : am_at 264 57 = some (.getfield 110010, 3) := by decide +kernel
theorem at264_60 : am_at 264 60 = some (.ifCond .le 102, 3) := by decide +kernel
theorem at264_63 : am_at 264 63 = some (.aload_n 0, 1) := by decide +kernel
theorem at264_64 : am_at 264 64 = some (.aload_n 0, 1) := by decide +kernel
theorem at264_65 : am_at 264 65 = some (.getfield 110010, 3) := by decide +kernel
theorem at264_68 : am_at 264 68 = some (.invokevirtual 262, 3) := by decide +kernel
theorem at264_71 : am_at 264 71 = some (.istore 6, 2) := by decide +kernel
theorem at264_73 : am_at 264 73 = some (.aload_n 0, 1) := by decide +kernel
theorem at264_74 : am_at 264 74 = some (.getfield 110422, 3) := by decide +kernel
theorem at264_77 : am_at 264 77 = some (.bipush 13, 2) := by decide +kernel
theorem at264_79 : am_at 264 79 = some (.iload 6, 2) := by decide +kernel
theorem at264_81 : am_at 264 81 = some (.iadd, 1) := by decide +kernel
theorem at264_82 : am_at 264 82 = some (.aload_n 0, 1) := by decide +kernel
theorem at264_83 : am_at 264 83 = some (.bipush 6, 2) := by decide +kernel
theorem at264_85 : am_at 264 85 = some (.invokevirtual 262, 3) := by decide +kernel
theorem at264_88 : am_at 264 88 = some (.iastore, 1) := by decide +kernel
theorem at264_89 : am_at 264 89 = some (.aload_n 0, 1) := by decide +kernel
theorem at264_90 : am_at 264 90 = some (.getfield 110030, 3) := by decide +kernel
theorem at264_93 : am_at 264 93 = some (.ifCond .le 69, 3) := by decide +kernel
theorem at264_96 : am_at 264 96 = some (.aload_n 0, 1) := by decide +kernel
theorem at264_97 : am_at 264 97 = some (.aload_n 0, 1) := by decide +kernel
theorem at264_98 : am_at 264 98 = some (.getfield 110030, 3) := by decide +kernel
theorem at264_101 : am_at 264 101 = some (.invokevirtual 262, 3) := by decide +kernel
theorem at264_104 : am_at 264 104 = some (.istore 7, 2) := by decide +kernel
theorem at264_106 : am_at 264 106 = some (.aload_n 0, 1) := by decide +kernel
theorem at264_107 : am_at 264 107 = some (.aload_n 0, 1) := by decide +kernel
theorem at264_108 : am_at 264 108 = some (.getfield 110422, 3) := by decide +kernel
theorem at264_111 : am_at 264 111 = some (.aload_n 0, 1) := by decide +kernel
theorem at264_112 : am_at 264 112 = some (.getfield 110072, 3) := by decide +kernel
theorem at264_115 : am_at 264 115 = some (.iconst 2, 1) := by decide +kernel
theorem at264_116 : am_at 264 116 = some (.iload 7, 2) := by decide +kernel
theorem at264_118 : am_at 264 118 = some (.imul, 1) := by decide +kernel
theorem at264_119 : am_at 264 119 = some (.iaload, 1) := by decide +kernel
theorem at264_120 : am_at 264 120 = some (.aload_n 0, 1) := by decide +kernel
theorem at264_121 : am_at 264 121 = some (.getfield 110072, 3) := by decide +kernel
theorem at264_124 : am_at 264 124 = some (.iconst 2, 1) := by decide +kernel
theorem at264_125 : am_at 264 125 = some (.iload 7, 2) := by decide +kernel
theorem at264_127 : am_at 264 127 = some (.imul, 1) := by decide +kernel
theorem at264_128 : am_at 264 128 = some (.iconst 1, 1) := by decide +kernel
theorem at264_129 : am_at 264 129 = some (.iadd, 1) := by decide +kernel
theorem at264_130 : am_at 264 130 = some (.iaload, 1) := by decide +kernel
theorem at264_131 : am_at 264 131 = some (.invokevirtual 263, 3) := by decide +kernel
theorem at264_134 : am_at 264 134 = some (.aload_n 0, 1) := by decide +kernel
theorem at264_135 : am_at 264 135 = some (.aload_n 0, 1) := by decide +kernel
theorem at264_136 : am_at 264 136 = some (.getfield 110422, 3) := by decide +kernel
theorem at264_139 : am_at 264 139 = some (.aload_n 0, 1) := by decide +kernel
theorem at264_140 : am_at 264 140 = some (.getfield 110072, 3) := by decide +kernel
theorem at264_143 : am_at 264 143 = some (.iconst 2, 1) := by decide +kernel
theorem at264_144 : am_at 264 144 = some (.iload 7, 2) := by decide +kernel
theorem at264_146 : am_at 264 146 = some (.imul, 1) := by decide +kernel
theorem at264_147 : am_at 264 147 = some (.iconst 1, 1) := by decide +kernel
theorem at264_148 : am_at 264 148 = some (.iadd, 1) := by decide +kernel
theorem at264_149 : am_at 264 149 = some (.iaload, 1) := by decide +kernel
theorem at264_150 : am_at 264 150 = some (.aload_n 0, 1) := by decide +kernel
theorem at264_151 : am_at 264 151 = some (.getfield 110072, 3) := by decide +kernel
theorem at264_154 : am_at 264 154 = some (.iconst 2, 1) := by decide +kernel
theorem at264_155 : am_at 264 155 = some (.iload 7, 2) := by decide +kernel
theorem at264_157 : am_at 264 157 = some (.imul, 1) := by decide +kernel
theorem at264_158 : am_at 264 158 = some (.iaload, 1) := by decide +kernel
theorem at264_159 : am_at 264 159 = some (.invokevirtual 263, 3) := by decide +kernel
theorem at264_162 : am_at 264 162 = some (.iload 4, 2) := by decide +kernel
theorem at264_164 : am_at 264 164 = some (.aload_n 0, 1) := by decide +kernel
theorem at264_165 : am_at 264 165 = some (.aload_n 0, 1) := by decide +kernel
theorem at264_166 : am_at 264 166 = some (.getfield 110422, 3) := by decide +kernel
theorem at264_169 : am_at 264 169 = some (.invokevirtual 216, 3) := by decide +kernel
theorem at264_172 : am_at 264 172 = some (.iadd, 1) := by decide +kernel
theorem at264_173 : am_at 264 173 = some (.istore 4, 2) := by decide +kernel
theorem at264_175 : am_at 264 175 = some (.iinc 5 1, 3) := by decide +kernel
theorem at264_178 : am_at 264 178 = some (.goto (-128), 3) := by decide +kernel
theorem at264_181 : am_at 264 181 = some (.iload_n 3, 1) := by decide +kernel
theorem at264_182 : am_at 264 182 = some (.iconst (-1), 1) := by decide +kernel
theorem at264_183 : am_at 264 183 = some (.if_icmp .ne 8, 3) := by decide +kernel
theorem at264_186 : am_at 264 186 = some (.iload 4, 2) := by decide +kernel
theorem at264_188 : am_at 264 188 = some (.goto 15, 3) := by decide +kernel
theorem at264_191 : am_at 264 191 = some (.aload_n 0, 1) := by decide +kernel
theorem at264_192 : am_at 264 192 = some (.aload_n 0, 1) := by decide +kernel
theorem at264_193 : am_at 264 193 = some (.getfield 110422, 3) := by decide +kernel
theorem at264_196 : am_at 264 196 = some (.iload_n 3, 1) := by decide +kernel
theorem at264_197 : am_at 264 197 = some (.invokevirtual 200, 3) := by decide +kernel
theorem at264_200 : am_at 264 200 = some (.invokestatic 161, 3) := by decide +kernel
theorem at264_203 : am_at 264 203 = some (.ireturn, 1) := by decide +kernel
theorem at265_0 : am_at 265 0 = some (.aload_n 0, 1) := by decide +kernel
theorem at265_1 : am_at 265 1 = some (.iconst 0, 1) := by decide +kernel
theorem at265_2 : am_at 265 2 = some (.putfield 110000, 3) := by decide +kernel
theorem at265_5 : am_at 265 5 = some (.aload_n 0, 1) := by decide +kernel
theorem at265_6 : am_at 265 6 = some (.iconst 1, 1) := by decide +kernel
theorem at265_7 : am_at 265 7 = some (.putfield 110621, 3) := by decide +kernel
theorem at265_10 : am_at 265 10 = some (.aload_n 0, 1) := by decide +kernel
theorem at265_11 : am_at 265 11 = some (.aload_n 0, 1) := by decide +kernel
theorem at265_12 : am_at 265 12 = some (.getfield 110440, 3) := by decide +kernel
theorem at265_15 : am_at 265 15 = some (.putfield 110630, 3) := by decide +kernel
theorem at265_18 : am_at 265 18 = some (.aload_n 0, 1) := by decide +kernel
theorem at265_19 : am_at 265 19 = some (.aload_n 0, 1) := by decide +kernel
theorem at265_20 : am_at 265 20 = some (.getfield 110590, 3) := by decide +kernel
theorem at265_23 : am_at 265 23 = some (.putfield 110640, 3) := by decide +kernel
theorem at265_26 : am_at 265 26 = some (.aload_n 0, 1) := by decide +kernel
theorem at265_27 : am_at 265 27 = some (.aload_n 0, 1) := by decide +kernel
theorem at265_28 : am_at 265 28 = some (.getfield 110412, 3) := by decide +kernel
theorem at265_31 : am_at 265 31 = some (.aload_n 0, 1) := by decide +kernel
theorem at265_32 : am_at 265 32 = some (.getfield 110652, 3) := by decide +kernel
theorem at265_35 : am_at 265 35 = some (.invokevirtual 160, 3) := by decide +kernel
theorem at265_38 : am_at 265 38 = some (.aload_n 0, 1) := by decide +kernel
theorem at265_39 : am_at 265 39 = some (.aload_n 0, 1) := by decide +kernel
theorem at265_40 : am_at 265 40 = some (.getfield 110432, 3) := by decide +kernel
theorem at265_43 : am_at 265 43 = some (.aload_n 0, 1) := by decide +kernel
theorem at265_44 : am_at 265 44 = some (.getfield 110662, 3) := by decide +kernel
theorem at265_47 : am_at 265 47 = some (.invokevirtual 160, 3) := by decide +kernel
theorem at265_50 : am_at 265 50 = some (.aload_n 0, 1) := by decide +kernel
theorem at265_51 : am_at 265 51 = some (.aload_n 0, 1) := by decide +kernel
theorem at265_52 : am_at 265 52 = some (.getfield 110602, 3) := by decide +kernel
theorem at265_55 : am_at 265 55 = some (.aload_n 0, 1) := by decide +kernel
theorem at265_56 : am_at 265 56 = some (.getfield 110672, 3) := by decide +kernel
theorem at265_59 : am_at 265 59 = some (.invokevirtual 160, 3) := by decide +kernel
theorem at265_62 : am_at 265 62 = some (.return_, 1) := by decide +kernel
theorem at266_0 : am_at 266 0 = some (.aload_n 0, 1) := by decide +kernel
theorem at266_1 : am_at 266 1 = some (.iconst 0, 1) := by decide +kernel
theorem at266_2 : am_at 266 2 = some (.putfield 110000, 3) := by decide +kernel
theorem at266_5 : am_at 266 5 = some (.aload_n 0, 1) := by decide +kernel
theorem at266_6 : am_at 266 6 = some (.getfield 110621, 3) := by decide +kernel
theorem at266_9 : am_at 266 9 = some (.ifCond .ne 5, 3) := by decide +kernel
theorem at266_12 : am_at 266 12 = some (.iconst 0, 1) := by decide +kernel
theorem at266_13 : am_at 266 13 = some (.ireturn, 1) := by decide +kernel
theorem at266_14 : am_at 266 14 = some (.aload_n 0, 1) := by decide +kernel
theorem at266_15 : am_at 266 15 = some (.aload_n 0, 1) := by decide +kernel
theorem at266_16 : am_at 266 16 = some (.getfield 110630, 3) := by decide +kernel
theorem at266_19 : am_at 266 19 = some (.putfield 110440, 3) := by decide +kernel
theorem at266_22 : am_at 266 22 = some (.aload_n 0, 1) := by decide +kernel
theorem at266_23 : am_at 266 23 = some (.aload_n 0, 1) := by decide +kernel
theorem at266_24 : am_at 266 24 = some (.getfield 110640, 3) := by decide +kernel
theorem at266_27 : am_at 266 27 = some (.putfield 110590, 3) := by decide +kernel
theorem at266_30 : am_at 266 30 = some (.aload_n 0, 1) := by decide +kernel
theorem at266_31 : am_at 266 31 = some (.aload_n 0, 1) := by decide +kernel
theorem at266_32 : am_at 266 32 = some (.getfield 110652, 3) := by decide +kernel
theorem at266_35 : am_at 266 35 = some (.aload_n 0, 1) := by decide +kernel
theorem at266_36 : am_at 266 36 = some (.getfield 110412, 3) := by decide +kernel
theorem at266_39 : am_at 266 39 = some (.invokevirtual 160, 3) := by decide +kernel
theorem at266_42 : am_at 266 42 = some (.aload_n 0, 1) := by decide +kernel
theorem at266_43 : am_at 266 43 = some (.aload_n 0, 1) := by decide +kernel
theorem at266_44 : am_at 266 44 = some (.getfield 110662, 3) := by decide +kernel
theorem at266_47 : am_at 266 47 = some (.aload_n 0, 1) := by decide +kernel
theorem at266_48 : am_at 266 48 = some (.getfield 110432, 3) := by decide +kernel
theorem at266_51 : am_at 266 51 = some (.invokevirtual 160, 3) := by decide +kernel
theorem at266_54 : am_at 266 54 = some (.aload_n 0, 1) := by decide +kernel
theorem at266_55 : am_at 266 55 = some (.aload_n 0, 1) := by decide +kernel
theorem at266_56 : am_at 266 56 = some (.getfield 110672, 3) := by decide +kernel
theorem at266_59 : am_at 266 59 = some (.aload_n 0, 1) := by decide +kernel
theorem at266_60 : am_at 266 60 = some (.getfield 110602, 3) := by decide +kernel
theorem at266_63 : am_at 266 63 = some (.invokevirtual 160, 3) := by decide +kernel
theorem at266_66 : am_at 266 66 = some (.iconst 1, 1) := by decide +kernel
theorem at266_67 : am_at 266 67 = some (.ireturn, 1) := by decide +kernel
theorem at267_0 : am_at 267 0 = some (.iload_n 0, 1) := by decide +kernel
theorem at267_1 : am_at 267 1 = some (.iconst (-1), 1) := by decide +kernel
theorem at267_2 : am_at 267 2 = some (.ixor, 1) := by decide +kernel
theorem at267_3 : am_at 267 3 = some (.iload_n 0, 1) := by decide +kernel
theorem at267_4 : am_at 267 4 = some (.iconst 1, 1) := by decide +kernel
theorem at267_5 : am_at 267 5 = some (.isub, 1) := by decide +kernel
theorem at267_6 : am_at 267 6 = some (.iand, 1) := by decide +kernel
theorem at267_7 : am_at 267 7 = some (.istore_n 0, 1) := by decide +kernel
theorem at267_8 : am_at 267 8 = some (.iload_n 0, 1) := by decide +kernel
theorem at267_9 : am_at 267 9 = some (.ifCond .gt 8, 3) := by decide +kernel
theorem at267_12 : am_at 267 12 = some (.iload_n 0, 1) := by decide +kernel
theorem at267_13 : am_at 267 13 = some (.bipush 32, 2) := by decide +kernel
theorem at267_15 : am_at 267 15 = some (.iand, 1) := by decide +kernel
theorem at267_16 : am_at 267 16 = some (.ireturn, 1) := by decide +kernel
theorem at267_17 : am_at 267 17 = some (.iconst 1, 1) := by decide +kernel
theorem at267_18 : am_at 267 18 = some (.istore_n 1, 1) := by decide +kernel
theorem at267_19 : am_at 267 19 = some (.iload_n 0, 1) := by decide +kernel
theorem at267_20 : am_at 267 20 = some (.ldc_w 65536, 3) := by decide +kernel
theorem at267_23 : am_at 267 23 = some (.if_icmp .le 11, 3) := by decide +kernel
theorem at267_26 : am_at 267 26 = some (.iinc 1 16, 3) := by decide +kernel
theorem at267_29 : am_at 267 29 = some (.iload_n 0, 1) := by decide +kernel
theorem at267_30 : am_at 267 30 = some (.bipush 16, 2) := by decide +kernel
theorem at267_32 : am_at 267 32 = some (.iushr, 1) := by decide +kernel
theorem at267_33 : am_at 267 33 = some (.istore_n 0, 1) := by decide +kernel
theorem at267_34 : am_at 267 34 = some (.iload_n 0, 1) := by decide +kernel
theorem at267_35 : am_at 267 35 = some (.sipush 256, 3) := by decide +kernel
theorem at267_38 : am_at 267 38 = some (.if_icmp .le 11, 3) := by decide +kernel
theorem at267_41 : am_at 267 41 = some (.iinc 1 8, 3) := by decide +kernel
theorem at267_44 : am_at 267 44 = some (.iload_n 0, 1) := by decide +kernel
theorem at267_45 : am_at 267 45 = some (.bipush 8, 2) := by decide +kernel
theorem at267_47 : am_at 267 47 = some (.iushr, 1) := by decide +kernel
theorem at267_48 : am_at 267 48 = some (.istore_n 0, 1) := by decide +kernel
theorem at267_49 : am_at 267 49 = some (.iload_n 0, 1) := by decide +kernel
theorem at267_50 : am_at 267 50 = some (.bipush 16, 2) := by decide +kernel
theorem at267_52 : am_at 267 52 = some (.if_icmp .le 10, 3) := by decide +kernel
theorem at267_55 : am_at 267 55 = some (.iinc 1 4, 3) := by decide +kernel
theorem at267_58 : am_at 267 58 = some (.iload_n 0, 1) := by decide +kernel
theorem at267_59 : am_at 267 59 = some (.iconst 4, 1) := by decide +kernel
theorem at267_60 : am_at 267 60 = some (.iushr, 1) := by decide +kernel
theorem at267_61 : am_at 267 61 = some (.istore_n 0, 1) := by decide +kernel
theorem at267_62 : am_at 267 62 = some (.iload_n 0, 1) := by decide +kernel
theorem at267_63 : am_at 267 63 = some (.iconst 4, 1) := by decide +kernel
theorem at267_64 : am_at 267 64 = some (.if_icmp .le 10, 3) := by decide +kernel
theorem at267_67 : am_at 267 67 = some (.iinc 1 2, 3) := by decide +kernel
theorem at267_70 : am_at 267 70 = some (.iload_n 0, 1) := by decide +kernel
theorem at267_71 : am_at 267 71 = some (.iconst 2, 1) := by decide +kernel
theorem at267_72 : am_at 267 72 = some (.iushr, 1) := by decide +kernel
theorem at267_73 : am_at 267 73 = some (.istore_n 0, 1) := by decide +kernel
theorem at267_74 : am_at 267 74 = some (.iload_n 1, 1) := by decide +kernel
theorem at267_75 : am_at 267 75 = some (.iload_n 0, 1) := by decide +kernel
theorem at267_76 : am_at 267 76 = some (.iconst 1, 1) := by decide +kernel
theorem at267_77 : am_at 267 77 = some (.iushr, 1) := by decide +kernel
theorem at267_78 : am_at 267 78 = some (.iadd, 1) := by decide +kernel
theorem at267_79 : am_at 267 79 = some (.ireturn, 1) := by decide +kernel
theorem at268_0 : am_at 268 0 = some (.iload_n 0, 1) := by decide +kernel
theorem at268_1 : am_at 268 1 = some (.iload_n 0, 1) := by decide +kernel
theorem at268_2 : am_at 268 2 = some (.iconst 1, 1) := by decide +kernel
theorem at268_3 : am_at 268 3 = some (.iushr, 1) := by decide +kernel
theorem at268_4 : am_at 268 4 = some (.ldc_w 1431655765, 3) := by decide +kernel
theorem at268_7 : am_at 268 7 = some (.iand, 1) := by decide +kernel
theorem at268_8 : am_at 268 8 = some (.isub, 1) := by decide +kernel
theorem at268_9 : am_at 268 9 = some (.istore_n 0, 1) := by decide +kernel
theorem at268_10 : am_at 268 10 = some (.iload_n 0, 1) := by decide +kernel
theorem at268_11 : am_at 268 11 = some (.ldc_w 858993459, 3) := by decide +kernel
theorem at268_14 : am_at 268 14 = some (.iand, 1) := by decide +kernel
theorem at268_15 : am_at 268 15 = some (.iload_n 0, 1) := by decide +kernel
theorem at268_16 : am_at 268 16 = some (.iconst 2, 1) := by decide +kernel
theorem at268_17 : am_at 268 17 = some (.iushr, 1) := by decide +kernel
theorem at268_18 : am_at 268 18 = some (.ldc_w 858993459, 3) := by decide +kernel
theorem at268_21 : am_at 268 21 = some (.iand, 1) := by decide +kernel
theorem at268_22 : am_at 268 22 = some (.iadd, 1) := by decide +kernel
theorem at268_23 : am_at 268 23 = some (.istore_n 0, 1) := by decide +kernel
theorem at268_24 : am_at 268 24 = some (.iload_n 0, 1) := by decide +kernel
theorem at268_25 : am_at 268 25 = some (.iload_n 0, 1) := by decide +kernel
theorem at268_26 : am_at 268 26 = some (.iconst 4, 1) := by decide +kernel
theorem at268_27 : am_at 268 27 = some (.iushr, 1) := by decide +kernel
theorem at268_28 : am_at 268 28 = some (.iadd, 1) := by decide +kernel
theorem at268_29 : am_at 268 29 = some (.ldc_w 252645135, 3) := by decide +kernel
theorem at268_32 : am_at 268 32 = some (.iand, 1) := by decide +kernel
theorem at268_33 : am_at 268 33 = some (.istore_n 0, 1) := by decide +kernel
theorem at268_34 : am_at 268 34 = some (.iload_n 0, 1) := by decide +kernel
theorem at268_35 : am_at 268 35 = some (.iload_n 0, 1) := by decide +kernel
theorem at268_36 : am_at 268 36 = some (.bipush 8, 2) := by decide +kernel
theorem at268_38 : am_at 268 38 = some (.iushr, 1) := by decide +kernel
theorem at268_39 : am_at 268 39 = some (.iadd, 1) := by decide +kernel
theorem at268_40 : am_at 268 40 = some (.istore_n 0, 1) := by decide +kernel
theorem at268_41 : am_at 268 41 = some (.iload_n 0, 1) := by decide +kernel
theorem at268_42 : am_at 268 42 = some (.iload_n 0, 1) := by decide +kernel
theorem at268_43 : am_at 268 43 = some (.bipush 16, 2) := by decide +kernel
theorem at268_45 : am_at 268 45 = some (.iushr, 1) := by decide +kernel
theorem at268_46 : am_at 268 46 = some (.iadd, 1) := by decide +kernel
theorem at268_47 : am_at 268 47 = some (.istore_n 0, 1) := by decide +kernel
theorem at268_48 : am_at 268 48 = some (.iload_n 0, 1) := by decide +kernel
theorem at268_49 : am_at 268 49 = some (.bipush 63, 2) := by decide +kernel
theorem at268_51 : am_at 268 51 = some (.iand, 1) := by decide +kernel
theorem at268_52 : am_at 268 52 = some (.ireturn, 1) := by decide +kernel
theorem at269_0 : am_at 269 0 = some (.iload_n 0, 1) := by decide +kernel
theorem at269_1 : am_at 269 1 = some (.iload_n 1, 1) := by decide +kernel
theorem at269_2 : am_at 269 2 = some (.if_icmp .lt 7, 3) := by decide +kernel
theorem at269_5 : am_at 269 5 = some (.iload_n 0, 1) := by decide +kernel
theorem at269_6 : am_at 269 6 = some (.goto 4, 3) := by decide +kernel
theorem at269_9 : am_at 269 9 = some (.iload_n 1, 1) := by decide +kernel
theorem at269_10 : am_at 269 10 = some (.ireturn, 1) := by decide +kernel
theorem at270_0 : am_at 270 0 = some (.iload_n 0, 1) := by decide +kernel
theorem at270_1 : am_at 270 1 = some (.iload_n 1, 1) := by decide +kernel
theorem at270_2 : am_at 270 2 = some (.if_icmp .gt 7, 3) := by decide +kernel
theorem at270_5 : am_at 270 5 = some (.iload_n 0, 1) := by decide +kernel
theorem at270_6 : am_at 270 6 = some (.goto 4, 3) := by decide +kernel
theorem at270_9 : am_at 270 9 = some (.iload_n 1, 1) := by decide +kernel
theorem at270_10 : am_at 270 10 = some (.ireturn, 1) := by decide +kernel
theorem at271_0 : am_at 271 0 = some (.iconst 0, 1) := by decide +kernel
theorem at271_1 : am_at 271 1 = some (.istore_n 2, 1) := by decide +kernel
theorem at271_2 : am_at 271 2 = some (.aload_n 0, 1) := by decide +kernel
theorem at271_3 : am_at 271 3 = some (.arraylength, 1) := by decide +kernel
theorem at271_4 : am_at 271 4 = some (.istore_n 3, 1) := by decide +kernel
theorem at271_5 : am_at 271 5 = some (.iload_n 2, 1) := by decide +kernel
theorem at271_6 : am_at 271 6 = some (.iload_n 3, 1) := by decide +kernel
theorem at271_7 : am_at 271 7 = some (.if_icmp .ge 13, 3) := by decide +kernel
theorem at271_10 : am_at 271 10 = some (.aload_n 0, 1) := by decide +kernel
theorem at271_11 : am_at 271 11 = some (.iload_n 2, 1) := by decide +kernel
theorem at271_12 : am_at 271 12 = some (.iload_n 1, 1) := by decide +kernel
theorem at271_13 : am_at 271 13 = some (.iastore, 1) := by decide +kernel
theorem at271_14 : am_at 271 14 = some (.iinc 2 1, 3) := by decide +kernel
theorem at271_17 : am_at 271 17 = some (.goto (-12), 3) := by decide +kernel
theorem at271_20 : am_at 271 20 = some (.return_, 1) := by decide +kernel
theorem at272_0 : am_at 272 0 = some (.aload_n 2, 1) := by decide +kernel
theorem at272_1 : am_at 272 1 = some (.iconst 0, 1) := by decide +kernel
theorem at272_2 : am_at 272 2 = some (.aload_n 0, 1) := by decide +kernel
theorem at272_3 : am_at 272 3 = some (.iload_n 1, 1) := by decide +kernel
theorem at272_4 : am_at 272 4 = some (.invokevirtual 105, 3) := by decide +kernel
theorem at272_7 : am_at 272 7 = some (.i2l, 1) := by decide +kernel
theorem at272_8 : am_at 272 8 = some (.lastore, 1) := by decide +kernel
theorem at272_9 : am_at 272 9 = some (.goto 6, 3) := by decide +kernel
theorem at272_12 : am_at 272 12 = some (.astore_n 3, 1) := by decide +kernel
theorem at272_13 : am_at 272 13 = some (.iconst 1, 1) := by decide +kernel
theorem at272_14 : am_at 272 14 = some (.ireturn, 1) := by decide +kernel
theorem at272_15 : am_at 272 15 = some (.iconst 0, 1) := by decide +kernel
theorem at272_16 : am_at 272 16 = some (.ireturn, 1) := by decide +kernel
theorem at273_0 : am_at 273 0 = some (.aload_n 2, 1) := by decide +kernel
theorem at273_1 : am_at 273 1 = some (.iconst 0, 1) := by decide +kernel
theorem at273_2 : am_at 273 2 = some (.aload_n 0, 1) := by decide +kernel
theorem at273_3 : am_at 273 3 = some (.iload_n 1, 1) := by decide +kernel
theorem at273_4 : am_at 273 4 = some (.invokevirtual 107, 3) := by decide +kernel
theorem at273_7 : am_at 273 7 = some (.i2l, 1) := by decide +kernel
theorem at273_8 : am_at 273 8 = some (.lastore, 1) := by decide +kernel
theorem at273_9 : am_at 273 9 = some (.goto 6, 3) := by decide +kernel
theorem at273_12 : am_at 273 12 = some (.astore_n 3, 1) := by decide +kernel
theorem at273_13 : am_at 273 13 = some (.iconst 1, 1) := by decide +kernel
theorem at273_14 : am_at 273 14 = some (.ireturn, 1) := by decide +kernel
theorem at273_15 : am_at 273 15 = some (.iconst 0, 1) := by decide +kernel
theorem at273_16 : am_at 273 16 = some (.ireturn, 1) := by decide +kernel
theorem at274_0 : am_at 274 0 = some (.aload_n 3, 1) := by decide +kernel
theorem at274_1 : am_at 274 1 = some (.iconst 0, 1) := by decide +kernel
theorem at274_2 : am_at 274 2 = some (.aload_n 0, 1) := by decide +kernel
theorem at274_3 : am_at 274 3 = some (.iload_n 1, 1) := by decide +kernel
theorem at274_4 : am_at 274 4 = some (.iload_n 2, 1) := by decide +kernel
theorem at274_5 : am_at 274 5 = some (.invokevirtual 108, 3) := by decide +kernel
theorem at274_8 : am_at 274 8 = some (.i2l, 1) := by decide +kernel
theorem at274_9 : am_at 274 9 = some (.lastore, 1) := by decide +kernel
theorem at274_10 : am_at 274 10 = some (.goto 7, 3) := by decide +kernel
theorem at274_13 : am_at 274 13 = some (.astore 4, 2) := by decide +kernel
theorem at274_15 : am_at 274 15 = some (.iconst 1, 1) := by decide +kernel
theorem at274_16 : am_at 274 16 = some (.ireturn, 1) := by decide +kernel
theorem at274_17 : am_at 274 17 = some (.iconst 0, 1) := by decide +kernel
theorem at274_18 : am_at 274 18 = some (.ireturn, 1) := by decide +kernel
theorem at275_0 : am_at 275 0 = some (.aload_n 3, 1) := by decide +kernel
theorem at275_1 : am_at 275 1 = some (.iconst 0, 1) := by decide +kernel
theorem at275_2 : am_at 275 2 = some (.aload_n 0, 1) := by decide +kernel
theorem at275_3 : am_at 275 3 = some (.iload_n 1, 1) := by decide +kernel
theorem at275_4 : am_at 275 4 = some (.iload_n 2, 1) := by decide +kernel
theorem at275_5 : am_at 275 5 = some (.invokevirtual 109, 3) := by decide +kernel
theorem at275_8 : am_at 275 8 = some (.i2l, 1) := by decide +kernel
theorem at275_9 : am_at 275 9 = some (.lastore, 1) := by decide +kernel
theorem at275_10 : am_at 275 10 = some (.goto 7, 3) := by decide +kernel
theorem at275_13 : am_at 275 13 = some (.astore 4, 2) := by decide +kernel
theorem at275_15 : am_at 275 15 = some (.iconst 1, 1) := by decide +kernel
theorem at275_16 : am_at 275 16 = some (.ireturn, 1) := by decide +kernel
theorem at275_17 : am_at 275 17 = some (.iconst 0, 1) := by decide +kernel
theorem at275_18 : am_at 275 18 = some (.ireturn, 1) := by decide +kernel
theorem at276_0 : am_at 276 0 = some (.aload_n 3, 1) := by decide +kernel
theorem at276_1 : am_at 276 1 = some (.iconst 0, 1) := by decide +kernel
theorem at276_2 : am_at 276 2 = some (.aload_n 0, 1) := by decide +kernel
theorem at276_3 : am_at 276 3 = some (.iload_n 1, 1) := by decide +kernel
theorem at276_4 : am_at 276 4 = some (.iload_n 2, 1) := by decide +kernel
theorem at276_5 : am_at 276 5 = some (.invokevirtual 110, 3) := by decide +kernel
theorem at276_8 : am_at 276 8 = some (.i2l, 1) := by decide +kernel
theorem at276_9 : am_at 276 9 = some (.lastore, 1) := by decide +kernel
theorem at276_10 : am_at 276 10 = some (.goto 7, 3) := by decide +kernel
theorem at276_13 : am_at 276 13 = some (.astore 4, 2) := by decide +kernel
theorem at276_15 : am_at 276 15 = some (.iconst 1, 1) := by decide +kernel
theorem at276_16 : am_at 276 16 = some (.ireturn, 1) := by decide +kernel
theorem at276_17 : am_at 276 17 = some (.iconst 0, 1) := by decide +kernel
theorem at276_18 : am_at 276 18 = some (.ireturn, 1) := by decide +kernel
theorem at277_0 : am_at 277 0 = some (.aload_n 3, 1) := by decide +kernel
theorem at277_1 : am_at 277 1 = some (.iconst 0, 1) := by decide +kernel
theorem at277_2 : am_at 277 2 = some (.aload_n 0, 1) := by decide +kernel
theorem at277_3 : am_at 277 3 = some (.iload_n 1, 1) := by decide +kernel
theorem at277_4 : am_at 277 4 = some (.iload_n 2, 1) := by decide +kernel
theorem at277_5 : am_at 277 5 = some (.invokevirtual 111, 3) := by decide +kernel
theorem at277_8 : am_at 277 8 = some (.i2l, 1) := by decide +kernel
theorem at277_9 : am_at 277 9 = some (.lastore, 1) := by decide +kernel
theorem at277_10 : am_at 277 10 = some (.goto 7, 3) := by decide +kernel
theorem at277_13 : am_at 277 13 = some (.astore 4, 2) := by decide +kernel
theorem at277_15 : am_at 277 15 = some (.iconst 1, 1) := by decide +kernel
theorem at277_16 : am_at 277 16 = some (.ireturn, 1) := by decide +kernel
theorem at277_17 : am_at 277 17 = some (.iconst 0, 1) := by decide +kernel
theorem at277_18 : am_at 277 18 = some (.ireturn, 1) := by decide +kernel
theorem at278_0 : am_at 278 0 = some (.aload_n 3, 1) := by decide +kernel
theorem at278_1 : am_at 278 1 = some (.iconst 0, 1) := by decide +kernel
theorem at278_2 : am_at 278 2 = some (.aload_n 0, 1) := by decide +kernel
theorem at278_3 : am_at 278 3 = some (.iload_n 1, 1) := by decide +kernel
theorem at278_4 : am_at 278 4 = some (.iload_n 2, 1) := by decide +kernel
theorem at278_5 : am_at 278 5 = some (.invokevirtual 112, 3) := by decide +kernel
theorem at278_8 : am_at 278 8 = some (.i2l, 1) := by decide +kernel
theorem at278_9 : am_at 278 9 = some (.lastore, 1) := by decide +kernel
theorem at278_10 : am_at 278 10 = some (.goto 7, 3) := by decide +kernel
theorem at278_13 : am_at 278 13 = some (.astore 4, 2) := by decide +kernel
theorem at278_15 : am_at 278 15 = some (.iconst 1, 1) := by decide +kernel
theorem at278_16 : am_at 278 16 = some (.ireturn, 1) := by decide +kernel
theorem at278_17 : am_at 278 17 = some (.iconst 0, 1) := by decide +kernel
theorem at278_18 : am_at 278 18 = some (.ireturn, 1) := by decide +kernel
theorem at279_0 : am_at 279 0 = some (.aload 4, 2) := by decide +kernel
theorem at279_2 : am_at 279 2 = some (.iconst 0, 1) := by decide +kernel
theorem at279_3 : am_at 279 3 = some (.aload_n 0, 1) := by decide +kernel
theorem at279_4 : am_at 279 4 = some (.iload_n 1, 1) := by decide +kernel
theorem at279_5 : am_at 279 5 = some (.iload_n 2, 1) := by decide +kernel
theorem at279_6 : am_at 279 6 = some (.iload_n 3, 1) := by decide +kernel
theorem at279_7 : am_at 279 7 = some (.invokevirtual 113, 3) := by decide +kernel
theorem at279_10 : am_at 279 10 = some (.ifCond .eq 7, 3) := by decide +kernel
theorem at279_13 : am_at 279 13 = some (.lconst 1, 1) := by decide +kernel
theorem at279_14 : am_at 279 14 = some (.goto 4, 3) := by decide +kernel
theorem at279_17 : am_at 279 17 = some (.lconst 0, 1) := by decide +kernel
theorem at279_18 : am_at 279 18 = some (.lastore, 1) := by decide +kernel
theorem at279_19 : am_at 279 19 = some (.goto 7, 3) := by decide +kernel
theorem at279_22 : am_at 279 22 = some (.astore 5, 2) := by decide +kernel
theorem at279_24 : am_at 279 24 = some (.iconst 1, 1) := by decide +kernel
theorem at279_25 : am_at 279 25 = some (.ireturn, 1) := by decide +kernel
theorem at279_26 : am_at 279 26 = some (.iconst 0, 1) := by decide +kernel
theorem at279_27 : am_at 279 27 = some (.ireturn, 1) := by decide +kernel
theorem at280_0 : am_at 280 0 = some (.aload_n 3, 1) := by decide +kernel
theorem at280_1 : am_at 280 1 = some (.iconst 0, 1) := by decide +kernel
theorem at280_2 : am_at 280 2 = some (.aload_n 0, 1) := by decide +kernel
theorem at280_3 : am_at 280 3 = some (.iload_n 1, 1) := by decide +kernel
theorem at280_4 : am_at 280 4 = some (.iload_n 2, 1) := by decide +kernel
theorem at280_5 : am_at 280 5 = some (.invokevirtual 116, 3) := by decide +kernel
theorem at280_8 : am_at 280 8 = some (.i2l, 1) := by decide +kernel
theorem at280_9 : am_at 280 9 = some (.lastore, 1) := by decide +kernel
theorem at280_10 : am_at 280 10 = some (.goto 11, 3) := by decide +kernel
theorem at280_13 : am_at 280 13 = some (.astore 4, 2) := by decide +kernel
theorem at280_15 : am_at 280 15 = some (.iconst 1, 1) := by decide +kernel
theorem at280_16 : am_at 280 16 = some (.ireturn, 1) := by decide +kernel
theorem at280_17 : am_at 280 17 = some (.astore 4, 2) := by decide +kernel
theorem at280_19 : am_at 280 19 = some (.iconst 2, 1) := by decide +kernel
theorem at280_20 : am_at 280 20 = some (.ireturn, 1) := by decide +kernel
theorem at280_21 : am_at 280 21 = some (.iconst 0, 1) := by decide +kernel
theorem at280_22 : am_at 280 22 = some (.ireturn, 1) := by decide +kernel
theorem at281_0 : am_at 281 0 = some (.aload_n 3, 1) := by decide +kernel
theorem at281_1 : am_at 281 1 = some (.iconst 0, 1) := by decide +kernel
theorem at281_2 : am_at 281 2 = some (.aload_n 0, 1) := by decide +kernel
theorem at281_3 : am_at 281 3 = some (.iload_n 1, 1) := by decide +kernel
theorem at281_4 : am_at 281 4 = some (.iload_n 2, 1) := by decide +kernel
theorem at281_5 : am_at 281 5 = some (.invokevirtual 117, 3) := by decide +kernel
theorem at281_8 : am_at 281 8 = some (.i2l, 1) := by decide +kernel
theorem at281_9 : am_at 281 9 = some (.lastore, 1) := by decide +kernel
theorem at281_10 : am_at 281 10 = some (.goto 11, 3) := by decide +kernel
theorem at281_13 : am_at 281 13 = some (.astore 4, 2) := by decide +kernel
theorem at281_15 : am_at 281 15 = some (.iconst 1, 1) := by decide +kernel
theorem at281_16 : am_at 281 16 = some (.ireturn, 1) := by decide +kernel
theorem at281_17 : am_at 281 17 = some (.astore 4, 2) := by decide +kernel
theorem at281_19 : am_at 281 19 = some (.iconst 2, 1) := by decide +kernel
theorem at281_20 : am_at 281 20 = some (.ireturn, 1) := by decide +kernel
theorem at281_21 : am_at 281 21 = some (.iconst 0, 1) := by decide +kernel
theorem at281_22 : am_at 281 22 = some (.ireturn, 1) := by decide +kernel
theorem at282_0 : am_at 282 0 = some (.aload 4, 2) := by decide +kernel
theorem at282_2 : am_at 282 2 = some (.iconst 0, 1) := by decide +kernel
theorem at282_3 : am_at 282 3 = some (.aload_n 0, 1) := by decide +kernel
theorem at282_4 : am_at 282 4 = some (.iload_n 1, 1) := by decide +kernel
theorem at282_5 : am_at 282 5 = some (.iload_n 2, 1) := by decide +kernel
theorem at282_6 : am_at 282 6 = some (.iload_n 3, 1) := by decide +kernel
theorem at282_7 : am_at 282 7 = some (.invokevirtual 118, 3) := by decide +kernel
theorem at282_10 : am_at 282 10 = some (.i2l, 1) := by decide +kernel
theorem at282_11 : am_at 282 11 = some (.lastore, 1) := by decide +kernel
theorem at282_12 : am_at 282 12 = some (.goto 11, 3) := by decide +kernel
theorem at282_15 : am_at 282 15 = some (.astore 5, 2) := by decide +kernel
theorem at282_17 : am_at 282 17 = some (.iconst 1, 1) := by decide +kernel
theorem at282_18 : am_at 282 18 = some (.ireturn, 1) := by decide +kernel
theorem at282_19 : am_at 282 19 = some (.astore 5, 2) := by decide +kernel
theorem at282_21 : am_at 282 21 = some (.iconst 2, 1) := by decide +kernel
theorem at282_22 : am_at 282 22 = some (.ireturn, 1) := by decide +kernel
theorem at282_23 : am_at 282 23 = some (.iconst 0, 1) := by decide +kernel
theorem at282_24 : am_at 282 24 = some (.ireturn, 1) := by decide +kernel
theorem at283_0 : am_at 283 0 = some (.aload 4, 2) := by decide +kernel
theorem at283_2 : am_at 283 2 = some (.iconst 0, 1) := by decide +kernel
theorem at283_3 : am_at 283 3 = some (.aload_n 0, 1) := by decide +kernel
theorem at283_4 : am_at 283 4 = some (.iload_n 1, 1) := by decide +kernel
theorem at283_5 : am_at 283 5 = some (.iload_n 2, 1) := by decide +kernel
theorem at283_6 : am_at 283 6 = some (.iload_n 3, 1) := by decide +kernel
theorem at283_7 : am_at 283 7 = some (.invokevirtual 119, 3) := by decide +kernel
theorem at283_10 : am_at 283 10 = some (.i2l, 1) := by decide +kernel
theorem at283_11 : am_at 283 11 = some (.lastore, 1) := by decide +kernel
theorem at283_12 : am_at 283 12 = some (.goto 11, 3) := by decide +kernel
theorem at283_15 : am_at 283 15 = some (.astore 5, 2) := by decide +kernel
theorem at283_17 : am_at 283 17 = some (.iconst 1, 1) := by decide +kernel
theorem at283_18 : am_at 283 18 = some (.ireturn, 1) := by decide +kernel
theorem at283_19 : am_at 283 19 = some (.astore 5, 2) := by decide +kernel
theorem at283_21 : am_at 283 21 = some (.iconst 2, 1) := by decide +kernel
theorem at283_22 : am_at 283 22 = some (.ireturn, 1) := by decide +kernel
theorem at283_23 : am_at 283 23 = some (.iconst 0, 1) := by decide +kernel
theorem at283_24 : am_at 283 24 = some (.ireturn, 1) := by decide +kernel
theorem at284_0 : am_at 284 0 = some (.aload_n 2, 1) := by decide +kernel
theorem at284_1 : am_at 284 1 = some (.iconst 0, 1) := by decide +kernel
theorem at284_2 : am_at 284 2 = some (.aload_n 0, 1) := by decide +kernel
theorem at284_3 : am_at 284 3 = some (.iload_n 1, 1) := by decide +kernel
theorem at284_4 : am_at 284 4 = some (.invokevirtual 120, 3) := by decide +kernel
theorem at284_7 : am_at 284 7 = some (.i2l, 1) := by decide +kernel
theorem at284_8 : am_at 284 8 = some (.lastore, 1) := by decide +kernel
theorem at284_9 : am_at 284 9 = some (.goto 6, 3) := by decide +kernel
theorem at284_12 : am_at 284 12 = some (.astore_n 3, 1) := by decide +kernel
theorem at284_13 : am_at 284 13 = some (.iconst 1, 1) := by decide +kernel
theorem at284_14 : am_at 284 14 = some (.ireturn, 1) := by decide +kernel
theorem at284_15 : am_at 284 15 = some (.iconst 0, 1) := by decide +kernel
theorem at284_16 : am_at 284 16 = some (.ireturn, 1) := by decide +kernel
theorem at285_0 : am_at 285 0 = some (.aload 4, 2) := by decide +kernel
theorem at285_2 : am_at 285 2 = some (.iconst 0, 1) := by decide +kernel
theorem at285_3 : am_at 285 3 = some (.aload_n 0, 1) := by decide +kernel
theorem at285_4 : am_at 285 4 = some (.iload_n 1, 1) := by decide +kernel
theorem at285_5 : am_at 285 5 = some (.iload_n 2, 1) := by decide +kernel
theorem at285_6 : am_at 285 6 = some (.iload_n 3, 1) := by decide +kernel
theorem at285_7 : am_at 285 7 = some (.invokevirtual 121, 3) := by decide +kernel
theorem at285_10 : am_at 285 10 = some (.i2l, 1) := by decide +kernel
theorem at285_11 : am_at 285 11 = some (.lastore, 1) := by decide +kernel
theorem at285_12 : am_at 285 12 = some (.goto 7, 3) := by decide +kernel
theorem at285_15 : am_at 285 15 = some (.astore 5, 2) := by decide +kernel
theorem at285_17 : am_at 285 17 = some (.iconst 1, 1) := by decide +kernel
theorem at285_18 : am_at 285 18 = some (.ireturn, 1) := by decide +kernel
theorem at285_19 : am_at 285 19 = some (.iconst 0, 1) := by decide +kernel
theorem at285_20 : am_at 285 20 = some (.ireturn, 1) := by decide +kernel
theorem at286_0 : am_at 286 0 = some (.aload_n 3, 1) := by decide +kernel
theorem at286_1 : am_at 286 1 = some (.iconst 0, 1) := by decide +kernel
theorem at286_2 : am_at 286 2 = some (.aload_n 0, 1) := by decide +kernel
theorem at286_3 : am_at 286 3 = some (.iload_n 1, 1) := by decide +kernel
theorem at286_4 : am_at 286 4 = some (.iload_n 2, 1) := by decide +kernel
theorem at286_5 : am_at 286 5 = some (.invokevirtual 122, 3) := by decide +kernel
theorem at286_8 : am_at 286 8 = some (.i2l, 1) := by decide +kernel
theorem at286_9 : am_at 286 9 = some (.lastore, 1) := by decide +kernel
theorem at286_10 : am_at 286 10 = some (.goto 7, 3) := by decide +kernel
theorem at286_13 : am_at 286 13 = some (.astore 4, 2) := by decide +kernel
theorem at286_15 : am_at 286 15 = some (.iconst 1, 1) := by decide +kernel
theorem at286_16 : am_at 286 16 = some (.ireturn, 1) := by decide +kernel
theorem at286_17 : am_at 286 17 = some (.iconst 0, 1) := by decide +kernel
theorem at286_18 : am_at 286 18 = some (.ireturn, 1) := by decide +kernel
theorem at287_0 : am_at 287 0 = some (.aload_n 2, 1) := by decide +kernel
theorem at287_1 : am_at 287 1 = some (.iconst 0, 1) := by decide +kernel
theorem at287_2 : am_at 287 2 = some (.aload_n 0, 1) := by decide +kernel
theorem at287_3 : am_at 287 3 = some (.iload_n 1, 1) := by decide +kernel
theorem at287_4 : am_at 287 4 = some (.invokevirtual 123, 3) := by decide +kernel
theorem at287_7 : am_at 287 7 = some (.i2l, 1) := by decide +kernel
theorem at287_8 : am_at 287 8 = some (.lastore, 1) := by decide +kernel
theorem at287_9 : am_at 287 9 = some (.goto 6, 3) := by decide +kernel
theorem at287_12 : am_at 287 12 = some (.astore_n 3, 1) := by decide +kernel
theorem at287_13 : am_at 287 13 = some (.iconst 1, 1) := by decide +kernel
theorem at287_14 : am_at 287 14 = some (.ireturn, 1) := by decide +kernel
theorem at287_15 : am_at 287 15 = some (.iconst 0, 1) := by decide +kernel
theorem at287_16 : am_at 287 16 = some (.ireturn, 1) := by decide +kernel
theorem at288_0 : am_at 288 0 = some (.aload_n 3, 1) := by decide +kernel
theorem at288_1 : am_at 288 1 = some (.iconst 0, 1) := by decide +kernel
theorem at288_2 : am_at 288 2 = some (.aload_n 0, 1) := by decide +kernel
theorem at288_3 : am_at 288 3 = some (.iload_n 1, 1) := by decide +kernel
theorem at288_4 : am_at 288 4 = some (.iload_n 2, 1) := by decide +kernel
theorem at288_5 : am_at 288 5 = some (.invokevirtual 124, 3) := by decide +kernel
theorem at288_8 : am_at 288 8 = some (.i2l, 1) := by decide +kernel
theorem at288_9 : am_at 288 9 = some (.lastore, 1) := by decide +kernel
theorem at288_10 : am_at 288 10 = some (.goto 7, 3) := by decide +kernel
theorem at288_13 : am_at 288 13 = some (.astore 4, 2) := by decide +kernel
theorem at288_15 : am_at 288 15 = some (.iconst 1, 1) := by decide +kernel
theorem at288_16 : am_at 288 16 = some (.ireturn, 1) := by decide +kernel
theorem at288_17 : am_at 288 17 = some (.iconst 0, 1) := by decide +kernel
theorem at288_18 : am_at 288 18 = some (.ireturn, 1) := by decide +kernel
theorem at289_0 : am_at 289 0 = some (.aload_n 2, 1) := by decide +kernel
theorem at289_1 : am_at 289 1 = some (.iconst 0, 1) := by decide +kernel
theorem at289_2 : am_at 289 2 = some (.aload_n 0, 1) := by decide +kernel
theorem at289_3 : am_at 289 3 = some (.iload_n 1, 1) := by decide +kernel
theorem at289_4 : am_at 289 4 = some (.invokevirtual 125, 3) := by decide +kernel
theorem at289_7 : am_at 289 7 = some (.i2l, 1) := by decide +kernel
theorem at289_8 : am_at 289 8 = some (.lastore, 1) := by decide +kernel
theorem at289_9 : am_at 289 9 = some (.goto 6, 3) := by decide +kernel
theorem at289_12 : am_at 289 12 = some (.astore_n 3, 1) := by decide +kernel
theorem at289_13 : am_at 289 13 = some (.iconst 1, 1) := by decide +kernel
theorem at289_14 : am_at 289 14 = some (.ireturn, 1) := by decide +kernel
theorem at289_15 : am_at 289 15 = some (.iconst 0, 1) := by decide +kernel
theorem at289_16 : am_at 289 16 = some (.ireturn, 1) := by decide +kernel
theorem at290_0 : am_at 290 0 = some (.aload_n 2, 1) := by decide +kernel
theorem at290_1 : am_at 290 1 = some (.iconst 0, 1) := by decide +kernel
theorem at290_2 : am_at 290 2 = some (.aload_n 0, 1) := by decide +kernel
theorem at290_3 : am_at 290 3 = some (.iload_n 1, 1) := by decide +kernel
theorem at290_4 : am_at 290 4 = some (.invokevirtual 126, 3) := by decide +kernel
theorem at290_7 : am_at 290 7 = some (.i2l, 1) := by decide +kernel
theorem at290_8 : am_at 290 8 = some (.lastore, 1) := by decide +kernel
theorem at290_9 : am_at 290 9 = some (.goto 6, 3) := by decide +kernel
theorem at290_12 : am_at 290 12 = some (.astore_n 3, 1) := by decide +kernel
theorem at290_13 : am_at 290 13 = some (.iconst 1, 1) := by decide +kernel
theorem at290_14 : am_at 290 14 = some (.ireturn, 1) := by decide +kernel
theorem at290_15 : am_at 290 15 = some (.iconst 0, 1) := by decide +kernel
theorem at290_16 : am_at 290 16 = some (.ireturn, 1) := by decide +kernel
theorem at291_0 : am_at 291 0 = some (.aload_n 2, 1) := by decide +kernel
theorem at291_1 : am_at 291 1 = some (.iconst 0, 1) := by decide +kernel
theorem at291_2 : am_at 291 2 = some (.aload_n 0, 1) := by decide +kernel
theorem at291_3 : am_at 291 3 = some (.iload_n 1, 1) := by decide +kernel
theorem at291_4 : am_at 291 4 = some (.invokevirtual 127, 3) := by decide +kernel
theorem at291_7 : am_at 291 7 = some (.ifCond .eq 7, 3) := by decide +kernel
theorem at291_10 : am_at 291 10 = some (.lconst 1, 1) := by decide +kernel
theorem at291_11 : am_at 291 11 = some (.goto 4, 3) := by decide +kernel
theorem at291_14 : am_at 291 14 = some (.lconst 0, 1) := by decide +kernel
theorem at291_15 : am_at 291 15 = some (.lastore, 1) := by decide +kernel
theorem at291_16 : am_at 291 16 = some (.goto 6, 3) := by decide +kernel
theorem at291_19 : am_at 291 19 = some (.astore_n 3, 1) := by decide +kernel
theorem at291_20 : am_at 291 20 = some (.iconst 1, 1) := by decide +kernel
theorem at291_21 : am_at 291 21 = some (.ireturn, 1) := by decide +kernel
theorem at291_22 : am_at 291 22 = some (.iconst 0, 1) := by decide +kernel
theorem at291_23 : am_at 291 23 = some (.ireturn, 1) := by decide +kernel
theorem at292_0 : am_at 292 0 = some (.aload_n 2, 1) := by decide +kernel
theorem at292_1 : am_at 292 1 = some (.iconst 0, 1) := by decide +kernel
theorem at292_2 : am_at 292 2 = some (.aload_n 0, 1) := by decide +kernel
theorem at292_3 : am_at 292 3 = some (.iload_n 1, 1) := by decide +kernel
theorem at292_4 : am_at 292 4 = some (.invokevirtual 128, 3) := by decide +kernel
theorem at292_7 : am_at 292 7 = some (.i2l, 1) := by decide +kernel
theorem at292_8 : am_at 292 8 = some (.lastore, 1) := by decide +kernel
theorem at292_9 : am_at 292 9 = some (.goto 6, 3) := by decide +kernel
theorem at292_12 : am_at 292 12 = some (.astore_n 3, 1) := by decide +kernel
theorem at292_13 : am_at 292 13 = some (.iconst 1, 1) := by decide +kernel
theorem at292_14 : am_at 292 14 = some (.ireturn, 1) := by decide +kernel
theorem at292_15 : am_at 292 15 = some (.iconst 0, 1) := by decide +kernel
theorem at292_16 : am_at 292 16 = some (.ireturn, 1) := by decide +kernel
theorem at293_0 : am_at 293 0 = some (.aload_n 2, 1) := by decide +kernel
theorem at293_1 : am_at 293 1 = some (.iconst 0, 1) := by decide +kernel
theorem at293_2 : am_at 293 2 = some (.aload_n 0, 1) := by decide +kernel
theorem at293_3 : am_at 293 3 = some (.iload_n 1, 1) := by decide +kernel
theorem at293_4 : am_at 293 4 = some (.invokevirtual 129, 3) := by decide +kernel
theorem at293_7 : am_at 293 7 = some (.i2l, 1) := by decide +kernel
theorem at293_8 : am_at 293 8 = some (.lastore, 1) := by decide +kernel
theorem at293_9 : am_at 293 9 = some (.goto 6, 3) := by decide +kernel
theorem at293_12 : am_at 293 12 = some (.astore_n 3, 1) := by decide +kernel
theorem at293_13 : am_at 293 13 = some (.iconst 1, 1) := by decide +kernel
theorem at293_14 : am_at 293 14 = some (.ireturn, 1) := by decide +kernel
theorem at293_15 : am_at 293 15 = some (.iconst 0, 1) := by decide +kernel
theorem at293_16 : am_at 293 16 = some (.ireturn, 1) := by decide +kernel
theorem at294_0 : am_at 294 0 = some (.aload 4, 2) := by decide +kernel
theorem at294_2 : am_at 294 2 = some (.iconst 0, 1) := by decide +kernel
theorem at294_3 : am_at 294 3 = some (.aload_n 0, 1) := by decide +kernel
theorem at294_4 : am_at 294 4 = some (.iload_n 1, 1) := by decide +kernel
theorem at294_5 : am_at 294 5 = some (.iload_n 2, 1) := by decide +kernel
theorem at294_6 : am_at 294 6 = some (.iload_n 3, 1) := by decide +kernel
theorem at294_7 : am_at 294 7 = some (.invokevirtual 130, 3) := by decide +kernel
theorem at294_10 : am_at 294 10 = some (.i2l, 1) := by decide +kernel
theorem at294_11 : am_at 294 11 = some (.lastore, 1) := by decide +kernel
theorem at294_12 : am_at 294 12 = some (.goto 7, 3) := by decide +kernel
theorem at294_15 : am_at 294 15 = some (.astore 5, 2) := by decide +kernel
theorem at294_17 : am_at 294 17 = some (.iconst 1, 1) := by decide +kernel
theorem at294_18 : am_at 294 18 = some (.ireturn, 1) := by decide +kernel
theorem at294_19 : am_at 294 19 = some (.iconst 0, 1) := by decide +kernel
theorem at294_20 : am_at 294 20 = some (.ireturn, 1) := by decide +kernel
theorem at295_0 : am_at 295 0 = some (.aload_n 3, 1) := by decide +kernel
theorem at295_1 : am_at 295 1 = some (.iconst 0, 1) := by decide +kernel
theorem at295_2 : am_at 295 2 = some (.aload_n 0, 1) := by decide +kernel
theorem at295_3 : am_at 295 3 = some (.iload_n 1, 1) := by decide +kernel
theorem at295_4 : am_at 295 4 = some (.iload_n 2, 1) := by decide +kernel
theorem at295_5 : am_at 295 5 = some (.invokevirtual 132, 3) := by decide +kernel
theorem at295_8 : am_at 295 8 = some (.i2l, 1) := by decide +kernel
theorem at295_9 : am_at 295 9 = some (.lastore, 1) := by decide +kernel
theorem at295_10 : am_at 295 10 = some (.goto 7, 3) := by decide +kernel
theorem at295_13 : am_at 295 13 = some (.astore 4, 2) := by decide +kernel
theorem at295_15 : am_at 295 15 = some (.iconst 1, 1) := by decide +kernel
theorem at295_16 : am_at 295 16 = some (.ireturn, 1) := by decide +kernel
theorem at295_17 : am_at 295 17 = some (.iconst 0, 1) := by decide +kernel
theorem at295_18 : am_at 295 18 = some (.ireturn, 1) := by decide +kernel
theorem at296_0 : am_at 296 0 = some (.aload_n 2, 1) := by decide +kernel
theorem at296_1 : am_at 296 1 = some (.iconst 0, 1) := by decide +kernel
theorem at296_2 : am_at 296 2 = some (.aload_n 0, 1) := by decide +kernel
theorem at296_3 : am_at 296 3 = some (.iload_n 1, 1) := by decide +kernel
theorem at296_4 : am_at 296 4 = some (.invokevirtual 134, 3) := by decide +kernel
theorem at296_7 : am_at 296 7 = some (.i2l, 1) := by decide +kernel
theorem at296_8 : am_at 296 8 = some (.lastore, 1) := by decide +kernel
theorem at296_9 : am_at 296 9 = some (.goto 6, 3) := by decide +kernel
theorem at296_12 : am_at 296 12 = some (.astore_n 3, 1) := by decide +kernel
theorem at296_13 : am_at 296 13 = some (.iconst 1, 1) := by decide +kernel
theorem at296_14 : am_at 296 14 = some (.ireturn, 1) := by decide +kernel
theorem at296_15 : am_at 296 15 = some (.iconst 0, 1) := by decide +kernel
theorem at296_16 : am_at 296 16 = some (.ireturn, 1) := by decide +kernel
theorem at297_0 : am_at 297 0 = some (.aload_n 2, 1) := by decide +kernel
theorem at297_1 : am_at 297 1 = some (.iconst 0, 1) := by decide +kernel
theorem at297_2 : am_at 297 2 = some (.aload_n 0, 1) := by decide +kernel
theorem at297_3 : am_at 297 3 = some (.iload_n 1, 1) := by decide +kernel
theorem at297_4 : am_at 297 4 = some (.invokevirtual 135, 3) := by decide +kernel
theorem at297_7 : am_at 297 7 = some (.i2l, 1) := by decide +kernel
theorem at297_8 : am_at 297 8 = some (.lastore, 1) := by decide +kernel
theorem at297_9 : am_at 297 9 = some (.goto 6, 3) := by decide +kernel
theorem at297_12 : am_at 297 12 = some (.astore_n 3, 1) := by decide +kernel
theorem at297_13 : am_at 297 13 = some (.iconst 1, 1) := by decide +kernel
theorem at297_14 : am_at 297 14 = some (.ireturn, 1) := by decide +kernel
theorem at297_15 : am_at 297 15 = some (.iconst 0, 1) := by decide +kernel
theorem at297_16 : am_at 297 16 = some (.ireturn, 1) := by decide +kernel
theorem at298_0 : am_at 298 0 = some (.aload 4, 2) := by decide +kernel
theorem at298_2 : am_at 298 2 = some (.iconst 0, 1) := by decide +kernel
theorem at298_3 : am_at 298 3 = some (.aload_n 0, 1) := by decide +kernel
theorem at298_4 : am_at 298 4 = some (.iload_n 1, 1) := by decide +kernel
theorem at298_5 : am_at 298 5 = some (.iload_n 2, 1) := by decide +kernel
theorem at298_6 : am_at 298 6 = some (.iload_n 3, 1) := by decide +kernel
theorem at298_7 : am_at 298 7 = some (.invokevirtual 136, 3) := by decide +kernel
theorem at298_10 : am_at 298 10 = some (.i2l, 1) := by decide +kernel
theorem at298_11 : am_at 298 11 = some (.lastore, 1) := by decide +kernel
theorem at298_12 : am_at 298 12 = some (.goto 11, 3) := by decide +kernel
theorem at298_15 : am_at 298 15 = some (.astore 5, 2) := by decide +kernel
theorem at298_17 : am_at 298 17 = some (.iconst 1, 1) := by decide +kernel
theorem at298_18 : am_at 298 18 = some (.ireturn, 1) := by decide +kernel
theorem at298_19 : am_at 298 19 = some (.astore 5, 2) := by decide +kernel
theorem at298_21 : am_at 298 21 = some (.iconst 2, 1) := by decide +kernel
theorem at298_22 : am_at 298 22 = some (.ireturn, 1) := by decide +kernel
theorem at298_23 : am_at 298 23 = some (.iconst 0, 1) := by decide +kernel
theorem at298_24 : am_at 298 24 = some (.ireturn, 1) := by decide +kernel
theorem at299_0 : am_at 299 0 = some (.aload_n 2, 1) := by decide +kernel
theorem at299_1 : am_at 299 1 = some (.iconst 0, 1) := by decide +kernel
theorem at299_2 : am_at 299 2 = some (.aload_n 0, 1) := by decide +kernel
theorem at299_3 : am_at 299 3 = some (.iload_n 1, 1) := by decide +kernel
theorem at299_4 : am_at 299 4 = some (.invokevirtual 137, 3) := by decide +kernel
theorem at299_7 : am_at 299 7 = some (.i2l, 1) := by decide +kernel
theorem at299_8 : am_at 299 8 = some (.lastore, 1) := by decide +kernel
theorem at299_9 : am_at 299 9 = some (.goto 6, 3) := by decide +kernel
theorem at299_12 : am_at 299 12 = some (.astore_n 3, 1) := by decide +kernel
theorem at299_13 : am_at 299 13 = some (.iconst 1, 1) := by decide +kernel
theorem at299_14 : am_at 299 14 = some (.ireturn, 1) := by decide +kernel
theorem at299_15 : am_at 299 15 = some (.iconst 0, 1) := by decide +kernel
theorem at299_16 : am_at 299 16 = some (.ireturn, 1) := by decide +kernel
theorem at300_0 : am_at 300 0 = some (.aload_n 3, 1) := by decide +kernel
theorem at300_1 : am_at 300 1 = some (.iconst 0, 1) := by decide +kernel
theorem at300_2 : am_at 300 2 = some (.aload_n 0, 1) := by decide +kernel
theorem at300_3 : am_at 300 3 = some (.iload_n 1, 1) := by decide +kernel
theorem at300_4 : am_at 300 4 = some (.iload_n 2, 1) := by decide +kernel
theorem at300_5 : am_at 300 5 = some (.invokevirtual 138, 3) := by decide +kernel
theorem at300_8 : am_at 300 8 = some (.i2l, 1) := by decide +kernel
theorem at300_9 : am_at 300 9 = some (.lastore, 1) := by decide +kernel
theorem at300_10 : am_at 300 10 = some (.goto 11, 3) := by decide +kernel
theorem at300_13 : am_at 300 13 = some (.astore 4, 2) := by decide +kernel
theorem at300_15 : am_at 300 15 = some (.iconst 1, 1) := by decide +kernel
theorem at300_16 : am_at 300 16 = some (.ireturn, 1) := by decide +kernel
theorem at300_17 : am_at 300 17 = some (.astore 4, 2) := by decide +kernel
theorem at300_19 : am_at 300 19 = some (.iconst 2, 1) := by decide +kernel
theorem at300_20 : am_at 300 20 = some (.ireturn, 1) := by decide +kernel
theorem at300_21 : am_at 300 21 = some (.iconst 0, 1) := by decide +kernel
theorem at300_22 : am_at 300 22 = some (.ireturn, 1) := by decide +kernel
theorem at301_0 : am_at 301 0 = some (.aload_n 2, 1) := by decide +kernel
theorem at301_1 : am_at 301 1 = some (.iconst 0, 1) := by decide +kernel
theorem at301_2 : am_at 301 2 = some (.aload_n 0, 1) := by decide +kernel
theorem at301_3 : am_at 301 3 = some (.iload_n 1, 1) := by decide +kernel
theorem at301_4 : am_at 301 4 = some (.invokevirtual 139, 3) := by decide +kernel
theorem at301_7 : am_at 301 7 = some (.i2l, 1) := by decide +kernel
theorem at301_8 : am_at 301 8 = some (.lastore, 1) := by decide +kernel
theorem at301_9 : am_at 301 9 = some (.goto 6, 3) := by decide +kernel
theorem at301_12 : am_at 301 12 = some (.astore_n 3, 1) := by decide +kernel
theorem at301_13 : am_at 301 13 = some (.iconst 1, 1) := by decide +kernel
theorem at301_14 : am_at 301 14 = some (.ireturn, 1) := by decide +kernel
theorem at301_15 : am_at 301 15 = some (.iconst 0, 1) := by decide +kernel
theorem at301_16 : am_at 301 16 = some (.ireturn, 1) := by decide +kernel
theorem at302_0 : am_at 302 0 = some (.new 10, 3) := by decide +kernel
theorem at302_3 : am_at 302 3 = some (.dup, 1) := by decide +kernel
theorem at302_4 : am_at 302 4 = some (.invokespecial 103, 3) := by decide +kernel
theorem at302_7 : am_at 302 7 = some (.astore_n 1, 1) := by decide +kernel
theorem at302_8 : am_at 302 8 = some (.new 11, 3) := by decide +kernel
theorem at302_11 : am_at 302 11 = some (.dup, 1) := by decide +kernel
theorem at302_12 : am_at 302 12 = some (.invokespecial 156, 3) := by decide +kernel
theorem at302_15 : am_at 302 15 = some (.astore_n 2, 1) := by decide +kernel
theorem at302_16 : am_at 302 16 = some (.iconst 1, 1) := by decide +kernel
theorem at302_17 : am_at 302 17 = some (.newarray .long, 2) := by decide +kernel
theorem at302_19 : am_at 302 19 = some (.astore_n 3, 1) := by decide +kernel
theorem at302_20 : am_at 302 20 = some (.iconst 0, 1) := by decide +kernel
theorem at302_21 : am_at 302 21 = some (.istore 4, 2) := by decide +kernel
theorem at302_23 : am_at 302 23 = some (.iload 4, 2) := by decide +kernel
theorem at302_25 : am_at 302 25 = some (.aload_n 0, 1) := by decide +kernel
theorem at302_26 : am_at 302 26 = some (.arraylength, 1) := by decide +kernel
theorem at302_27 : am_at 302 27 = some (.bipush 6, 2) := by decide +kernel
theorem at302_29 : am_at 302 29 = some (.isub, 1) := by decide +kernel
theorem at302_30 : am_at 302 30 = some (.if_icmp .gt 2342, 3) := by decide +kernel
theorem at302_33 : am_at 302 33 = some (.aload_n 0, 1) := by decide +kernel
theorem at302_34 : am_at 302 34 = some (.iload 4, 2) := by decide +kernel
theorem at302_36 : am_at 302 36 = some (.iaload, 1) := by decide +kernel
theorem at302_37 : am_at 302 37 = some (.bipush 63, 2) := by decide +kernel
theorem at302_39 : am_at 302 39 = some (.iand, 1) := by decide +kernel
theorem at302_40 : am_at 302 40 = some (.tableswitch 2326 0 37 #[168, 241, 297, 310, 366, 434, 502, 570, 638, 706, 793, 818, 831, 899, 967, 1047, 1127, 1183, 1263, 1331, 1387, 1455, 1511, 1567, 1630, 1686, 1742, 1838, 1849, 1917, 1930, 1986, 2042, 2122, 2178, 2246, 2302, 2313], 168) := by decide +kernel
theorem at302_208 : am_at 302 208 = some (.aload_n 1, 1) := by decide +kernel
theorem at302_209 : am_at 302 209 = some (.aload_n 0, 1) := by decide +kernel
theorem at302_210 : am_at 302 210 = some (.iload 4, 2) := by decide +kernel
theorem at302_212 : am_at 302 212 = some (.iconst 1, 1) := by decide +kernel
theorem at302_213 : am_at 302 213 = some (.iadd, 1) := by decide +kernel
theorem at302_214 : am_at 302 214 = some (.iaload, 1) := by decide +kernel
theorem at302_215 : am_at 302 215 = some (.aload_n 0, 1) := by decide +kernel
theorem at302_216 : am_at 302 216 = some (.iload 4, 2) := by decide +kernel
theorem at302_218 : am_at 302 218 = some (.iconst 2, 1) := by decide +kernel
theorem at302_219 : am_at 302 219 = some (.iadd, 1) := by decide +kernel
theorem at302_220 : am_at 302 220 = some (.iaload, 1) := by decide +kernel
theorem at302_221 : am_at 302 221 = some (.aload_n 0, 1) := by decide +kernel
theorem at302_222 : am_at 302 222 = some (.iload 4, 2) := by decide +kernel
theorem at302_224 : am_at 302 224 = some (.iconst 3, 1) := by decide +kernel
theorem at302_225 : am_at 302 225 = some (.iadd, 1) := by decide +kernel
theorem at302_226 : am_at 302 226 = some (.iaload, 1) := by decide +kernel
theorem at302_227 : am_at 302 227 = some (.aload_n 0, 1) := by decide +kernel
theorem at302_228 : am_at 302 228 = some (.iload 4, 2) := by decide +kernel
theorem at302_230 : am_at 302 230 = some (.iconst 4, 1) := by decide +kernel
theorem at302_231 : am_at 302 231 = some (.iadd, 1) := by decide +kernel
theorem at302_232 : am_at 302 232 = some (.iaload, 1) := by decide +kernel
theorem at302_233 : am_at 302 233 = some (.aload_n 0, 1) := by decide +kernel
theorem at302_234 : am_at 302 234 = some (.iload 4, 2) := by decide +kernel
theorem at302_236 : am_at 302 236 = some (.iconst 5, 1) := by decide +kernel
theorem at302_237 : am_at 302 237 = some (.iadd, 1) := by decide +kernel
theorem at302_238 : am_at 302 238 = some (.iaload, 1) := by decide +kernel
theorem at302_239 : am_at 302 239 = some (.invokevirtual 104, 3) := by decide +kernel
theorem at302_242 : am_at 302 242 = some (.aload_n 2, 1) := by decide +kernel
theorem at302_243 : am_at 302 243 = some (.aload_n 0, 1) := by decide +kernel
theorem at302_244 : am_at 302 244 = some (.iload 4, 2) := by decide +kernel
theorem at302_246 : am_at 302 246 = some (.iconst 1, 1) := by decide +kernel
theorem at302_247 : am_at 302 247 = some (.iadd, 1) := by decide +kernel
theorem at302_248 : am_at 302 248 = some (.iaload, 1) := by decide +kernel
theorem at302_249 : am_at 302 249 = some (.aload_n 0, 1) := by decide +kernel
theorem at302_250 : am_at 302 250 = some (.iload 4, 2) := by decide +kernel
theorem at302_252 : am_at 302 252 = some (.iconst 2, 1) := by decide +kernel
theorem at302_253 : am_at 302 253 = some (.iadd, 1) := by decide +kernel
theorem at302_254 : am_at 302 254 = some (.iaload, 1) := by decide +kernel
theorem at302_255 : am_at 302 255 = some (.aload_n 0, 1) := by decide +kernel
theorem at302_256 : am_at 302 256 = some (.iload 4, 2) := by decide +kernel
theorem at302_258 : am_at 302 258 = some (.iconst 3, 1) := by decide +kernel
theorem at302_259 : am_at 302 259 = some (.iadd, 1) := by decide +kernel
theorem at302_260 : am_at 302 260 = some (.iaload, 1) := by decide +kernel
theorem at302_261 : am_at 302 261 = some (.aload_n 0, 1) := by decide +kernel
theorem at302_262 : am_at 302 262 = some (.iload 4, 2) := by decide +kernel
theorem at302_264 : am_at 302 264 = some (.iconst 4, 1) := by decide +kernel
theorem at302_265 : am_at 302 265 = some (.iadd, 1) := by decide +kernel
theorem at302_266 : am_at 302 266 = some (.iaload, 1) := by decide +kernel
theorem at302_267 : am_at 302 267 = some (.aload_n 0, 1) := by decide +kernel
theorem at302_268 : am_at 302 268 = some (.iload 4, 2) := by decide +kernel
theorem at302_270 : am_at 302 270 = some (.iconst 5, 1) := by decide +kernel
theorem at302_271 : am_at 302 271 = some (.iadd, 1) := by decide +kernel
theorem at302_272 : am_at 302 272 = some (.iaload, 1) := by decide +kernel
theorem at302_273 : am_at 302 273 = some (.invokevirtual 162, 3) := by decide +kernel
theorem at302_276 : am_at 302 276 = some (.if_icmp .eq 2090, 3) := by decide +kernel
theorem at302_279 : am_at 302 279 = some (.iconst 0, 1) := by decide +kernel
theorem at302_280 : am_at 302 280 = some (.ireturn, 1) := by decide +kernel
theorem at302_281 : am_at 302 281 = some (.aload_n 1, 1) := by decide +kernel
theorem at302_282 : am_at 302 282 = some (.aload_n 0, 1) := by decide +kernel
theorem at302_283 : am_at 302 283 = some (.iload 4, 2) := by decide +kernel
theorem at302_285 : am_at 302 285 = some (.iconst 1, 1) := by decide +kernel
theorem at302_286 : am_at 302 286 = some (.iadd, 1) := by decide +kernel
theorem at302_287 : am_at 302 287 = some (.iaload, 1) := by decide +kernel
theorem at302_288 : am_at 302 288 = some (.aload_n 3, 1) := by decide +kernel
theorem at302_289 : am_at 302 289 = some (.invokestatic 272, 3) := by decide +kernel
theorem at302_292 : am_at 302 292 = some (.istore 5, 2) := by decide +kernel
theorem at302_294 : am_at 302 294 = some (.aload_n 2, 1) := by decide +kernel
theorem at302_295 : am_at 302 295 = some (.aload_n 0, 1) := by decide +kernel
theorem at302_296 : am_at 302 296 = some (.iload 4, 2) := by decide +kernel
theorem at302_298 : am_at 302 298 = some (.iconst 1, 1) := by decide +kernel
theorem at302_299 : am_at 302 299 = some (.iadd, 1) := by decide +kernel
theorem at302_300 : am_at 302 300 = some (.iaload, 1) := by decide +kernel
theorem at302_301 : am_at 302 301 = some (.invokevirtual 192, 3) := by decide +kernel
theorem at302_304 : am_at 302 304 = some (.istore 6, 2) := by decide +kernel
theorem at302_306 : am_at 302 306 = some (.aload_n 2, 1) := by decide +kernel
theorem at302_307 : am_at 302 307 = some (.invokevirtual 157, 3) := by decide +kernel
theorem at302_310 : am_at 302 310 = some (.iload 5, 2) := by decide +kernel
theorem at302_312 : am_at 302 312 = some (.if_icmp .eq 5, 3) := by decide +kernel
theorem at302_315 : am_at 302 315 = some (.iconst 0, 1) := by decide +kernel
theorem at302_316 : am_at 302 316 = some (.ireturn, 1) := by decide +kernel
theorem at302_317 : am_at 302 317 = some (.iload 5, 2) := by decide +kernel
theorem at302_319 : am_at 302 319 = some (.ifCond .ne 15, 3) := by decide +kernel
theorem at302_322 : am_at 302 322 = some (.aload_n 3, 1) := by decide +kernel
theorem at302_323 : am_at 302 323 = some (.iconst 0, 1) := by decide +kernel
theorem at302_324 : am_at 302 324 = some (.laload, 1) := by decide +kernel
theorem at302_325 : am_at 302 325 = some (.iload 6, 2) := by decide +kernel
theorem at302_327 : am_at 302 327 = some (.i2l, 1) := by decide +kernel
theorem at302_328 : am_at 302 328 = some (.lcmp, 1) := by decide +kernel
theorem at302_329 : am_at 302 329 = some (.ifCond .eq 5, 3) := by decide +kernel
theorem at302_332 : am_at 302 332 = some (.iconst 0, 1) := by decide +kernel
theorem at302_333 : am_at 302 333 = some (.ireturn, 1) := by decide +kernel
theorem at302_334 : am_at 302 334 = some (.goto 2032, 3) := by decide +kernel
theorem at302_337 : am_at 302 337 = some (.aload_n 1, 1) := by decide +kernel
theorem at302_338 : am_at 302 338 = some (.invokevirtual 106, 3) := by decide +kernel
theorem at302_341 : am_at 302 341 = some (.aload_n 2, 1) := by decide +kernel
theorem at302_342 : am_at 302 342 = some (.invokevirtual 193, 3) := by decide +kernel
theorem at302_345 : am_at 302 345 = some (.if_icmp .eq 2021, 3) := by decide +kernel
theorem at302_348 : am_at 302 348 = some (.iconst 0, 1) := by decide +kernel
theorem at302_349 : am_at 302 349 = some (.ireturn, 1) := by decide +kernel
theorem at302_350 : am_at 302 350 = some (.aload_n 1, 1) := by decide +kernel
theorem at302_351 : am_at 302 351 = some (.aload_n 0, 1) := by decide +kernel
theorem at302_352 : am_at 302 352 = some (.iload 4, 2) := by decide +kernel
theorem at302_354 : am_at 302 354 = some (.iconst 1, 1) := by decide +kernel
theorem at302_355 : am_at 302 355 = some (.iadd, 1) := by decide +kernel
theorem at302_356 : am_at 302 356 = some (.iaload, 1) := by decide +kernel
theorem at302_357 : am_at 302 357 = some (.aload_n 3, 1) := by decide +kernel
theorem at302_358 : am_at 302 358 = some (.invokestatic 273, 3) := by decide +kernel
theorem at302_361 : am_at 302 361 = some (.istore 5, 2) := by decide +kernel
theorem at302_363 : am_at 302 363 = some (.aload_n 2, 1) := by decide +kernel
theorem at302_364 : am_at 302 364 = some (.aload_n 0, 1) := by decide +kernel
theorem at302_365 : am_at 302 365 = some (.iload 4, 2) := by decide +kernel
theorem at302_367 : am_at 302 367 = some (.iconst 1, 1) := by decide +kernel
theorem at302_368 : am_at 302 368 = some (.iadd, 1) := by decide +kernel
theorem at302_369 : am_at 302 369 = some (.iaload, 1) := by decide +kernel
theorem at302_370 : am_at 302 370 = some (.invokevirtual 203, 3) := by decide +kernel
theorem at302_373 : am_at 302 373 = some (.istore 6, 2) := by decide +kernel
theorem at302_375 : am_at 302 375 = some (.aload_n 2, 1) := by decide +kernel
theorem at302_376 : am_at 302 376 = some (.invokevirtual 157, 3) := by decide +kernel
theorem at302_379 : am_at 302 379 = some (.iload 5, 2) := by decide +kernel
theorem at302_381 : am_at 302 381 = some (.if_icmp .eq 5, 3) := by decide +kernel
theorem at302_384 : am_at 302 384 = some (.iconst 0, 1) := by decide +kernel
theorem at302_385 : am_at 302 385 = some (.ireturn, 1) := by decide +kernel
theorem at302_386 : am_at 302 386 = some (.iload 5, 2) := by decide +kernel
theorem at302_388 : am_at 302 388 = some (.ifCond .ne 15, 3) := by decide +kernel
theorem at302_391 : am_at 302 391 = some (.aload_n 3, 1) := by decide +kernel
theorem at302_392 : am_at 302 392 = some (.iconst 0, 1) := by decide +kernel
theorem at302_393 : am_at 302 393 = some (.laload, 1) := by decide +kernel
theorem at302_394 : am_at 302 394 = some (.iload 6, 2) := by decide +kernel
theorem at302_396 : am_at 302 396 = some (.i2l, 1) := by decide +kernel
theorem at302_397 : am_at 302 397 = some (.lcmp, 1) := by decide +kernel
theorem at302_398 : am_at 302 398 = some (.ifCond .eq 5, 3) := by decide +kernel
theorem at302_401 : am_at 302 401 = some (.iconst 0, 1) := by decide +kernel
theorem at302_402 : am_at 302 402 = some (.ireturn, 1) := by decide +kernel
theorem at302_403 : am_at 302 403 = some (.goto 1963, 3) := by decide +kernel
theorem at302_406 : am_at 302 406 = some (.aload_n 1, 1) := by decide +kernel
theorem at302_407 : am_at 302 407 = some (.aload_n 0, 1) := by decide +kernel
theorem at302_408 : am_at 302 408 = some (.iload 4, 2) := by decide +kernel
theorem at302_410 : am_at 302 410 = some (.iconst 1, 1) := by decide +kernel
theorem at302_411 : am_at 302 411 = some (.iadd, 1) := by decide +kernel
theorem at302_412 : am_at 302 412 = some (.iaload, 1) := by decide +kernel
theorem at302_413 : am_at 302 413 = some (.aload_n 0, 1) := by decide +kernel
theorem at302_414 : am_at 302 414 = some (.iload 4, 2) := by decide +kernel
theorem at302_416 : am_at 302 416 = some (.iconst 2, 1) := by decide +kernel
theorem at302_417 : am_at 302 417 = some (.iadd, 1) := by decide +kernel
theorem at302_418 : am_at 302 418 = some (.iaload, 1) := by decide +kernel
theorem at302_419 : am_at 302 419 = some (.aload_n 3, 1) := by decide +kernel
theorem at302_420 : am_at 302 420 = some (.invokestatic 274, 3) := by decide +kernel
theorem at302_423 : am_at 302 423 = some (.istore 5, 2) := by decide +kernel
theorem at302_425 : am_at 302 425 = some (.aload_n 2, 1) := by decide +kernel
theorem at302_426 : am_at 302 426 = some (.aload_n 0, 1) := by decide +kernel
theorem at302_427 : am_at 302 427 = some (.iload 4, 2) := by decide +kernel
theorem at302_429 : am_at 302 429 = some (.iconst 1, 1) := by decide +kernel
theorem at302_430 : am_at 302 430 = some (.iadd, 1) := by decide +kernel
theorem at302_431 : am_at 302 431 = some (.iaload, 1) := by decide +kernel
theorem at302_432 : am_at 302 432 = some (.aload_n 0, 1) := by decide +kernel
theorem at302_433 : am_at 302 433 = some (.iload 4, 2) := by decide +kernel
theorem at302_435 : am_at 302 435 = some (.iconst 2, 1) := by decide +kernel
theorem at302_436 : am_at 302 436 = some (.iadd, 1) := by decide +kernel
theorem at302_437 : am_at 302 437 = some (.iaload, 1) := by decide +kernel
theorem at302_438 : am_at 302 438 = some (.invokevirtual 207, 3) := by decide +kernel
theorem at302_441 : am_at 302 441 = some (.istore 6, 2) := by decide +kernel
theorem at302_443 : am_at 302 443 = some (.aload_n 2, 1) := by decide +kernel
theorem at302_444 : am_at 302 444 = some (.invokevirtual 157, 3) := by decide +kernel
theorem at302_447 : am_at 302 447 = some (.iload 5, 2) := by decide +kernel
theorem at302_449 : am_at 302 449 = some (.if_icmp .eq 5, 3) := by decide +kernel
theorem at302_452 : am_at 302 452 = some (.iconst 0, 1) := by decide +kernel
theorem at302_453 : am_at 302 453 = some (.ireturn, 1) := by decide +kernel
theorem at302_454 : am_at 302 454 = some (.iload 5, 2) := by decide +kernel
theorem at302_456 : am_at 302 456 = some (.ifCond .ne 15, 3) := by decide +kernel
theorem at302_459 : am_at 302 459 = some (.aload_n 3, 1) := by decide +kernel
theorem at302_460 : am_at 302 460 = some (.iconst 0, 1) := by decide +kernel
theorem at302_461 : am_at 302 461 = some (.laload, 1) := by decide +kernel
theorem at302_462 : am_at 302 462 = some (.iload 6, 2) := by decide +kernel
theorem at302_464 : am_at 302 464 = some (.i2l, 1) := by decide +kernel
theorem at302_465 : am_at 302 465 = some (.lcmp, 1) := by decide +kernel
theorem at302_466 : am_at 302 466 = some (.ifCond .eq 5, 3) := by decide +kernel
theorem at302_469 : am_at 302 469 = some (.iconst 0, 1) := by decide +kernel
theorem at302_470 : am_at 302 470 = some (.ireturn, 1) := by decide +kernel
theorem at302_471 : am_at 302 471 = some (.goto 1895, 3) := by decide +kernel
theorem at302_474 : am_at 302 474 = some (.aload_n 1, 1) := by decide +kernel
theorem at302_475 : am_at 302 475 = some (.aload_n 0, 1) := by decide +kernel
theorem at302_476 : am_at 302 476 = some (.iload 4, 2) := by decide +kernel
theorem at302_478 : am_at 302 478 = some (.iconst 1, 1) := by decide +kernel
theorem at302_479 : am_at 302 479 = some (.iadd, 1) := by decide +kernel
theorem at302_480 : am_at 302 480 = some (.iaload, 1) := by decide +kernel
theorem at302_481 : am_at 302 481 = some (.aload_n 0, 1) := by decide +kernel
theorem at302_482 : am_at 302 482 = some (.iload 4, 2) := by decide +kernel
theorem at302_484 : am_at 302 484 = some (.iconst 2, 1) := by decide +kernel
theorem at302_485 : am_at 302 485 = some (.iadd, 1) := by decide +kernel
theorem at302_486 : am_at 302 486 = some (.iaload, 1) := by decide +kernel
theorem at302_487 : am_at 302 487 = some (.aload_n 3, 1) := by decide +kernel
theorem at302_488 : am_at 302 488 = some (.invokestatic 275, 3) := by decide +kernel
theorem at302_491 : am_at 302 491 = some (.istore 5, 2) := by decide +kernel
theorem at302_493 : am_at 302 493 = some (.aload_n 2, 1) := by decide +kernel
theorem at302_494 : am_at 302 494 = some (.aload_n 0, 1) := by decide +kernel
theorem at302_495 : am_at 302 495 = some (.iload 4, 2) := by decide +kernel
theorem at302_497 : am_at 302 497 = some (.iconst 1, 1) := by decide +kernel
theorem at302_498 : am_at 302 498 = some (.iadd, 1) := by decide +kernel
theorem at302_499 : am_at 302 499 = some (.iaload, 1) := by decide +kernel
theorem at302_500 : am_at 302 500 = some (.aload_n 0, 1) := by decide +kernel
theorem at302_501 : am_at 302 501 = some (.iload 4, 2) := by decide +kernel
theorem at302_503 : am_at 302 503 = some (.iconst 2, 1) := by decide +kernel
theorem at302_504 : am_at 302 504 = some (.iadd, 1) := by decide +kernel
theorem at302_505 : am_at 302 505 = some (.iaload, 1) := by decide +kernel
theorem at302_506 : am_at 302 506 = some (.invokevirtual 208, 3) := by decide +kernel
theorem at302_509 : am_at 302 509 = some (.istore 6, 2) := by decide +kernel
theorem at302_511 : am_at 302 511 = some (.aload_n 2, 1) := by decide +kernel
theorem at302_512 : am_at 302 512 = some (.invokevirtual 157, 3) := by decide +kernel
theorem at302_515 : am_at 302 515 = some (.iload 5, 2) := by decide +kernel
theorem at302_517 : am_at 302 517 = some (.if_icmp .eq 5, 3) := by decide +kernel
theorem at302_520 : am_at 302 520 = some (.iconst 0, 1) := by decide +kernel
theorem at302_521 : am_at 302 521 = some (.ireturn, 1) := by decide +kernel
theorem at302_522 : am_at 302 522 = some (.iload 5, 2) := by decide +kernel
theorem at302_524 : am_at 302 524 = some (.ifCond .ne 15, 3) := by decide +kernel
theorem at302_527 : am_at 302 527 = some (.aload_n 3, 1) := by decide +kernel
theorem at302_528 : am_at 302 528 = some (.iconst 0, 1) := by decide +kernel
theorem at302_529 : am_at 302 529 = some (.laload, 1) := by decide +kernel
theorem at302_530 : am_at 302 530 = some (.iload 6, 2) := by decide +kernel
theorem at302_532 : am_at 302 532 = some (.i2l, 1) := by decide +kernel
theorem at302_533 : am_at 302 533 = some (.lcmp, 1) := by decide +kernel
theorem at302_534 : am_at 302 534 = some (.ifCond .eq 5, 3) := by decide +kernel
theorem at302_537 : am_at 302 537 = some (.iconst 0, 1) := by decide +kernel
theorem at302_538 : am_at 302 538 = some (.ireturn, 1) := by decide +kernel
theorem at302_539 : am_at 302 539 = some (.goto 1827, 3) := by decide +kernel
theorem at302_542 : am_at 302 542 = some (.aload_n 1, 1) := by decide +kernel
theorem at302_543 : am_at 302 543 = some (.aload_n 0, 1) := by decide +kernel
theorem at302_544 : am_at 302 544 = some (.iload 4, 2) := by decide +kernel
theorem at302_546 : am_at 302 546 = some (.iconst 1, 1) := by decide +kernel
theorem at302_547 : am_at 302 547 = some (.iadd, 1) := by decide +kernel
theorem at302_548 : am_at 302 548 = some (.iaload, 1) := by decide +kernel
theorem at302_549 : am_at 302 549 = some (.aload_n 0, 1) := by decide +kernel
theorem at302_550 : am_at 302 550 = some (.iload 4, 2) := by decide +kernel
theorem at302_552 : am_at 302 552 = some (.iconst 2, 1) := by decide +kernel
theorem at302_553 : am_at 302 553 = some (.iadd, 1) := by decide +kernel
theorem at302_554 : am_at 302 554 = some (.iaload, 1) := by decide +kernel
theorem at302_555 : am_at 302 555 = some (.aload_n 3, 1) := by decide +kernel
theorem at302_556 : am_at 302 556 = some (.invokestatic 276, 3) := by decide +kernel
theorem at302_559 : am_at 302 559 = some (.istore 5, 2) := by decide +kernel
theorem at302_561 : am_at 302 561 = some (.aload_n 2, 1) := by decide +kernel
theorem at302_562 : am_at 302 562 = some (.aload_n 0, 1) := by decide +kernel
theorem at302_563 : am_at 302 563 = some (.iload 4, 2) := by decide +kernel
theorem at302_565 : am_at 302 565 = some (.iconst 1, 1) := by decide +kernel
theorem at302_566 : am_at 302 566 = some (.iadd, 1) := by decide +kernel
theorem at302_567 : am_at 302 567 = some (.iaload, 1) := by decide +kernel
theorem at302_568 : am_at 302 568 = some (.aload_n 0, 1) := by decide +kernel
theorem at302_569 : am_at 302 569 = some (.iload 4, 2) := by decide +kernel
theorem at302_571 : am_at 302 571 = some (.iconst 2, 1) := by decide +kernel
theorem at302_572 : am_at 302 572 = some (.iadd, 1) := by decide +kernel
theorem at302_573 : am_at 302 573 = some (.iaload, 1) := by decide +kernel
theorem at302_574 : am_at 302 574 = some (.invokevirtual 209, 3) := by decide +kernel
theorem at302_577 : am_at 302 577 = some (.istore 6, 2) := by decide +kernel
theorem at302_579 : am_at 302 579 = some (.aload_n 2, 1) := by decide +kernel
theorem at302_580 : am_at 302 580 = some (.invokevirtual 157, 3) := by decide +kernel
theorem at302_583 : am_at 302 583 = some (.iload 5, 2) := by decide +kernel
theorem at302_585 : am_at 302 585 = some (.if_icmp .eq 5, 3) := by decide +kernel
theorem at302_588 : am_at 302 588 = some (.iconst 0, 1) := by decide +kernel
theorem at302_589 : am_at 302 589 = some (.ireturn, 1) := by decide +kernel
theorem at302_590 : am_at 302 590 = some (.iload 5, 2) := by decide +kernel
theorem at302_592 : am_at 302 592 = some (.ifCond .ne 15, 3) := by decide +kernel
theorem at302_595 : am_at 302 595 = some (.aload_n 3, 1) := by decide +kernel
theorem at302_596 : am_at 302 596 = some (.iconst 0, 1) := by decide +kernel
theorem at302_597 : am_at 302 597 = some (.laload, 1) := by decide +kernel
theorem at302_598 : am_at 302 598 = some (.iload 6, 2) := by decide +kernel
theorem at302_600 : am_at 302 600 = some (.i2l, 1) := by decide +kernel
theorem at302_601 : am_at 302 601 = some (.lcmp, 1) := by decide +kernel
theorem at302_602 : am_at 302 602 = some (.ifCond .eq 5, 3) := by decide +kernel
theorem at302_605 : am_at 302 605 = some (.iconst 0, 1) := by decide +kernel
theorem at302_606 : am_at 302 606 = some (.ireturn, 1) := by decide +kernel
theorem at302_607 : am_at 302 607 = some (.goto 1759, 3) := by decide +kernel
theorem at302_610 : am_at 302 610 = some (.aload_n 1, 1) := by decide +kernel
theorem at302_611 : am_at 302 611 = some (.aload_n 0, 1) := by decide +kernel
theorem at302_612 : am_at 302 612 = some (.iload 4, 2) := by decide +kernel
theorem at302_614 : am_at 302 614 = some (.iconst 1, 1) := by decide +kernel
theorem at302_615 : am_at 302 615 = some (.iadd, 1) := by decide +kernel
theorem at302_616 : am_at 302 616 = some (.iaload, 1) := by decide +kernel
theorem at302_617 : am_at 302 617 = some (.aload_n 0, 1) := by decide +kernel
theorem at302_618 : am_at 302 618 = some (.iload 4, 2) := by decide +kernel
theorem at302_620 : am_at 302 620 = some (.iconst 2, 1) := by decide +kernel
theorem at302_621 : am_at 302 621 = some (.iadd, 1) := by decide +kernel
theorem at302_622 : am_at 302 622 = some (.iaload, 1) := by decide +kernel
theorem at302_623 : am_at 302 623 = some (.aload_n 3, 1) := by decide +kernel
theorem at302_624 : am_at 302 624 = some (.invokestatic 277, 3) := by decide +kernel
theorem at302_627 : am_at 302 627 = some (.istore 5, 2) := by decide +kernel
theorem at302_629 : am_at 302 629 = some (.aload_n 2, 1) := by decide +kernel
theorem at302_630 : am_at 302 630 = some (.aload_n 0, 1) := by decide +kernel
theorem at302_631 : am_at 302 631 = some (.iload 4, 2) := by decide +kernel
theorem at302_633 : am_at 302 633 = some (.iconst 1, 1) := by decide +kernel
theorem at302_634 : am_at 302 634 = some (.iadd, 1) := by decide +kernel
theorem at302_635 : am_at 302 635 = some (.iaload, 1) := by decide +kernel
theorem at302_636 : am_at 302 636 = some (.aload_n 0, 1) := by decide +kernel
theorem at302_637 : am_at 302 637 = some (.iload 4, 2) := by decide +kernel
theorem at302_639 : am_at 302 639 = some (.iconst 2, 1) := by decide +kernel
theorem at302_640 : am_at 302 640 = some (.iadd, 1) := by decide +kernel
theorem at302_641 : am_at 302 641 = some (.iaload, 1) := by decide +kernel
theorem at302_642 : am_at 302 642 = some (.invokevirtual 219, 3) := by decide +kernel
theorem at302_645 : am_at 302 645 = some (.istore 6, 2) := by decide +kernel
theorem at302_647 : am_at 302 647 = some (.aload_n 2, 1) := by decide +kernel
theorem at302_648 : am_at 302 648 = some (.invokevirtual 157, 3) := by decide +kernel
theorem at302_651 : am_at 302 651 = some (.iload 5, 2) := by decide +kernel
theorem at302_653 : am_at 302 653 = some (.if_icmp .eq 5, 3) := by decide +kernel
theorem at302_656 : am_at 302 656 = some (.iconst 0, 1) := by decide +kernel
theorem at302_657 : am_at 302 657 = some (.ireturn, 1) := by decide +kernel
theorem at302_658 : am_at 302 658 = some (.iload 5, 2) := by decide +kernel
theorem at302_660 : am_at 302 660 = some (.ifCond .ne 15, 3) := by decide +kernel
theorem at302_663 : am_at 302 663 = some (.aload_n 3, 1) := by decide +kernel
theorem at302_664 : am_at 302 664 = some (.iconst 0, 1) := by decide +kernel
theorem at302_665 : am_at 302 665 = some (.laload, 1) := by decide +kernel
theorem at302_666 : am_at 302 666 = some (.iload 6, 2) := by decide +kernel
theorem at302_668 : am_at 302 668 = some (.i2l, 1) := by decide +kernel
theorem at302_669 : am_at 302 669 = some (.lcmp, 1) := by decide +kernel
theorem at302_670 : am_at 302 670 = some (.ifCond .eq 5, 3) := by decide +kernel
theorem at302_673 : am_at 302 673 = some (.iconst 0, 1) := by decide +kernel
theorem at302_674 : am_at 302 674 = some (.ireturn, 1) := by decide +kernel
theorem at302_675 : am_at 302 675 = some (.goto 1691, 3) := by decide +kernel
theorem at302_678 : am_at 302 678 = some (.aload_n 1, 1) := by decide +kernel
theorem at302_679 : am_at 302 679 = some (.aload_n 0, 1) := by decide +kernel
theorem at302_680 : am_at 302 680 = some (.iload 4, 2) := by decide +kernel
theorem at302_682 : am_at 302 682 = some (.iconst 1, 1) := by decide +kernel
theorem at302_683 : am_at 302 683 = some (.iadd, 1) := by decide +kernel
theorem at302_684 : am_at 302 684 = some (.iaload, 1) := by decide +kernel
theorem at302_685 : am_at 302 685 = some (.aload_n 0, 1) := by decide +kernel
theorem at302_686 : am_at 302 686 = some (.iload 4, 2) := by decide +kernel
theorem at302_688 : am_at 302 688 = some (.iconst 2, 1) := by decide +kernel
theorem at302_689 : am_at 302 689 = some (.iadd, 1) := by decide +kernel
theorem at302_690 : am_at 302 690 = some (.iaload, 1) := by decide +kernel
theorem at302_691 : am_at 302 691 = some (.aload_n 3, 1) := by decide +kernel
theorem at302_692 : am_at 302 692 = some (.invokestatic 278, 3) := by decide +kernel
theorem at302_695 : am_at 302 695 = some (.istore 5, 2) := by decide +kernel
theorem at302_697 : am_at 302 697 = some (.aload_n 2, 1) := by decide +kernel
theorem at302_698 : am_at 302 698 = some (.aload_n 0, 1) := by decide +kernel
theorem at302_699 : am_at 302 699 = some (.iload 4, 2) := by decide +kernel
theorem at302_701 : am_at 302 701 = some (.iconst 1, 1) := by decide +kernel
theorem at302_702 : am_at 302 702 = some (.iadd, 1) := by decide +kernel
theorem at302_703 : am_at 302 703 = some (.iaload, 1) := by decide +kernel
theorem at302_704 : am_at 302 704 = some (.aload_n 0, 1) := by decide +kernel
theorem at302_705 : am_at 302 705 = some (.iload 4, 2) := by decide +kernel
theorem at302_707 : am_at 302 707 = some (.iconst 2, 1) := by decide +kernel
theorem at302_708 : am_at 302 708 = some (.iadd, 1) := by decide +kernel
theorem at302_709 : am_at 302 709 = some (.iaload, 1) := by decide +kernel
theorem at302_710 : am_at 302 710 = some (.invokevirtual 220, 3) := by decide +kernel
theorem at302_713 : am_at 302 713 = some (.istore 6, 2) := by decide +kernel
theorem at302_715 : am_at 302 715 = some (.aload_n 2, 1) := by decide +kernel
theorem at302_716 : am_at 302 716 = some (.invokevirtual 157, 3) := by decide +kernel
theorem at302_719 : am_at 302 719 = some (.iload 5, 2) := by decide +kernel
theorem at302_721 : am_at 302 721 = some (.if_icmp .eq 5, 3) := by decide +kernel
theorem at302_724 : am_at 302 724 = some (.iconst 0, 1) := by decide +kernel
theorem at302_725 : am_at 302 725 = some (.ireturn, 1) := by decide +kernel
theorem at302_726 : am_at 302 726 = some (.iload 5, 2) := by decide +kernel
theorem at302_728 : am_at 302 728 = some (.ifCond .ne 15, 3) := by decide +kernel
theorem at302_731 : am_at 302 731 = some (.aload_n 3, 1) := by decide +kernel
theorem at302_732 : am_at 302 732 = some (.iconst 0, 1) := by decide +kernel
theorem at302_733 : am_at 302 733 = some (.laload, 1) := by decide +kernel
theorem at302_734 : am_at 302 734 = some (.iload 6, 2) := by decide +kernel
theorem at302_736 : am_at 302 736 = some (.i2l, 1) := by decide +kernel
theorem at302_737 : am_at 302 737 = some (.lcmp, 1) := by decide +kernel
theorem at302_738 : am_at 302 738 = some (.ifCond .eq 5, 3) := by decide +kernel
theorem at302_741 : am_at 302 741 = some (.iconst 0, 1) := by decide +kernel
theorem at302_742 : am_at 302 742 = some (.ireturn, 1) := by decide +kernel
theorem at302_743 : am_at 302 743 = some (.goto 1623, 3) := by decide +kernel
theorem at302_746 : am_at 302 746 = some (.aload_n 1, 1) := by decide +kernel
theorem at302_747 : am_at 302 747 = some (.aload_n 0, 1) := by decide +kernel
theorem at302_748 : am_at 302 748 = some (.iload 4, 2) := by decide +kernel
theorem at302_750 : am_at 302 750 = some (.iconst 1, 1) := by decide +kernel
theorem at302_751 : am_at 302 751 = some (.iadd, 1) := by decide +kernel
theorem at302_752 : am_at 302 752 = some (.iaload, 1) := by decide +kernel
theorem at302_753 : am_at 302 753 = some (.aload_n 0, 1) := by decide +kernel
theorem at302_754 : am_at 302 754 = some (.iload 4, 2) := by decide +kernel
theorem at302_756 : am_at 302 756 = some (.iconst 2, 1) := by decide +kernel
theorem at302_757 : am_at 302 757 = some (.iadd, 1) := by decide +kernel
theorem at302_758 : am_at 302 758 = some (.iaload, 1) := by decide +kernel
theorem at302_759 : am_at 302 759 = some (.aload_n 0, 1) := by decide +kernel
theorem at302_760 : am_at 302 760 = some (.iload 4, 2) := by decide +kernel
theorem at302_762 : am_at 302 762 = some (.iconst 3, 1) := by decide +kernel
theorem at302_763 : am_at 302 763 = some (.iadd, 1) := by decide +kernel
theorem at302_764 : am_at 302 764 = some (.iaload, 1) := by decide +kernel
theorem at302_765 : am_at 302 765 = some (.aload_n 3, 1) := by decide +kernel
theorem at302_766 : am_at 302 766 = some (.invokestatic 279, 3) := by decide +kernel
theorem at302_769 : am_at 302 769 = some (.istore 5, 2) := by decide +kernel
theorem at302_771 : am_at 302 771 = some (.aload_n 2, 1) := by decide +kernel
theorem at302_772 : am_at 302 772 = some (.aload_n 0, 1) := by decide +kernel
theorem at302_773 : am_at 302 773 = some (.iload 4, 2) := by decide +kernel
theorem at302_775 : am_at 302 775 = some (.iconst 1, 1) := by decide +kernel
theorem at302_776 : am_at 302 776 = some (.iadd, 1) := by decide +kernel
theorem at302_777 : am_at 302 777 = some (.iaload, 1) := by decide +kernel
theorem at302_778 : am_at 302 778 = some (.aload_n 0, 1) := by decide +kernel
theorem at302_779 : am_at 302 779 = some (.iload 4, 2) := by decide +kernel
theorem at302_781 : am_at 302 781 = some (.iconst 2, 1) := by decide +kernel
theorem at302_782 : am_at 302 782 = some (.iadd, 1) := by decide +kernel
theorem at302_783 : am_at 302 783 = some (.iaload, 1) := by decide +kernel
theorem at302_784 : am_at 302 784 = some (.aload_n 0, 1) := by decide +kernel
theorem at302_785 : am_at 302 785 = some (.iload 4, 2) := by decide +kernel
theorem at302_787 : am_at 302 787 = some (.iconst 3, 1) := by decide +kernel
theorem at302_788 : am_at 302 788 = some (.iadd, 1) := by decide +kernel
theorem at302_789 : am_at 302 789 = some (.iaload, 1) := by decide +kernel
theorem at302_790 : am_at 302 790 = some (.invokevirtual 221, 3) := by decide +kernel
theorem at302_793 : am_at 302 793 = some (.istore 6, 2) := by decide +kernel
theorem at302_795 : am_at 302 795 = some (.aload_n 2, 1) := by decide +kernel
theorem at302_796 : am_at 302 796 = some (.invokevirtual 157, 3) := by decide +kernel
theorem at302_799 : am_at 302 799 = some (.iload 5, 2) := by decide +kernel
theorem at302_801 : am_at 302 801 = some (.if_icmp .eq 5, 3) := by decide +kernel
theorem at302_804 : am_at 302 804 = some (.iconst 0, 1) := by decide +kernel
theorem at302_805 : am_at 302 805 = some (.ireturn, 1) := by decide +kernel
theorem at302_806 : am_at 302 806 = some (.iload 5, 2) := by decide +kernel
theorem at302_808 : am_at 302 808 = some (.ifCond .ne 22, 3) := by decide +kernel
theorem at302_811 : am_at 302 811 = some (.aload_n 3, 1) := by decide +kernel
theorem at302_812 : am_at 302 812 = some (.iconst 0, 1) := by decide +kernel
theorem at302_813 : am_at 302 813 = some (.laload, 1) := by decide +kernel
theorem at302_814 : am_at 302 814 = some (.iload 6, 2) := by decide +kernel
theorem at302_816 : am_at 302 816 = some (.ifCond .eq 7, 3) := by decide +kernel
theorem at302_819 : am_at 302 819 = some (.lconst 1, 1) := by decide +kernel
theorem at302_820 : am_at 302 820 = some (.goto 4, 3) := by decide +kernel
theorem at302_823 : am_at 302 823 = some (.lconst 0, 1) := by decide +kernel
theorem at302_824 : am_at 302 824 = some (.lcmp, 1) := by decide +kernel
theorem at302_825 : am_at 302 825 = some (.ifCond .eq 5, 3) := by decide +kernel
theorem at302_828 : am_at 302 828 = some (.iconst 0, 1) := by decide +kernel
theorem at302_829 : am_at 302 829 = some (.ireturn, 1) := by decide +kernel
theorem at302_830 : am_at 302 830 = some (.goto 1536, 3) := by decide +kernel
theorem at302_833 : am_at 302 833 = some (.aload_n 1, 1) := by decide +kernel
theorem at302_834 : am_at 302 834 = some (.aload_n 0, 1) := by decide +kernel
theorem at302_835 : am_at 302 835 = some (.iload 4, 2) := by decide +kernel
theorem at302_837 : am_at 302 837 = some (.iconst 1, 1) := by decide +kernel
theorem at302_838 : am_at 302 838 = some (.iadd, 1) := by decide +kernel
theorem at302_839 : am_at 302 839 = some (.iaload, 1) := by decide +kernel
theorem at302_840 : am_at 302 840 = some (.invokevirtual 114, 3) := by decide +kernel
theorem at302_843 : am_at 302 843 = some (.aload_n 2, 1) := by decide +kernel
theorem at302_844 : am_at 302 844 = some (.aload_n 0, 1) := by decide +kernel
theorem at302_845 : am_at 302 845 = some (.iload 4, 2) := by decide +kernel
theorem at302_847 : am_at 302 847 = some (.iconst 1, 1) := by decide +kernel
theorem at302_848 : am_at 302 848 = some (.iadd, 1) := by decide +kernel
theorem at302_849 : am_at 302 849 = some (.iaload, 1) := by decide +kernel
theorem at302_850 : am_at 302 850 = some (.invokevirtual 222, 3) := by decide +kernel
theorem at302_853 : am_at 302 853 = some (.if_icmp .eq 1513, 3) := by decide +kernel
theorem at302_856 : am_at 302 856 = some (.iconst 0, 1) := by decide +kernel
theorem at302_857 : am_at 302 857 = some (.ireturn, 1) := by decide +kernel
theorem at302_858 : am_at 302 858 = some (.aload_n 1, 1) := by decide +kernel
theorem at302_859 : am_at 302 859 = some (.invokevirtual 115, 3) := by decide +kernel
theorem at302_862 : am_at 302 862 = some (.aload_n 2, 1) := by decide +kernel
theorem at302_863 : am_at 302 863 = some (.invokevirtual 197, 3) := by decide +kernel
theorem at302_866 : am_at 302 866 = some (.if_icmp .eq 1500, 3) := by decide +kernel
theorem at302_869 : am_at 302 869 = some (.iconst 0, 1) := by decide +kernel
theorem at302_870 : am_at 302 870 = some (.ireturn, 1) := by decide +kernel
theorem at302_871 : am_at 302 871 = some (.aload_n 1, 1) := by decide +kernel
theorem at302_872 : am_at 302 872 = some (.aload_n 0, 1) := by decide +kernel
theorem at302_873 : am_at 302 873 = some (.iload 4, 2) := by decide +kernel
theorem at302_875 : am_at 302 875 = some (.iconst 1, 1) := by decide +kernel
theorem at302_876 : am_at 302 876 = some (.iadd, 1) := by decide +kernel
theorem at302_877 : am_at 302 877 = some (.iaload, 1) := by decide +kernel
theorem at302_878 : am_at 302 878 = some (.aload_n 0, 1) := by decide +kernel
theorem at302_879 : am_at 302 879 = some (.iload 4, 2) := by decide +kernel
theorem at302_881 : am_at 302 881 = some (.iconst 2, 1) := by decide +kernel
theorem at302_882 : am_at 302 882 = some (.iadd, 1) := by decide +kernel
theorem at302_883 : am_at 302 883 = some (.iaload, 1) := by decide +kernel
theorem at302_884 : am_at 302 884 = some (.aload_n 3, 1) := by decide +kernel
theorem at302_885 : am_at 302 885 = some (.invokestatic 280, 3) := by decide +kernel
theorem at302_888 : am_at 302 888 = some (.istore 5, 2) := by decide +kernel
theorem at302_890 : am_at 302 890 = some (.aload_n 2, 1) := by decide +kernel
theorem at302_891 : am_at 302 891 = some (.aload_n 0, 1) := by decide +kernel
theorem at302_892 : am_at 302 892 = some (.iload 4, 2) := by decide +kernel
theorem at302_894 : am_at 302 894 = some (.iconst 1, 1) := by decide +kernel
theorem at302_895 : am_at 302 895 = some (.iadd, 1) := by decide +kernel
theorem at302_896 : am_at 302 896 = some (.iaload, 1) := by decide +kernel
theorem at302_897 : am_at 302 897 = some (.aload_n 0, 1) := by decide +kernel
theorem at302_898 : am_at 302 898 = some (.iload 4, 2) := by decide +kernel
theorem at302_900 : am_at 302 900 = some (.iconst 2, 1) := by decide +kernel
theorem at302_901 : am_at 302 901 = some (.iadd, 1) := by decide +kernel
theorem at302_902 : am_at 302 902 = some (.iaload, 1) := by decide +kernel
theorem at302_903 : am_at 302 903 = some (.invokevirtual 225, 3) := by decide +kernel
theorem at302_906 : am_at 302 906 = some (.istore 6, 2) := by decide +kernel
theorem at302_908 : am_at 302 908 = some (.aload_n 2, 1) := by decide +kernel
theorem at302_909 : am_at 302 909 = some (.invokevirtual 157, 3) := by decide +kernel
theorem at302_912 : am_at 302 912 = some (.iload 5, 2) := by decide +kernel
theorem at302_914 : am_at 302 914 = some (.if_icmp .eq 5, 3) := by decide +kernel
theorem at302_917 : am_at 302 917 = some (.iconst 0, 1) := by decide +kernel
theorem at302_918 : am_at 302 918 = some (.ireturn, 1) := by decide +kernel
theorem at302_919 : am_at 302 919 = some (.iload 5, 2) := by decide +kernel
theorem at302_921 : am_at 302 921 = some (.ifCond .ne 15, 3) := by decide +kernel
theorem at302_924 : am_at 302 924 = some (.aload_n 3, 1) := by decide +kernel
theorem at302_925 : am_at 302 925 = some (.iconst 0, 1) := by decide +kernel
theorem at302_926 : am_at 302 926 = some (.laload, 1) := by decide +kernel
theorem at302_927 : am_at 302 927 = some (.iload 6, 2) := by decide +kernel
theorem at302_929 : am_at 302 929 = some (.i2l, 1) := by decide +kernel
theorem at302_930 : am_at 302 930 = some (.lcmp, 1) := by decide +kernel
theorem at302_931 : am_at 302 931 = some (.ifCond .eq 5, 3) := by decide +kernel
theorem at302_934 : am_at 302 934 = some (.iconst 0, 1) := by decide +kernel
theorem at302_935 : am_at 302 935 = some (.ireturn, 1) := by decide +kernel
theorem at302_936 : am_at 302 936 = some (.goto 1430, 3) := by decide +kernel
theorem at302_939 : am_at 302 939 = some (.aload_n 1, 1) := by decide +kernel
theorem at302_940 : am_at 302 940 = some (.aload_n 0, 1) := by decide +kernel
theorem at302_941 : am_at 302 941 = some (.iload 4, 2) := by decide +kernel
theorem at302_943 : am_at 302 943 = some (.iconst 1, 1) := by decide +kernel
theorem at302_944 : am_at 302 944 = some (.iadd, 1) := by decide +kernel
theorem at302_945 : am_at 302 945 = some (.iaload, 1) := by decide +kernel
theorem at302_946 : am_at 302 946 = some (.aload_n 0, 1) := by decide +kernel
theorem at302_947 : am_at 302 947 = some (.iload 4, 2) := by decide +kernel
theorem at302_949 : am_at 302 949 = some (.iconst 2, 1) := by decide +kernel
theorem at302_950 : am_at 302 950 = some (.iadd, 1) := by decide +kernel
theorem at302_951 : am_at 302 951 = some (.iaload, 1) := by decide +kernel
theorem at302_952 : am_at 302 952 = some (.aload_n 3, 1) := by decide +kernel
theorem at302_953 : am_at 302 953 = some (.invokestatic 281, 3) := by decide +kernel
theorem at302_956 : am_at 302 956 = some (.istore 5, 2) := by decide +kernel
theorem at302_958 : am_at 302 958 = some (.aload_n 2, 1) := by decide +kernel
theorem at302_959 : am_at 302 959 = some (.aload_n 0, 1) := by decide +kernel
theorem at302_960 : am_at 302 960 = some (.iload 4, 2) := by decide +kernel
theorem at302_962 : am_at 302 962 = some (.iconst 1, 1) := by decide +kernel
theorem at302_963 : am_at 302 963 = some (.iadd, 1) := by decide +kernel
theorem at302_964 : am_at 302 964 = some (.iaload, 1) := by decide +kernel
theorem at302_965 : am_at 302 965 = some (.aload_n 0, 1) := by decide +kernel
theorem at302_966 : am_at 302 966 = some (.iload 4, 2) := by decide +kernel
theorem at302_968 : am_at 302 968 = some (.iconst 2, 1) := by decide +kernel
theorem at302_969 : am_at 302 969 = some (.iadd, 1) := by decide +kernel
theorem at302_970 : am_at 302 970 = some (.iaload, 1) := by decide +kernel
theorem at302_971 : am_at 302 971 = some (.invokevirtual 227, 3) := by decide +kernel
theorem at302_974 : am_at 302 974 = some (.istore 6, 2) := by decide +kernel
theorem at302_976 : am_at 302 976 = some (.aload_n 2, 1) := by decide +kernel
theorem at302_977 : am_at 302 977 = some (.invokevirtual 157, 3) := by decide +kernel
theorem at302_980 : am_at 302 980 = some (.iload 5, 2) := by decide +kernel
theorem at302_982 : am_at 302 982 = some (.if_icmp .eq 5, 3) := by decide +kernel
theorem at302_985 : am_at 302 985 = some (.iconst 0, 1) := by decide +kernel
theorem at302_986 : am_at 302 986 = some (.ireturn, 1) := by decide +kernel
theorem at302_987 : am_at 302 987 = some (.iload 5, 2) := by decide +kernel
theorem at302_989 : am_at 302 989 = some (.ifCond .ne 15, 3) := by decide +kernel
theorem at302_992 : am_at 302 992 = some (.aload_n 3, 1) := by decide +kernel
theorem at302_993 : am_at 302 993 = some (.iconst 0, 1) := by decide +kernel
theorem at302_994 : am_at 302 994 = some (.laload, 1) := by decide +kernel
theorem at302_995 : am_at 302 995 = some (.iload 6, 2) := by decide +kernel
theorem at302_997 : am_at 302 997 = some (.i2l, 1) := by decide +kernel
theorem at302_998 : am_at 302 998 = some (.lcmp, 1) := by decide +kernel
theorem at302_999 : am_at 302 999 = some (.ifCond .eq 5, 3) := by decide +kernel
theorem at302_1002 : am_at 302 1002 = some (.iconst 0, 1) := by decide +kernel
theorem at302_1003 : am_at 302 1003 = some (.ireturn, 1) := by decide +kernel
theorem at302_1004 : am_at 302 1004 = some (.goto 1362, 3) := by decide +kernel
theorem at302_1007 : am_at 302 1007 = some (.aload_n 1, 1) := by decide +kernel
theorem at302_1008 : am_at 302 1008 = some (.aload_n 0, 1) := by decide +kernel
theorem at302_1009 : am_at 302 1009 = some (.iload 4, 2) := by decide +kernel
theorem at302_1011 : am_at 302 1011 = some (.iconst 1, 1) := by decide +kernel
theorem at302_1012 : am_at 302 1012 = some (.iadd, 1) := by decide +kernel
theorem at302_1013 : am_at 302 1013 = some (.iaload, 1) := by decide +kernel
theorem at302_1014 : am_at 302 1014 = some (.aload_n 0, 1) := by decide +kernel
theorem at302_1015 : am_at 302 1015 = some (.iload 4, 2) := by decide +kernel
theorem at302_1017 : am_at 302 1017 = some (.iconst 2, 1) := by decide +kernel
theorem at302_1018 : am_at 302 1018 = some (.iadd, 1) := by decide +kernel
theorem at302_1019 : am_at 302 1019 = some (.iaload, 1) := by decide +kernel
theorem at302_1020 : am_at 302 1020 = some (.aload_n 0, 1) := by decide +kernel
theorem at302_1021 : am_at 302 1021 = some (.iload 4, 2) := by decide +kernel
theorem at302_1023 : am_at 302 1023 = some (.iconst 3, 1) := by decide +kernel
theorem at302_1024 : am_at 302 1024 = some (.iadd, 1) := by decide +kernel
theorem at302_1025 : am_at 302 1025 = some (.iaload, 1) := by decide +kernel
theorem at302_1026 : am_at 302 1026 = some (.aload_n 3, 1) := by decide +kernel
theorem at302_1027 : am_at 302 1027 = some (.invokestatic 282, 3) := by decide +kernel
theorem at302_1030 : am_at 302 1030 = some (.istore 5, 2) := by decide +kernel
theorem at302_1032 : am_at 302 1032 = some (.aload_n 2, 1) := by decide +kernel
theorem at302_1033 : am_at 302 1033 = some (.aload_n 0, 1) := by decide +kernel
theorem at302_1034 : am_at 302 1034 = some (.iload 4, 2) := by decide +kernel
theorem at302_1036 : am_at 302 1036 = some (.iconst 1, 1) := by decide +kernel
theorem at302_1037 : am_at 302 1037 = some (.iadd, 1) := by decide +kernel
theorem at302_1038 : am_at 302 1038 = some (.iaload, 1) := by decide +kernel
theorem at302_1039 : am_at 302 1039 = some (.aload_n 0, 1) := by decide +kernel
theorem at302_1040 : am_at 302 1040 = some (.iload 4, 2) := by decide +kernel
theorem at302_1042 : am_at 302 1042 = some (.iconst 2, 1) := by decide +kernel
theorem at302_1043 : am_at 302 1043 = some (.iadd, 1) := by decide +kernel
theorem at302_1044 : am_at 302 1044 = some (.iaload, 1) := by decide +kernel
theorem at302_1045 : am_at 302 1045 = some (.aload_n 0, 1) := by decide +kernel
theorem at302_1046 : am_at 302 1046 = some (.iload 4, 2) := by decide +kernel
theorem at302_1048 : am_at 302 1048 = some (.iconst 3, 1) := by decide +kernel
theorem at302_1049 : am_at 302 1049 = some (.iadd, 1) := by decide +kernel
theorem at302_1050 : am_at 302 1050 = some (.iaload, 1) := by decide +kernel
theorem at302_1051 : am_at 302 1051 = some (.invokevirtual 234, 3) := by decide +kernel
theorem at302_1054 : am_at 302 1054 = some (.istore 6, 2) := by decide +kernel
theorem at302_1056 : am_at 302 1056 = some (.aload_n 2, 1) := by decide +kernel
theorem at302_1057 : am_at 302 1057 = some (.invokevirtual 157, 3) := by decide +kernel
theorem at302_1060 : am_at 302 1060 = some (.iload 5, 2) := by decide +kernel
theorem at302_1062 : am_at 302 1062 = some (.if_icmp .eq 5, 3) := by decide +kernel
theorem at302_1065 : am_at 302 1065 = some (.iconst 0, 1) := by decide +kernel
theorem at302_1066 : am_at 302 1066 = some (.ireturn, 1) := by decide +kernel
theorem at302_1067 : am_at 302 1067 = some (.iload 5, 2) := by decide +kernel
theorem at302_1069 : am_at 302 1069 = some (.ifCond .ne 15, 3) := by decide +kernel
theorem at302_1072 : am_at 302 1072 = some (.aload_n 3, 1) := by decide +kernel
theorem at302_1073 : am_at 302 1073 = some (.iconst 0, 1) := by decide +kernel
theorem at302_1074 : am_at 302 1074 = some (.laload, 1) := by decide +kernel
theorem at302_1075 : am_at 302 1075 = some (.iload 6, 2) := by decide +kernel
theorem at302_1077 : am_at 302 1077 = some (.i2l, 1) := by decide +kernel
theorem at302_1078 : am_at 302 1078 = some (.lcmp, 1) := by decide +kernel
theorem at302_1079 : am_at 302 1079 = some (.ifCond .eq 5, 3) := by decide +kernel
theorem at302_1082 : am_at 302 1082 = some (.iconst 0, 1) := by decide +kernel
theorem at302_1083 : am_at 302 1083 = some (.ireturn, 1) := by decide +kernel
theorem at302_1084 : am_at 302 1084 = some (.goto 1282, 3) := by decide +kernel
theorem at302_1087 : am_at 302 1087 = some (.aload_n 1, 1) := by decide +kernel
theorem at302_1088 : am_at 302 1088 = some (.aload_n 0, 1) := by decide +kernel
theorem at302_1089 : am_at 302 1089 = some (.iload 4, 2) := by decide +kernel
theorem at302_1091 : am_at 302 1091 = some (.iconst 1, 1) := by decide +kernel
theorem at302_1092 : am_at 302 1092 = some (.iadd, 1) := by decide +kernel
theorem at302_1093 : am_at 302 1093 = some (.iaload, 1) := by decide +kernel
theorem at302_1094 : am_at 302 1094 = some (.aload_n 0, 1) := by decide +kernel
theorem at302_1095 : am_at 302 1095 = some (.iload 4, 2) := by decide +kernel
theorem at302_1097 : am_at 302 1097 = some (.iconst 2, 1) := by decide +kernel
theorem at302_1098 : am_at 302 1098 = some (.iadd, 1) := by decide +kernel
theorem at302_1099 : am_at 302 1099 = some (.iaload, 1) := by decide +kernel
theorem at302_1100 : am_at 302 1100 = some (.aload_n 0, 1) := by decide +kernel
theorem at302_1101 : am_at 302 1101 = some (.iload 4, 2) := by decide +kernel
theorem at302_1103 : am_at 302 1103 = some (.iconst 3, 1) := by decide +kernel
theorem at302_1104 : am_at 302 1104 = some (.iadd, 1) := by decide +kernel
theorem at302_1105 : am_at 302 1105 = some (.iaload, 1) := by decide +kernel
theorem at302_1106 : am_at 302 1106 = some (.aload_n 3, 1) := by decide +kernel
theorem at302_1107 : am_at 302 1107 = some (.invokestatic 283, 3) := by decide +kernel
theorem at302_1110 : am_at 302 1110 = some (.istore 5, 2) := by decide +kernel
theorem at302_1112 : am_at 302 1112 = some (.aload_n 2, 1) := by decide +kernel
theorem at302_1113 : am_at 302 1113 = some (.aload_n 0, 1) := by decide +kernel
theorem at302_1114 : am_at 302 1114 = some (.iload 4, 2) := by decide +kernel
theorem at302_1116 : am_at 302 1116 = some (.iconst 1, 1) := by decide +kernel
theorem at302_1117 : am_at 302 1117 = some (.iadd, 1) := by decide +kernel
theorem at302_1118 : am_at 302 1118 = some (.iaload, 1) := by decide +kernel
theorem at302_1119 : am_at 302 1119 = some (.aload_n 0, 1) := by decide +kernel
theorem at302_1120 : am_at 302 1120 = some (.iload 4, 2) := by decide +kernel
theorem at302_1122 : am_at 302 1122 = some (.iconst 2, 1) := by decide +kernel
theorem at302_1123 : am_at 302 1123 = some (.iadd, 1) := by decide +kernel
theorem at302_1124 : am_at 302 1124 = some (.iaload, 1) := by decide +kernel
theorem at302_1125 : am_at 302 1125 = some (.aload_n 0, 1) := by decide +kernel
theorem at302_1126 : am_at 302 1126 = some (.iload 4, 2) := by decide +kernel
theorem at302_1128 : am_at 302 1128 = some (.iconst 3, 1) := by decide +kernel
theorem at302_1129 : am_at 302 1129 = some (.iadd, 1) := by decide +kernel
theorem at302_1130 : am_at 302 1130 = some (.iaload, 1) := by decide +kernel
theorem at302_1131 : am_at 302 1131 = some (.invokevirtual 235, 3) := by decide +kernel
theorem at302_1134 : am_at 302 1134 = some (.istore 6, 2) := by decide +kernel
theorem at302_1136 : am_at 302 1136 = some (.aload_n 2, 1) := by decide +kernel
theorem at302_1137 : am_at 302 1137 = some (.invokevirtual 157, 3) := by decide +kernel
theorem at302_1140 : am_at 302 1140 = some (.iload 5, 2) := by decide +kernel
theorem at302_1142 : am_at 302 1142 = some (.if_icmp .eq 5, 3) := by decide +kernel
theorem at302_1145 : am_at 302 1145 = some (.iconst 0, 1) := by decide +kernel
theorem at302_1146 : am_at 302 1146 = some (.ireturn, 1) := by decide +kernel
theorem at302_1147 : am_at 302 1147 = some (.iload 5, 2) := by decide +kernel
theorem at302_1149 : am_at 302 1149 = some (.ifCond .ne 15, 3) := by decide +kernel
theorem at302_1152 : am_at 302 1152 = some (.aload_n 3, 1) := by decide +kernel
theorem at302_1153 : am_at 302 1153 = some (.iconst 0, 1) := by decide +kernel
theorem at302_1154 : am_at 302 1154 = some (.laload, 1) := by decide +kernel
theorem at302_1155 : am_at 302 1155 = some (.iload 6, 2) := by decide +kernel
theorem at302_1157 : am_at 302 1157 = some (.i2l, 1) := by decide +kernel
theorem at302_1158 : am_at 302 1158 = some (.lcmp, 1) := by decide +kernel
theorem at302_1159 : am_at 302 1159 = some (.ifCond .eq 5, 3) := by decide +kernel
theorem at302_1162 : am_at 302 1162 = some (.iconst 0, 1) := by decide +kernel
theorem at302_1163 : am_at 302 1163 = some (.ireturn, 1) := by decide +kernel
theorem at302_1164 : am_at 302 1164 = some (.goto 1202, 3) := by decide +kernel
theorem at302_1167 : am_at 302 1167 = some (.aload_n 1, 1) := by decide +kernel
theorem at302_1168 : am_at 302 1168 = some (.aload_n 0, 1) := by decide +kernel
theorem at302_1169 : am_at 302 1169 = some (.iload 4, 2) := by decide +kernel
theorem at302_1171 : am_at 302 1171 = some (.iconst 1, 1) := by decide +kernel
theorem at302_1172 : am_at 302 1172 = some (.iadd, 1) := by decide +kernel
theorem at302_1173 : am_at 302 1173 = some (.iaload, 1) := by decide +kernel
theorem at302_1174 : am_at 302 1174 = some (.aload_n 3, 1) := by decide +kernel
theorem at302_1175 : am_at 302 1175 = some (.invokestatic 284, 3) := by decide +kernel
theorem at302_1178 : am_at 302 1178 = some (.istore 5, 2) := by decide +kernel
theorem at302_1180 : am_at 302 1180 = some (.aload_n 2, 1) := by decide +kernel
theorem at302_1181 : am_at 302 1181 = some (.aload_n 0, 1) := by decide +kernel
theorem at302_1182 : am_at 302 1182 = some (.iload 4, 2) := by decide +kernel
theorem at302_1184 : am_at 302 1184 = some (.iconst 1, 1) := by decide +kernel
theorem at302_1185 : am_at 302 1185 = some (.iadd, 1) := by decide +kernel
theorem at302_1186 : am_at 302 1186 = some (.iaload, 1) := by decide +kernel
theorem at302_1187 : am_at 302 1187 = some (.invokevirtual 236, 3) := by decide +kernel
theorem at302_1190 : am_at 302 1190 = some (.istore 6, 2) := by decide +kernel
theorem at302_1192 : am_at 302 1192 = some (.aload_n 2, 1) := by decide +kernel
theorem at302_1193 : am_at 302 1193 = some (.invokevirtual 157, 3) := by decide +kernel
theorem at302_1196 : am_at 302 1196 = some (.iload 5, 2) := by decide +kernel
theorem at302_1198 : am_at 302 1198 = some (.if_icmp .eq 5, 3) := by decide +kernel
theorem at302_1201 : am_at 302 1201 = some (.iconst 0, 1) := by decide +kernel
theorem at302_1202 : am_at 302 1202 = some (.ireturn, 1) := by decide +kernel
theorem at302_1203 : am_at 302 1203 = some (.iload 5, 2) := by decide +kernel
theorem at302_1205 : am_at 302 1205 = some (.ifCond .ne 15, 3) := by decide +kernel
theorem at302_1208 : am_at 302 1208 = some (.aload_n 3, 1) := by decide +kernel
theorem at302_1209 : am_at 302 1209 = some (.iconst 0, 1) := by decide +kernel
theorem at302_1210 : am_at 302 1210 = some (.laload, 1) := by decide +kernel
theorem at302_1211 : am_at 302 1211 = some (.iload 6, 2) := by decide +kernel
theorem at302_1213 : am_at 302 1213 = some (.i2l, 1) := by decide +kernel
theorem at302_1214 : am_at 302 1214 = some (.lcmp, 1) := by decide +kernel
theorem at302_1215 : am_at 302 1215 = some (.ifCond .eq 5, 3) := by decide +kernel
theorem at302_1218 : am_at 302 1218 = some (.iconst 0, 1) := by decide +kernel
theorem at302_1219 : am_at 302 1219 = some (.ireturn, 1) := by decide +kernel
theorem at302_1220 : am_at 302 1220 = some (.goto 1146, 3) := by decide +kernel
theorem at302_1223 : am_at 302 1223 = some (.aload_n 1, 1) := by decide +kernel
theorem at302_1224 : am_at 302 1224 = some (.aload_n 0, 1) := by decide +kernel
theorem at302_1225 : am_at 302 1225 = some (.iload 4, 2) := by decide +kernel
theorem at302_1227 : am_at 302 1227 = some (.iconst 1, 1) := by decide +kernel
theorem at302_1228 : am_at 302 1228 = some (.iadd, 1) := by decide +kernel
theorem at302_1229 : am_at 302 1229 = some (.iaload, 1) := by decide +kernel
theorem at302_1230 : am_at 302 1230 = some (.aload_n 0, 1) := by decide +kernel
theorem at302_1231 : am_at 302 1231 = some (.iload 4, 2) := by decide +kernel
theorem at302_1233 : am_at 302 1233 = some (.iconst 2, 1) := by decide +kernel
theorem at302_1234 : am_at 302 1234 = some (.iadd, 1) := by decide +kernel
theorem at302_1235 : am_at 302 1235 = some (.iaload, 1) := by decide +kernel
theorem at302_1236 : am_at 302 1236 = some (.aload_n 0, 1) := by decide +kernel
theorem at302_1237 : am_at 302 1237 = some (.iload 4, 2) := by decide +kernel
theorem at302_1239 : am_at 302 1239 = some (.iconst 3, 1) := by decide +kernel
theorem at302_1240 : am_at 302 1240 = some (.iadd, 1) := by decide +kernel
theorem at302_1241 : am_at 302 1241 = some (.iaload, 1) := by decide +kernel
theorem at302_1242 : am_at 302 1242 = some (.aload_n 3, 1) := by decide +kernel
theorem at302_1243 : am_at 302 1243 = some (.invokestatic 285, 3) := by decide +kernel
theorem at302_1246 : am_at 302 1246 = some (.istore 5, 2) := by decide +kernel
theorem at302_1248 : am_at 302 1248 = some (.aload_n 2, 1) := by decide +kernel
theorem at302_1249 : am_at 302 1249 = some (.aload_n 0, 1) := by decide +kernel
theorem at302_1250 : am_at 302 1250 = some (.iload 4, 2) := by decide +kernel
theorem at302_1252 : am_at 302 1252 = some (.iconst 1, 1) := by decide +kernel
theorem at302_1253 : am_at 302 1253 = some (.iadd, 1) := by decide +kernel
theorem at302_1254 : am_at 302 1254 = some (.iaload, 1) := by decide +kernel
theorem at302_1255 : am_at 302 1255 = some (.aload_n 0, 1) := by decide +kernel
theorem at302_1256 : am_at 302 1256 = some (.iload 4, 2) := by decide +kernel
theorem at302_1258 : am_at 302 1258 = some (.iconst 2, 1) := by decide +kernel
theorem at302_1259 : am_at 302 1259 = some (.iadd, 1) := by decide +kernel
theorem at302_1260 : am_at 302 1260 = some (.iaload, 1) := by decide +kernel
theorem at302_1261 : am_at 302 1261 = some (.aload_n 0, 1) := by decide +kernel
theorem at302_1262 : am_at 302 1262 = some (.iload 4, 2) := by decide +kernel
theorem at302_1264 : am_at 302 1264 = some (.iconst 3, 1) := by decide +kernel
theorem at302_1265 : am_at 302 1265 = some (.iadd, 1) := by decide +kernel
theorem at302_1266 : am_at 302 1266 = some (.iaload, 1) := by decide +kernel
theorem at302_1267 : am_at 302 1267 = some (.invokevirtual 237, 3) := by decide +kernel
theorem at302_1270 : am_at 302 1270 = some (.istore 6, 2) := by decide +kernel
theorem at302_1272 : am_at 302 1272 = some (.aload_n 2, 1) := by decide +kernel
theorem at302_1273 : am_at 302 1273 = some (.invokevirtual 157, 3) := by decide +kernel
theorem at302_1276 : am_at 302 1276 = some (.iload 5, 2) := by decide +kernel
theorem at302_1278 : am_at 302 1278 = some (.if_icmp .eq 5, 3) := by decide +kernel
theorem at302_1281 : am_at 302 1281 = some (.iconst 0, 1) := by decide +kernel
theorem at302_1282 : am_at 302 1282 = some (.ireturn, 1) := by decide +kernel
theorem at302_1283 : am_at 302 1283 = some (.iload 5, 2) := by decide +kernel
theorem at302_1285 : am_at 302 1285 = some (.ifCond .ne 15, 3) := by decide +kernel
theorem at302_1288 : am_at 302 1288 = some (.aload_n 3, 1) := by decide +kernel
theorem at302_1289 : am_at 302 1289 = some (.iconst 0, 1) := by decide +kernel
theorem at302_1290 : am_at 302 1290 = some (.laload, 1) := by decide +kernel
theorem at302_1291 : am_at 302 1291 = some (.iload 6, 2) := by decide +kernel
theorem at302_1293 : am_at 302 1293 = some (.i2l, 1) := by decide +kernel
theorem at302_1294 : am_at 302 1294 = some (.lcmp, 1) := by decide +kernel
theorem at302_1295 : am_at 302 1295 = some (.ifCond .eq 5, 3) := by decide +kernel
theorem at302_1298 : am_at 302 1298 = some (.iconst 0, 1) := by decide +kernel
theorem at302_1299 : am_at 302 1299 = some (.ireturn, 1) := by decide +kernel
theorem at302_1300 : am_at 302 1300 = some (.goto 1066, 3) := by decide +kernel
theorem at302_1303 : am_at 302 1303 = some (.aload_n 1, 1) := by decide +kernel
theorem at302_1304 : am_at 302 1304 = some (.aload_n 0, 1) := by decide +kernel
theorem at302_1305 : am_at 302 1305 = some (.iload 4, 2) := by decide +kernel
theorem at302_1307 : am_at 302 1307 = some (.iconst 1, 1) := by decide +kernel
theorem at302_1308 : am_at 302 1308 = some (.iadd, 1) := by decide +kernel
theorem at302_1309 : am_at 302 1309 = some (.iaload, 1) := by decide +kernel
theorem at302_1310 : am_at 302 1310 = some (.aload_n 0, 1) := by decide +kernel
theorem at302_1311 : am_at 302 1311 = some (.iload 4, 2) := by decide +kernel
theorem at302_1313 : am_at 302 1313 = some (.iconst 2, 1) := by decide +kernel
theorem at302_1314 : am_at 302 1314 = some (.iadd, 1) := by decide +kernel
theorem at302_1315 : am_at 302 1315 = some (.iaload, 1) := by decide +kernel
theorem at302_1316 : am_at 302 1316 = some (.aload_n 3, 1) := by decide +kernel
theorem at302_1317 : am_at 302 1317 = some (.invokestatic 286, 3) := by decide +kernel
theorem at302_1320 : am_at 302 1320 = some (.istore 5, 2) := by decide +kernel
theorem at302_1322 : am_at 302 1322 = some (.aload_n 2, 1) := by decide +kernel
theorem at302_1323 : am_at 302 1323 = some (.aload_n 0, 1) := by decide +kernel
theorem at302_1324 : am_at 302 1324 = some (.iload 4, 2) := by decide +kernel
theorem at302_1326 : am_at 302 1326 = some (.iconst 1, 1) := by decide +kernel
theorem at302_1327 : am_at 302 1327 = some (.iadd, 1) := by decide +kernel
theorem at302_1328 : am_at 302 1328 = some (.iaload, 1) := by decide +kernel
theorem at302_1329 : am_at 302 1329 = some (.aload_n 0, 1) := by decide +kernel
theorem at302_1330 : am_at 302 1330 = some (.iload 4, 2) := by decide +kernel
theorem at302_1332 : am_at 302 1332 = some (.iconst 2, 1) := by decide +kernel
theorem at302_1333 : am_at 302 1333 = some (.iadd, 1) := by decide +kernel
theorem at302_1334 : am_at 302 1334 = some (.iaload, 1) := by decide +kernel
theorem at302_1335 : am_at 302 1335 = some (.invokevirtual 239, 3) := by decide +kernel
theorem at302_1338 : am_at 302 1338 = some (.istore 6, 2) := by decide +kernel
theorem at302_1340 : am_at 302 1340 = some (.aload_n 2, 1) := by decide +kernel
theorem at302_1341 : am_at 302 1341 = some (.invokevirtual 157, 3) := by decide +kernel
theorem at302_1344 : am_at 302 1344 = some (.iload 5, 2) := by decide +kernel
theorem at302_1346 : am_at 302 1346 = some (.if_icmp .eq 5, 3) := by decide +kernel
theorem at302_1349 : am_at 302 1349 = some (.iconst 0, 1) := by decide +kernel
theorem at302_1350 : am_at 302 1350 = some (.ireturn, 1) := by decide +kernel
theorem at302_1351 : am_at 302 1351 = some (.iload 5, 2) := by decide +kernel
theorem at302_1353 : am_at 302 1353 = some (.ifCond .ne 15, 3) := by decide +kernel
theorem at302_1356 : am_at 302 1356 = some (.aload_n 3, 1) := by decide +kernel
theorem at302_1357 : am_at 302 1357 = some (.iconst 0, 1) := by decide +kernel
theorem at302_1358 : am_at 302 1358 = some (.laload, 1) := by decide +kernel
theorem at302_1359 : am_at 302 1359 = some (.iload 6, 2) := by decide +kernel
theorem at302_1361 : am_at 302 1361 = some (.i2l, 1) := by decide +kernel
theorem at302_1362 : am_at 302 1362 = some (.lcmp, 1) := by decide +kernel
theorem at302_1363 : am_at 302 1363 = some (.ifCond .eq 5, 3) := by decide +kernel
theorem at302_1366 : am_at 302 1366 = some (.iconst 0, 1) := by decide +kernel
theorem at302_1367 : am_at 302 1367 = some (.ireturn, 1) := by decide +kernel
theorem at302_1368 : am_at 302 1368 = some (.goto 998, 3) := by decide +kernel
theorem at302_1371 : am_at 302 1371 = some (.aload_n 1, 1) := by decide +kernel
theorem at302_1372 : am_at 302 1372 = some (.aload_n 0, 1) := by decide +kernel
theorem at302_1373 : am_at 302 1373 = some (.iload 4, 2) := by decide +kernel
theorem at302_1375 : am_at 302 1375 = some (.iconst 1, 1) := by decide +kernel
theorem at302_1376 : am_at 302 1376 = some (.iadd, 1) := by decide +kernel
theorem at302_1377 : am_at 302 1377 = some (.iaload, 1) := by decide +kernel
theorem at302_1378 : am_at 302 1378 = some (.aload_n 3, 1) := by decide +kernel
theorem at302_1379 : am_at 302 1379 = some (.invokestatic 287, 3) := by decide +kernel
theorem at302_1382 : am_at 302 1382 = some (.istore 5, 2) := by decide +kernel
theorem at302_1384 : am_at 302 1384 = some (.aload_n 2, 1) := by decide +kernel
theorem at302_1385 : am_at 302 1385 = some (.aload_n 0, 1) := by decide +kernel
theorem at302_1386 : am_at 302 1386 = some (.iload 4, 2) := by decide +kernel
theorem at302_1388 : am_at 302 1388 = some (.iconst 1, 1) := by decide +kernel
theorem at302_1389 : am_at 302 1389 = some (.iadd, 1) := by decide +kernel
theorem at302_1390 : am_at 302 1390 = some (.iaload, 1) := by decide +kernel
theorem at302_1391 : am_at 302 1391 = some (.invokevirtual 240, 3) := by decide +kernel
theorem at302_1394 : am_at 302 1394 = some (.istore 6, 2) := by decide +kernel
theorem at302_1396 : am_at 302 1396 = some (.aload_n 2, 1) := by decide +kernel
theorem at302_1397 : am_at 302 1397 = some (.invokevirtual 157, 3) := by decide +kernel
theorem at302_1400 : am_at 302 1400 = some (.iload 5, 2) := by decide +kernel
theorem at302_1402 : am_at 302 1402 = some (.if_icmp .eq 5, 3) := by decide +kernel
theorem at302_1405 : am_at 302 1405 = some (.iconst 0, 1) := by decide +kernel
theorem at302_1406 : am_at 302 1406 = some (.ireturn, 1) := by decide +kernel
theorem at302_1407 : am_at 302 1407 = some (.iload 5, 2) := by decide +kernel
theorem at302_1409 : am_at 302 1409 = some (.ifCond .ne 15, 3) := by decide +kernel
theorem at302_1412 : am_at 302 1412 = some (.aload_n 3, 1) := by decide +kernel
theorem at302_1413 : am_at 302 1413 = some (.iconst 0, 1) := by decide +kernel
theorem at302_1414 : am_at 302 1414 = some (.laload, 1) := by decide +kernel
theorem at302_1415 : am_at 302 1415 = some (.iload 6, 2) := by decide +kernel
theorem at302_1417 : am_at 302 1417 = some (.i2l, 1) := by decide +kernel
theorem at302_1418 : am_at 302 1418 = some (.lcmp, 1) := by decide +kernel
theorem at302_1419 : am_at 302 1419 = some (.ifCond .eq 5, 3) := by decide +kernel
theorem at302_1422 : am_at 302 1422 = some (.iconst 0, 1) := by decide +kernel
theorem at302_1423 : am_at 302 1423 = some (.ireturn, 1) := by decide +kernel
theorem at302_1424 : am_at 302 1424 = some (.goto 942, 3) := by decide +kernel
theorem at302_1427 : am_at 302 1427 = some (.aload_n 1, 1) := by decide +kernel
theorem at302_1428 : am_at 302 1428 = some (.aload_n 0, 1) := by decide +kernel
theorem at302_1429 : am_at 302 1429 = some (.iload 4, 2) := by decide +kernel
theorem at302_1431 : am_at 302 1431 = some (.iconst 1, 1) := by decide +kernel
theorem at302_1432 : am_at 302 1432 = some (.iadd, 1) := by decide +kernel
theorem at302_1433 : am_at 302 1433 = some (.iaload, 1) := by decide +kernel
theorem at302_1434 : am_at 302 1434 = some (.aload_n 0, 1) := by decide +kernel
theorem at302_1435 : am_at 302 1435 = some (.iload 4, 2) := by decide +kernel
theorem at302_1437 : am_at 302 1437 = some (.iconst 2, 1) := by decide +kernel
theorem at302_1438 : am_at 302 1438 = some (.iadd, 1) := by decide +kernel
theorem at302_1439 : am_at 302 1439 = some (.iaload, 1) := by decide +kernel
theorem at302_1440 : am_at 302 1440 = some (.aload_n 3, 1) := by decide +kernel
theorem at302_1441 : am_at 302 1441 = some (.invokestatic 288, 3) := by decide +kernel
theorem at302_1444 : am_at 302 1444 = some (.istore 5, 2) := by decide +kernel
theorem at302_1446 : am_at 302 1446 = some (.aload_n 2, 1) := by decide +kernel
theorem at302_1447 : am_at 302 1447 = some (.aload_n 0, 1) := by decide +kernel
theorem at302_1448 : am_at 302 1448 = some (.iload 4, 2) := by decide +kernel
theorem at302_1450 : am_at 302 1450 = some (.iconst 1, 1) := by decide +kernel
theorem at302_1451 : am_at 302 1451 = some (.iadd, 1) := by decide +kernel
theorem at302_1452 : am_at 302 1452 = some (.iaload, 1) := by decide +kernel
theorem at302_1453 : am_at 302 1453 = some (.aload_n 0, 1) := by decide +kernel
theorem at302_1454 : am_at 302 1454 = some (.iload 4, 2) := by decide +kernel
theorem at302_1456 : am_at 302 1456 = some (.iconst 2, 1) := by decide +kernel
theorem at302_1457 : am_at 302 1457 = some (.iadd, 1) := by decide +kernel
theorem at302_1458 : am_at 302 1458 = some (.iaload, 1) := by decide +kernel
theorem at302_1459 : am_at 302 1459 = some (.invokevirtual 243, 3) := by decide +kernel
theorem at302_1462 : am_at 302 1462 = some (.istore 6, 2) := by decide +kernel
theorem at302_1464 : am_at 302 1464 = some (.aload_n 2, 1) := by decide +kernel
theorem at302_1465 : am_at 302 1465 = some (.invokevirtual 157, 3) := by decide +kernel
theorem at302_1468 : am_at 302 1468 = some (.iload 5, 2) := by decide +kernel
theorem at302_1470 : am_at 302 1470 = some (.if_icmp .eq 5, 3) := by decide +kernel
theorem at302_1473 : am_at 302 1473 = some (.iconst 0, 1) := by decide +kernel
theorem at302_1474 : am_at 302 1474 = some (.ireturn, 1) := by decide +kernel
theorem at302_1475 : am_at 302 1475 = some (.iload 5, 2) := by decide +kernel
theorem at302_1477 : am_at 302 1477 = some (.ifCond .ne 15, 3) := by decide +kernel
theorem at302_1480 : am_at 302 1480 = some (.aload_n 3, 1) := by decide +kernel
theorem at302_1481 : am_at 302 1481 = some (.iconst 0, 1) := by decide +kernel
theorem at302_1482 : am_at 302 1482 = some (.laload, 1) := by decide +kernel
theorem at302_1483 : am_at 302 1483 = some (.iload 6, 2) := by decide +kernel
theorem at302_1485 : am_at 302 1485 = some (.i2l, 1) := by decide +kernel
theorem at302_1486 : am_at 302 1486 = some (.lcmp, 1) := by decide +kernel
theorem at302_1487 : am_at 302 1487 = some (.ifCond .eq 5, 3) := by decide +kernel
theorem at302_1490 : am_at 302 1490 = some (.iconst 0, 1) := by decide +kernel
theorem at302_1491 : am_at 302 1491 = some (.ireturn, 1) := by decide +kernel
theorem at302_1492 : am_at 302 1492 = some (.goto 874, 3) := by decide +kernel
theorem at302_1495 : am_at 302 1495 = some (.aload_n 1, 1) := by decide +kernel
theorem at302_1496 : am_at 302 1496 = some (.aload_n 0, 1) := by decide +kernel
theorem at302_1497 : am_at 302 1497 = some (.iload 4, 2) := by decide +kernel
theorem at302_1499 : am_at 302 1499 = some (.iconst 1, 1) := by decide +kernel
theorem at302_1500 : am_at 302 1500 = some (.iadd, 1) := by decide +kernel
theorem at302_1501 : am_at 302 1501 = some (.iaload, 1) := by decide +kernel
theorem at302_1502 : am_at 302 1502 = some (.aload_n 3, 1) := by decide +kernel
theorem at302_1503 : am_at 302 1503 = some (.invokestatic 289, 3) := by decide +kernel
theorem at302_1506 : am_at 302 1506 = some (.istore 5, 2) := by decide +kernel
theorem at302_1508 : am_at 302 1508 = some (.aload_n 2, 1) := by decide +kernel
theorem at302_1509 : am_at 302 1509 = some (.aload_n 0, 1) := by decide +kernel
theorem at302_1510 : am_at 302 1510 = some (.iload 4, 2) := by decide +kernel
theorem at302_1512 : am_at 302 1512 = some (.iconst 1, 1) := by decide +kernel
theorem at302_1513 : am_at 302 1513 = some (.iadd, 1) := by decide +kernel
theorem at302_1514 : am_at 302 1514 = some (.iaload, 1) := by decide +kernel
theorem at302_1515 : am_at 302 1515 = some (.invokevirtual 244, 3) := by decide +kernel
theorem at302_1518 : am_at 302 1518 = some (.istore 6, 2) := by decide +kernel
theorem at302_1520 : am_at 302 1520 = some (.aload_n 2, 1) := by decide +kernel
theorem at302_1521 : am_at 302 1521 = some (.invokevirtual 157, 3) := by decide +kernel
theorem at302_1524 : am_at 302 1524 = some (.iload 5, 2) := by decide +kernel
theorem at302_1526 : am_at 302 1526 = some (.if_icmp .eq 5, 3) := by decide +kernel
theorem at302_1529 : am_at 302 1529 = some (.iconst 0, 1) := by decide +kernel
theorem at302_1530 : am_at 302 1530 = some (.ireturn, 1) := by decide +kernel
theorem at302_1531 : am_at 302 1531 = some (.iload 5, 2) := by decide +kernel
theorem at302_1533 : am_at 302 1533 = some (.ifCond .ne 15, 3) := by decide +kernel
theorem at302_1536 : am_at 302 1536 = some (.aload_n 3, 1) := by decide +kernel
theorem at302_1537 : am_at 302 1537 = some (.iconst 0, 1) := by decide +kernel
theorem at302_1538 : am_at 302 1538 = some (.laload, 1) := by decide +kernel
theorem at302_1539 : am_at 302 1539 = some (.iload 6, 2) := by decide +kernel
theorem at302_1541 : am_at 302 1541 = some (.i2l, 1) := by decide +kernel
theorem at302_1542 : am_at 302 1542 = some (.lcmp, 1) := by decide +kernel
theorem at302_1543 : am_at 302 1543 = some (.ifCond .eq 5, 3) := by decide +kernel
theorem at302_1546 : am_at 302 1546 = some (.iconst 0, 1) := by decide +kernel
theorem at302_1547 : am_at 302 1547 = some (.ireturn, 1) := by decide +kernel
theorem at302_1548 : am_at 302 1548 = some (.goto 818, 3) := by decide +kernel
theorem at302_1551 : am_at 302 1551 = some (.aload_n 1, 1) := by decide +kernel
theorem at302_1552 : am_at 302 1552 = some (.aload_n 0, 1) := by decide +kernel
theorem at302_1553 : am_at 302 1553 = some (.iload 4, 2) := by decide +kernel
theorem at302_1555 : am_at 302 1555 = some (.iconst 1, 1) := by decide +kernel
theorem at302_1556 : am_at 302 1556 = some (.iadd, 1) := by decide +kernel
theorem at302_1557 : am_at 302 1557 = some (.iaload, 1) := by decide +kernel
theorem at302_1558 : am_at 302 1558 = some (.aload_n 3, 1) := by decide +kernel
theorem at302_1559 : am_at 302 1559 = some (.invokestatic 290, 3) := by decide +kernel
theorem at302_1562 : am_at 302 1562 = some (.istore 5, 2) := by decide +kernel
theorem at302_1564 : am_at 302 1564 = some (.aload_n 2, 1) := by decide +kernel
theorem at302_1565 : am_at 302 1565 = some (.aload_n 0, 1) := by decide +kernel
theorem at302_1566 : am_at 302 1566 = some (.iload 4, 2) := by decide +kernel
theorem at302_1568 : am_at 302 1568 = some (.iconst 1, 1) := by decide +kernel
theorem at302_1569 : am_at 302 1569 = some (.iadd, 1) := by decide +kernel
theorem at302_1570 : am_at 302 1570 = some (.iaload, 1) := by decide +kernel
theorem at302_1571 : am_at 302 1571 = some (.invokevirtual 245, 3) := by decide +kernel
theorem at302_1574 : am_at 302 1574 = some (.istore 6, 2) := by decide +kernel
theorem at302_1576 : am_at 302 1576 = some (.aload_n 2, 1) := by decide +kernel
theorem at302_1577 : am_at 302 1577 = some (.invokevirtual 157, 3) := by decide +kernel
theorem at302_1580 : am_at 302 1580 = some (.iload 5, 2) := by decide +kernel
theorem at302_1582 : am_at 302 1582 = some (.if_icmp .eq 5, 3) := by decide +kernel
theorem at302_1585 : am_at 302 1585 = some (.iconst 0, 1) := by decide +kernel
theorem at302_1586 : am_at 302 1586 = some (.ireturn, 1) := by decide +kernel
theorem at302_1587 : am_at 302 1587 = some (.iload 5, 2) := by decide +kernel
theorem at302_1589 : am_at 302 1589 = some (.ifCond .ne 15, 3) := by decide +kernel
theorem at302_1592 : am_at 302 1592 = some (.aload_n 3, 1) := by decide +kernel
theorem at302_1593 : am_at 302 1593 = some (.iconst 0, 1) := by decide +kernel
theorem at302_1594 : am_at 302 1594 = some (.laload, 1) := by decide +kernel
theorem at302_1595 : am_at 302 1595 = some (.iload 6, 2) := by decide +kernel
theorem at302_1597 : am_at 302 1597 = some (.i2l, 1) := by decide +kernel
theorem at302_1598 : am_at 302 1598 = some (.lcmp, 1) := by decide +kernel
theorem at302_1599 : am_at 302 1599 = some (.ifCond .eq 5, 3) := by decide +kernel
theorem at302_1602 : am_at 302 1602 = some (.iconst 0, 1) := by decide +kernel
theorem at302_1603 : am_at 302 1603 = some (.ireturn, 1) := by decide +kernel
theorem at302_1604 : am_at 302 1604 = some (.goto 762, 3) := by decide +kernel
theorem at302_1607 : am_at 302 1607 = some (.aload_n 1, 1) := by decide +kernel
theorem at302_1608 : am_at 302 1608 = some (.aload_n 0, 1) := by decide +kernel
theorem at302_1609 : am_at 302 1609 = some (.iload 4, 2) := by decide +kernel
theorem at302_1611 : am_at 302 1611 = some (.iconst 1, 1) := by decide +kernel
theorem at302_1612 : am_at 302 1612 = some (.iadd, 1) := by decide +kernel
theorem at302_1613 : am_at 302 1613 = some (.iaload, 1) := by decide +kernel
theorem at302_1614 : am_at 302 1614 = some (.aload_n 3, 1) := by decide +kernel
theorem at302_1615 : am_at 302 1615 = some (.invokestatic 291, 3) := by decide +kernel
theorem at302_1618 : am_at 302 1618 = some (.istore 5, 2) := by decide +kernel
theorem at302_1620 : am_at 302 1620 = some (.aload_n 2, 1) := by decide +kernel
theorem at302_1621 : am_at 302 1621 = some (.aload_n 0, 1) := by decide +kernel
theorem at302_1622 : am_at 302 1622 = some (.iload 4, 2) := by decide +kernel
theorem at302_1624 : am_at 302 1624 = some (.iconst 1, 1) := by decide +kernel
theorem at302_1625 : am_at 302 1625 = some (.iadd, 1) := by decide +kernel
theorem at302_1626 : am_at 302 1626 = some (.iaload, 1) := by decide +kernel
theorem at302_1627 : am_at 302 1627 = some (.invokevirtual 248, 3) := by decide +kernel
theorem at302_1630 : am_at 302 1630 = some (.istore 6, 2) := by decide +kernel
theorem at302_1632 : am_at 302 1632 = some (.aload_n 2, 1) := by decide +kernel
theorem at302_1633 : am_at 302 1633 = some (.invokevirtual 157, 3) := by decide +kernel
theorem at302_1636 : am_at 302 1636 = some (.iload 5, 2) := by decide +kernel
theorem at302_1638 : am_at 302 1638 = some (.if_icmp .eq 5, 3) := by decide +kernel
theorem at302_1641 : am_at 302 1641 = some (.iconst 0, 1) := by decide +kernel
theorem at302_1642 : am_at 302 1642 = some (.ireturn, 1) := by decide +kernel
theorem at302_1643 : am_at 302 1643 = some (.iload 5, 2) := by decide +kernel
theorem at302_1645 : am_at 302 1645 = some (.ifCond .ne 22, 3) := by decide +kernel
theorem at302_1648 : am_at 302 1648 = some (.aload_n 3, 1) := by decide +kernel
theorem at302_1649 : am_at 302 1649 = some (.iconst 0, 1) := by decide +kernel
theorem at302_1650 : am_at 302 1650 = some (.laload, 1) := by decide +kernel
theorem at302_1651 : am_at 302 1651 = some (.iload 6, 2) := by decide +kernel
theorem at302_1653 : am_at 302 1653 = some (.ifCond .eq 7, 3) := by decide +kernel
theorem at302_1656 : am_at 302 1656 = some (.lconst 1, 1) := by decide +kernel
theorem at302_1657 : am_at 302 1657 = some (.goto 4, 3) := by decide +kernel
theorem at302_1660 : am_at 302 1660 = some (.lconst 0, 1) := by decide +kernel
theorem at302_1661 : am_at 302 1661 = some (.lcmp, 1) := by decide +kernel
theorem at302_1662 : am_at 302 1662 = some (.ifCond .eq 5, 3) := by decide +kernel
theorem at302_1665 : am_at 302 1665 = some (.iconst 0, 1) := by decide +kernel
theorem at302_1666 : am_at 302 1666 = some (.ireturn, 1) := by decide +kernel
theorem at302_1667 : am_at 302 1667 = some (.goto 699, 3) := by decide +kernel
theorem at302_1670 : am_at 302 1670 = some (.aload_n 1, 1) := by decide +kernel
theorem at302_1671 : am_at 302 1671 = some (.aload_n 0, 1) := by decide +kernel
theorem at302_1672 : am_at 302 1672 = some (.iload 4, 2) := by decide +kernel
theorem at302_1674 : am_at 302 1674 = some (.iconst 1, 1) := by decide +kernel
theorem at302_1675 : am_at 302 1675 = some (.iadd, 1) := by decide +kernel
theorem at302_1676 : am_at 302 1676 = some (.iaload, 1) := by decide +kernel
theorem at302_1677 : am_at 302 1677 = some (.aload_n 3, 1) := by decide +kernel
theorem at302_1678 : am_at 302 1678 = some (.invokestatic 292, 3) := by decide +kernel
theorem at302_1681 : am_at 302 1681 = some (.istore 5, 2) := by decide +kernel
theorem at302_1683 : am_at 302 1683 = some (.aload_n 2, 1) := by decide +kernel
theorem at302_1684 : am_at 302 1684 = some (.aload_n 0, 1) := by decide +kernel
theorem at302_1685 : am_at 302 1685 = some (.iload 4, 2) := by decide +kernel
theorem at302_1687 : am_at 302 1687 = some (.iconst 1, 1) := by decide +kernel
theorem at302_1688 : am_at 302 1688 = some (.iadd, 1) := by decide +kernel
theorem at302_1689 : am_at 302 1689 = some (.iaload, 1) := by decide +kernel
theorem at302_1690 : am_at 302 1690 = some (.invokevirtual 249, 3) := by decide +kernel
theorem at302_1693 : am_at 302 1693 = some (.istore 6, 2) := by decide +kernel
theorem at302_1695 : am_at 302 1695 = some (.aload_n 2, 1) := by decide +kernel
theorem at302_1696 : am_at 302 1696 = some (.invokevirtual 157, 3) := by decide +kernel
theorem at302_1699 : am_at 302 1699 = some (.iload 5, 2) := by decide +kernel
theorem at302_1701 : am_at 302 1701 = some (.if_icmp .eq 5, 3) := by decide +kernel
theorem at302_1704 : am_at 302 1704 = some (.iconst 0, 1) := by decide +kernel
theorem at302_1705 : am_at 302 1705 = some (.ireturn, 1) := by decide +kernel
theorem at302_1706 : am_at 302 1706 = some (.iload 5, 2) := by decide +kernel
theorem at302_1708 : am_at 302 1708 = some (.ifCond .ne 15, 3) := by decide +kernel
theorem at302_1711 : am_at 302 1711 = some (.aload_n 3, 1) := by decide +kernel
theorem at302_1712 : am_at 302 1712 = some (.iconst 0, 1) := by decide +kernel
theorem at302_1713 : am_at 302 1713 = some (.laload, 1) := by decide +kernel
theorem at302_1714 : am_at 302 1714 = some (.iload 6, 2) := by decide +kernel
theorem at302_1716 : am_at 302 1716 = some (.i2l, 1) := by decide +kernel
theorem at302_1717 : am_at 302 1717 = some (.lcmp, 1) := by decide +kernel
theorem at302_1718 : am_at 302 1718 = some (.ifCond .eq 5, 3) := by decide +kernel
theorem at302_1721 : am_at 302 1721 = some (.iconst 0, 1) := by decide +kernel
theorem at302_1722 : am_at 302 1722 = some (.ireturn, 1) := by decide +kernel
theorem at302_1723 : am_at 302 1723 = some (.goto 643, 3) := by decide +kernel
theorem at302_1726 : am_at 302 1726 = some (.aload_n 1, 1) := by decide +kernel
theorem at302_1727 : am_at 302 1727 = some (.aload_n 0, 1) := by decide +kernel
theorem at302_1728 : am_at 302 1728 = some (.iload 4, 2) := by decide +kernel
theorem at302_1730 : am_at 302 1730 = some (.iconst 1, 1) := by decide +kernel
theorem at302_1731 : am_at 302 1731 = some (.iadd, 1) := by decide +kernel
theorem at302_1732 : am_at 302 1732 = some (.iaload, 1) := by decide +kernel
theorem at302_1733 : am_at 302 1733 = some (.aload_n 3, 1) := by decide +kernel
theorem at302_1734 : am_at 302 1734 = some (.invokestatic 293, 3) := by decide +kernel
theorem at302_1737 : am_at 302 1737 = some (.istore 5, 2) := by decide +kernel
theorem at302_1739 : am_at 302 1739 = some (.aload_n 2, 1) := by decide +kernel
theorem at302_1740 : am_at 302 1740 = some (.aload_n 0, 1) := by decide +kernel
theorem at302_1741 : am_at 302 1741 = some (.iload 4, 2) := by decide +kernel
theorem at302_1743 : am_at 302 1743 = some (.iconst 1, 1) := by decide +kernel
theorem at302_1744 : am_at 302 1744 = some (.iadd, 1) := by decide +kernel
theorem at302_1745 : am_at 302 1745 = some (.iaload, 1) := by decide +kernel
theorem at302_1746 : am_at 302 1746 = some (.invokevirtual 250, 3) := by decide +kernel
theorem at302_1749 : am_at 302 1749 = some (.istore 6, 2) := by decide +kernel
theorem at302_1751 : am_at 302 1751 = some (.aload_n 2, 1) := by decide +kernel
theorem at302_1752 : am_at 302 1752 = some (.invokevirtual 157, 3) := by decide +kernel
theorem at302_1755 : am_at 302 1755 = some (.iload 5, 2) := by decide +kernel
theorem at302_1757 : am_at 302 1757 = some (.if_icmp .eq 5, 3) := by decide +kernel
theorem at302_1760 : am_at 302 1760 = some (.iconst 0, 1) := by decide +kernel
theorem at302_1761 : am_at 302 1761 = some (.ireturn, 1) := by decide +kernel
theorem at302_1762 : am_at 302 1762 = some (.iload 5, 2) := by decide +kernel
theorem at302_1764 : am_at 302 1764 = some (.ifCond .ne 15, 3) := by decide +kernel
theorem at302_1767 : am_at 302 1767 = some (.aload_n 3, 1) := by decide +kernel
theorem at302_1768 : am_at 302 1768 = some (.iconst 0, 1) := by decide +kernel
theorem at302_1769 : am_at 302 1769 = some (.laload, 1) := by decide +kernel
theorem at302_1770 : am_at 302 1770 = some (.iload 6, 2) := by decide +kernel
theorem at302_1772 : am_at 302 1772 = some (.i2l, 1) := by decide +kernel
theorem at302_1773 : am_at 302 1773 = some (.lcmp, 1) := by decide +kernel
theorem at302_1774 : am_at 302 1774 = some (.ifCond .eq 5, 3) := by decide +kernel
theorem at302_1777 : am_at 302 1777 = some (.iconst 0, 1) := by decide +kernel
theorem at302_1778 : am_at 302 1778 = some (.ireturn, 1) := by decide +kernel
theorem at302_1779 : am_at 302 1779 = some (.goto 587, 3) := by decide +kernel
theorem at302_1782 : am_at 302 1782 = some (.aload_n 1, 1) := by decide +kernel
theorem at302_1783 : am_at 302 1783 = some (.aload_n 0, 1) := by decide +kernel
theorem at302_1784 : am_at 302 1784 = some (.iload 4, 2) := by decide +kernel
theorem at302_1786 : am_at 302 1786 = some (.iconst 1, 1) := by decide +kernel
theorem at302_1787 : am_at 302 1787 = some (.iadd, 1) := by decide +kernel
theorem at302_1788 : am_at 302 1788 = some (.iaload, 1) := by decide +kernel
theorem at302_1789 : am_at 302 1789 = some (.aload_n 0, 1) := by decide +kernel
theorem at302_1790 : am_at 302 1790 = some (.iload 4, 2) := by decide +kernel
theorem at302_1792 : am_at 302 1792 = some (.iconst 2, 1) := by decide +kernel
theorem at302_1793 : am_at 302 1793 = some (.iadd, 1) := by decide +kernel
theorem at302_1794 : am_at 302 1794 = some (.iaload, 1) := by decide +kernel
theorem at302_1795 : am_at 302 1795 = some (.aload_n 0, 1) := by decide +kernel
theorem at302_1796 : am_at 302 1796 = some (.iload 4, 2) := by decide +kernel
theorem at302_1798 : am_at 302 1798 = some (.iconst 3, 1) := by decide +kernel
theorem at302_1799 : am_at 302 1799 = some (.iadd, 1) := by decide +kernel
theorem at302_1800 : am_at 302 1800 = some (.iaload, 1) := by decide +kernel
theorem at302_1801 : am_at 302 1801 = some (.ifCond .eq 7, 3) := by decide +kernel
theorem at302_1804 : am_at 302 1804 = some (.iconst 1, 1) := by decide +kernel
theorem at302_1805 : am_at 302 1805 = some (.goto 4, 3) := by decide +kernel
theorem at302_1808 : am_at 302 1808 = some (.iconst 0, 1) := by decide +kernel
theorem at302_1809 : am_at 302 1809 = some (.aload_n 3, 1) := by decide +kernel
theorem at302_1810 : am_at 302 1810 = some (.invokestatic 294, 3) := by decide +kernel
theorem at302_1813 : am_at 302 1813 = some (.istore 5, 2) := by decide +kernel
theorem at302_1815 : am_at 302 1815 = some (.aload_n 2, 1) := by decide +kernel
theorem at302_1816 : am_at 302 1816 = some (.aload_n 0, 1) := by decide +kernel
theorem at302_1817 : am_at 302 1817 = some (.iload 4, 2) := by decide +kernel
theorem at302_1819 : am_at 302 1819 = some (.iconst 1, 1) := by decide +kernel
theorem at302_1820 : am_at 302 1820 = some (.iadd, 1) := by decide +kernel
theorem at302_1821 : am_at 302 1821 = some (.iaload, 1) := by decide +kernel
theorem at302_1822 : am_at 302 1822 = some (.aload_n 0, 1) := by decide +kernel
theorem at302_1823 : am_at 302 1823 = some (.iload 4, 2) := by decide +kernel
theorem at302_1825 : am_at 302 1825 = some (.iconst 2, 1) := by decide +kernel
theorem at302_1826 : am_at 302 1826 = some (.iadd, 1) := by decide +kernel
theorem at302_1827 : am_at 302 1827 = some (.iaload, 1) := by decide +kernel
theorem at302_1828 : am_at 302 1828 = some (.aload_n 0, 1) := by decide +kernel
theorem at302_1829 : am_at 302 1829 = some (.iload 4, 2) := by decide +kernel
theorem at302_1831 : am_at 302 1831 = some (.iconst 3, 1) := by decide +kernel
theorem at302_1832 : am_at 302 1832 = some (.iadd, 1) := by decide +kernel
theorem at302_1833 : am_at 302 1833 = some (.iaload, 1) := by decide +kernel
theorem at302_1834 : am_at 302 1834 = some (.ifCond .eq 7, 3) := by decide +kernel
theorem at302_1837 : am_at 302 1837 = some (.iconst 1, 1) := by decide +kernel
theorem at302_1838 : am_at 302 1838 = some (.goto 4, 3) := by decide +kernel
theorem at302_1841 : am_at 302 1841 = some (.iconst 0, 1) := by decide +kernel
theorem at302_1842 : am_at 302 1842 = some (.invokevirtual 251, 3) := by decide +kernel
theorem at302_1845 : am_at 302 1845 = some (.istore 6, 2) := by decide +kernel
theorem at302_1847 : am_at 302 1847 = some (.aload_n 2, 1) := by decide +kernel
theorem at302_1848 : am_at 302 1848 = some (.invokevirtual 157, 3) := by decide +kernel
theorem at302_1851 : am_at 302 1851 = some (.iload 5, 2) := by decide +kernel
theorem at302_1853 : am_at 302 1853 = some (.if_icmp .eq 5, 3) := by decide +kernel
theorem at302_1856 : am_at 302 1856 = some (.iconst 0, 1) := by decide +kernel
theorem at302_1857 : am_at 302 1857 = some (.ireturn, 1) := by decide +kernel
theorem at302_1858 : am_at 302 1858 = some (.iload 5, 2) := by decide +kernel
theorem at302_1860 : am_at 302 1860 = some (.ifCond .ne 15, 3) := by decide +kernel
theorem at302_1863 : am_at 302 1863 = some (.aload_n 3, 1) := by decide +kernel
theorem at302_1864 : am_at 302 1864 = some (.iconst 0, 1) := by decide +kernel
theorem at302_1865 : am_at 302 1865 = some (.laload, 1) := by decide +kernel
theorem at302_1866 : am_at 302 1866 = some (.iload 6, 2) := by decide +kernel
theorem at302_1868 : am_at 302 1868 = some (.i2l, 1) := by decide +kernel
theorem at302_1869 : am_at 302 1869 = some (.lcmp, 1) := by decide +kernel
theorem at302_1870 : am_at 302 1870 = some (.ifCond .eq 5, 3) := by decide +kernel
theorem at302_1873 : am_at 302 1873 = some (.iconst 0, 1) := by decide +kernel
theorem at302_1874 : am_at 302 1874 = some (.ireturn, 1) := by decide +kernel
theorem at302_1875 : am_at 302 1875 = some (.goto 491, 3) := by decide +kernel
theorem at302_1878 : am_at 302 1878 = some (.aload_n 1, 1) := by decide +kernel
theorem at302_1879 : am_at 302 1879 = some (.invokevirtual 131, 3) := by decide +kernel
theorem at302_1882 : am_at 302 1882 = some (.aload_n 2, 1) := by decide +kernel
theorem at302_1883 : am_at 302 1883 = some (.invokevirtual 252, 3) := by decide +kernel
theorem at302_1886 : am_at 302 1886 = some (.goto 480, 3) := by decide +kernel
theorem at302_1889 : am_at 302 1889 = some (.aload_n 1, 1) := by decide +kernel
theorem at302_1890 : am_at 302 1890 = some (.aload_n 0, 1) := by decide +kernel
theorem at302_1891 : am_at 302 1891 = some (.iload 4, 2) := by decide +kernel
theorem at302_1893 : am_at 302 1893 = some (.iconst 1, 1) := by decide +kernel
theorem at302_1894 : am_at 302 1894 = some (.iadd, 1) := by decide +kernel
theorem at302_1895 : am_at 302 1895 = some (.iaload, 1) := by decide +kernel
theorem at302_1896 : am_at 302 1896 = some (.aload_n 0, 1) := by decide +kernel
theorem at302_1897 : am_at 302 1897 = some (.iload 4, 2) := by decide +kernel
theorem at302_1899 : am_at 302 1899 = some (.iconst 2, 1) := by decide +kernel
theorem at302_1900 : am_at 302 1900 = some (.iadd, 1) := by decide +kernel
theorem at302_1901 : am_at 302 1901 = some (.iaload, 1) := by decide +kernel
theorem at302_1902 : am_at 302 1902 = some (.aload_n 3, 1) := by decide +kernel
theorem at302_1903 : am_at 302 1903 = some (.invokestatic 295, 3) := by decide +kernel
theorem at302_1906 : am_at 302 1906 = some (.istore 5, 2) := by decide +kernel
theorem at302_1908 : am_at 302 1908 = some (.aload_n 2, 1) := by decide +kernel
theorem at302_1909 : am_at 302 1909 = some (.aload_n 0, 1) := by decide +kernel
theorem at302_1910 : am_at 302 1910 = some (.iload 4, 2) := by decide +kernel
theorem at302_1912 : am_at 302 1912 = some (.iconst 1, 1) := by decide +kernel
theorem at302_1913 : am_at 302 1913 = some (.iadd, 1) := by decide +kernel
theorem at302_1914 : am_at 302 1914 = some (.iaload, 1) := by decide +kernel
theorem at302_1915 : am_at 302 1915 = some (.aload_n 0, 1) := by decide +kernel
theorem at302_1916 : am_at 302 1916 = some (.iload 4, 2) := by decide +kernel
theorem at302_1918 : am_at 302 1918 = some (.iconst 2, 1) := by decide +kernel
theorem at302_1919 : am_at 302 1919 = some (.iadd, 1) := by decide +kernel
theorem at302_1920 : am_at 302 1920 = some (.iaload, 1) := by decide +kernel
theorem at302_1921 : am_at 302 1921 = some (.invokevirtual 255, 3) := by decide +kernel
theorem at302_1924 : am_at 302 1924 = some (.istore 6, 2) := by decide +kernel
theorem at302_1926 : am_at 302 1926 = some (.aload_n 2, 1) := by decide +kernel
theorem at302_1927 : am_at 302 1927 = some (.invokevirtual 157, 3) := by decide +kernel
theorem at302_1930 : am_at 302 1930 = some (.iload 5, 2) := by decide +kernel
theorem at302_1932 : am_at 302 1932 = some (.if_icmp .eq 5, 3) := by decide +kernel
theorem at302_1935 : am_at 302 1935 = some (.iconst 0, 1) := by decide +kernel
theorem at302_1936 : am_at 302 1936 = some (.ireturn, 1) := by decide +kernel
theorem at302_1937 : am_at 302 1937 = some (.iload 5, 2) := by decide +kernel
theorem at302_1939 : am_at 302 1939 = some (.ifCond .ne 15, 3) := by decide +kernel
theorem at302_1942 : am_at 302 1942 = some (.aload_n 3, 1) := by decide +kernel
theorem at302_1943 : am_at 302 1943 = some (.iconst 0, 1) := by decide +kernel
theorem at302_1944 : am_at 302 1944 = some (.laload, 1) := by decide +kernel
theorem at302_1945 : am_at 302 1945 = some (.iload 6, 2) := by decide +kernel
theorem at302_1947 : am_at 302 1947 = some (.i2l, 1) := by decide +kernel
theorem at302_1948 : am_at 302 1948 = some (.lcmp, 1) := by decide +kernel
theorem at302_1949 : am_at 302 1949 = some (.ifCond .eq 5, 3) := by decide +kernel
theorem at302_1952 : am_at 302 1952 = some (.iconst 0, 1) := by decide +kernel
theorem at302_1953 : am_at 302 1953 = some (.ireturn, 1) := by decide +kernel
theorem at302_1954 : am_at 302 1954 = some (.goto 412, 3) := by decide +kernel
theorem at302_1957 : am_at 302 1957 = some (.aload_n 1, 1) := by decide +kernel
theorem at302_1958 : am_at 302 1958 = some (.invokevirtual 133, 3) := by decide +kernel
theorem at302_1961 : am_at 302 1961 = some (.aload_n 2, 1) := by decide +kernel
theorem at302_1962 : am_at 302 1962 = some (.invokevirtual 256, 3) := by decide +kernel
theorem at302_1965 : am_at 302 1965 = some (.if_icmp .eq 401, 3) := by decide +kernel
theorem at302_1968 : am_at 302 1968 = some (.iconst 0, 1) := by decide +kernel
theorem at302_1969 : am_at 302 1969 = some (.ireturn, 1) := by decide +kernel
theorem at302_1970 : am_at 302 1970 = some (.aload_n 1, 1) := by decide +kernel
theorem at302_1971 : am_at 302 1971 = some (.aload_n 0, 1) := by decide +kernel
theorem at302_1972 : am_at 302 1972 = some (.iload 4, 2) := by decide +kernel
theorem at302_1974 : am_at 302 1974 = some (.iconst 1, 1) := by decide +kernel
theorem at302_1975 : am_at 302 1975 = some (.iadd, 1) := by decide +kernel
theorem at302_1976 : am_at 302 1976 = some (.iaload, 1) := by decide +kernel
theorem at302_1977 : am_at 302 1977 = some (.aload_n 3, 1) := by decide +kernel
theorem at302_1978 : am_at 302 1978 = some (.invokestatic 296, 3) := by decide +kernel
theorem at302_1981 : am_at 302 1981 = some (.istore 5, 2) := by decide +kernel
theorem at302_1983 : am_at 302 1983 = some (.aload_n 2, 1) := by decide +kernel
theorem at302_1984 : am_at 302 1984 = some (.aload_n 0, 1) := by decide +kernel
theorem at302_1985 : am_at 302 1985 = some (.iload 4, 2) := by decide +kernel
theorem at302_1987 : am_at 302 1987 = some (.iconst 1, 1) := by decide +kernel
theorem at302_1988 : am_at 302 1988 = some (.iadd, 1) := by decide +kernel
theorem at302_1989 : am_at 302 1989 = some (.iaload, 1) := by decide +kernel
theorem at302_1990 : am_at 302 1990 = some (.invokevirtual 260, 3) := by decide +kernel
theorem at302_1993 : am_at 302 1993 = some (.istore 6, 2) := by decide +kernel
theorem at302_1995 : am_at 302 1995 = some (.aload_n 2, 1) := by decide +kernel
theorem at302_1996 : am_at 302 1996 = some (.invokevirtual 157, 3) := by decide +kernel
theorem at302_1999 : am_at 302 1999 = some (.iload 5, 2) := by decide +kernel
theorem at302_2001 : am_at 302 2001 = some (.if_icmp .eq 5, 3) := by decide +kernel
theorem at302_2004 : am_at 302 2004 = some (.iconst 0, 1) := by decide +kernel
theorem at302_2005 : am_at 302 2005 = some (.ireturn, 1) := by decide +kernel
theorem at302_2006 : am_at 302 2006 = some (.iload 5, 2) := by decide +kernel
theorem at302_2008 : am_at 302 2008 = some (.ifCond .ne 15, 3) := by decide +kernel
theorem at302_2011 : am_at 302 2011 = some (.aload_n 3, 1) := by decide +kernel
theorem at302_2012 : am_at 302 2012 = some (.iconst 0, 1) := by decide +kernel
theorem at302_2013 : am_at 302 2013 = some (.laload, 1) := by decide +kernel
theorem at302_2014 : am_at 302 2014 = some (.iload 6, 2) := by decide +kernel
theorem at302_2016 : am_at 302 2016 = some (.i2l, 1) := by decide +kernel
theorem at302_2017 : am_at 302 2017 = some (.lcmp, 1) := by decide +kernel
theorem at302_2018 : am_at 302 2018 = some (.ifCond .eq 5, 3) := by decide +kernel
theorem at302_2021 : am_at 302 2021 = some (.iconst 0, 1) := by decide +kernel
theorem at302_2022 : am_at 302 2022 = some (.ireturn, 1) := by decide +kernel
theorem at302_2023 : am_at 302 2023 = some (.goto 343, 3) := by decide +kernel
theorem at302_2026 : am_at 302 2026 = some (.aload_n 1, 1) := by decide +kernel
theorem at302_2027 : am_at 302 2027 = some (.aload_n 0, 1) := by decide +kernel
theorem at302_2028 : am_at 302 2028 = some (.iload 4, 2) := by decide +kernel
theorem at302_2030 : am_at 302 2030 = some (.iconst 1, 1) := by decide +kernel
theorem at302_2031 : am_at 302 2031 = some (.iadd, 1) := by decide +kernel
theorem at302_2032 : am_at 302 2032 = some (.iaload, 1) := by decide +kernel
theorem at302_2033 : am_at 302 2033 = some (.aload_n 3, 1) := by decide +kernel
theorem at302_2034 : am_at 302 2034 = some (.invokestatic 297, 3) := by decide +kernel
theorem at302_2037 : am_at 302 2037 = some (.istore 5, 2) := by decide +kernel
theorem at302_2039 : am_at 302 2039 = some (.aload_n 2, 1) := by decide +kernel
theorem at302_2040 : am_at 302 2040 = some (.aload_n 0, 1) := by decide +kernel
theorem at302_2041 : am_at 302 2041 = some (.iload 4, 2) := by decide +kernel
theorem at302_2043 : am_at 302 2043 = some (.iconst 1, 1) := by decide +kernel
theorem at302_2044 : am_at 302 2044 = some (.iadd, 1) := by decide +kernel
theorem at302_2045 : am_at 302 2045 = some (.iaload, 1) := by decide +kernel
theorem at302_2046 : am_at 302 2046 = some (.invokevirtual 261, 3) := by decide +kernel
theorem at302_2049 : am_at 302 2049 = some (.istore 6, 2) := by decide +kernel
theorem at302_2051 : am_at 302 2051 = some (.aload_n 2, 1) := by decide +kernel
theorem at302_2052 : am_at 302 2052 = some (.invokevirtual 157, 3) := by decide +kernel
theorem at302_2055 : am_at 302 2055 = some (.iload 5, 2) := by decide +kernel
theorem at302_2057 : am_at 302 2057 = some (.if_icmp .eq 5, 3) := by decide +kernel
theorem at302_2060 : am_at 302 2060 = some (.iconst 0, 1) := by decide +kernel
theorem at302_2061 : am_at 302 2061 = some (.ireturn, 1) := by decide +kernel
theorem at302_2062 : am_at 302 2062 = some (.iload 5, 2) := by decide +kernel
theorem at302_2064 : am_at 302 2064 = some (.ifCond .ne 15, 3) := by decide +kernel
theorem at302_2067 : am_at 302 2067 = some (.aload_n 3, 1) := by decide +kernel
theorem at302_2068 : am_at 302 2068 = some (.iconst 0, 1) := by decide +kernel
theorem at302_2069 : am_at 302 2069 = some (.laload, 1) := by decide +kernel
theorem at302_2070 : am_at 302 2070 = some (.iload 6, 2) := by decide +kernel
theorem at302_2072 : am_at 302 2072 = some (.i2l, 1) := by decide +kernel
theorem at302_2073 : am_at 302 2073 = some (.lcmp, 1) := by decide +kernel
theorem at302_2074 : am_at 302 2074 = some (.ifCond .eq 5, 3) := by decide +kernel
theorem at302_2077 : am_at 302 2077 = some (.iconst 0, 1) := by decide +kernel
theorem at302_2078 : am_at 302 2078 = some (.ireturn, 1) := by decide +kernel
theorem at302_2079 : am_at 302 2079 = some (.goto 287, 3) := by decide +kernel
theorem at302_2082 : am_at 302 2082 = some (.aload_n 1, 1) := by decide +kernel
theorem at302_2083 : am_at 302 2083 = some (.aload_n 0, 1) := by decide +kernel
theorem at302_2084 : am_at 302 2084 = some (.iload 4, 2) := by decide +kernel
theorem at302_2086 : am_at 302 2086 = some (.iconst 1, 1) := by decide +kernel
theorem at302_2087 : am_at 302 2087 = some (.iadd, 1) := by decide +kernel
theorem at302_2088 : am_at 302 2088 = some (.iaload, 1) := by decide +kernel
theorem at302_2089 : am_at 302 2089 = some (.aload_n 0, 1) := by decide +kernel
theorem at302_2090 : am_at 302 2090 = some (.iload 4, 2) := by decide +kernel
theorem at302_2092 : am_at 302 2092 = some (.iconst 2, 1) := by decide +kernel
theorem at302_2093 : am_at 302 2093 = some (.iadd, 1) := by decide +kernel
theorem at302_2094 : am_at 302 2094 = some (.iaload, 1) := by decide +kernel
theorem at302_2095 : am_at 302 2095 = some (.aload_n 0, 1) := by decide +kernel
theorem at302_2096 : am_at 302 2096 = some (.iload 4, 2) := by decide +kernel
theorem at302_2098 : am_at 302 2098 = some (.iconst 3, 1) := by decide +kernel
theorem at302_2099 : am_at 302 2099 = some (.iadd, 1) := by decide +kernel
theorem at302_2100 : am_at 302 2100 = some (.iaload, 1) := by decide +kernel
theorem at302_2101 : am_at 302 2101 = some (.aload_n 3, 1) := by decide +kernel
theorem at302_2102 : am_at 302 2102 = some (.invokestatic 298, 3) := by decide +kernel
theorem at302_2105 : am_at 302 2105 = some (.istore 5, 2) := by decide +kernel
theorem at302_2107 : am_at 302 2107 = some (.aload_n 2, 1) := by decide +kernel
theorem at302_2108 : am_at 302 2108 = some (.aload_n 0, 1) := by decide +kernel
theorem at302_2109 : am_at 302 2109 = some (.iload 4, 2) := by decide +kernel
theorem at302_2111 : am_at 302 2111 = some (.iconst 1, 1) := by decide +kernel
theorem at302_2112 : am_at 302 2112 = some (.iadd, 1) := by decide +kernel
theorem at302_2113 : am_at 302 2113 = some (.iaload, 1) := by decide +kernel
theorem at302_2114 : am_at 302 2114 = some (.aload_n 0, 1) := by decide +kernel
theorem at302_2115 : am_at 302 2115 = some (.iload 4, 2) := by decide +kernel
theorem at302_2117 : am_at 302 2117 = some (.iconst 2, 1) := by decide +kernel
theorem at302_2118 : am_at 302 2118 = some (.iadd, 1) := by decide +kernel
theorem at302_2119 : am_at 302 2119 = some (.iaload, 1) := by decide +kernel
theorem at302_2120 : am_at 302 2120 = some (.aload_n 0, 1) := by decide +kernel
theorem at302_2121 : am_at 302 2121 = some (.iload 4, 2) := by decide +kernel
theorem at302_2123 : am_at 302 2123 = some (.iconst 3, 1) := by decide +kernel
theorem at302_2124 : am_at 302 2124 = some (.iadd, 1) := by decide +kernel
theorem at302_2125 : am_at 302 2125 = some (.iaload, 1) := by decide +kernel
theorem at302_2126 : am_at 302 2126 = some (.invokevirtual 264, 3) := by decide +kernel
theorem at302_2129 : am_at 302 2129 = some (.istore 6, 2) := by decide +kernel
theorem at302_2131 : am_at 302 2131 = some (.aload_n 2, 1) := by decide +kernel
theorem at302_2132 : am_at 302 2132 = some (.invokevirtual 157, 3) := by decide +kernel
theorem at302_2135 : am_at 302 2135 = some (.iload 5, 2) := by decide +kernel
theorem at302_2137 : am_at 302 2137 = some (.if_icmp .eq 5, 3) := by decide +kernel
theorem at302_2140 : am_at 302 2140 = some (.iconst 0, 1) := by decide +kernel
theorem at302_2141 : am_at 302 2141 = some (.ireturn, 1) := by decide +kernel
theorem at302_2142 : am_at 302 2142 = some (.iload 5, 2) := by decide +kernel
theorem at302_2144 : am_at 302 2144 = some (.ifCond .ne 15, 3) := by decide +kernel
theorem at302_2147 : am_at 302 2147 = some (.aload_n 3, 1) := by decide +kernel
theorem at302_2148 : am_at 302 2148 = some (.iconst 0, 1) := by decide +kernel
theorem at302_2149 : am_at 302 2149 = some (.laload, 1) := by decide +kernel
theorem at302_2150 : am_at 302 2150 = some (.iload 6, 2) := by decide +kernel
theorem at302_2152 : am_at 302 2152 = some (.i2l, 1) := by decide +kernel
theorem at302_2153 : am_at 302 2153 = some (.lcmp, 1) := by decide +kernel
theorem at302_2154 : am_at 302 2154 = some (.ifCond .eq 5, 3) := by decide +kernel
theorem at302_2157 : am_at 302 2157 = some (.iconst 0, 1) := by decide +kernel
theorem at302_2158 : am_at 302 2158 = some (.ireturn, 1) := by decide +kernel
theorem at302_2159 : am_at 302 2159 = some (.goto 207, 3) := by decide +kernel
theorem at302_2162 : am_at 302 2162 = some (.aload_n 1, 1) := by decide +kernel
theorem at302_2163 : am_at 302 2163 = some (.aload_n 0, 1) := by decide +kernel
theorem at302_2164 : am_at 302 2164 = some (.iload 4, 2) := by decide +kernel
theorem at302_2166 : am_at 302 2166 = some (.iconst 1, 1) := by decide +kernel
theorem at302_2167 : am_at 302 2167 = some (.iadd, 1) := by decide +kernel
theorem at302_2168 : am_at 302 2168 = some (.iaload, 1) := by decide +kernel
theorem at302_2169 : am_at 302 2169 = some (.aload_n 3, 1) := by decide +kernel
theorem at302_2170 : am_at 302 2170 = some (.invokestatic 299, 3) := by decide +kernel
theorem at302_2173 : am_at 302 2173 = some (.istore 5, 2) := by decide +kernel
theorem at302_2175 : am_at 302 2175 = some (.aload_n 2, 1) := by decide +kernel
theorem at302_2176 : am_at 302 2176 = some (.aload_n 0, 1) := by decide +kernel
theorem at302_2177 : am_at 302 2177 = some (.iload 4, 2) := by decide +kernel
theorem at302_2179 : am_at 302 2179 = some (.iconst 1, 1) := by decide +kernel
theorem at302_2180 : am_at 302 2180 = some (.iadd, 1) := by decide +kernel
theorem at302_2181 : am_at 302 2181 = some (.iaload, 1) := by decide +kernel
theorem at302_2182 : am_at 302 2182 = some (.invokevirtual 228, 3) := by decide +kernel
theorem at302_2185 : am_at 302 2185 = some (.istore 6, 2) := by decide +kernel
theorem at302_2187 : am_at 302 2187 = some (.aload_n 2, 1) := by decide +kernel
theorem at302_2188 : am_at 302 2188 = some (.invokevirtual 157, 3) := by decide +kernel
theorem at302_2191 : am_at 302 2191 = some (.iload 5, 2) := by decide +kernel
theorem at302_2193 : am_at 302 2193 = some (.if_icmp .eq 5, 3) := by decide +kernel
theorem at302_2196 : am_at 302 2196 = some (.iconst 0, 1) := by decide +kernel
theorem at302_2197 : am_at 302 2197 = some (.ireturn, 1) := by decide +kernel
theorem at302_2198 : am_at 302 2198 = some (.iload 5, 2) := by decide +kernel
theorem at302_2200 : am_at 302 2200 = some (.ifCond .ne 15, 3) := by decide +kernel
theorem at302_2203 : am_at 302 2203 = some (.aload_n 3, 1) := by decide +kernel
theorem at302_2204 : am_at 302 2204 = some (.iconst 0, 1) := by decide +kernel
theorem at302_2205 : am_at 302 2205 = some (.laload, 1) := by decide +kernel
theorem at302_2206 : am_at 302 2206 = some (.iload 6, 2) := by decide +kernel
theorem at302_2208 : am_at 302 2208 = some (.i2l, 1) := by decide +kernel
theorem at302_2209 : am_at 302 2209 = some (.lcmp, 1) := by decide +kernel
theorem at302_2210 : am_at 302 2210 = some (.ifCond .eq 5, 3) := by decide +kernel
theorem at302_2213 : am_at 302 2213 = some (.iconst 0, 1) := by decide +kernel
theorem at302_2214 : am_at 302 2214 = some (.ireturn, 1) := by decide +kernel
theorem at302_2215 : am_at 302 2215 = some (.goto 151, 3) := by decide +kernel
theorem at302_2218 : am_at 302 2218 = some (.aload_n 1, 1) := by decide +kernel
theorem at302_2219 : am_at 302 2219 = some (.aload_n 0, 1) := by decide +kernel
theorem at302_2220 : am_at 302 2220 = some (.iload 4, 2) := by decide +kernel
theorem at302_2222 : am_at 302 2222 = some (.iconst 1, 1) := by decide +kernel
theorem at302_2223 : am_at 302 2223 = some (.iadd, 1) := by decide +kernel
theorem at302_2224 : am_at 302 2224 = some (.iaload, 1) := by decide +kernel
theorem at302_2225 : am_at 302 2225 = some (.aload_n 0, 1) := by decide +kernel
theorem at302_2226 : am_at 302 2226 = some (.iload 4, 2) := by decide +kernel
theorem at302_2228 : am_at 302 2228 = some (.iconst 2, 1) := by decide +kernel
theorem at302_2229 : am_at 302 2229 = some (.iadd, 1) := by decide +kernel
theorem at302_2230 : am_at 302 2230 = some (.iaload, 1) := by decide +kernel
theorem at302_2231 : am_at 302 2231 = some (.aload_n 3, 1) := by decide +kernel
theorem at302_2232 : am_at 302 2232 = some (.invokestatic 300, 3) := by decide +kernel
theorem at302_2235 : am_at 302 2235 = some (.istore 5, 2) := by decide +kernel
theorem at302_2237 : am_at 302 2237 = some (.aload_n 2, 1) := by decide +kernel
theorem at302_2238 : am_at 302 2238 = some (.aload_n 0, 1) := by decide +kernel
theorem at302_2239 : am_at 302 2239 = some (.iload 4, 2) := by decide +kernel
theorem at302_2241 : am_at 302 2241 = some (.iconst 1, 1) := by decide +kernel
theorem at302_2242 : am_at 302 2242 = some (.iadd, 1) := by decide +kernel
theorem at302_2243 : am_at 302 2243 = some (.iaload, 1) := by decide +kernel
theorem at302_2244 : am_at 302 2244 = some (.aload_n 0, 1) := by decide +kernel
theorem at302_2245 : am_at 302 2245 = some (.iload 4, 2) := by decide +kernel
theorem at302_2247 : am_at 302 2247 = some (.iconst 2, 1) := by decide +kernel
theorem at302_2248 : am_at 302 2248 = some (.iadd, 1) := by decide +kernel
theorem at302_2249 : am_at 302 2249 = some (.iaload, 1) := by decide +kernel
theorem at302_2250 : am_at 302 2250 = some (.invokevirtual 230, 3) := by decide +kernel
theorem at302_2253 : am_at 302 2253 = some (.istore 6, 2) := by decide +kernel
theorem at302_2255 : am_at 302 2255 = some (.aload_n 2, 1) := by decide +kernel
theorem at302_2256 : am_at 302 2256 = some (.invokevirtual 157, 3) := by decide +kernel
theorem at302_2259 : am_at 302 2259 = some (.iload 5, 2) := by decide +kernel
theorem at302_2261 : am_at 302 2261 = some (.if_icmp .eq 5, 3) := by decide +kernel
theorem at302_2264 : am_at 302 2264 = some (.iconst 0, 1) := by decide +kernel
theorem at302_2265 : am_at 302 2265 = some (.ireturn, 1) := by decide +kernel
theorem at302_2266 : am_at 302 2266 = some (.iload 5, 2) := by decide +kernel
theorem at302_2268 : am_at 302 2268 = some (.ifCond .ne 15, 3) := by decide +kernel
theorem at302_2271 : am_at 302 2271 = some (.aload_n 3, 1) := by decide +kernel
theorem at302_2272 : am_at 302 2272 = some (.iconst 0, 1) := by decide +kernel
theorem at302_2273 : am_at 302 2273 = some (.laload, 1) := by decide +kernel
theorem at302_2274 : am_at 302 2274 = some (.iload 6, 2) := by decide +kernel
theorem at302_2276 : am_at 302 2276 = some (.i2l, 1) := by decide +kernel
theorem at302_2277 : am_at 302 2277 = some (.lcmp, 1) := by decide +kernel
theorem at302_2278 : am_at 302 2278 = some (.ifCond .eq 5, 3) := by decide +kernel
theorem at302_2281 : am_at 302 2281 = some (.iconst 0, 1) := by decide +kernel
theorem at302_2282 : am_at 302 2282 = some (.ireturn, 1) := by decide +kernel
theorem at302_2283 : am_at 302 2283 = some (.goto 83, 3) := by decide +kernel
theorem at302_2286 : am_at 302 2286 = some (.aload_n 1, 1) := by decide +kernel
theorem at302_2287 : am_at 302 2287 = some (.aload_n 0, 1) := by decide +kernel
theorem at302_2288 : am_at 302 2288 = some (.iload 4, 2) := by decide +kernel
theorem at302_2290 : am_at 302 2290 = some (.iconst 1, 1) := by decide +kernel
theorem at302_2291 : am_at 302 2291 = some (.iadd, 1) := by decide +kernel
theorem at302_2292 : am_at 302 2292 = some (.iaload, 1) := by decide +kernel
theorem at302_2293 : am_at 302 2293 = some (.aload_n 3, 1) := by decide +kernel
theorem at302_2294 : am_at 302 2294 = some (.invokestatic 301, 3) := by decide +kernel
theorem at302_2297 : am_at 302 2297 = some (.istore 5, 2) := by decide +kernel
theorem at302_2299 : am_at 302 2299 = some (.aload_n 2, 1) := by decide +kernel
theorem at302_2300 : am_at 302 2300 = some (.aload_n 0, 1) := by decide +kernel
theorem at302_2301 : am_at 302 2301 = some (.iload 4, 2) := by decide +kernel
theorem at302_2303 : am_at 302 2303 = some (.iconst 1, 1) := by decide +kernel
theorem at302_2304 : am_at 302 2304 = some (.iadd, 1) := by decide +kernel
theorem at302_2305 : am_at 302 2305 = some (.iaload, 1) := by decide +kernel
theorem at302_2306 : am_at 302 2306 = some (.invokevirtual 232, 3) := by decide +kernel
theorem at302_2309 : am_at 302 2309 = some (.istore 6, 2) := by decide +kernel
theorem at302_2311 : am_at 302 2311 = some (.aload_n 2, 1) := by decide +kernel
theorem at302_2312 : am_at 302 2312 = some (.invokevirtual 157, 3) := by decide +kernel
theorem at302_2315 : am_at 302 2315 = some (.iload 5, 2) := by decide +kernel
theorem at302_2317 : am_at 302 2317 = some (.if_icmp .eq 5, 3) := by decide +kernel
theorem at302_2320 : am_at 302 2320 = some (.iconst 0, 1) := by decide +kernel
theorem at302_2321 : am_at 302 2321 = some (.ireturn, 1) := by decide +kernel
theorem at302_2322 : am_at 302 2322 = some (.iload 5, 2) := by decide +kernel
theorem at302_2324 : am_at 302 2324 = some (.ifCond .ne 15, 3) := by decide +kernel
theorem at302_2327 : am_at 302 2327 = some (.aload_n 3, 1) := by decide +kernel
theorem at302_2328 : am_at 302 2328 = some (.iconst 0, 1) := by decide +kernel
theorem at302_2329 : am_at 302 2329 = some (.laload, 1) := by decide +kernel
theorem at302_2330 : am_at 302 2330 = some (.iload 6, 2) := by decide +kernel
theorem at302_2332 : am_at 302 2332 = some (.i2l, 1) := by decide +kernel
theorem at302_2333 : am_at 302 2333 = some (.lcmp, 1) := by decide +kernel
theorem at302_2334 : am_at 302 2334 = some (.ifCond .eq 5, 3) := by decide +kernel
theorem at302_2337 : am_at 302 2337 = some (.iconst 0, 1) := by decide +kernel
theorem at302_2338 : am_at 302 2338 = some (.ireturn, 1) := by decide +kernel
theorem at302_2339 : am_at 302 2339 = some (.goto 27, 3) := by decide +kernel
theorem at302_2342 : am_at 302 2342 = some (.aload_n 1, 1) := by decide +kernel
theorem at302_2343 : am_at 302 2343 = some (.invokevirtual 140, 3) := by decide +kernel
theorem at302_2346 : am_at 302 2346 = some (.aload_n 2, 1) := by decide +kernel
theorem at302_2347 : am_at 302 2347 = some (.invokevirtual 265, 3) := by decide +kernel
theorem at302_2350 : am_at 302 2350 = some (.goto 16, 3) := by decide +kernel
theorem at302_2353 : am_at 302 2353 = some (.aload_n 1, 1) := by decide +kernel
theorem at302_2354 : am_at 302 2354 = some (.invokevirtual 141, 3) := by decide +kernel
theorem at302_2357 : am_at 302 2357 = some (.aload_n 2, 1) := by decide +kernel
theorem at302_2358 : am_at 302 2358 = some (.invokevirtual 266, 3) := by decide +kernel
theorem at302_2361 : am_at 302 2361 = some (.if_icmp .eq 5, 3) := by decide +kernel
theorem at302_2364 : am_at 302 2364 = some (.iconst 0, 1) := by decide +kernel
theorem at302_2365 : am_at 302 2365 = some (.ireturn, 1) := by decide +kernel
theorem at302_2366 : am_at 302 2366 = some (.iinc 4 6, 3) := by decide +kernel
theorem at302_2369 : am_at 302 2369 = some (.goto (-2346), 3) := by decide +kernel
theorem at302_2372 : am_at 302 2372 = some (.iconst 1, 1) := by decide +kernel
theorem at302_2373 : am_at 302 2373 = some (.ireturn, 1) := by decide +kernel
