/-! Where each resolved instruction stands, by program. -/
theorem at0_0 : am_at 0 0 = some (.aload_n 0, 1) := by decide +kernel
theorem at0_1 : am_at 0 1 = some (.invokespecial 1000, 3) := by decide +kernel
theorem at0_4 : am_at 0 4 = some (.aload_n 0, 1) := by decide +kernel
theorem at0_5 : am_at 0 5 = some (.bipush 8, 2) := by decide +kernel
theorem at0_7 : am_at 0 7 = some (.newarray .int, 2) := by decide +kernel
theorem at0_9 : am_at 0 9 = some (.putfield 2, 3) := by decide +kernel
theorem at0_12 : am_at 0 12 = some (.aload_n 0, 1) := by decide +kernel
theorem at0_13 : am_at 0 13 = some (.bipush 8, 2) := by decide +kernel
theorem at0_15 : am_at 0 15 = some (.newarray .int, 2) := by decide +kernel
theorem at0_17 : am_at 0 17 = some (.putfield 12, 3) := by decide +kernel
theorem at0_20 : am_at 0 20 = some (.aload_n 0, 1) := by decide +kernel
theorem at0_21 : am_at 0 21 = some (.bipush 8, 2) := by decide +kernel
theorem at0_23 : am_at 0 23 = some (.newarray .boolean, 2) := by decide +kernel
theorem at0_25 : am_at 0 25 = some (.putfield 22, 3) := by decide +kernel
theorem at0_28 : am_at 0 28 = some (.return_, 1) := by decide +kernel
theorem at1_0 : am_at 1 0 = some (.aload_n 0, 1) := by decide +kernel
theorem at1_1 : am_at 1 1 = some (.getfield 30, 3) := by decide +kernel
theorem at1_4 : am_at 1 4 = some (.ifCond .lt 52, 3) := by decide +kernel
theorem at1_7 : am_at 1 7 = some (.aload_n 0, 1) := by decide +kernel
theorem at1_8 : am_at 1 8 = some (.getfield 30, 3) := by decide +kernel
theorem at1_11 : am_at 1 11 = some (.bipush 8, 2) := by decide +kernel
theorem at1_13 : am_at 1 13 = some (.if_icmp .ge 43, 3) := by decide +kernel
theorem at1_16 : am_at 1 16 = some (.aload_n 0, 1) := by decide +kernel
theorem at1_17 : am_at 1 17 = some (.getfield 2, 3) := by decide +kernel
theorem at1_20 : am_at 1 20 = some (.aload_n 0, 1) := by decide +kernel
theorem at1_21 : am_at 1 21 = some (.getfield 30, 3) := by decide +kernel
theorem at1_24 : am_at 1 24 = some (.iload_n 1, 1) := by decide +kernel
theorem at1_25 : am_at 1 25 = some (.iastore, 1) := by decide +kernel
theorem at1_26 : am_at 1 26 = some (.aload_n 0, 1) := by decide +kernel
theorem at1_27 : am_at 1 27 = some (.getfield 12, 3) := by decide +kernel
theorem at1_30 : am_at 1 30 = some (.aload_n 0, 1) := by decide +kernel
theorem at1_31 : am_at 1 31 = some (.getfield 30, 3) := by decide +kernel
theorem at1_34 : am_at 1 34 = some (.iload_n 2, 1) := by decide +kernel
theorem at1_35 : am_at 1 35 = some (.iastore, 1) := by decide +kernel
theorem at1_36 : am_at 1 36 = some (.aload_n 0, 1) := by decide +kernel
theorem at1_37 : am_at 1 37 = some (.getfield 22, 3) := by decide +kernel
theorem at1_40 : am_at 1 40 = some (.aload_n 0, 1) := by decide +kernel
theorem at1_41 : am_at 1 41 = some (.getfield 30, 3) := by decide +kernel
theorem at1_44 : am_at 1 44 = some (.iload_n 3, 1) := by decide +kernel
theorem at1_45 : am_at 1 45 = some (.bastore, 1) := by decide +kernel
theorem at1_46 : am_at 1 46 = some (.aload_n 0, 1) := by decide +kernel
theorem at1_47 : am_at 1 47 = some (.dup, 1) := by decide +kernel
theorem at1_48 : am_at 1 48 = some (.getfield 30, 3) := by decide +kernel
theorem at1_51 : am_at 1 51 = some (.iconst 1, 1) := by decide +kernel
theorem at1_52 : am_at 1 52 = some (.iadd, 1) := by decide +kernel
theorem at1_53 : am_at 1 53 = some (.putfield 30, 3) := by decide +kernel
theorem at1_56 : am_at 1 56 = some (.return_, 1) := by decide +kernel
theorem at2_0 : am_at 2 0 = some (.iconst 0, 1) := by decide +kernel
theorem at2_1 : am_at 2 1 = some (.istore_n 3, 1) := by decide +kernel
theorem at2_2 : am_at 2 2 = some (.iload_n 3, 1) := by decide +kernel
theorem at2_3 : am_at 2 3 = some (.aload_n 0, 1) := by decide +kernel
theorem at2_4 : am_at 2 4 = some (.getfield 30, 3) := by decide +kernel
theorem at2_7 : am_at 2 7 = some (.if_icmp .ge 46, 3) := by decide +kernel
theorem at2_10 : am_at 2 10 = some (.iload_n 3, 1) := by decide +kernel
theorem at2_11 : am_at 2 11 = some (.bipush 8, 2) := by decide +kernel
theorem at2_13 : am_at 2 13 = some (.if_icmp .ge 40, 3) := by decide +kernel
theorem at2_16 : am_at 2 16 = some (.aload_n 0, 1) := by decide +kernel
theorem at2_17 : am_at 2 17 = some (.getfield 2, 3) := by decide +kernel
theorem at2_20 : am_at 2 20 = some (.iload_n 3, 1) := by decide +kernel
theorem at2_21 : am_at 2 21 = some (.iaload, 1) := by decide +kernel
theorem at2_22 : am_at 2 22 = some (.iload_n 1, 1) := by decide +kernel
theorem at2_23 : am_at 2 23 = some (.if_icmp .ne 24, 3) := by decide +kernel
theorem at2_26 : am_at 2 26 = some (.iload_n 2, 1) := by decide +kernel
theorem at2_27 : am_at 2 27 = some (.aload_n 0, 1) := by decide +kernel
theorem at2_28 : am_at 2 28 = some (.getfield 12, 3) := by decide +kernel
theorem at2_31 : am_at 2 31 = some (.iload_n 3, 1) := by decide +kernel
theorem at2_32 : am_at 2 32 = some (.iaload, 1) := by decide +kernel
theorem at2_33 : am_at 2 33 = some (.invokestatic 145, 3) := by decide +kernel
theorem at2_36 : am_at 2 36 = some (.aload_n 0, 1) := by decide +kernel
theorem at2_37 : am_at 2 37 = some (.getfield 22, 3) := by decide +kernel
theorem at2_40 : am_at 2 40 = some (.iload_n 3, 1) := by decide +kernel
theorem at2_41 : am_at 2 41 = some (.baload, 1) := by decide +kernel
theorem at2_42 : am_at 2 42 = some (.if_icmp .eq 5, 3) := by decide +kernel
theorem at2_45 : am_at 2 45 = some (.iconst 0, 1) := by decide +kernel
theorem at2_46 : am_at 2 46 = some (.ireturn, 1) := by decide +kernel
theorem at2_47 : am_at 2 47 = some (.iinc 3 1, 3) := by decide +kernel
theorem at2_50 : am_at 2 50 = some (.goto (-48), 3) := by decide +kernel
theorem at2_53 : am_at 2 53 = some (.iconst 1, 1) := by decide +kernel
theorem at2_54 : am_at 2 54 = some (.ireturn, 1) := by decide +kernel
theorem at3_0 : am_at 3 0 = some (.iconst 0, 1) := by decide +kernel
theorem at3_1 : am_at 3 1 = some (.istore_n 2, 1) := by decide +kernel
theorem at3_2 : am_at 3 2 = some (.iload_n 2, 1) := by decide +kernel
theorem at3_3 : am_at 3 3 = some (.bipush 8, 2) := by decide +kernel
theorem at3_5 : am_at 3 5 = some (.if_icmp .ge 45, 3) := by decide +kernel
theorem at3_8 : am_at 3 8 = some (.aload_n 0, 1) := by decide +kernel
theorem at3_9 : am_at 3 9 = some (.getfield 2, 3) := by decide +kernel
theorem at3_12 : am_at 3 12 = some (.iload_n 2, 1) := by decide +kernel
theorem at3_13 : am_at 3 13 = some (.aload_n 1, 1) := by decide +kernel
theorem at3_14 : am_at 3 14 = some (.getfield 2, 3) := by decide +kernel
theorem at3_17 : am_at 3 17 = some (.iload_n 2, 1) := by decide +kernel
theorem at3_18 : am_at 3 18 = some (.iaload, 1) := by decide +kernel
theorem at3_19 : am_at 3 19 = some (.iastore, 1) := by decide +kernel
theorem at3_20 : am_at 3 20 = some (.aload_n 0, 1) := by decide +kernel
theorem at3_21 : am_at 3 21 = some (.getfield 12, 3) := by decide +kernel
theorem at3_24 : am_at 3 24 = some (.iload_n 2, 1) := by decide +kernel
theorem at3_25 : am_at 3 25 = some (.aload_n 1, 1) := by decide +kernel
theorem at3_26 : am_at 3 26 = some (.getfield 12, 3) := by decide +kernel
theorem at3_29 : am_at 3 29 = some (.iload_n 2, 1) := by decide +kernel
theorem at3_30 : am_at 3 30 = some (.iaload, 1) := by decide +kernel
theorem at3_31 : am_at 3 31 = some (.iastore, 1) := by decide +kernel
theorem at3_32 : am_at 3 32 = some (.aload_n 0, 1) := by decide +kernel
theorem at3_33 : am_at 3 33 = some (.getfield 22, 3) := by decide +kernel
theorem at3_36 : am_at 3 36 = some (.iload_n 2, 1) := by decide +kernel
theorem at3_37 : am_at 3 37 = some (.aload_n 1, 1) := by decide +kernel
theorem at3_38 : am_at 3 38 = some (.getfield 22, 3) := by decide +kernel
theorem at3_41 : am_at 3 41 = some (.iload_n 2, 1) := by decide +kernel
theorem at3_42 : am_at 3 42 = some (.baload, 1) := by decide +kernel
theorem at3_43 : am_at 3 43 = some (.bastore, 1) := by decide +kernel
theorem at3_44 : am_at 3 44 = some (.iinc 2 1, 3) := by decide +kernel
theorem at3_47 : am_at 3 47 = some (.goto (-45), 3) := by decide +kernel
theorem at3_50 : am_at 3 50 = some (.aload_n 0, 1) := by decide +kernel
theorem at3_51 : am_at 3 51 = some (.aload_n 1, 1) := by decide +kernel
theorem at3_52 : am_at 3 52 = some (.getfield 30, 3) := by decide +kernel
theorem at3_55 : am_at 3 55 = some (.putfield 30, 3) := by decide +kernel
theorem at3_58 : am_at 3 58 = some (.return_, 1) := by decide +kernel
theorem at4_0 : am_at 4 0 = some (.aload_n 0, 1) := by decide +kernel
theorem at4_1 : am_at 4 1 = some (.invokespecial 1000, 3) := by decide +kernel
theorem at4_4 : am_at 4 4 = some (.aload_n 0, 1) := by decide +kernel
theorem at4_5 : am_at 4 5 = some (.bipush 6, 2) := by decide +kernel
theorem at4_7 : am_at 4 7 = some (.anewarray 4, 3) := by decide +kernel
theorem at4_10 : am_at 4 10 = some (.putfield 10002, 3) := by decide +kernel
theorem at4_13 : am_at 4 13 = some (.aload_n 0, 1) := by decide +kernel
theorem at4_14 : am_at 4 14 = some (.iconst 5, 1) := by decide +kernel
theorem at4_15 : am_at 4 15 = some (.newarray .int, 2) := by decide +kernel
theorem at4_17 : am_at 4 17 = some (.putfield 10012, 3) := by decide +kernel
theorem at4_20 : am_at 4 20 = some (.aload_n 0, 1) := by decide +kernel
theorem at4_21 : am_at 4 21 = some (.iconst 5, 1) := by decide +kernel
theorem at4_22 : am_at 4 22 = some (.newarray .int, 2) := by decide +kernel
theorem at4_24 : am_at 4 24 = some (.putfield 10022, 3) := by decide +kernel
theorem at4_27 : am_at 4 27 = some (.iconst 0, 1) := by decide +kernel
theorem at4_28 : am_at 4 28 = some (.istore_n 1, 1) := by decide +kernel
theorem at4_29 : am_at 4 29 = some (.iload_n 1, 1) := by decide +kernel
theorem at4_30 : am_at 4 30 = some (.iconst 5, 1) := by decide +kernel
theorem at4_31 : am_at 4 31 = some (.if_icmp .gt 22, 3) := by decide +kernel
theorem at4_34 : am_at 4 34 = some (.aload_n 0, 1) := by decide +kernel
theorem at4_35 : am_at 4 35 = some (.getfield 10002, 3) := by decide +kernel
theorem at4_38 : am_at 4 38 = some (.iload_n 1, 1) := by decide +kernel
theorem at4_39 : am_at 4 39 = some (.new 4, 3) := by decide +kernel
theorem at4_42 : am_at 4 42 = some (.dup, 1) := by decide +kernel
theorem at4_43 : am_at 4 43 = some (.invokespecial 17, 3) := by decide +kernel
theorem at4_46 : am_at 4 46 = some (.aastore, 1) := by decide +kernel
theorem at4_47 : am_at 4 47 = some (.iinc 1 1, 3) := by decide +kernel
theorem at4_50 : am_at 4 50 = some (.goto (-21), 3) := by decide +kernel
theorem at4_53 : am_at 4 53 = some (.return_, 1) := by decide +kernel
theorem at5_0 : am_at 5 0 = some (.aload_n 0, 1) := by decide +kernel
theorem at5_1 : am_at 5 1 = some (.iconst (-1), 1) := by decide +kernel
theorem at5_2 : am_at 5 2 = some (.putfield 10030, 3) := by decide +kernel
theorem at5_5 : am_at 5 5 = some (.aload_n 0, 1) := by decide +kernel
theorem at5_6 : am_at 5 6 = some (.getfield 10002, 3) := by decide +kernel
theorem at5_9 : am_at 5 9 = some (.iconst 0, 1) := by decide +kernel
theorem at5_10 : am_at 5 10 = some (.aaload, 1) := by decide +kernel
theorem at5_11 : am_at 5 11 = some (.aload_n 2, 1) := by decide +kernel
theorem at5_12 : am_at 5 12 = some (.iload_n 3, 1) := by decide +kernel
theorem at5_13 : am_at 5 13 = some (.invokevirtual 20, 3) := by decide +kernel
theorem at5_16 : am_at 5 16 = some (.aload_n 0, 1) := by decide +kernel
theorem at5_17 : am_at 5 17 = some (.aload_n 1, 1) := by decide +kernel
theorem at5_18 : am_at 5 18 = some (.iload_n 3, 1) := by decide +kernel
theorem at5_19 : am_at 5 19 = some (.iload 4, 2) := by decide +kernel
theorem at5_21 : am_at 5 21 = some (.iload 5, 2) := by decide +kernel
theorem at5_23 : am_at 5 23 = some (.iconst 5, 1) := by decide +kernel
theorem at5_24 : am_at 5 24 = some (.invokestatic 270, 3) := by decide +kernel
theorem at5_27 : am_at 5 27 = some (.iconst 0, 1) := by decide +kernel
theorem at5_28 : am_at 5 28 = some (.iconst 0, 1) := by decide +kernel
theorem at5_29 : am_at 5 29 = some (.invokevirtual 6, 3) := by decide +kernel
theorem at5_32 : am_at 5 32 = some (.aload_n 0, 1) := by decide +kernel
theorem at5_33 : am_at 5 33 = some (.getfield 10030, 3) := by decide +kernel
theorem at5_36 : am_at 5 36 = some (.iconst (-1), 1) := by decide +kernel
theorem at5_37 : am_at 5 37 = some (.if_icmp .eq 9, 3) := by decide +kernel
theorem at5_40 : am_at 5 40 = some (.aload_n 0, 1) := by decide +kernel
theorem at5_41 : am_at 5 41 = some (.iload 5, 2) := by decide +kernel
theorem at5_43 : am_at 5 43 = some (.putfield 10040, 3) := by decide +kernel
theorem at5_46 : am_at 5 46 = some (.aload_n 0, 1) := by decide +kernel
theorem at5_47 : am_at 5 47 = some (.getfield 10030, 3) := by decide +kernel
theorem at5_50 : am_at 5 50 = some (.ireturn, 1) := by decide +kernel
theorem at6_0 : am_at 6 0 = some (.iload 5, 2) := by decide +kernel
theorem at6_2 : am_at 6 2 = some (.iload 4, 2) := by decide +kernel
theorem at6_4 : am_at 6 4 = some (.if_icmp .lt 24, 3) := by decide +kernel
theorem at6_7 : am_at 6 7 = some (.aload_n 0, 1) := by decide +kernel
theorem at6_8 : am_at 6 8 = some (.iload 6, 2) := by decide +kernel
theorem at6_10 : am_at 6 10 = some (.putfield 10030, 3) := by decide +kernel
theorem at6_13 : am_at 6 13 = some (.aload_n 0, 1) := by decide +kernel
theorem at6_14 : am_at 6 14 = some (.getfield 10012, 3) := by decide +kernel
theorem at6_17 : am_at 6 17 = some (.iconst 0, 1) := by decide +kernel
theorem at6_18 : am_at 6 18 = some (.aload_n 0, 1) := by decide +kernel
theorem at6_19 : am_at 6 19 = some (.getfield 10022, 3) := by decide +kernel
theorem at6_22 : am_at 6 22 = some (.iconst 0, 1) := by decide +kernel
theorem at6_23 : am_at 6 23 = some (.iconst 5, 1) := by decide +kernel
theorem at6_24 : am_at 6 24 = some (.invokestatic 1001, 3) := by decide +kernel
theorem at6_27 : am_at 6 27 = some (.return_, 1) := by decide +kernel
theorem at6_28 : am_at 6 28 = some (.aload_n 1, 1) := by decide +kernel
theorem at6_29 : am_at 6 29 = some (.aload_n 0, 1) := by decide +kernel
theorem at6_30 : am_at 6 30 = some (.getfield 10002, 3) := by decide +kernel
theorem at6_33 : am_at 6 33 = some (.iload 5, 2) := by decide +kernel
theorem at6_35 : am_at 6 35 = some (.aaload, 1) := by decide +kernel
theorem at6_36 : am_at 6 36 = some (.getfield 40000, 3) := by decide +kernel
theorem at6_39 : am_at 6 39 = some (.invokevirtual 86, 3) := by decide +kernel
theorem at6_42 : am_at 6 42 = some (.istore 7, 2) := by decide +kernel
theorem at6_44 : am_at 6 44 = some (.iconst 0, 1) := by decide +kernel
theorem at6_45 : am_at 6 45 = some (.istore 8, 2) := by decide +kernel
theorem at6_47 : am_at 6 47 = some (.iload 8, 2) := by decide +kernel
theorem at6_49 : am_at 6 49 = some (.bipush 6, 2) := by decide +kernel
theorem at6_51 : am_at 6 51 = some (.if_icmp .gt 119, 3) := by decide +kernel
theorem at6_54 : am_at 6 54 = some (.iload 6, 2) := by decide +kernel
theorem at6_56 : am_at 6 56 = some (.iload 8, 2) := by decide +kernel
theorem at6_58 : am_at 6 58 = some (.iload 7, 2) := by decide +kernel
theorem at6_60 : am_at 6 60 = some (.imul, 1) := by decide +kernel
theorem at6_61 : am_at 6 61 = some (.iadd, 1) := by decide +kernel
theorem at6_62 : am_at 6 62 = some (.istore 9, 2) := by decide +kernel
theorem at6_64 : am_at 6 64 = some (.aload_n 0, 1) := by decide +kernel
theorem at6_65 : am_at 6 65 = some (.getfield 10030, 3) := by decide +kernel
theorem at6_68 : am_at 6 68 = some (.iconst (-1), 1) := by decide +kernel
theorem at6_69 : am_at 6 69 = some (.if_icmp .eq 15, 3) := by decide +kernel
theorem at6_72 : am_at 6 72 = some (.iload 9, 2) := by decide +kernel
theorem at6_74 : am_at 6 74 = some (.aload_n 0, 1) := by decide +kernel
theorem at6_75 : am_at 6 75 = some (.getfield 10030, 3) := by decide +kernel
theorem at6_78 : am_at 6 78 = some (.if_icmp .lt 6, 3) := by decide +kernel
theorem at6_81 : am_at 6 81 = some (.goto 89, 3) := by decide +kernel
theorem at6_84 : am_at 6 84 = some (.aload_n 0, 1) := by decide +kernel
theorem at6_85 : am_at 6 85 = some (.getfield 10012, 3) := by decide +kernel
theorem at6_88 : am_at 6 88 = some (.iload 5, 2) := by decide +kernel
theorem at6_90 : am_at 6 90 = some (.iload 8, 2) := by decide +kernel
theorem at6_92 : am_at 6 92 = some (.iastore, 1) := by decide +kernel
theorem at6_93 : am_at 6 93 = some (.aload_n 0, 1) := by decide +kernel
theorem at6_94 : am_at 6 94 = some (.getfield 10002, 3) := by decide +kernel
theorem at6_97 : am_at 6 97 = some (.iload 5, 2) := by decide +kernel
theorem at6_99 : am_at 6 99 = some (.iconst 1, 1) := by decide +kernel
theorem at6_100 : am_at 6 100 = some (.iadd, 1) := by decide +kernel
theorem at6_101 : am_at 6 101 = some (.aaload, 1) := by decide +kernel
theorem at6_102 : am_at 6 102 = some (.aload_n 0, 1) := by decide +kernel
theorem at6_103 : am_at 6 103 = some (.getfield 10002, 3) := by decide +kernel
theorem at6_106 : am_at 6 106 = some (.iload 5, 2) := by decide +kernel
theorem at6_108 : am_at 6 108 = some (.aaload, 1) := by decide +kernel
theorem at6_109 : am_at 6 109 = some (.iload_n 2, 1) := by decide +kernel
theorem at6_110 : am_at 6 110 = some (.invokevirtual 20, 3) := by decide +kernel
theorem at6_113 : am_at 6 113 = some (.aload_n 0, 1) := by decide +kernel
theorem at6_114 : am_at 6 114 = some (.getfield 10002, 3) := by decide +kernel
theorem at6_117 : am_at 6 117 = some (.iload 5, 2) := by decide +kernel
theorem at6_119 : am_at 6 119 = some (.iconst 1, 1) := by decide +kernel
theorem at6_120 : am_at 6 120 = some (.iadd, 1) := by decide +kernel
theorem at6_121 : am_at 6 121 = some (.aaload, 1) := by decide +kernel
theorem at6_122 : am_at 6 122 = some (.aload_n 1, 1) := by decide +kernel
theorem at6_123 : am_at 6 123 = some (.iload_n 2, 1) := by decide +kernel
theorem at6_124 : am_at 6 124 = some (.iload 8, 2) := by decide +kernel
theorem at6_126 : am_at 6 126 = some (.invokevirtual 43, 3) := by decide +kernel
theorem at6_129 : am_at 6 129 = some (.iload_n 3, 1) := by decide +kernel
theorem at6_130 : am_at 6 130 = some (.aload_n 0, 1) := by decide +kernel
theorem at6_131 : am_at 6 131 = some (.getfield 10002, 3) := by decide +kernel
theorem at6_134 : am_at 6 134 = some (.iload 5, 2) := by decide +kernel
theorem at6_136 : am_at 6 136 = some (.iconst 1, 1) := by decide +kernel
theorem at6_137 : am_at 6 137 = some (.iadd, 1) := by decide +kernel
theorem at6_138 : am_at 6 138 = some (.aaload, 1) := by decide +kernel
theorem at6_139 : am_at 6 139 = some (.iload_n 2, 1) := by decide +kernel
theorem at6_140 : am_at 6 140 = some (.invokevirtual 28, 3) := by decide +kernel
theorem at6_143 : am_at 6 143 = some (.iconst (-1), 1) := by decide +kernel
theorem at6_144 : am_at 6 144 = some (.ixor, 1) := by decide +kernel
theorem at6_145 : am_at 6 145 = some (.iand, 1) := by decide +kernel
theorem at6_146 : am_at 6 146 = some (.ifCond .ne 18, 3) := by decide +kernel
theorem at6_149 : am_at 6 149 = some (.aload_n 0, 1) := by decide +kernel
theorem at6_150 : am_at 6 150 = some (.aload_n 1, 1) := by decide +kernel
theorem at6_151 : am_at 6 151 = some (.iload_n 2, 1) := by decide +kernel
theorem at6_152 : am_at 6 152 = some (.iload_n 3, 1) := by decide +kernel
theorem at6_153 : am_at 6 153 = some (.iload 4, 2) := by decide +kernel
theorem at6_155 : am_at 6 155 = some (.iload 5, 2) := by decide +kernel
theorem at6_157 : am_at 6 157 = some (.iconst 1, 1) := by decide +kernel
theorem at6_158 : am_at 6 158 = some (.iadd, 1) := by decide +kernel
theorem at6_159 : am_at 6 159 = some (.iload 9, 2) := by decide +kernel
theorem at6_161 : am_at 6 161 = some (.invokevirtual 6, 3) := by decide +kernel
theorem at6_164 : am_at 6 164 = some (.iinc 8 1, 3) := by decide +kernel
theorem at6_167 : am_at 6 167 = some (.goto (-120), 3) := by decide +kernel
theorem at6_170 : am_at 6 170 = some (.return_, 1) := by decide +kernel
theorem at7_0 : am_at 7 0 = some (.aload_n 0, 1) := by decide +kernel
theorem at7_1 : am_at 7 1 = some (.invokespecial 1000, 3) := by decide +kernel
theorem at7_4 : am_at 7 4 = some (.aload_n 0, 1) := by decide +kernel
theorem at7_5 : am_at 7 5 = some (.sipush 3160, 3) := by decide +kernel
theorem at7_8 : am_at 7 8 = some (.newarray .int, 2) := by decide +kernel
theorem at7_10 : am_at 7 10 = some (.putfield 20002, 3) := by decide +kernel
theorem at7_13 : am_at 7 13 = some (.return_, 1) := by decide +kernel
theorem at8_0 : am_at 8 0 = some (.aload_n 0, 1) := by decide +kernel
theorem at8_1 : am_at 8 1 = some (.getfield 20010, 3) := by decide +kernel
theorem at8_4 : am_at 8 4 = some (.bipush 40, 2) := by decide +kernel
theorem at8_6 : am_at 8 6 = some (.if_icmp .lt 26, 3) := by decide +kernel
theorem at8_9 : am_at 8 9 = some (.aload_n 0, 1) := by decide +kernel
theorem at8_10 : am_at 8 10 = some (.getfield 20002, 3) := by decide +kernel
theorem at8_13 : am_at 8 13 = some (.bipush 79, 2) := by decide +kernel
theorem at8_15 : am_at 8 15 = some (.aload_n 0, 1) := by decide +kernel
theorem at8_16 : am_at 8 16 = some (.getfield 20002, 3) := by decide +kernel
theorem at8_19 : am_at 8 19 = some (.iconst 0, 1) := by decide +kernel
theorem at8_20 : am_at 8 20 = some (.sipush 3081, 3) := by decide +kernel
theorem at8_23 : am_at 8 23 = some (.invokestatic 1001, 3) := by decide +kernel
theorem at8_26 : am_at 8 26 = some (.aload_n 0, 1) := by decide +kernel
theorem at8_27 : am_at 8 27 = some (.bipush 39, 2) := by decide +kernel
theorem at8_29 : am_at 8 29 = some (.putfield 20010, 3) := by decide +kernel
theorem at8_32 : am_at 8 32 = some (.aload_n 1, 1) := by decide +kernel
theorem at8_33 : am_at 8 33 = some (.aload_n 0, 1) := by decide +kernel
theorem at8_34 : am_at 8 34 = some (.getfield 20002, 3) := by decide +kernel
theorem at8_37 : am_at 8 37 = some (.aload_n 0, 1) := by decide +kernel
theorem at8_38 : am_at 8 38 = some (.getfield 20010, 3) := by decide +kernel
theorem at8_41 : am_at 8 41 = some (.bipush 79, 2) := by decide +kernel
theorem at8_43 : am_at 8 43 = some (.imul, 1) := by decide +kernel
theorem at8_44 : am_at 8 44 = some (.invokevirtual 21, 3) := by decide +kernel
theorem at8_47 : am_at 8 47 = some (.aload_n 0, 1) := by decide +kernel
theorem at8_48 : am_at 8 48 = some (.dup, 1) := by decide +kernel
theorem at8_49 : am_at 8 49 = some (.getfield 20010, 3) := by decide +kernel
theorem at8_52 : am_at 8 52 = some (.iconst 1, 1) := by decide +kernel
theorem at8_53 : am_at 8 53 = some (.iadd, 1) := by decide +kernel
theorem at8_54 : am_at 8 54 = some (.putfield 20010, 3) := by decide +kernel
theorem at8_57 : am_at 8 57 = some (.return_, 1) := by decide +kernel
theorem at9_0 : am_at 9 0 = some (.aload_n 0, 1) := by decide +kernel
theorem at9_1 : am_at 9 1 = some (.getfield 20010, 3) := by decide +kernel
theorem at9_4 : am_at 9 4 = some (.ifCond .le 28, 3) := by decide +kernel
theorem at9_7 : am_at 9 7 = some (.aload_n 0, 1) := by decide +kernel
theorem at9_8 : am_at 9 8 = some (.dup, 1) := by decide +kernel
theorem at9_9 : am_at 9 9 = some (.getfield 20010, 3) := by decide +kernel
theorem at9_12 : am_at 9 12 = some (.iconst 1, 1) := by decide +kernel
theorem at9_13 : am_at 9 13 = some (.isub, 1) := by decide +kernel
theorem at9_14 : am_at 9 14 = some (.putfield 20010, 3) := by decide +kernel
theorem at9_17 : am_at 9 17 = some (.aload_n 1, 1) := by decide +kernel
theorem at9_18 : am_at 9 18 = some (.aload_n 0, 1) := by decide +kernel
theorem at9_19 : am_at 9 19 = some (.getfield 20002, 3) := by decide +kernel
theorem at9_22 : am_at 9 22 = some (.aload_n 0, 1) := by decide +kernel
theorem at9_23 : am_at 9 23 = some (.getfield 20010, 3) := by decide +kernel
theorem at9_26 : am_at 9 26 = some (.bipush 79, 2) := by decide +kernel
theorem at9_28 : am_at 9 28 = some (.imul, 1) := by decide +kernel
theorem at9_29 : am_at 9 29 = some (.invokevirtual 22, 3) := by decide +kernel
theorem at9_32 : am_at 9 32 = some (.return_, 1) := by decide +kernel
theorem at10_0 : am_at 10 0 = some (.aload_n 1, 1) := by decide +kernel
theorem at10_1 : am_at 10 1 = some (.getfield 20002, 3) := by decide +kernel
theorem at10_4 : am_at 10 4 = some (.iconst 0, 1) := by decide +kernel
theorem at10_5 : am_at 10 5 = some (.aload_n 0, 1) := by decide +kernel
theorem at10_6 : am_at 10 6 = some (.getfield 20002, 3) := by decide +kernel
theorem at10_9 : am_at 10 9 = some (.iconst 0, 1) := by decide +kernel
theorem at10_10 : am_at 10 10 = some (.sipush 3160, 3) := by decide +kernel
theorem at10_13 : am_at 10 13 = some (.invokestatic 1001, 3) := by decide +kernel
theorem at10_16 : am_at 10 16 = some (.aload_n 0, 1) := by decide +kernel
theorem at10_17 : am_at 10 17 = some (.aload_n 1, 1) := by decide +kernel
theorem at10_18 : am_at 10 18 = some (.getfield 20010, 3) := by decide +kernel
theorem at10_21 : am_at 10 21 = some (.putfield 20010, 3) := by decide +kernel
theorem at10_24 : am_at 10 24 = some (.return_, 1) := by decide +kernel
theorem at11_0 : am_at 11 0 = some (.aload_n 0, 1) := by decide +kernel
theorem at11_1 : am_at 11 1 = some (.invokespecial 1000, 3) := by decide +kernel
theorem at11_4 : am_at 11 4 = some (.aload_n 0, 1) := by decide +kernel
theorem at11_5 : am_at 11 5 = some (.bipush 10, 2) := by decide +kernel
theorem at11_7 : am_at 11 7 = some (.newarray .int, 2) := by decide +kernel
theorem at11_9 : am_at 11 9 = some (.putfield 30002, 3) := by decide +kernel
theorem at11_12 : am_at 11 12 = some (.return_, 1) := by decide +kernel
theorem at12_0 : am_at 12 0 = some (.iconst 0, 1) := by decide +kernel
theorem at12_1 : am_at 12 1 = some (.istore 4, 2) := by decide +kernel
theorem at12_3 : am_at 12 3 = some (.iconst 0, 1) := by decide +kernel
theorem at12_4 : am_at 12 4 = some (.istore 5, 2) := by decide +kernel
theorem at12_6 : am_at 12 6 = some (.iload 5, 2) := by decide +kernel
theorem at12_8 : am_at 12 8 = some (.iload_n 3, 1) := by decide +kernel
theorem at12_9 : am_at 12 9 = some (.if_icmp .ge 44, 3) := by decide +kernel
theorem at12_12 : am_at 12 12 = some (.iload 5, 2) := by decide +kernel
theorem at12_14 : am_at 12 14 = some (.bipush 6, 2) := by decide +kernel
theorem at12_16 : am_at 12 16 = some (.if_icmp .ge 37, 3) := by decide +kernel
theorem at12_19 : am_at 12 19 = some (.iload 4, 2) := by decide +kernel
theorem at12_21 : am_at 12 21 = some (.iload_n 1, 1) := by decide +kernel
theorem at12_22 : am_at 12 22 = some (.ifCond .gt 8, 3) := by decide +kernel
theorem at12_25 : am_at 12 25 = some (.bipush 10, 2) := by decide +kernel
theorem at12_27 : am_at 12 27 = some (.goto 17, 3) := by decide +kernel
theorem at12_30 : am_at 12 30 = some (.bipush 10, 2) := by decide +kernel
theorem at12_32 : am_at 12 32 = some (.aload_n 2, 1) := by decide +kernel
theorem at12_33 : am_at 12 33 = some (.getfield 40012, 3) := by decide +kernel
theorem at12_36 : am_at 12 36 = some (.iload 5, 2) := by decide +kernel
theorem at12_38 : am_at 12 38 = some (.iaload, 1) := by decide +kernel
theorem at12_39 : am_at 12 39 = some (.iload_n 1, 1) := by decide +kernel
theorem at12_40 : am_at 12 40 = some (.idiv, 1) := by decide +kernel
theorem at12_41 : am_at 12 41 = some (.invokestatic 270, 3) := by decide +kernel
theorem at12_44 : am_at 12 44 = some (.iadd, 1) := by decide +kernel
theorem at12_45 : am_at 12 45 = some (.istore 4, 2) := by decide +kernel
theorem at12_47 : am_at 12 47 = some (.iinc 5 1, 3) := by decide +kernel
theorem at12_50 : am_at 12 50 = some (.goto (-44), 3) := by decide +kernel
theorem at12_53 : am_at 12 53 = some (.iload 4, 2) := by decide +kernel
theorem at12_55 : am_at 12 55 = some (.ireturn, 1) := by decide +kernel
theorem at13_0 : am_at 13 0 = some (.iconst 1, 1) := by decide +kernel
theorem at13_1 : am_at 13 1 = some (.istore_n 3, 1) := by decide +kernel
theorem at13_2 : am_at 13 2 = some (.iload_n 3, 1) := by decide +kernel
theorem at13_3 : am_at 13 3 = some (.bipush 9, 2) := by decide +kernel
theorem at13_5 : am_at 13 5 = some (.if_icmp .gt 26, 3) := by decide +kernel
theorem at13_8 : am_at 13 8 = some (.aload_n 0, 1) := by decide +kernel
theorem at13_9 : am_at 13 9 = some (.getfield 30002, 3) := by decide +kernel
theorem at13_12 : am_at 13 12 = some (.iload_n 3, 1) := by decide +kernel
theorem at13_13 : am_at 13 13 = some (.iload_n 3, 1) := by decide +kernel
theorem at13_14 : am_at 13 14 = some (.iconst 2, 1) := by decide +kernel
theorem at13_15 : am_at 13 15 = some (.isub, 1) := by decide +kernel
theorem at13_16 : am_at 13 16 = some (.aload_n 0, 1) := by decide +kernel
theorem at13_17 : am_at 13 17 = some (.iload_n 3, 1) := by decide +kernel
theorem at13_18 : am_at 13 18 = some (.aload_n 1, 1) := by decide +kernel
theorem at13_19 : am_at 13 19 = some (.iload_n 2, 1) := by decide +kernel
theorem at13_20 : am_at 13 20 = some (.invokevirtual 12, 3) := by decide +kernel
theorem at13_23 : am_at 13 23 = some (.imul, 1) := by decide +kernel
theorem at13_24 : am_at 13 24 = some (.iastore, 1) := by decide +kernel
theorem at13_25 : am_at 13 25 = some (.iinc 3 1, 3) := by decide +kernel
theorem at13_28 : am_at 13 28 = some (.goto (-26), 3) := by decide +kernel
theorem at13_31 : am_at 13 31 = some (.aload_n 0, 1) := by decide +kernel
theorem at13_32 : am_at 13 32 = some (.iconst 0, 1) := by decide +kernel
theorem at13_33 : am_at 13 33 = some (.putfield 30010, 3) := by decide +kernel
theorem at13_36 : am_at 13 36 = some (.aload_n 0, 1) := by decide +kernel
theorem at13_37 : am_at 13 37 = some (.iconst (-1), 1) := by decide +kernel
theorem at13_38 : am_at 13 38 = some (.putfield 30020, 3) := by decide +kernel
theorem at13_41 : am_at 13 41 = some (.iconst 1, 1) := by decide +kernel
theorem at13_42 : am_at 13 42 = some (.istore_n 3, 1) := by decide +kernel
theorem at13_43 : am_at 13 43 = some (.iload_n 3, 1) := by decide +kernel
theorem at13_44 : am_at 13 44 = some (.bipush 9, 2) := by decide +kernel
theorem at13_46 : am_at 13 46 = some (.if_icmp .gt 71, 3) := by decide +kernel
theorem at13_49 : am_at 13 49 = some (.iconst 1, 1) := by decide +kernel
theorem at13_50 : am_at 13 50 = some (.istore 4, 2) := by decide +kernel
theorem at13_52 : am_at 13 52 = some (.iload 4, 2) := by decide +kernel
theorem at13_54 : am_at 13 54 = some (.bipush 9, 2) := by decide +kernel
theorem at13_56 : am_at 13 56 = some (.if_icmp .gt 55, 3) := by decide +kernel
theorem at13_59 : am_at 13 59 = some (.aload_n 0, 1) := by decide +kernel
theorem at13_60 : am_at 13 60 = some (.iload_n 3, 1) := by decide +kernel
theorem at13_61 : am_at 13 61 = some (.iload 4, 2) := by decide +kernel
theorem at13_63 : am_at 13 63 = some (.invokevirtual 14, 3) := by decide +kernel
theorem at13_66 : am_at 13 66 = some (.ifCond .eq 39, 3) := by decide +kernel
theorem at13_69 : am_at 13 69 = some (.aload_n 0, 1) := by decide +kernel
theorem at13_70 : am_at 13 70 = some (.dup, 1) := by decide +kernel
theorem at13_71 : am_at 13 71 = some (.getfield 30010, 3) := by decide +kernel
theorem at13_74 : am_at 13 74 = some (.iconst 1, 1) := by decide +kernel
theorem at13_75 : am_at 13 75 = some (.iadd, 1) := by decide +kernel
theorem at13_76 : am_at 13 76 = some (.putfield 30010, 3) := by decide +kernel
theorem at13_79 : am_at 13 79 = some (.aload_n 0, 1) := by decide +kernel
theorem at13_80 : am_at 13 80 = some (.aload_n 0, 1) := by decide +kernel
theorem at13_81 : am_at 13 81 = some (.getfield 30020, 3) := by decide +kernel
theorem at13_84 : am_at 13 84 = some (.iconst (-1), 1) := by decide +kernel
theorem at13_85 : am_at 13 85 = some (.if_icmp .ne 13, 3) := by decide +kernel
theorem at13_88 : am_at 13 88 = some (.bipush 10, 2) := by decide +kernel
theorem at13_90 : am_at 13 90 = some (.iload_n 3, 1) := by decide +kernel
theorem at13_91 : am_at 13 91 = some (.imul, 1) := by decide +kernel
theorem at13_92 : am_at 13 92 = some (.iload 4, 2) := by decide +kernel
theorem at13_94 : am_at 13 94 = some (.iadd, 1) := by decide +kernel
theorem at13_95 : am_at 13 95 = some (.goto 7, 3) := by decide +kernel
theorem at13_98 : am_at 13 98 = some (.aload_n 0, 1) := by decide +kernel
theorem at13_99 : am_at 13 99 = some (.getfield 30020, 3) := by decide +kernel
theorem at13_102 : am_at 13 102 = some (.putfield 30020, 3) := by decide +kernel
theorem at13_105 : am_at 13 105 = some (.iinc 4 1, 3) := by decide +kernel
theorem at13_108 : am_at 13 108 = some (.goto (-56), 3) := by decide +kernel
theorem at13_111 : am_at 13 111 = some (.iinc 3 1, 3) := by decide +kernel
theorem at13_114 : am_at 13 114 = some (.goto (-71), 3) := by decide +kernel
theorem at13_117 : am_at 13 117 = some (.return_, 1) := by decide +kernel
theorem at14_0 : am_at 14 0 = some (.iconst 1, 1) := by decide +kernel
theorem at14_1 : am_at 14 1 = some (.istore_n 3, 1) := by decide +kernel
theorem at14_2 : am_at 14 2 = some (.iload_n 3, 1) := by decide +kernel
theorem at14_3 : am_at 14 3 = some (.bipush 9, 2) := by decide +kernel
theorem at14_5 : am_at 14 5 = some (.if_icmp .gt 41, 3) := by decide +kernel
theorem at14_8 : am_at 14 8 = some (.aload_n 0, 1) := by decide +kernel
theorem at14_9 : am_at 14 9 = some (.iload_n 3, 1) := by decide +kernel
theorem at14_10 : am_at 14 10 = some (.iload_n 2, 1) := by decide +kernel
theorem at14_11 : am_at 14 11 = some (.invokevirtual 15, 3) := by decide +kernel
theorem at14_14 : am_at 14 14 = some (.aload_n 0, 1) := by decide +kernel
theorem at14_15 : am_at 14 15 = some (.iload_n 1, 1) := by decide +kernel
theorem at14_16 : am_at 14 16 = some (.iload_n 2, 1) := by decide +kernel
theorem at14_17 : am_at 14 17 = some (.invokevirtual 15, 3) := by decide +kernel
theorem at14_20 : am_at 14 20 = some (.if_icmp .gt 18, 3) := by decide +kernel
theorem at14_23 : am_at 14 23 = some (.aload_n 0, 1) := by decide +kernel
theorem at14_24 : am_at 14 24 = some (.iload_n 1, 1) := by decide +kernel
theorem at14_25 : am_at 14 25 = some (.iload_n 3, 1) := by decide +kernel
theorem at14_26 : am_at 14 26 = some (.invokevirtual 16, 3) := by decide +kernel
theorem at14_29 : am_at 14 29 = some (.aload_n 0, 1) := by decide +kernel
theorem at14_30 : am_at 14 30 = some (.iload_n 1, 1) := by decide +kernel
theorem at14_31 : am_at 14 31 = some (.iload_n 2, 1) := by decide +kernel
theorem at14_32 : am_at 14 32 = some (.invokevirtual 16, 3) := by decide +kernel
theorem at14_35 : am_at 14 35 = some (.if_icmp .le 5, 3) := by decide +kernel
theorem at14_38 : am_at 14 38 = some (.iconst 0, 1) := by decide +kernel
theorem at14_39 : am_at 14 39 = some (.ireturn, 1) := by decide +kernel
theorem at14_40 : am_at 14 40 = some (.iinc 3 1, 3) := by decide +kernel
theorem at14_43 : am_at 14 43 = some (.goto (-41), 3) := by decide +kernel
theorem at14_46 : am_at 14 46 = some (.iconst 1, 1) := by decide +kernel
theorem at14_47 : am_at 14 47 = some (.ireturn, 1) := by decide +kernel
theorem at15_0 : am_at 15 0 = some (.iload_n 1, 1) := by decide +kernel
theorem at15_1 : am_at 15 1 = some (.iload_n 2, 1) := by decide +kernel
theorem at15_2 : am_at 15 2 = some (.if_icmp .gt 12, 3) := by decide +kernel
theorem at15_5 : am_at 15 5 = some (.aload_n 0, 1) := by decide +kernel
theorem at15_6 : am_at 15 6 = some (.getfield 30002, 3) := by decide +kernel
theorem at15_9 : am_at 15 9 = some (.iload_n 1, 1) := by decide +kernel
theorem at15_10 : am_at 15 10 = some (.iaload, 1) := by decide +kernel
theorem at15_11 : am_at 15 11 = some (.goto 4, 3) := by decide +kernel
theorem at15_14 : am_at 15 14 = some (.iconst 0, 1) := by decide +kernel
theorem at15_15 : am_at 15 15 = some (.ireturn, 1) := by decide +kernel
theorem at16_0 : am_at 16 0 = some (.iload_n 2, 1) := by decide +kernel
theorem at16_1 : am_at 16 1 = some (.iload_n 1, 1) := by decide +kernel
theorem at16_2 : am_at 16 2 = some (.if_icmp .ge 12, 3) := by decide +kernel
theorem at16_5 : am_at 16 5 = some (.aload_n 0, 1) := by decide +kernel
theorem at16_6 : am_at 16 6 = some (.getfield 30002, 3) := by decide +kernel
theorem at16_9 : am_at 16 9 = some (.iload_n 2, 1) := by decide +kernel
theorem at16_10 : am_at 16 10 = some (.iaload, 1) := by decide +kernel
theorem at16_11 : am_at 16 11 = some (.goto 4, 3) := by decide +kernel
theorem at16_14 : am_at 16 14 = some (.iconst 0, 1) := by decide +kernel
theorem at16_15 : am_at 16 15 = some (.ireturn, 1) := by decide +kernel
theorem at17_0 : am_at 17 0 = some (.aload_n 0, 1) := by decide +kernel
theorem at17_1 : am_at 17 1 = some (.invokespecial 1000, 3) := by decide +kernel
theorem at17_4 : am_at 17 4 = some (.aload_n 0, 1) := by decide +kernel
theorem at17_5 : am_at 17 5 = some (.bipush 6, 2) := by decide +kernel
theorem at17_7 : am_at 17 7 = some (.newarray .int, 2) := by decide +kernel
theorem at17_9 : am_at 17 9 = some (.putfield 40012, 3) := by decide +kernel
theorem at17_12 : am_at 17 12 = some (.aload_n 0, 1) := by decide +kernel
theorem at17_13 : am_at 17 13 = some (.bipush 6, 2) := by decide +kernel
theorem at17_15 : am_at 17 15 = some (.newarray .int, 2) := by decide +kernel
theorem at17_17 : am_at 17 17 = some (.putfield 40022, 3) := by decide +kernel
theorem at17_20 : am_at 17 20 = some (.aload_n 0, 1) := by decide +kernel
theorem at17_21 : am_at 17 21 = some (.bipush 6, 2) := by decide +kernel
theorem at17_23 : am_at 17 23 = some (.newarray .int, 2) := by decide +kernel
theorem at17_25 : am_at 17 25 = some (.putfield 40032, 3) := by decide +kernel
theorem at17_28 : am_at 17 28 = some (.aload_n 0, 1) := by decide +kernel
theorem at17_29 : am_at 17 29 = some (.bipush 60, 2) := by decide +kernel
theorem at17_31 : am_at 17 31 = some (.newarray .int, 2) := by decide +kernel
theorem at17_33 : am_at 17 33 = some (.putfield 40042, 3) := by decide +kernel
theorem at17_36 : am_at 17 36 = some (.aload_n 0, 1) := by decide +kernel
theorem at17_37 : am_at 17 37 = some (.iconst 4, 1) := by decide +kernel
theorem at17_38 : am_at 17 38 = some (.newarray .int, 2) := by decide +kernel
theorem at17_40 : am_at 17 40 = some (.putfield 40052, 3) := by decide +kernel
theorem at17_43 : am_at 17 43 = some (.aload_n 0, 1) := by decide +kernel
theorem at17_44 : am_at 17 44 = some (.iconst 4, 1) := by decide +kernel
theorem at17_45 : am_at 17 45 = some (.newarray .int, 2) := by decide +kernel
theorem at17_47 : am_at 17 47 = some (.putfield 40062, 3) := by decide +kernel
theorem at17_50 : am_at 17 50 = some (.iconst 0, 1) := by decide +kernel
theorem at17_51 : am_at 17 51 = some (.istore_n 1, 1) := by decide +kernel
theorem at17_52 : am_at 17 52 = some (.iload_n 1, 1) := by decide +kernel
theorem at17_53 : am_at 17 53 = some (.bipush 60, 2) := by decide +kernel
theorem at17_55 : am_at 17 55 = some (.if_icmp .ge 16, 3) := by decide +kernel
theorem at17_58 : am_at 17 58 = some (.aload_n 0, 1) := by decide +kernel
theorem at17_59 : am_at 17 59 = some (.getfield 40042, 3) := by decide +kernel
theorem at17_62 : am_at 17 62 = some (.iload_n 1, 1) := by decide +kernel
theorem at17_63 : am_at 17 63 = some (.iconst (-1), 1) := by decide +kernel
theorem at17_64 : am_at 17 64 = some (.iastore, 1) := by decide +kernel
theorem at17_65 : am_at 17 65 = some (.iinc 1 1, 3) := by decide +kernel
theorem at17_68 : am_at 17 68 = some (.goto (-16), 3) := by decide +kernel
theorem at17_71 : am_at 17 71 = some (.return_, 1) := by decide +kernel
theorem at18_0 : am_at 18 0 = some (.aload_n 0, 1) := by decide +kernel
theorem at18_1 : am_at 18 1 = some (.iconst 0, 1) := by decide +kernel
theorem at18_2 : am_at 18 2 = some (.putfield 40000, 3) := by decide +kernel
theorem at18_5 : am_at 18 5 = some (.aload_n 1, 1) := by decide +kernel
theorem at18_6 : am_at 18 6 = some (.getfield 80052, 3) := by decide +kernel
theorem at18_9 : am_at 18 9 = some (.iconst 0, 1) := by decide +kernel
theorem at18_10 : am_at 18 10 = some (.aload_n 0, 1) := by decide +kernel
theorem at18_11 : am_at 18 11 = some (.getfield 40012, 3) := by decide +kernel
theorem at18_14 : am_at 18 14 = some (.iconst 0, 1) := by decide +kernel
theorem at18_15 : am_at 18 15 = some (.bipush 6, 2) := by decide +kernel
theorem at18_17 : am_at 18 17 = some (.invokestatic 1001, 3) := by decide +kernel
theorem at18_20 : am_at 18 20 = some (.aload_n 1, 1) := by decide +kernel
theorem at18_21 : am_at 18 21 = some (.getfield 80062, 3) := by decide +kernel
theorem at18_24 : am_at 18 24 = some (.iconst 0, 1) := by decide +kernel
theorem at18_25 : am_at 18 25 = some (.aload_n 0, 1) := by decide +kernel
theorem at18_26 : am_at 18 26 = some (.getfield 40022, 3) := by decide +kernel
theorem at18_29 : am_at 18 29 = some (.iconst 0, 1) := by decide +kernel
theorem at18_30 : am_at 18 30 = some (.bipush 6, 2) := by decide +kernel
theorem at18_32 : am_at 18 32 = some (.invokestatic 1001, 3) := by decide +kernel
theorem at18_35 : am_at 18 35 = some (.aload_n 0, 1) := by decide +kernel
theorem at18_36 : am_at 18 36 = some (.getfield 40032, 3) := by decide +kernel
theorem at18_39 : am_at 18 39 = some (.iconst 0, 1) := by decide +kernel
theorem at18_40 : am_at 18 40 = some (.invokestatic 271, 3) := by decide +kernel
theorem at18_43 : am_at 18 43 = some (.aload_n 0, 1) := by decide +kernel
theorem at18_44 : am_at 18 44 = some (.getfield 40042, 3) := by decide +kernel
theorem at18_47 : am_at 18 47 = some (.iconst (-1), 1) := by decide +kernel
theorem at18_48 : am_at 18 48 = some (.invokestatic 271, 3) := by decide +kernel
theorem at18_51 : am_at 18 51 = some (.return_, 1) := by decide +kernel
theorem at19_0 : am_at 19 0 = some (.aload_n 0, 1) := by decide +kernel
theorem at19_1 : am_at 19 1 = some (.aload_n 1, 1) := by decide +kernel
theorem at19_2 : am_at 19 2 = some (.getfield 40000, 3) := by decide +kernel
theorem at19_5 : am_at 19 5 = some (.putfield 40000, 3) := by decide +kernel
theorem at19_8 : am_at 19 8 = some (.aload_n 1, 1) := by decide +kernel
theorem at19_9 : am_at 19 9 = some (.getfield 40012, 3) := by decide +kernel
theorem at19_12 : am_at 19 12 = some (.iconst 0, 1) := by decide +kernel
theorem at19_13 : am_at 19 13 = some (.aload_n 0, 1) := by decide +kernel
theorem at19_14 : am_at 19 14 = some (.getfield 40012, 3) := by decide +kernel
theorem at19_17 : am_at 19 17 = some (.iconst 0, 1) := by decide +kernel
theorem at19_18 : am_at 19 18 = some (.bipush 6, 2) := by decide +kernel
theorem at19_20 : am_at 19 20 = some (.invokestatic 1001, 3) := by decide +kernel
theorem at19_23 : am_at 19 23 = some (.aload_n 1, 1) := by decide +kernel
theorem at19_24 : am_at 19 24 = some (.getfield 40022, 3) := by decide +kernel
theorem at19_27 : am_at 19 27 = some (.iconst 0, 1) := by decide +kernel
theorem at19_28 : am_at 19 28 = some (.aload_n 0, 1) := by decide +kernel
theorem at19_29 : am_at 19 29 = some (.getfield 40022, 3) := by decide +kernel
theorem at19_32 : am_at 19 32 = some (.iconst 0, 1) := by decide +kernel
theorem at19_33 : am_at 19 33 = some (.bipush 6, 2) := by decide +kernel
theorem at19_35 : am_at 19 35 = some (.invokestatic 1001, 3) := by decide +kernel
theorem at19_38 : am_at 19 38 = some (.aload_n 1, 1) := by decide +kernel
theorem at19_39 : am_at 19 39 = some (.getfield 40032, 3) := by decide +kernel
theorem at19_42 : am_at 19 42 = some (.iconst 0, 1) := by decide +kernel
theorem at19_43 : am_at 19 43 = some (.aload_n 0, 1) := by decide +kernel
theorem at19_44 : am_at 19 44 = some (.getfield 40032, 3) := by decide +kernel
theorem at19_47 : am_at 19 47 = some (.iconst 0, 1) := by decide +kernel
theorem at19_48 : am_at 19 48 = some (.bipush 6, 2) := by decide +kernel
theorem at19_50 : am_at 19 50 = some (.invokestatic 1001, 3) := by decide +kernel
theorem at19_53 : am_at 19 53 = some (.aload_n 1, 1) := by decide +kernel
theorem at19_54 : am_at 19 54 = some (.getfield 40042, 3) := by decide +kernel
theorem at19_57 : am_at 19 57 = some (.iconst 0, 1) := by decide +kernel
theorem at19_58 : am_at 19 58 = some (.aload_n 0, 1) := by decide +kernel
theorem at19_59 : am_at 19 59 = some (.getfield 40042, 3) := by decide +kernel
theorem at19_62 : am_at 19 62 = some (.iconst 0, 1) := by decide +kernel
theorem at19_63 : am_at 19 63 = some (.bipush 60, 2) := by decide +kernel
theorem at19_65 : am_at 19 65 = some (.invokestatic 1001, 3) := by decide +kernel
theorem at19_68 : am_at 19 68 = some (.return_, 1) := by decide +kernel
theorem at20_0 : am_at 20 0 = some (.aload_n 0, 1) := by decide +kernel
theorem at20_1 : am_at 20 1 = some (.aload_n 1, 1) := by decide +kernel
theorem at20_2 : am_at 20 2 = some (.getfield 40000, 3) := by decide +kernel
theorem at20_5 : am_at 20 5 = some (.putfield 40000, 3) := by decide +kernel
theorem at20_8 : am_at 20 8 = some (.iconst 0, 1) := by decide +kernel
theorem at20_9 : am_at 20 9 = some (.istore_n 3, 1) := by decide +kernel
theorem at20_10 : am_at 20 10 = some (.iload_n 3, 1) := by decide +kernel
theorem at20_11 : am_at 20 11 = some (.bipush 10, 2) := by decide +kernel
theorem at20_13 : am_at 20 13 = some (.if_icmp .ge 21, 3) := by decide +kernel
theorem at20_16 : am_at 20 16 = some (.aload_n 0, 1) := by decide +kernel
theorem at20_17 : am_at 20 17 = some (.iload_n 2, 1) := by decide +kernel
theorem at20_18 : am_at 20 18 = some (.iload_n 3, 1) := by decide +kernel
theorem at20_19 : am_at 20 19 = some (.aload_n 1, 1) := by decide +kernel
theorem at20_20 : am_at 20 20 = some (.iload_n 2, 1) := by decide +kernel
theorem at20_21 : am_at 20 21 = some (.iload_n 3, 1) := by decide +kernel
theorem at20_22 : am_at 20 22 = some (.invokevirtual 23, 3) := by decide +kernel
theorem at20_25 : am_at 20 25 = some (.invokevirtual 24, 3) := by decide +kernel
theorem at20_28 : am_at 20 28 = some (.iinc 3 1, 3) := by decide +kernel
theorem at20_31 : am_at 20 31 = some (.goto (-21), 3) := by decide +kernel
theorem at20_34 : am_at 20 34 = some (.return_, 1) := by decide +kernel
theorem at21_0 : am_at 21 0 = some (.iload_n 2, 1) := by decide +kernel
theorem at21_1 : am_at 21 1 = some (.ifCond .lt 12, 3) := by decide +kernel
theorem at21_4 : am_at 21 4 = some (.iload_n 2, 1) := by decide +kernel
theorem at21_5 : am_at 21 5 = some (.bipush 79, 2) := by decide +kernel
theorem at21_7 : am_at 21 7 = some (.iadd, 1) := by decide +kernel
theorem at21_8 : am_at 21 8 = some (.aload_n 1, 1) := by decide +kernel
theorem at21_9 : am_at 21 9 = some (.arraylength, 1) := by decide +kernel
theorem at21_10 : am_at 21 10 = some (.if_icmp .le 4, 3) := by decide +kernel
theorem at21_13 : am_at 21 13 = some (.return_, 1) := by decide +kernel
theorem at21_14 : am_at 21 14 = some (.aload_n 1, 1) := by decide +kernel
theorem at21_15 : am_at 21 15 = some (.iload_n 2, 1) := by decide +kernel
theorem at21_16 : am_at 21 16 = some (.aload_n 0, 1) := by decide +kernel
theorem at21_17 : am_at 21 17 = some (.getfield 40000, 3) := by decide +kernel
theorem at21_20 : am_at 21 20 = some (.iastore, 1) := by decide +kernel
theorem at21_21 : am_at 21 21 = some (.aload_n 0, 1) := by decide +kernel
theorem at21_22 : am_at 21 22 = some (.getfield 40012, 3) := by decide +kernel
theorem at21_25 : am_at 21 25 = some (.iconst 0, 1) := by decide +kernel
theorem at21_26 : am_at 21 26 = some (.aload_n 1, 1) := by decide +kernel
theorem at21_27 : am_at 21 27 = some (.iload_n 2, 1) := by decide +kernel
theorem at21_28 : am_at 21 28 = some (.iconst 1, 1) := by decide +kernel
theorem at21_29 : am_at 21 29 = some (.iadd, 1) := by decide +kernel
theorem at21_30 : am_at 21 30 = some (.bipush 6, 2) := by decide +kernel
theorem at21_32 : am_at 21 32 = some (.invokestatic 1001, 3) := by decide +kernel
theorem at21_35 : am_at 21 35 = some (.aload_n 0, 1) := by decide +kernel
theorem at21_36 : am_at 21 36 = some (.getfield 40022, 3) := by decide +kernel
theorem at21_39 : am_at 21 39 = some (.iconst 0, 1) := by decide +kernel
theorem at21_40 : am_at 21 40 = some (.aload_n 1, 1) := by decide +kernel
theorem at21_41 : am_at 21 41 = some (.iload_n 2, 1) := by decide +kernel
theorem at21_42 : am_at 21 42 = some (.iconst 1, 1) := by decide +kernel
theorem at21_43 : am_at 21 43 = some (.iadd, 1) := by decide +kernel
theorem at21_44 : am_at 21 44 = some (.bipush 6, 2) := by decide +kernel
theorem at21_46 : am_at 21 46 = some (.iadd, 1) := by decide +kernel
theorem at21_47 : am_at 21 47 = some (.bipush 6, 2) := by decide +kernel
theorem at21_49 : am_at 21 49 = some (.invokestatic 1001, 3) := by decide +kernel
theorem at21_52 : am_at 21 52 = some (.aload_n 0, 1) := by decide +kernel
theorem at21_53 : am_at 21 53 = some (.getfield 40032, 3) := by decide +kernel
theorem at21_56 : am_at 21 56 = some (.iconst 0, 1) := by decide +kernel
theorem at21_57 : am_at 21 57 = some (.aload_n 1, 1) := by decide +kernel
theorem at21_58 : am_at 21 58 = some (.iload_n 2, 1) := by decide +kernel
theorem at21_59 : am_at 21 59 = some (.iconst 1, 1) := by decide +kernel
theorem at21_60 : am_at 21 60 = some (.iadd, 1) := by decide +kernel
theorem at21_61 : am_at 21 61 = some (.bipush 12, 2) := by decide +kernel
theorem at21_63 : am_at 21 63 = some (.iadd, 1) := by decide +kernel
theorem at21_64 : am_at 21 64 = some (.bipush 6, 2) := by decide +kernel
theorem at21_66 : am_at 21 66 = some (.invokestatic 1001, 3) := by decide +kernel
theorem at21_69 : am_at 21 69 = some (.aload_n 0, 1) := by decide +kernel
theorem at21_70 : am_at 21 70 = some (.getfield 40042, 3) := by decide +kernel
theorem at21_73 : am_at 21 73 = some (.iconst 0, 1) := by decide +kernel
theorem at21_74 : am_at 21 74 = some (.aload_n 1, 1) := by decide +kernel
theorem at21_75 : am_at 21 75 = some (.iload_n 2, 1) := by decide +kernel
theorem at21_76 : am_at 21 76 = some (.iconst 1, 1) := by decide +kernel
theorem at21_77 : am_at 21 77 = some (.iadd, 1) := by decide +kernel
theorem at21_78 : am_at 21 78 = some (.bipush 18, 2) := by decide +kernel
theorem at21_80 : am_at 21 80 = some (.iadd, 1) := by decide +kernel
theorem at21_81 : am_at 21 81 = some (.bipush 60, 2) := by decide +kernel
theorem at21_83 : am_at 21 83 = some (.invokestatic 1001, 3) := by decide +kernel
theorem at21_86 : am_at 21 86 = some (.return_, 1) := by decide +kernel
theorem at22_0 : am_at 22 0 = some (.iload_n 2, 1) := by decide +kernel
theorem at22_1 : am_at 22 1 = some (.ifCond .lt 12, 3) := by decide +kernel
theorem at22_4 : am_at 22 4 = some (.iload_n 2, 1) := by decide +kernel
theorem at22_5 : am_at 22 5 = some (.bipush 79, 2) := by decide +kernel
theorem at22_7 : am_at 22 7 = some (.iadd, 1) := by decide +kernel
theorem at22_8 : am_at 22 8 = some (.aload_n 1, 1) := by decide +kernel
theorem at22_9 : am_at 22 9 = some (.arraylength, 1) := by decide +kernel
theorem at22_10 : am_at 22 10 = some (.if_icmp .le 4, 3) := by decide +kernel
theorem at22_13 : am_at 22 13 = some (.return_, 1) := by decide +kernel
theorem at22_14 : am_at 22 14 = some (.aload_n 0, 1) := by decide +kernel
theorem at22_15 : am_at 22 15 = some (.aload_n 1, 1) := by decide +kernel
theorem at22_16 : am_at 22 16 = some (.iload_n 2, 1) := by decide +kernel
theorem at22_17 : am_at 22 17 = some (.iaload, 1) := by decide +kernel
theorem at22_18 : am_at 22 18 = some (.putfield 40000, 3) := by decide +kernel
theorem at22_21 : am_at 22 21 = some (.aload_n 1, 1) := by decide +kernel
theorem at22_22 : am_at 22 22 = some (.iload_n 2, 1) := by decide +kernel
theorem at22_23 : am_at 22 23 = some (.iconst 1, 1) := by decide +kernel
theorem at22_24 : am_at 22 24 = some (.iadd, 1) := by decide +kernel
theorem at22_25 : am_at 22 25 = some (.aload_n 0, 1) := by decide +kernel
theorem at22_26 : am_at 22 26 = some (.getfield 40012, 3) := by decide +kernel
theorem at22_29 : am_at 22 29 = some (.iconst 0, 1) := by decide +kernel
theorem at22_30 : am_at 22 30 = some (.bipush 6, 2) := by decide +kernel
theorem at22_32 : am_at 22 32 = some (.invokestatic 1001, 3) := by decide +kernel
theorem at22_35 : am_at 22 35 = some (.aload_n 1, 1) := by decide +kernel
theorem at22_36 : am_at 22 36 = some (.iload_n 2, 1) := by decide +kernel
theorem at22_37 : am_at 22 37 = some (.iconst 1, 1) := by decide +kernel
theorem at22_38 : am_at 22 38 = some (.iadd, 1) := by decide +kernel
theorem at22_39 : am_at 22 39 = some (.bipush 6, 2) := by decide +kernel
theorem at22_41 : am_at 22 41 = some (.iadd, 1) := by decide +kernel
theorem at22_42 : am_at 22 42 = some (.aload_n 0, 1) := by decide +kernel
theorem at22_43 : am_at 22 43 = some (.getfield 40022, 3) := by decide +kernel
theorem at22_46 : am_at 22 46 = some (.iconst 0, 1) := by decide +kernel
theorem at22_47 : am_at 22 47 = some (.bipush 6, 2) := by decide +kernel
theorem at22_49 : am_at 22 49 = some (.invokestatic 1001, 3) := by decide +kernel
theorem at22_52 : am_at 22 52 = some (.aload_n 1, 1) := by decide +kernel
theorem at22_53 : am_at 22 53 = some (.iload_n 2, 1) := by decide +kernel
theorem at22_54 : am_at 22 54 = some (.iconst 1, 1) := by decide +kernel
theorem at22_55 : am_at 22 55 = some (.iadd, 1) := by decide +kernel
theorem at22_56 : am_at 22 56 = some (.bipush 12, 2) := by decide +kernel
theorem at22_58 : am_at 22 58 = some (.iadd, 1) := by decide +kernel
theorem at22_59 : am_at 22 59 = some (.aload_n 0, 1) := by decide +kernel
theorem at22_60 : am_at 22 60 = some (.getfield 40032, 3) := by decide +kernel
theorem at22_63 : am_at 22 63 = some (.iconst 0, 1) := by decide +kernel
theorem at22_64 : am_at 22 64 = some (.bipush 6, 2) := by decide +kernel
theorem at22_66 : am_at 22 66 = some (.invokestatic 1001, 3) := by decide +kernel
theorem at22_69 : am_at 22 69 = some (.aload_n 1, 1) := by decide +kernel
theorem at22_70 : am_at 22 70 = some (.iload_n 2, 1) := by decide +kernel
theorem at22_71 : am_at 22 71 = some (.iconst 1, 1) := by decide +kernel
theorem at22_72 : am_at 22 72 = some (.iadd, 1) := by decide +kernel
theorem at22_73 : am_at 22 73 = some (.bipush 18, 2) := by decide +kernel
theorem at22_75 : am_at 22 75 = some (.iadd, 1) := by decide +kernel
theorem at22_76 : am_at 22 76 = some (.aload_n 0, 1) := by decide +kernel
theorem at22_77 : am_at 22 77 = some (.getfield 40042, 3) := by decide +kernel
theorem at22_80 : am_at 22 80 = some (.iconst 0, 1) := by decide +kernel
theorem at22_81 : am_at 22 81 = some (.bipush 60, 2) := by decide +kernel
theorem at22_83 : am_at 22 83 = some (.invokestatic 1001, 3) := by decide +kernel
theorem at22_86 : am_at 22 86 = some (.return_, 1) := by decide +kernel
theorem at23_0 : am_at 23 0 = some (.iload_n 1, 1) := by decide +kernel
theorem at23_1 : am_at 23 1 = some (.bipush 10, 2) := by decide +kernel
theorem at23_3 : am_at 23 3 = some (.imul, 1) := by decide +kernel
theorem at23_4 : am_at 23 4 = some (.iload_n 2, 1) := by decide +kernel
theorem at23_5 : am_at 23 5 = some (.iadd, 1) := by decide +kernel
theorem at23_6 : am_at 23 6 = some (.istore_n 3, 1) := by decide +kernel
theorem at23_7 : am_at 23 7 = some (.iload_n 3, 1) := by decide +kernel
theorem at23_8 : am_at 23 8 = some (.ifCond .lt 18, 3) := by decide +kernel
theorem at23_11 : am_at 23 11 = some (.iload_n 3, 1) := by decide +kernel
theorem at23_12 : am_at 23 12 = some (.bipush 60, 2) := by decide +kernel
theorem at23_14 : am_at 23 14 = some (.if_icmp .ge 12, 3) := by decide +kernel
theorem at23_17 : am_at 23 17 = some (.aload_n 0, 1) := by decide +kernel
theorem at23_18 : am_at 23 18 = some (.getfield 40042, 3) := by decide +kernel
theorem at23_21 : am_at 23 21 = some (.iload_n 3, 1) := by decide +kernel
theorem at23_22 : am_at 23 22 = some (.iaload, 1) := by decide +kernel
theorem at23_23 : am_at 23 23 = some (.goto 4, 3) := by decide +kernel
theorem at23_26 : am_at 23 26 = some (.iconst (-1), 1) := by decide +kernel
theorem at23_27 : am_at 23 27 = some (.ireturn, 1) := by decide +kernel
theorem at24_0 : am_at 24 0 = some (.iload_n 1, 1) := by decide +kernel
theorem at24_1 : am_at 24 1 = some (.bipush 10, 2) := by decide +kernel
theorem at24_3 : am_at 24 3 = some (.imul, 1) := by decide +kernel
theorem at24_4 : am_at 24 4 = some (.iload_n 2, 1) := by decide +kernel
theorem at24_5 : am_at 24 5 = some (.iadd, 1) := by decide +kernel
theorem at24_6 : am_at 24 6 = some (.istore 4, 2) := by decide +kernel
theorem at24_8 : am_at 24 8 = some (.iload 4, 2) := by decide +kernel
theorem at24_10 : am_at 24 10 = some (.ifCond .lt 18, 3) := by decide +kernel
theorem at24_13 : am_at 24 13 = some (.iload 4, 2) := by decide +kernel
theorem at24_15 : am_at 24 15 = some (.bipush 60, 2) := by decide +kernel
theorem at24_17 : am_at 24 17 = some (.if_icmp .ge 11, 3) := by decide +kernel
theorem at24_20 : am_at 24 20 = some (.aload_n 0, 1) := by decide +kernel
theorem at24_21 : am_at 24 21 = some (.getfield 40042, 3) := by decide +kernel
theorem at24_24 : am_at 24 24 = some (.iload 4, 2) := by decide +kernel
theorem at24_26 : am_at 24 26 = some (.iload_n 3, 1) := by decide +kernel
theorem at24_27 : am_at 24 27 = some (.iastore, 1) := by decide +kernel
theorem at24_28 : am_at 24 28 = some (.return_, 1) := by decide +kernel
theorem at25_0 : am_at 25 0 = some (.iload_n 0, 1) := by decide +kernel
theorem at25_1 : am_at 25 1 = some (.iconst (-1), 1) := by decide +kernel
theorem at25_2 : am_at 25 2 = some (.if_icmp .ge 7, 3) := by decide +kernel
theorem at25_5 : am_at 25 5 = some (.iconst 1, 1) := by decide +kernel
theorem at25_6 : am_at 25 6 = some (.goto 4, 3) := by decide +kernel
theorem at25_9 : am_at 25 9 = some (.iconst 0, 1) := by decide +kernel
theorem at25_10 : am_at 25 10 = some (.ireturn, 1) := by decide +kernel
theorem at26_0 : am_at 26 0 = some (.iload_n 0, 1) := by decide +kernel
theorem at26_1 : am_at 26 1 = some (.invokestatic 25, 3) := by decide +kernel
theorem at26_4 : am_at 26 4 = some (.ifCond .eq 10, 3) := by decide +kernel
theorem at26_7 : am_at 26 7 = some (.bipush (-2), 2) := by decide +kernel
theorem at26_9 : am_at 26 9 = some (.iload_n 0, 1) := by decide +kernel
theorem at26_10 : am_at 26 10 = some (.isub, 1) := by decide +kernel
theorem at26_11 : am_at 26 11 = some (.goto 4, 3) := by decide +kernel
theorem at26_14 : am_at 26 14 = some (.iload_n 0, 1) := by decide +kernel
theorem at26_15 : am_at 26 15 = some (.ireturn, 1) := by decide +kernel
theorem at27_0 : am_at 27 0 = some (.aload_n 0, 1) := by decide +kernel
theorem at27_1 : am_at 27 1 = some (.iload_n 1, 1) := by decide +kernel
theorem at27_2 : am_at 27 2 = some (.iload_n 2, 1) := by decide +kernel
theorem at27_3 : am_at 27 3 = some (.invokevirtual 23, 3) := by decide +kernel
theorem at27_6 : am_at 27 6 = some (.iconst (-1), 1) := by decide +kernel
theorem at27_7 : am_at 27 7 = some (.if_icmp .eq 7, 3) := by decide +kernel
theorem at27_10 : am_at 27 10 = some (.iconst 1, 1) := by decide +kernel
theorem at27_11 : am_at 27 11 = some (.goto 4, 3) := by decide +kernel
theorem at27_14 : am_at 27 14 = some (.iconst 0, 1) := by decide +kernel
theorem at27_15 : am_at 27 15 = some (.ireturn, 1) := by decide +kernel
theorem at28_0 : am_at 28 0 = some (.iconst 0, 1) := by decide +kernel
theorem at28_1 : am_at 28 1 = some (.istore_n 2, 1) := by decide +kernel
theorem at28_2 : am_at 28 2 = some (.iconst 0, 1) := by decide +kernel
theorem at28_3 : am_at 28 3 = some (.istore_n 3, 1) := by decide +kernel
theorem at28_4 : am_at 28 4 = some (.iload_n 3, 1) := by decide +kernel
theorem at28_5 : am_at 28 5 = some (.bipush 10, 2) := by decide +kernel
theorem at28_7 : am_at 28 7 = some (.if_icmp .ge 25, 3) := by decide +kernel
theorem at28_10 : am_at 28 10 = some (.aload_n 0, 1) := by decide +kernel
theorem at28_11 : am_at 28 11 = some (.iload_n 1, 1) := by decide +kernel
theorem at28_12 : am_at 28 12 = some (.iload_n 3, 1) := by decide +kernel
theorem at28_13 : am_at 28 13 = some (.invokevirtual 23, 3) := by decide +kernel
theorem at28_16 : am_at 28 16 = some (.iconst (-1), 1) := by decide +kernel
theorem at28_17 : am_at 28 17 = some (.if_icmp .eq 9, 3) := by decide +kernel
theorem at28_20 : am_at 28 20 = some (.iload_n 2, 1) := by decide +kernel
theorem at28_21 : am_at 28 21 = some (.iconst 1, 1) := by decide +kernel
theorem at28_22 : am_at 28 22 = some (.iload_n 3, 1) := by decide +kernel
theorem at28_23 : am_at 28 23 = some (.ishl, 1) := by decide +kernel
theorem at28_24 : am_at 28 24 = some (.ior, 1) := by decide +kernel
theorem at28_25 : am_at 28 25 = some (.istore_n 2, 1) := by decide +kernel
theorem at28_26 : am_at 28 26 = some (.iinc 3 1, 3) := by decide +kernel
theorem at28_29 : am_at 28 29 = some (.goto (-25), 3) := by decide +kernel
theorem at28_32 : am_at 28 32 = some (.iload_n 2, 1) := by decide +kernel
theorem at28_33 : am_at 28 33 = some (.ireturn, 1) := by decide +kernel
theorem at29_0 : am_at 29 0 = some (.iconst 0, 1) := by decide +kernel
theorem at29_1 : am_at 29 1 = some (.istore_n 1, 1) := by decide +kernel
theorem at29_2 : am_at 29 2 = some (.iconst 0, 1) := by decide +kernel
theorem at29_3 : am_at 29 3 = some (.istore_n 2, 1) := by decide +kernel
theorem at29_4 : am_at 29 4 = some (.iload_n 2, 1) := by decide +kernel
theorem at29_5 : am_at 29 5 = some (.bipush 6, 2) := by decide +kernel
theorem at29_7 : am_at 29 7 = some (.if_icmp .ge 17, 3) := by decide +kernel
theorem at29_10 : am_at 29 10 = some (.iload_n 1, 1) := by decide +kernel
theorem at29_11 : am_at 29 11 = some (.aload_n 0, 1) := by decide +kernel
theorem at29_12 : am_at 29 12 = some (.iload_n 2, 1) := by decide +kernel
theorem at29_13 : am_at 29 13 = some (.invokevirtual 28, 3) := by decide +kernel
theorem at29_16 : am_at 29 16 = some (.ior, 1) := by decide +kernel
theorem at29_17 : am_at 29 17 = some (.istore_n 1, 1) := by decide +kernel
theorem at29_18 : am_at 29 18 = some (.iinc 2 1, 3) := by decide +kernel
theorem at29_21 : am_at 29 21 = some (.goto (-17), 3) := by decide +kernel
theorem at29_24 : am_at 29 24 = some (.iload_n 1, 1) := by decide +kernel
theorem at29_25 : am_at 29 25 = some (.ireturn, 1) := by decide +kernel
theorem at30_0 : am_at 30 0 = some (.iconst 0, 1) := by decide +kernel
theorem at30_1 : am_at 30 1 = some (.istore_n 2, 1) := by decide +kernel
theorem at30_2 : am_at 30 2 = some (.iconst 0, 1) := by decide +kernel
theorem at30_3 : am_at 30 3 = some (.istore_n 3, 1) := by decide +kernel
theorem at30_4 : am_at 30 4 = some (.iload_n 3, 1) := by decide +kernel
theorem at30_5 : am_at 30 5 = some (.bipush 6, 2) := by decide +kernel
theorem at30_7 : am_at 30 7 = some (.if_icmp .ge 25, 3) := by decide +kernel
theorem at30_10 : am_at 30 10 = some (.aload_n 0, 1) := by decide +kernel
theorem at30_11 : am_at 30 11 = some (.iload_n 3, 1) := by decide +kernel
theorem at30_12 : am_at 30 12 = some (.iload_n 1, 1) := by decide +kernel
theorem at30_13 : am_at 30 13 = some (.invokevirtual 23, 3) := by decide +kernel
theorem at30_16 : am_at 30 16 = some (.iconst (-1), 1) := by decide +kernel
theorem at30_17 : am_at 30 17 = some (.if_icmp .eq 9, 3) := by decide +kernel
theorem at30_20 : am_at 30 20 = some (.iload_n 2, 1) := by decide +kernel
theorem at30_21 : am_at 30 21 = some (.iconst 1, 1) := by decide +kernel
theorem at30_22 : am_at 30 22 = some (.iload_n 3, 1) := by decide +kernel
theorem at30_23 : am_at 30 23 = some (.ishl, 1) := by decide +kernel
theorem at30_24 : am_at 30 24 = some (.ior, 1) := by decide +kernel
theorem at30_25 : am_at 30 25 = some (.istore_n 2, 1) := by decide +kernel
theorem at30_26 : am_at 30 26 = some (.iinc 3 1, 3) := by decide +kernel
theorem at30_29 : am_at 30 29 = some (.goto (-25), 3) := by decide +kernel
theorem at30_32 : am_at 30 32 = some (.iload_n 2, 1) := by decide +kernel
theorem at30_33 : am_at 30 33 = some (.ireturn, 1) := by decide +kernel
theorem at31_0 : am_at 31 0 = some (.iconst 0, 1) := by decide +kernel
theorem at31_1 : am_at 31 1 = some (.istore_n 1, 1) := by decide +kernel
theorem at31_2 : am_at 31 2 = some (.iconst 0, 1) := by decide +kernel
theorem at31_3 : am_at 31 3 = some (.istore_n 2, 1) := by decide +kernel
theorem at31_4 : am_at 31 4 = some (.iload_n 2, 1) := by decide +kernel
theorem at31_5 : am_at 31 5 = some (.bipush 6, 2) := by decide +kernel
theorem at31_7 : am_at 31 7 = some (.if_icmp .ge 20, 3) := by decide +kernel
theorem at31_10 : am_at 31 10 = some (.iload_n 1, 1) := by decide +kernel
theorem at31_11 : am_at 31 11 = some (.aload_n 0, 1) := by decide +kernel
theorem at31_12 : am_at 31 12 = some (.iload_n 2, 1) := by decide +kernel
theorem at31_13 : am_at 31 13 = some (.invokevirtual 28, 3) := by decide +kernel
theorem at31_16 : am_at 31 16 = some (.invokestatic 268, 3) := by decide +kernel
theorem at31_19 : am_at 31 19 = some (.iadd, 1) := by decide +kernel
theorem at31_20 : am_at 31 20 = some (.istore_n 1, 1) := by decide +kernel
theorem at31_21 : am_at 31 21 = some (.iinc 2 1, 3) := by decide +kernel
theorem at31_24 : am_at 31 24 = some (.goto (-20), 3) := by decide +kernel
theorem at31_27 : am_at 31 27 = some (.iload_n 1, 1) := by decide +kernel
theorem at31_28 : am_at 31 28 = some (.ireturn, 1) := by decide +kernel
theorem at32_0 : am_at 32 0 = some (.iconst 0, 1) := by decide +kernel
theorem at32_1 : am_at 32 1 = some (.istore_n 3, 1) := by decide +kernel
theorem at32_2 : am_at 32 2 = some (.iload_n 3, 1) := by decide +kernel
theorem at32_3 : am_at 32 3 = some (.bipush 10, 2) := by decide +kernel
theorem at32_5 : am_at 32 5 = some (.if_icmp .ge 33, 3) := by decide +kernel
theorem at32_8 : am_at 32 8 = some (.aload_n 0, 1) := by decide +kernel
theorem at32_9 : am_at 32 9 = some (.iload_n 1, 1) := by decide +kernel
theorem at32_10 : am_at 32 10 = some (.iload_n 3, 1) := by decide +kernel
theorem at32_11 : am_at 32 11 = some (.invokevirtual 27, 3) := by decide +kernel
theorem at32_14 : am_at 32 14 = some (.ifCond .eq 18, 3) := by decide +kernel
theorem at32_17 : am_at 32 17 = some (.aload_n 0, 1) := by decide +kernel
theorem at32_18 : am_at 32 18 = some (.iload_n 1, 1) := by decide +kernel
theorem at32_19 : am_at 32 19 = some (.iload_n 3, 1) := by decide +kernel
theorem at32_20 : am_at 32 20 = some (.invokevirtual 23, 3) := by decide +kernel
theorem at32_23 : am_at 32 23 = some (.invokestatic 26, 3) := by decide +kernel
theorem at32_26 : am_at 32 26 = some (.iload_n 2, 1) := by decide +kernel
theorem at32_27 : am_at 32 27 = some (.if_icmp .ge 5, 3) := by decide +kernel
theorem at32_30 : am_at 32 30 = some (.iconst 0, 1) := by decide +kernel
theorem at32_31 : am_at 32 31 = some (.ireturn, 1) := by decide +kernel
theorem at32_32 : am_at 32 32 = some (.iinc 3 1, 3) := by decide +kernel
theorem at32_35 : am_at 32 35 = some (.goto (-33), 3) := by decide +kernel
theorem at32_38 : am_at 32 38 = some (.iconst 1, 1) := by decide +kernel
theorem at32_39 : am_at 32 39 = some (.ireturn, 1) := by decide +kernel
theorem at33_0 : am_at 33 0 = some (.aload_n 0, 1) := by decide +kernel
theorem at33_1 : am_at 33 1 = some (.iload_n 1, 1) := by decide +kernel
theorem at33_2 : am_at 33 2 = some (.iload_n 2, 1) := by decide +kernel
theorem at33_3 : am_at 33 3 = some (.bipush (-2), 2) := by decide +kernel
theorem at33_5 : am_at 33 5 = some (.aload_n 0, 1) := by decide +kernel
theorem at33_6 : am_at 33 6 = some (.getfield 40000, 3) := by decide +kernel
theorem at33_9 : am_at 33 9 = some (.isub, 1) := by decide +kernel
theorem at33_10 : am_at 33 10 = some (.invokevirtual 24, 3) := by decide +kernel
theorem at33_13 : am_at 33 13 = some (.return_, 1) := by decide +kernel
theorem at34_0 : am_at 34 0 = some (.iconst 0, 1) := by decide +kernel
theorem at34_1 : am_at 34 1 = some (.istore_n 3, 1) := by decide +kernel
theorem at34_2 : am_at 34 2 = some (.iload_n 3, 1) := by decide +kernel
theorem at34_3 : am_at 34 3 = some (.bipush 10, 2) := by decide +kernel
theorem at34_5 : am_at 34 5 = some (.if_icmp .ge 33, 3) := by decide +kernel
theorem at34_8 : am_at 34 8 = some (.aload_n 0, 1) := by decide +kernel
theorem at34_9 : am_at 34 9 = some (.iload_n 1, 1) := by decide +kernel
theorem at34_10 : am_at 34 10 = some (.iload_n 3, 1) := by decide +kernel
theorem at34_11 : am_at 34 11 = some (.invokevirtual 27, 3) := by decide +kernel
theorem at34_14 : am_at 34 14 = some (.ifCond .eq 18, 3) := by decide +kernel
theorem at34_17 : am_at 34 17 = some (.aload_n 0, 1) := by decide +kernel
theorem at34_18 : am_at 34 18 = some (.iload_n 2, 1) := by decide +kernel
theorem at34_19 : am_at 34 19 = some (.iload_n 3, 1) := by decide +kernel
theorem at34_20 : am_at 34 20 = some (.invokevirtual 27, 3) := by decide +kernel
theorem at34_23 : am_at 34 23 = some (.ifCond .ne 9, 3) := by decide +kernel
theorem at34_26 : am_at 34 26 = some (.aload_n 0, 1) := by decide +kernel
theorem at34_27 : am_at 34 27 = some (.iload_n 2, 1) := by decide +kernel
theorem at34_28 : am_at 34 28 = some (.iload_n 3, 1) := by decide +kernel
theorem at34_29 : am_at 34 29 = some (.invokevirtual 33, 3) := by decide +kernel
theorem at34_32 : am_at 34 32 = some (.iinc 3 1, 3) := by decide +kernel
theorem at34_35 : am_at 34 35 = some (.goto (-33), 3) := by decide +kernel
theorem at34_38 : am_at 34 38 = some (.return_, 1) := by decide +kernel
theorem at35_0 : am_at 35 0 = some (.aload_n 0, 1) := by decide +kernel
theorem at35_1 : am_at 35 1 = some (.aload_n 1, 1) := by decide +kernel
theorem at35_2 : am_at 35 2 = some (.iload_n 2, 1) := by decide +kernel
theorem at35_3 : am_at 35 3 = some (.invokevirtual 37, 3) := by decide +kernel
theorem at35_6 : am_at 35 6 = some (.aload_n 0, 1) := by decide +kernel
theorem at35_7 : am_at 35 7 = some (.aload_n 1, 1) := by decide +kernel
theorem at35_8 : am_at 35 8 = some (.invokevirtual 38, 3) := by decide +kernel
theorem at35_11 : am_at 35 11 = some (.iconst 0, 1) := by decide +kernel
theorem at35_12 : am_at 35 12 = some (.istore_n 3, 1) := by decide +kernel
theorem at35_13 : am_at 35 13 = some (.iload_n 3, 1) := by decide +kernel
theorem at35_14 : am_at 35 14 = some (.aload_n 1, 1) := by decide +kernel
theorem at35_15 : am_at 35 15 = some (.getfield 80000, 3) := by decide +kernel
theorem at35_18 : am_at 35 18 = some (.if_icmp .ge 71, 3) := by decide +kernel
theorem at35_21 : am_at 35 21 = some (.aload_n 0, 1) := by decide +kernel
theorem at35_22 : am_at 35 22 = some (.iload_n 3, 1) := by decide +kernel
theorem at35_23 : am_at 35 23 = some (.invokevirtual 36, 3) := by decide +kernel
theorem at35_26 : am_at 35 26 = some (.istore 4, 2) := by decide +kernel
theorem at35_28 : am_at 35 28 = some (.aload_n 0, 1) := by decide +kernel
theorem at35_29 : am_at 35 29 = some (.getfield 40062, 3) := by decide +kernel
theorem at35_32 : am_at 35 32 = some (.iload 4, 2) := by decide +kernel
theorem at35_34 : am_at 35 34 = some (.iaload, 1) := by decide +kernel
theorem at35_35 : am_at 35 35 = some (.ifCond .ne 7, 3) := by decide +kernel
theorem at35_38 : am_at 35 38 = some (.iconst 0, 1) := by decide +kernel
theorem at35_39 : am_at 35 39 = some (.goto 18, 3) := by decide +kernel
theorem at35_42 : am_at 35 42 = some (.aload_n 0, 1) := by decide +kernel
theorem at35_43 : am_at 35 43 = some (.getfield 40052, 3) := by decide +kernel
theorem at35_46 : am_at 35 46 = some (.iload 4, 2) := by decide +kernel
theorem at35_48 : am_at 35 48 = some (.iaload, 1) := by decide +kernel
theorem at35_49 : am_at 35 49 = some (.aload_n 0, 1) := by decide +kernel
theorem at35_50 : am_at 35 50 = some (.getfield 40062, 3) := by decide +kernel
theorem at35_53 : am_at 35 53 = some (.iload 4, 2) := by decide +kernel
theorem at35_55 : am_at 35 55 = some (.iaload, 1) := by decide +kernel
theorem at35_56 : am_at 35 56 = some (.idiv, 1) := by decide +kernel
theorem at35_57 : am_at 35 57 = some (.istore 5, 2) := by decide +kernel
theorem at35_59 : am_at 35 59 = some (.aload_n 0, 1) := by decide +kernel
theorem at35_60 : am_at 35 60 = some (.aload_n 1, 1) := by decide +kernel
theorem at35_61 : am_at 35 61 = some (.iload_n 3, 1) := by decide +kernel
theorem at35_62 : am_at 35 62 = some (.iload_n 3, 1) := by decide +kernel
theorem at35_63 : am_at 35 63 = some (.iload_n 2, 1) := by decide +kernel
theorem at35_64 : am_at 35 64 = some (.if_icmp .ne 7, 3) := by decide +kernel
theorem at35_67 : am_at 35 67 = some (.iconst 0, 1) := by decide +kernel
theorem at35_68 : am_at 35 68 = some (.goto 5, 3) := by decide +kernel
theorem at35_71 : am_at 35 71 = some (.iload 5, 2) := by decide +kernel
theorem at35_73 : am_at 35 73 = some (.aload_n 0, 1) := by decide +kernel
theorem at35_74 : am_at 35 74 = some (.getfield 40062, 3) := by decide +kernel
theorem at35_77 : am_at 35 77 = some (.iload 4, 2) := by decide +kernel
theorem at35_79 : am_at 35 79 = some (.iaload, 1) := by decide +kernel
theorem at35_80 : am_at 35 80 = some (.invokevirtual 40, 3) := by decide +kernel
theorem at35_83 : am_at 35 83 = some (.iinc 3 1, 3) := by decide +kernel
theorem at35_86 : am_at 35 86 = some (.goto (-73), 3) := by decide +kernel
theorem at35_89 : am_at 35 89 = some (.aload_n 0, 1) := by decide +kernel
theorem at35_90 : am_at 35 90 = some (.aload_n 1, 1) := by decide +kernel
theorem at35_91 : am_at 35 91 = some (.invokevirtual 41, 3) := by decide +kernel
theorem at35_94 : am_at 35 94 = some (.ireturn, 1) := by decide +kernel
theorem at36_0 : am_at 36 0 = some (.iload_n 1, 1) := by decide +kernel
theorem at36_1 : am_at 36 1 = some (.ifCond .lt 18, 3) := by decide +kernel
theorem at36_4 : am_at 36 4 = some (.iload_n 1, 1) := by decide +kernel
theorem at36_5 : am_at 36 5 = some (.bipush 6, 2) := by decide +kernel
theorem at36_7 : am_at 36 7 = some (.if_icmp .ge 12, 3) := by decide +kernel
theorem at36_10 : am_at 36 10 = some (.aload_n 0, 1) := by decide +kernel
theorem at36_11 : am_at 36 11 = some (.getfield 40022, 3) := by decide +kernel
theorem at36_14 : am_at 36 14 = some (.iload_n 1, 1) := by decide +kernel
theorem at36_15 : am_at 36 15 = some (.iaload, 1) := by decide +kernel
theorem at36_16 : am_at 36 16 = some (.goto 4, 3) := by decide +kernel
theorem at36_19 : am_at 36 19 = some (.iconst 0, 1) := by decide +kernel
theorem at36_20 : am_at 36 20 = some (.istore_n 2, 1) := by decide +kernel
theorem at36_21 : am_at 36 21 = some (.iload_n 2, 1) := by decide +kernel
theorem at36_22 : am_at 36 22 = some (.ifCond .lt 12, 3) := by decide +kernel
theorem at36_25 : am_at 36 25 = some (.iload_n 2, 1) := by decide +kernel
theorem at36_26 : am_at 36 26 = some (.iconst 4, 1) := by decide +kernel
theorem at36_27 : am_at 36 27 = some (.if_icmp .ge 7, 3) := by decide +kernel
theorem at36_30 : am_at 36 30 = some (.iload_n 2, 1) := by decide +kernel
theorem at36_31 : am_at 36 31 = some (.goto 4, 3) := by decide +kernel
theorem at36_34 : am_at 36 34 = some (.iconst 0, 1) := by decide +kernel
theorem at36_35 : am_at 36 35 = some (.ireturn, 1) := by decide +kernel
theorem at37_0 : am_at 37 0 = some (.aload_n 0, 1) := by decide +kernel
theorem at37_1 : am_at 37 1 = some (.getfield 40052, 3) := by decide +kernel
theorem at37_4 : am_at 37 4 = some (.iconst 0, 1) := by decide +kernel
theorem at37_5 : am_at 37 5 = some (.invokestatic 271, 3) := by decide +kernel
theorem at37_8 : am_at 37 8 = some (.aload_n 0, 1) := by decide +kernel
theorem at37_9 : am_at 37 9 = some (.getfield 40062, 3) := by decide +kernel
theorem at37_12 : am_at 37 12 = some (.iconst 0, 1) := by decide +kernel
theorem at37_13 : am_at 37 13 = some (.invokestatic 271, 3) := by decide +kernel
theorem at37_16 : am_at 37 16 = some (.aload_n 1, 1) := by decide +kernel
theorem at37_17 : am_at 37 17 = some (.aload_n 0, 1) := by decide +kernel
theorem at37_18 : am_at 37 18 = some (.getfield 40000, 3) := by decide +kernel
theorem at37_21 : am_at 37 21 = some (.invokevirtual 86, 3) := by decide +kernel
theorem at37_24 : am_at 37 24 = some (.istore_n 3, 1) := by decide +kernel
theorem at37_25 : am_at 37 25 = some (.iconst 0, 1) := by decide +kernel
theorem at37_26 : am_at 37 26 = some (.istore 4, 2) := by decide +kernel
theorem at37_28 : am_at 37 28 = some (.iload 4, 2) := by decide +kernel
theorem at37_30 : am_at 37 30 = some (.aload_n 1, 1) := by decide +kernel
theorem at37_31 : am_at 37 31 = some (.getfield 80000, 3) := by decide +kernel
theorem at37_34 : am_at 37 34 = some (.if_icmp .ge 95, 3) := by decide +kernel
theorem at37_37 : am_at 37 37 = some (.aload_n 0, 1) := by decide +kernel
theorem at37_38 : am_at 37 38 = some (.getfield 40032, 3) := by decide +kernel
theorem at37_41 : am_at 37 41 = some (.iload 4, 2) := by decide +kernel
theorem at37_43 : am_at 37 43 = some (.iaload, 1) := by decide +kernel
theorem at37_44 : am_at 37 44 = some (.istore 5, 2) := by decide +kernel
theorem at37_46 : am_at 37 46 = some (.iload 4, 2) := by decide +kernel
theorem at37_48 : am_at 37 48 = some (.iload_n 2, 1) := by decide +kernel
theorem at37_49 : am_at 37 49 = some (.if_icmp .ne 9, 3) := by decide +kernel
theorem at37_52 : am_at 37 52 = some (.iconst 0, 1) := by decide +kernel
theorem at37_53 : am_at 37 53 = some (.istore 5, 2) := by decide +kernel
theorem at37_55 : am_at 37 55 = some (.goto 23, 3) := by decide +kernel
theorem at37_58 : am_at 37 58 = some (.iload_n 3, 1) := by decide +kernel
theorem at37_59 : am_at 37 59 = some (.ifCond .le 19, 3) := by decide +kernel
theorem at37_62 : am_at 37 62 = some (.iload 5, 2) := by decide +kernel
theorem at37_64 : am_at 37 64 = some (.aload_n 0, 1) := by decide +kernel
theorem at37_65 : am_at 37 65 = some (.getfield 40012, 3) := by decide +kernel
theorem at37_68 : am_at 37 68 = some (.iload 4, 2) := by decide +kernel
theorem at37_70 : am_at 37 70 = some (.iaload, 1) := by decide +kernel
theorem at37_71 : am_at 37 71 = some (.iload_n 3, 1) := by decide +kernel
theorem at37_72 : am_at 37 72 = some (.idiv, 1) := by decide +kernel
theorem at37_73 : am_at 37 73 = some (.invokestatic 270, 3) := by decide +kernel
theorem at37_76 : am_at 37 76 = some (.istore 5, 2) := by decide +kernel
theorem at37_78 : am_at 37 78 = some (.aload_n 0, 1) := by decide +kernel
theorem at37_79 : am_at 37 79 = some (.getfield 40012, 3) := by decide +kernel
theorem at37_82 : am_at 37 82 = some (.iload 4, 2) := by decide +kernel
theorem at37_84 : am_at 37 84 = some (.dup2, 1) := by decide +kernel
theorem at37_85 : am_at 37 85 = some (.iaload, 1) := by decide +kernel
theorem at37_86 : am_at 37 86 = some (.iload 5, 2) := by decide +kernel
theorem at37_88 : am_at 37 88 = some (.iload_n 3, 1) := by decide +kernel
theorem at37_89 : am_at 37 89 = some (.imul, 1) := by decide +kernel
theorem at37_90 : am_at 37 90 = some (.isub, 1) := by decide +kernel
theorem at37_91 : am_at 37 91 = some (.iastore, 1) := by decide +kernel
theorem at37_92 : am_at 37 92 = some (.aload_n 0, 1) := by decide +kernel
theorem at37_93 : am_at 37 93 = some (.getfield 40052, 3) := by decide +kernel
theorem at37_96 : am_at 37 96 = some (.aload_n 0, 1) := by decide +kernel
theorem at37_97 : am_at 37 97 = some (.iload 4, 2) := by decide +kernel
theorem at37_99 : am_at 37 99 = some (.invokevirtual 36, 3) := by decide +kernel
theorem at37_102 : am_at 37 102 = some (.dup2, 1) := by decide +kernel
theorem at37_103 : am_at 37 103 = some (.iaload, 1) := by decide +kernel
theorem at37_104 : am_at 37 104 = some (.iload 5, 2) := by decide +kernel
theorem at37_106 : am_at 37 106 = some (.iadd, 1) := by decide +kernel
theorem at37_107 : am_at 37 107 = some (.iastore, 1) := by decide +kernel
theorem at37_108 : am_at 37 108 = some (.aload_n 0, 1) := by decide +kernel
theorem at37_109 : am_at 37 109 = some (.getfield 40062, 3) := by decide +kernel
theorem at37_112 : am_at 37 112 = some (.aload_n 0, 1) := by decide +kernel
theorem at37_113 : am_at 37 113 = some (.iload 4, 2) := by decide +kernel
theorem at37_115 : am_at 37 115 = some (.invokevirtual 36, 3) := by decide +kernel
theorem at37_118 : am_at 37 118 = some (.dup2, 1) := by decide +kernel
theorem at37_119 : am_at 37 119 = some (.iaload, 1) := by decide +kernel
theorem at37_120 : am_at 37 120 = some (.iconst 1, 1) := by decide +kernel
theorem at37_121 : am_at 37 121 = some (.iadd, 1) := by decide +kernel
theorem at37_122 : am_at 37 122 = some (.iastore, 1) := by decide +kernel
theorem at37_123 : am_at 37 123 = some (.iinc 4 1, 3) := by decide +kernel
theorem at37_126 : am_at 37 126 = some (.goto (-98), 3) := by decide +kernel
theorem at37_129 : am_at 37 129 = some (.return_, 1) := by decide +kernel
theorem at38_0 : am_at 38 0 = some (.iconst 0, 1) := by decide +kernel
theorem at38_1 : am_at 38 1 = some (.istore_n 2, 1) := by decide +kernel
theorem at38_2 : am_at 38 2 = some (.iload_n 2, 1) := by decide +kernel
theorem at38_3 : am_at 38 3 = some (.aload_n 1, 1) := by decide +kernel
theorem at38_4 : am_at 38 4 = some (.getfield 80010, 3) := by decide +kernel
theorem at38_7 : am_at 38 7 = some (.if_icmp .ge 57, 3) := by decide +kernel
theorem at38_10 : am_at 38 10 = some (.aload_n 1, 1) := by decide +kernel
theorem at38_11 : am_at 38 11 = some (.getfield 80072, 3) := by decide +kernel
theorem at38_14 : am_at 38 14 = some (.iload_n 2, 1) := by decide +kernel
theorem at38_15 : am_at 38 15 = some (.iaload, 1) := by decide +kernel
theorem at38_16 : am_at 38 16 = some (.aload_n 0, 1) := by decide +kernel
theorem at38_17 : am_at 38 17 = some (.getfield 40000, 3) := by decide +kernel
theorem at38_20 : am_at 38 20 = some (.if_icmp .ne 38, 3) := by decide +kernel
theorem at38_23 : am_at 38 23 = some (.iconst 0, 1) := by decide +kernel
theorem at38_24 : am_at 38 24 = some (.istore_n 3, 1) := by decide +kernel
theorem at38_25 : am_at 38 25 = some (.iload_n 3, 1) := by decide +kernel
theorem at38_26 : am_at 38 26 = some (.aload_n 1, 1) := by decide +kernel
theorem at38_27 : am_at 38 27 = some (.getfield 80000, 3) := by decide +kernel
theorem at38_30 : am_at 38 30 = some (.if_icmp .ge 28, 3) := by decide +kernel
theorem at38_33 : am_at 38 33 = some (.aload_n 1, 1) := by decide +kernel
theorem at38_34 : am_at 38 34 = some (.getfield 80092, 3) := by decide +kernel
theorem at38_37 : am_at 38 37 = some (.iload_n 2, 1) := by decide +kernel
theorem at38_38 : am_at 38 38 = some (.iaload, 1) := by decide +kernel
theorem at38_39 : am_at 38 39 = some (.iload_n 3, 1) := by decide +kernel
theorem at38_40 : am_at 38 40 = some (.invokestatic 145, 3) := by decide +kernel
theorem at38_43 : am_at 38 43 = some (.ifCond .eq 9, 3) := by decide +kernel
theorem at38_46 : am_at 38 46 = some (.aload_n 0, 1) := by decide +kernel
theorem at38_47 : am_at 38 47 = some (.iload_n 3, 1) := by decide +kernel
theorem at38_48 : am_at 38 48 = some (.iload_n 2, 1) := by decide +kernel
theorem at38_49 : am_at 38 49 = some (.invokevirtual 39, 3) := by decide +kernel
theorem at38_52 : am_at 38 52 = some (.iinc 3 1, 3) := by decide +kernel
theorem at38_55 : am_at 38 55 = some (.goto (-30), 3) := by decide +kernel
theorem at38_58 : am_at 38 58 = some (.iinc 2 1, 3) := by decide +kernel
theorem at38_61 : am_at 38 61 = some (.goto (-59), 3) := by decide +kernel
theorem at38_64 : am_at 38 64 = some (.return_, 1) := by decide +kernel
theorem at39_0 : am_at 39 0 = some (.aload_n 0, 1) := by decide +kernel
theorem at39_1 : am_at 39 1 = some (.iload_n 1, 1) := by decide +kernel
theorem at39_2 : am_at 39 2 = some (.iload_n 2, 1) := by decide +kernel
theorem at39_3 : am_at 39 3 = some (.invokevirtual 23, 3) := by decide +kernel
theorem at39_6 : am_at 39 6 = some (.istore_n 3, 1) := by decide +kernel
theorem at39_7 : am_at 39 7 = some (.aload_n 0, 1) := by decide +kernel
theorem at39_8 : am_at 39 8 = some (.iload_n 1, 1) := by decide +kernel
theorem at39_9 : am_at 39 9 = some (.iload_n 2, 1) := by decide +kernel
theorem at39_10 : am_at 39 10 = some (.iload_n 3, 1) := by decide +kernel
theorem at39_11 : am_at 39 11 = some (.iconst (-1), 1) := by decide +kernel
theorem at39_12 : am_at 39 12 = some (.if_icmp .ne 10, 3) := by decide +kernel
theorem at39_15 : am_at 39 15 = some (.aload_n 0, 1) := by decide +kernel
theorem at39_16 : am_at 39 16 = some (.getfield 40000, 3) := by decide +kernel
theorem at39_19 : am_at 39 19 = some (.goto 7, 3) := by decide +kernel
theorem at39_22 : am_at 39 22 = some (.iload_n 3, 1) := by decide +kernel
theorem at39_23 : am_at 39 23 = some (.invokestatic 26, 3) := by decide +kernel
theorem at39_26 : am_at 39 26 = some (.invokevirtual 24, 3) := by decide +kernel
theorem at39_29 : am_at 39 29 = some (.return_, 1) := by decide +kernel
theorem at40_0 : am_at 40 0 = some (.aload_n 1, 1) := by decide +kernel
theorem at40_1 : am_at 40 1 = some (.getfield 80172, 3) := by decide +kernel
theorem at40_4 : am_at 40 4 = some (.astore 5, 2) := by decide +kernel
theorem at40_6 : am_at 40 6 = some (.aload 5, 2) := by decide +kernel
theorem at40_8 : am_at 40 8 = some (.iconst (-1), 1) := by decide +kernel
theorem at40_9 : am_at 40 9 = some (.iload_n 3, 1) := by decide +kernel
theorem at40_10 : am_at 40 10 = some (.invokevirtual 78, 3) := by decide +kernel
theorem at40_13 : am_at 40 13 = some (.aload 5, 2) := by decide +kernel
theorem at40_15 : am_at 40 15 = some (.bipush (-5), 2) := by decide +kernel
theorem at40_17 : am_at 40 17 = some (.aload_n 0, 1) := by decide +kernel
theorem at40_18 : am_at 40 18 = some (.iload_n 2, 1) := by decide +kernel
theorem at40_19 : am_at 40 19 = some (.invokevirtual 28, 3) := by decide +kernel
theorem at40_22 : am_at 40 22 = some (.invokestatic 268, 3) := by decide +kernel
theorem at40_25 : am_at 40 25 = some (.invokevirtual 78, 3) := by decide +kernel
theorem at40_28 : am_at 40 28 = some (.aload 5, 2) := by decide +kernel
theorem at40_30 : am_at 40 30 = some (.bipush (-6), 2) := by decide +kernel
theorem at40_32 : am_at 40 32 = some (.iload 4, 2) := by decide +kernel
theorem at40_34 : am_at 40 34 = some (.invokevirtual 78, 3) := by decide +kernel
theorem at40_37 : am_at 40 37 = some (.aload 5, 2) := by decide +kernel
theorem at40_39 : am_at 40 39 = some (.bipush (-7), 2) := by decide +kernel
theorem at40_41 : am_at 40 41 = some (.aload_n 0, 1) := by decide +kernel
theorem at40_42 : am_at 40 42 = some (.getfield 40000, 3) := by decide +kernel
theorem at40_45 : am_at 40 45 = some (.invokevirtual 78, 3) := by decide +kernel
theorem at40_48 : am_at 40 48 = some (.iconst 0, 1) := by decide +kernel
theorem at40_49 : am_at 40 49 = some (.istore 6, 2) := by decide +kernel
theorem at40_51 : am_at 40 51 = some (.iload 6, 2) := by decide +kernel
theorem at40_53 : am_at 40 53 = some (.aload_n 1, 1) := by decide +kernel
theorem at40_54 : am_at 40 54 = some (.getfield 80010, 3) := by decide +kernel
theorem at40_57 : am_at 40 57 = some (.if_icmp .ge 147, 3) := by decide +kernel
theorem at40_60 : am_at 40 60 = some (.aload_n 0, 1) := by decide +kernel
theorem at40_61 : am_at 40 61 = some (.iload_n 2, 1) := by decide +kernel
theorem at40_62 : am_at 40 62 = some (.iload 6, 2) := by decide +kernel
theorem at40_64 : am_at 40 64 = some (.invokevirtual 23, 3) := by decide +kernel
theorem at40_67 : am_at 40 67 = some (.istore 7, 2) := by decide +kernel
theorem at40_69 : am_at 40 69 = some (.iload 7, 2) := by decide +kernel
theorem at40_71 : am_at 40 71 = some (.iconst (-1), 1) := by decide +kernel
theorem at40_72 : am_at 40 72 = some (.if_icmp .eq 126, 3) := by decide +kernel
theorem at40_75 : am_at 40 75 = some (.iconst 2, 1) := by decide +kernel
theorem at40_76 : am_at 40 76 = some (.iload_n 3, 1) := by decide +kernel
theorem at40_77 : am_at 40 77 = some (.imul, 1) := by decide +kernel
theorem at40_78 : am_at 40 78 = some (.istore 8, 2) := by decide +kernel
theorem at40_80 : am_at 40 80 = some (.aload_n 1, 1) := by decide +kernel
theorem at40_81 : am_at 40 81 = some (.getfield 80041, 3) := by decide +kernel
theorem at40_84 : am_at 40 84 = some (.ifCond .eq 72, 3) := by decide +kernel
theorem at40_87 : am_at 40 87 = some (.aload 5, 2) := by decide +kernel
theorem at40_89 : am_at 40 89 = some (.bipush (-2), 2) := by decide +kernel
theorem at40_91 : am_at 40 91 = some (.aload_n 1, 1) := by decide +kernel
theorem at40_92 : am_at 40 92 = some (.getfield 80082, 3) := by decide +kernel
theorem at40_95 : am_at 40 95 = some (.iload 6, 2) := by decide +kernel
theorem at40_97 : am_at 40 97 = some (.iaload, 1) := by decide +kernel
theorem at40_98 : am_at 40 98 = some (.invokevirtual 78, 3) := by decide +kernel
theorem at40_101 : am_at 40 101 = some (.aload 5, 2) := by decide +kernel
theorem at40_103 : am_at 40 103 = some (.bipush (-3), 2) := by decide +kernel
theorem at40_105 : am_at 40 105 = some (.aload_n 0, 1) := by decide +kernel
theorem at40_106 : am_at 40 106 = some (.getfield 40000, 3) := by decide +kernel
theorem at40_109 : am_at 40 109 = some (.aload_n 1, 1) := by decide +kernel
theorem at40_110 : am_at 40 110 = some (.getfield 80072, 3) := by decide +kernel
theorem at40_113 : am_at 40 113 = some (.iload 6, 2) := by decide +kernel
theorem at40_115 : am_at 40 115 = some (.iaload, 1) := by decide +kernel
theorem at40_116 : am_at 40 116 = some (.isub, 1) := by decide +kernel
theorem at40_117 : am_at 40 117 = some (.invokevirtual 78, 3) := by decide +kernel
theorem at40_120 : am_at 40 120 = some (.aload 5, 2) := by decide +kernel
theorem at40_122 : am_at 40 122 = some (.bipush (-4), 2) := by decide +kernel
theorem at40_124 : am_at 40 124 = some (.iload 7, 2) := by decide +kernel
theorem at40_126 : am_at 40 126 = some (.invokestatic 25, 3) := by decide +kernel
theorem at40_129 : am_at 40 129 = some (.ifCond .eq 7, 3) := by decide +kernel
theorem at40_132 : am_at 40 132 = some (.iconst 1, 1) := by decide +kernel
theorem at40_133 : am_at 40 133 = some (.goto 4, 3) := by decide +kernel
theorem at40_136 : am_at 40 136 = some (.iconst 0, 1) := by decide +kernel
theorem at40_137 : am_at 40 137 = some (.invokevirtual 78, 3) := by decide +kernel
theorem at40_140 : am_at 40 140 = some (.iconst 0, 1) := by decide +kernel
theorem at40_141 : am_at 40 141 = some (.bipush 99, 2) := by decide +kernel
theorem at40_143 : am_at 40 143 = some (.aload 5, 2) := by decide +kernel
theorem at40_145 : am_at 40 145 = some (.invokevirtual 79, 3) := by decide +kernel
theorem at40_148 : am_at 40 148 = some (.invokestatic 270, 3) := by decide +kernel
theorem at40_151 : am_at 40 151 = some (.invokestatic 269, 3) := by decide +kernel
theorem at40_154 : am_at 40 154 = some (.istore 8, 2) := by decide +kernel
theorem at40_156 : am_at 40 156 = some (.iload 7, 2) := by decide +kernel
theorem at40_158 : am_at 40 158 = some (.invokestatic 26, 3) := by decide +kernel
theorem at40_161 : am_at 40 161 = some (.aload_n 0, 1) := by decide +kernel
theorem at40_162 : am_at 40 162 = some (.getfield 40000, 3) := by decide +kernel
theorem at40_165 : am_at 40 165 = some (.iload 8, 2) := by decide +kernel
theorem at40_167 : am_at 40 167 = some (.iadd, 1) := by decide +kernel
theorem at40_168 : am_at 40 168 = some (.invokestatic 269, 3) := by decide +kernel
theorem at40_171 : am_at 40 171 = some (.istore 9, 2) := by decide +kernel
theorem at40_173 : am_at 40 173 = some (.aload_n 0, 1) := by decide +kernel
theorem at40_174 : am_at 40 174 = some (.iload_n 2, 1) := by decide +kernel
theorem at40_175 : am_at 40 175 = some (.iload 6, 2) := by decide +kernel
theorem at40_177 : am_at 40 177 = some (.iload 7, 2) := by decide +kernel
theorem at40_179 : am_at 40 179 = some (.invokestatic 25, 3) := by decide +kernel
theorem at40_182 : am_at 40 182 = some (.ifCond .eq 11, 3) := by decide +kernel
theorem at40_185 : am_at 40 185 = some (.bipush (-2), 2) := by decide +kernel
theorem at40_187 : am_at 40 187 = some (.iload 9, 2) := by decide +kernel
theorem at40_189 : am_at 40 189 = some (.isub, 1) := by decide +kernel
theorem at40_190 : am_at 40 190 = some (.goto 5, 3) := by decide +kernel
theorem at40_193 : am_at 40 193 = some (.iload 9, 2) := by decide +kernel
theorem at40_195 : am_at 40 195 = some (.invokevirtual 24, 3) := by decide +kernel
theorem at40_198 : am_at 40 198 = some (.iinc 6 1, 3) := by decide +kernel
theorem at40_201 : am_at 40 201 = some (.goto (-150), 3) := by decide +kernel
theorem at40_204 : am_at 40 204 = some (.return_, 1) := by decide +kernel
theorem at41_0 : am_at 41 0 = some (.aload_n 0, 1) := by decide +kernel
theorem at41_1 : am_at 41 1 = some (.dup, 1) := by decide +kernel
theorem at41_2 : am_at 41 2 = some (.getfield 40000, 3) := by decide +kernel
theorem at41_5 : am_at 41 5 = some (.iconst 1, 1) := by decide +kernel
theorem at41_6 : am_at 41 6 = some (.iadd, 1) := by decide +kernel
theorem at41_7 : am_at 41 7 = some (.putfield 40000, 3) := by decide +kernel
theorem at41_10 : am_at 41 10 = some (.iconst 0, 1) := by decide +kernel
theorem at41_11 : am_at 41 11 = some (.istore_n 2, 1) := by decide +kernel
theorem at41_12 : am_at 41 12 = some (.iconst 0, 1) := by decide +kernel
theorem at41_13 : am_at 41 13 = some (.istore_n 3, 1) := by decide +kernel
theorem at41_14 : am_at 41 14 = some (.iload_n 3, 1) := by decide +kernel
theorem at41_15 : am_at 41 15 = some (.aload_n 1, 1) := by decide +kernel
theorem at41_16 : am_at 41 16 = some (.getfield 80000, 3) := by decide +kernel
theorem at41_19 : am_at 41 19 = some (.if_icmp .ge 17, 3) := by decide +kernel
theorem at41_22 : am_at 41 22 = some (.iload_n 2, 1) := by decide +kernel
theorem at41_23 : am_at 41 23 = some (.aload_n 0, 1) := by decide +kernel
theorem at41_24 : am_at 41 24 = some (.iload_n 3, 1) := by decide +kernel
theorem at41_25 : am_at 41 25 = some (.invokevirtual 42, 3) := by decide +kernel
theorem at41_28 : am_at 41 28 = some (.iadd, 1) := by decide +kernel
theorem at41_29 : am_at 41 29 = some (.istore_n 2, 1) := by decide +kernel
theorem at41_30 : am_at 41 30 = some (.iinc 3 1, 3) := by decide +kernel
theorem at41_33 : am_at 41 33 = some (.goto (-19), 3) := by decide +kernel
theorem at41_36 : am_at 41 36 = some (.iload_n 2, 1) := by decide +kernel
theorem at41_37 : am_at 41 37 = some (.ireturn, 1) := by decide +kernel
theorem at42_0 : am_at 42 0 = some (.iconst 0, 1) := by decide +kernel
theorem at42_1 : am_at 42 1 = some (.istore_n 2, 1) := by decide +kernel
theorem at42_2 : am_at 42 2 = some (.iconst 0, 1) := by decide +kernel
theorem at42_3 : am_at 42 3 = some (.istore_n 3, 1) := by decide +kernel
theorem at42_4 : am_at 42 4 = some (.iload_n 3, 1) := by decide +kernel
theorem at42_5 : am_at 42 5 = some (.bipush 10, 2) := by decide +kernel
theorem at42_7 : am_at 42 7 = some (.if_icmp .ge 44, 3) := by decide +kernel
theorem at42_10 : am_at 42 10 = some (.aload_n 0, 1) := by decide +kernel
theorem at42_11 : am_at 42 11 = some (.iload_n 1, 1) := by decide +kernel
theorem at42_12 : am_at 42 12 = some (.iload_n 3, 1) := by decide +kernel
theorem at42_13 : am_at 42 13 = some (.invokevirtual 27, 3) := by decide +kernel
theorem at42_16 : am_at 42 16 = some (.ifCond .eq 29, 3) := by decide +kernel
theorem at42_19 : am_at 42 19 = some (.aload_n 0, 1) := by decide +kernel
theorem at42_20 : am_at 42 20 = some (.iload_n 1, 1) := by decide +kernel
theorem at42_21 : am_at 42 21 = some (.iload_n 3, 1) := by decide +kernel
theorem at42_22 : am_at 42 22 = some (.invokevirtual 23, 3) := by decide +kernel
theorem at42_25 : am_at 42 25 = some (.invokestatic 26, 3) := by decide +kernel
theorem at42_28 : am_at 42 28 = some (.aload_n 0, 1) := by decide +kernel
theorem at42_29 : am_at 42 29 = some (.getfield 40000, 3) := by decide +kernel
theorem at42_32 : am_at 42 32 = some (.if_icmp .ge 13, 3) := by decide +kernel
theorem at42_35 : am_at 42 35 = some (.aload_n 0, 1) := by decide +kernel
theorem at42_36 : am_at 42 36 = some (.iload_n 1, 1) := by decide +kernel
theorem at42_37 : am_at 42 37 = some (.iload_n 3, 1) := by decide +kernel
theorem at42_38 : am_at 42 38 = some (.iconst (-1), 1) := by decide +kernel
theorem at42_39 : am_at 42 39 = some (.invokevirtual 24, 3) := by decide +kernel
theorem at42_42 : am_at 42 42 = some (.iinc 2 1, 3) := by decide +kernel
theorem at42_45 : am_at 42 45 = some (.iinc 3 1, 3) := by decide +kernel
theorem at42_48 : am_at 42 48 = some (.goto (-44), 3) := by decide +kernel
theorem at42_51 : am_at 42 51 = some (.iload_n 2, 1) := by decide +kernel
theorem at42_52 : am_at 42 52 = some (.ireturn, 1) := by decide +kernel
theorem at43_0 : am_at 43 0 = some (.aload_n 0, 1) := by decide +kernel
theorem at43_1 : am_at 43 1 = some (.aload_n 1, 1) := by decide +kernel
theorem at43_2 : am_at 43 2 = some (.iload_n 2, 1) := by decide +kernel
theorem at43_3 : am_at 43 3 = some (.iload_n 3, 1) := by decide +kernel
theorem at43_4 : am_at 43 4 = some (.iconst 1, 1) := by decide +kernel
theorem at43_5 : am_at 43 5 = some (.invokevirtual 40, 3) := by decide +kernel
theorem at43_8 : am_at 43 8 = some (.aload_n 0, 1) := by decide +kernel
theorem at43_9 : am_at 43 9 = some (.dup, 1) := by decide +kernel
theorem at43_10 : am_at 43 10 = some (.getfield 40000, 3) := by decide +kernel
theorem at43_13 : am_at 43 13 = some (.iconst 1, 1) := by decide +kernel
theorem at43_14 : am_at 43 14 = some (.iadd, 1) := by decide +kernel
theorem at43_15 : am_at 43 15 = some (.putfield 40000, 3) := by decide +kernel
theorem at43_18 : am_at 43 18 = some (.aload_n 0, 1) := by decide +kernel
theorem at43_19 : am_at 43 19 = some (.iload_n 2, 1) := by decide +kernel
theorem at43_20 : am_at 43 20 = some (.invokevirtual 42, 3) := by decide +kernel
theorem at43_23 : am_at 43 23 = some (.pop, 1) := by decide +kernel
theorem at43_24 : am_at 43 24 = some (.return_, 1) := by decide +kernel
theorem at44_0 : am_at 44 0 = some (.aload_n 0, 1) := by decide +kernel
theorem at44_1 : am_at 44 1 = some (.invokespecial 1000, 3) := by decide +kernel
theorem at44_4 : am_at 44 4 = some (.aload_n 0, 1) := by decide +kernel
theorem at44_5 : am_at 44 5 = some (.bipush 6, 2) := by decide +kernel
theorem at44_7 : am_at 44 7 = some (.bipush 21, 2) := by decide +kernel
theorem at44_9 : am_at 44 9 = some (.multianewarray 0 2, 4) := by decide +kernel
theorem at44_13 : am_at 44 13 = some (.putfield 50002, 3) := by decide +kernel
theorem at44_16 : am_at 44 16 = some (.aload_n 0, 1) := by decide +kernel
theorem at44_17 : am_at 44 17 = some (.bipush 7, 2) := by decide +kernel
theorem at44_19 : am_at 44 19 = some (.bipush 31, 2) := by decide +kernel
theorem at44_21 : am_at 44 21 = some (.multianewarray 0 2, 4) := by decide +kernel
theorem at44_25 : am_at 44 25 = some (.putfield 50012, 3) := by decide +kernel
theorem at44_28 : am_at 44 28 = some (.aload_n 0, 1) := by decide +kernel
theorem at44_29 : am_at 44 29 = some (.bipush 6, 2) := by decide +kernel
theorem at44_31 : am_at 44 31 = some (.newarray .int, 2) := by decide +kernel
theorem at44_33 : am_at 44 33 = some (.putfield 50022, 3) := by decide +kernel
theorem at44_36 : am_at 44 36 = some (.return_, 1) := by decide +kernel
theorem at45_0 : am_at 45 0 = some (.iconst 0, 1) := by decide +kernel
theorem at45_1 : am_at 45 1 = some (.istore_n 3, 1) := by decide +kernel
theorem at45_2 : am_at 45 2 = some (.iload_n 3, 1) := by decide +kernel
theorem at45_3 : am_at 45 3 = some (.bipush 30, 2) := by decide +kernel
theorem at45_5 : am_at 45 5 = some (.if_icmp .gt 26, 3) := by decide +kernel
theorem at45_8 : am_at 45 8 = some (.aload_n 0, 1) := by decide +kernel
theorem at45_9 : am_at 45 9 = some (.getfield 50012, 3) := by decide +kernel
theorem at45_12 : am_at 45 12 = some (.iload_n 1, 1) := by decide +kernel
theorem at45_13 : am_at 45 13 = some (.aaload, 1) := by decide +kernel
theorem at45_14 : am_at 45 14 = some (.iload_n 3, 1) := by decide +kernel
theorem at45_15 : am_at 45 15 = some (.iload_n 3, 1) := by decide +kernel
theorem at45_16 : am_at 45 16 = some (.ifCond .ne 7, 3) := by decide +kernel
theorem at45_19 : am_at 45 19 = some (.iconst 0, 1) := by decide +kernel
theorem at45_20 : am_at 45 20 = some (.goto 4, 3) := by decide +kernel
theorem at45_23 : am_at 45 23 = some (.iconst (-1), 1) := by decide +kernel
theorem at45_24 : am_at 45 24 = some (.iastore, 1) := by decide +kernel
theorem at45_25 : am_at 45 25 = some (.iinc 3 1, 3) := by decide +kernel
theorem at45_28 : am_at 45 28 = some (.goto (-26), 3) := by decide +kernel
theorem at45_31 : am_at 45 31 = some (.iload_n 1, 1) := by decide +kernel
theorem at45_32 : am_at 45 32 = some (.iconst 1, 1) := by decide +kernel
theorem at45_33 : am_at 45 33 = some (.isub, 1) := by decide +kernel
theorem at45_34 : am_at 45 34 = some (.istore_n 3, 1) := by decide +kernel
theorem at45_35 : am_at 45 35 = some (.iload_n 3, 1) := by decide +kernel
theorem at45_36 : am_at 45 36 = some (.ifCond .lt 40, 3) := by decide +kernel
theorem at45_39 : am_at 45 39 = some (.iconst 0, 1) := by decide +kernel
theorem at45_40 : am_at 45 40 = some (.istore 4, 2) := by decide +kernel
theorem at45_42 : am_at 45 42 = some (.iload 4, 2) := by decide +kernel
theorem at45_44 : am_at 45 44 = some (.iload_n 2, 1) := by decide +kernel
theorem at45_45 : am_at 45 45 = some (.if_icmp .gt 25, 3) := by decide +kernel
theorem at45_48 : am_at 45 48 = some (.aload_n 0, 1) := by decide +kernel
theorem at45_49 : am_at 45 49 = some (.getfield 50012, 3) := by decide +kernel
theorem at45_52 : am_at 45 52 = some (.iload_n 3, 1) := by decide +kernel
theorem at45_53 : am_at 45 53 = some (.aaload, 1) := by decide +kernel
theorem at45_54 : am_at 45 54 = some (.iload 4, 2) := by decide +kernel
theorem at45_56 : am_at 45 56 = some (.aload_n 0, 1) := by decide +kernel
theorem at45_57 : am_at 45 57 = some (.iload_n 3, 1) := by decide +kernel
theorem at45_58 : am_at 45 58 = some (.iload 4, 2) := by decide +kernel
theorem at45_60 : am_at 45 60 = some (.invokevirtual 46, 3) := by decide +kernel
theorem at45_63 : am_at 45 63 = some (.iastore, 1) := by decide +kernel
theorem at45_64 : am_at 45 64 = some (.iinc 4 1, 3) := by decide +kernel
theorem at45_67 : am_at 45 67 = some (.goto (-25), 3) := by decide +kernel
theorem at45_70 : am_at 45 70 = some (.iinc 3 (-1), 3) := by decide +kernel
theorem at45_73 : am_at 45 73 = some (.goto (-38), 3) := by decide +kernel
theorem at45_76 : am_at 45 76 = some (.iconst 0, 1) := by decide +kernel
theorem at45_77 : am_at 45 77 = some (.istore_n 3, 1) := by decide +kernel
theorem at45_78 : am_at 45 78 = some (.iconst 1, 1) := by decide +kernel
theorem at45_79 : am_at 45 79 = some (.istore 4, 2) := by decide +kernel
theorem at45_81 : am_at 45 81 = some (.iload 4, 2) := by decide +kernel
theorem at45_83 : am_at 45 83 = some (.iload_n 2, 1) := by decide +kernel
theorem at45_84 : am_at 45 84 = some (.if_icmp .gt 32, 3) := by decide +kernel
theorem at45_87 : am_at 45 87 = some (.aload_n 0, 1) := by decide +kernel
theorem at45_88 : am_at 45 88 = some (.getfield 50012, 3) := by decide +kernel
theorem at45_91 : am_at 45 91 = some (.iconst 0, 1) := by decide +kernel
theorem at45_92 : am_at 45 92 = some (.aaload, 1) := by decide +kernel
theorem at45_93 : am_at 45 93 = some (.iload 4, 2) := by decide +kernel
theorem at45_95 : am_at 45 95 = some (.iaload, 1) := by decide +kernel
theorem at45_96 : am_at 45 96 = some (.aload_n 0, 1) := by decide +kernel
theorem at45_97 : am_at 45 97 = some (.getfield 50012, 3) := by decide +kernel
theorem at45_100 : am_at 45 100 = some (.iconst 0, 1) := by decide +kernel
theorem at45_101 : am_at 45 101 = some (.aaload, 1) := by decide +kernel
theorem at45_102 : am_at 45 102 = some (.iload_n 3, 1) := by decide +kernel
theorem at45_103 : am_at 45 103 = some (.iaload, 1) := by decide +kernel
theorem at45_104 : am_at 45 104 = some (.if_icmp .le 6, 3) := by decide +kernel
theorem at45_107 : am_at 45 107 = some (.iload 4, 2) := by decide +kernel
theorem at45_109 : am_at 45 109 = some (.istore_n 3, 1) := by decide +kernel
theorem at45_110 : am_at 45 110 = some (.iinc 4 1, 3) := by decide +kernel
theorem at45_113 : am_at 45 113 = some (.goto (-32), 3) := by decide +kernel
theorem at45_116 : am_at 45 116 = some (.aload_n 0, 1) := by decide +kernel
theorem at45_117 : am_at 45 117 = some (.iload_n 1, 1) := by decide +kernel
theorem at45_118 : am_at 45 118 = some (.iload_n 3, 1) := by decide +kernel
theorem at45_119 : am_at 45 119 = some (.invokevirtual 48, 3) := by decide +kernel
theorem at45_122 : am_at 45 122 = some (.aload_n 0, 1) := by decide +kernel
theorem at45_123 : am_at 45 123 = some (.iconst 1, 1) := by decide +kernel
theorem at45_124 : am_at 45 124 = some (.putfield 50031, 3) := by decide +kernel
theorem at45_127 : am_at 45 127 = some (.aload_n 0, 1) := by decide +kernel
theorem at45_128 : am_at 45 128 = some (.getfield 50012, 3) := by decide +kernel
theorem at45_131 : am_at 45 131 = some (.iconst 0, 1) := by decide +kernel
theorem at45_132 : am_at 45 132 = some (.aaload, 1) := by decide +kernel
theorem at45_133 : am_at 45 133 = some (.iload_n 3, 1) := by decide +kernel
theorem at45_134 : am_at 45 134 = some (.iaload, 1) := by decide +kernel
theorem at45_135 : am_at 45 135 = some (.ireturn, 1) := by decide +kernel
theorem at46_0 : am_at 46 0 = some (.iconst (-1), 1) := by decide +kernel
theorem at46_1 : am_at 46 1 = some (.istore_n 3, 1) := by decide +kernel
theorem at46_2 : am_at 46 2 = some (.iconst 0, 1) := by decide +kernel
theorem at46_3 : am_at 46 3 = some (.istore 4, 2) := by decide +kernel
theorem at46_5 : am_at 46 5 = some (.iload 4, 2) := by decide +kernel
theorem at46_7 : am_at 46 7 = some (.bipush 20, 2) := by decide +kernel
theorem at46_9 : am_at 46 9 = some (.if_icmp .gt 28, 3) := by decide +kernel
theorem at46_12 : am_at 46 12 = some (.iload 4, 2) := by decide +kernel
theorem at46_14 : am_at 46 14 = some (.iload_n 2, 1) := by decide +kernel
theorem at46_15 : am_at 46 15 = some (.if_icmp .gt 22, 3) := by decide +kernel
theorem at46_18 : am_at 46 18 = some (.iload_n 3, 1) := by decide +kernel
theorem at46_19 : am_at 46 19 = some (.aload_n 0, 1) := by decide +kernel
theorem at46_20 : am_at 46 20 = some (.iload_n 1, 1) := by decide +kernel
theorem at46_21 : am_at 46 21 = some (.iload_n 2, 1) := by decide +kernel
theorem at46_22 : am_at 46 22 = some (.iload 4, 2) := by decide +kernel
theorem at46_24 : am_at 46 24 = some (.invokevirtual 47, 3) := by decide +kernel
theorem at46_27 : am_at 46 27 = some (.invokestatic 269, 3) := by decide +kernel
theorem at46_30 : am_at 46 30 = some (.istore_n 3, 1) := by decide +kernel
theorem at46_31 : am_at 46 31 = some (.iinc 4 1, 3) := by decide +kernel
theorem at46_34 : am_at 46 34 = some (.goto (-29), 3) := by decide +kernel
theorem at46_37 : am_at 46 37 = some (.iload_n 3, 1) := by decide +kernel
theorem at46_38 : am_at 46 38 = some (.ireturn, 1) := by decide +kernel
theorem at47_0 : am_at 47 0 = some (.aload_n 0, 1) := by decide +kernel
theorem at47_1 : am_at 47 1 = some (.getfield 50012, 3) := by decide +kernel
theorem at47_4 : am_at 47 4 = some (.iload_n 1, 1) := by decide +kernel
theorem at47_5 : am_at 47 5 = some (.iconst 1, 1) := by decide +kernel
theorem at47_6 : am_at 47 6 = some (.iadd, 1) := by decide +kernel
theorem at47_7 : am_at 47 7 = some (.aaload, 1) := by decide +kernel
theorem at47_8 : am_at 47 8 = some (.iload_n 2, 1) := by decide +kernel
theorem at47_9 : am_at 47 9 = some (.iload_n 3, 1) := by decide +kernel
theorem at47_10 : am_at 47 10 = some (.isub, 1) := by decide +kernel
theorem at47_11 : am_at 47 11 = some (.iaload, 1) := by decide +kernel
theorem at47_12 : am_at 47 12 = some (.istore 4, 2) := by decide +kernel
theorem at47_14 : am_at 47 14 = some (.iload 4, 2) := by decide +kernel
theorem at47_16 : am_at 47 16 = some (.iconst (-1), 1) := by decide +kernel
theorem at47_17 : am_at 47 17 = some (.if_icmp .ne 7, 3) := by decide +kernel
theorem at47_20 : am_at 47 20 = some (.iconst (-1), 1) := by decide +kernel
theorem at47_21 : am_at 47 21 = some (.goto 14, 3) := by decide +kernel
theorem at47_24 : am_at 47 24 = some (.aload_n 0, 1) := by decide +kernel
theorem at47_25 : am_at 47 25 = some (.getfield 50002, 3) := by decide +kernel
theorem at47_28 : am_at 47 28 = some (.iload_n 1, 1) := by decide +kernel
theorem at47_29 : am_at 47 29 = some (.aaload, 1) := by decide +kernel
theorem at47_30 : am_at 47 30 = some (.iload_n 3, 1) := by decide +kernel
theorem at47_31 : am_at 47 31 = some (.iaload, 1) := by decide +kernel
theorem at47_32 : am_at 47 32 = some (.iload 4, 2) := by decide +kernel
theorem at47_34 : am_at 47 34 = some (.iadd, 1) := by decide +kernel
theorem at47_35 : am_at 47 35 = some (.ireturn, 1) := by decide +kernel
theorem at48_0 : am_at 48 0 = some (.iload_n 2, 1) := by decide +kernel
theorem at48_1 : am_at 48 1 = some (.istore_n 3, 1) := by decide +kernel
theorem at48_2 : am_at 48 2 = some (.iconst 0, 1) := by decide +kernel
theorem at48_3 : am_at 48 3 = some (.istore 4, 2) := by decide +kernel
theorem at48_5 : am_at 48 5 = some (.iload 4, 2) := by decide +kernel
theorem at48_7 : am_at 48 7 = some (.iload_n 1, 1) := by decide +kernel
theorem at48_8 : am_at 48 8 = some (.if_icmp .ge 66, 3) := by decide +kernel
theorem at48_11 : am_at 48 11 = some (.iconst 0, 1) := by decide +kernel
theorem at48_12 : am_at 48 12 = some (.istore 5, 2) := by decide +kernel
theorem at48_14 : am_at 48 14 = some (.iload 5, 2) := by decide +kernel
theorem at48_16 : am_at 48 16 = some (.bipush 20, 2) := by decide +kernel
theorem at48_18 : am_at 48 18 = some (.if_icmp .ge 36, 3) := by decide +kernel
theorem at48_21 : am_at 48 21 = some (.iload 5, 2) := by decide +kernel
theorem at48_23 : am_at 48 23 = some (.iload_n 3, 1) := by decide +kernel
theorem at48_24 : am_at 48 24 = some (.if_icmp .ge 30, 3) := by decide +kernel
theorem at48_27 : am_at 48 27 = some (.aload_n 0, 1) := by decide +kernel
theorem at48_28 : am_at 48 28 = some (.iload 4, 2) := by decide +kernel
theorem at48_30 : am_at 48 30 = some (.iload_n 3, 1) := by decide +kernel
theorem at48_31 : am_at 48 31 = some (.iload 5, 2) := by decide +kernel
theorem at48_33 : am_at 48 33 = some (.invokevirtual 47, 3) := by decide +kernel
theorem at48_36 : am_at 48 36 = some (.aload_n 0, 1) := by decide +kernel
theorem at48_37 : am_at 48 37 = some (.getfield 50012, 3) := by decide +kernel
theorem at48_40 : am_at 48 40 = some (.iload 4, 2) := by decide +kernel
theorem at48_42 : am_at 48 42 = some (.aaload, 1) := by decide +kernel
theorem at48_43 : am_at 48 43 = some (.iload_n 3, 1) := by decide +kernel
theorem at48_44 : am_at 48 44 = some (.iaload, 1) := by decide +kernel
theorem at48_45 : am_at 48 45 = some (.if_icmp .eq 9, 3) := by decide +kernel
theorem at48_48 : am_at 48 48 = some (.iinc 5 1, 3) := by decide +kernel
theorem at48_51 : am_at 48 51 = some (.goto (-37), 3) := by decide +kernel
theorem at48_54 : am_at 48 54 = some (.aload_n 0, 1) := by decide +kernel
theorem at48_55 : am_at 48 55 = some (.getfield 50022, 3) := by decide +kernel
theorem at48_58 : am_at 48 58 = some (.iload 4, 2) := by decide +kernel
theorem at48_60 : am_at 48 60 = some (.iload 5, 2) := by decide +kernel
theorem at48_62 : am_at 48 62 = some (.iastore, 1) := by decide +kernel
theorem at48_63 : am_at 48 63 = some (.iload_n 3, 1) := by decide +kernel
theorem at48_64 : am_at 48 64 = some (.iload 5, 2) := by decide +kernel
theorem at48_66 : am_at 48 66 = some (.isub, 1) := by decide +kernel
theorem at48_67 : am_at 48 67 = some (.istore_n 3, 1) := by decide +kernel
theorem at48_68 : am_at 48 68 = some (.iinc 4 1, 3) := by decide +kernel
theorem at48_71 : am_at 48 71 = some (.goto (-66), 3) := by decide +kernel
theorem at48_74 : am_at 48 74 = some (.return_, 1) := by decide +kernel
theorem at49_0 : am_at 49 0 = some (.aload_n 0, 1) := by decide +kernel
theorem at49_1 : am_at 49 1 = some (.invokespecial 1000, 3) := by decide +kernel
theorem at49_4 : am_at 49 4 = some (.aload_n 0, 1) := by decide +kernel
theorem at49_5 : am_at 49 5 = some (.new 9, 3) := by decide +kernel
theorem at49_8 : am_at 49 8 = some (.dup, 1) := by decide +kernel
theorem at49_9 : am_at 49 9 = some (.invokespecial 90, 3) := by decide +kernel
theorem at49_12 : am_at 49 12 = some (.putfield 60002, 3) := by decide +kernel
theorem at49_15 : am_at 49 15 = some (.aload_n 0, 1) := by decide +kernel
theorem at49_16 : am_at 49 16 = some (.iconst (-1), 1) := by decide +kernel
theorem at49_17 : am_at 49 17 = some (.putfield 60020, 3) := by decide +kernel
theorem at49_20 : am_at 49 20 = some (.return_, 1) := by decide +kernel
theorem at50_0 : am_at 50 0 = some (.aload_n 0, 1) := by decide +kernel
theorem at50_1 : am_at 50 1 = some (.iconst 0, 1) := by decide +kernel
theorem at50_2 : am_at 50 2 = some (.putfield 60010, 3) := by decide +kernel
theorem at50_5 : am_at 50 5 = some (.aload_n 0, 1) := by decide +kernel
theorem at50_6 : am_at 50 6 = some (.iconst (-1), 1) := by decide +kernel
theorem at50_7 : am_at 50 7 = some (.putfield 60020, 3) := by decide +kernel
theorem at50_10 : am_at 50 10 = some (.aload_n 2, 1) := by decide +kernel
theorem at50_11 : am_at 50 11 = some (.invokevirtual 82, 3) := by decide +kernel
theorem at50_14 : am_at 50 14 = some (.aload_n 0, 1) := by decide +kernel
theorem at50_15 : am_at 50 15 = some (.getfield 60002, 3) := by decide +kernel
theorem at50_18 : am_at 50 18 = some (.iload_n 1, 1) := by decide +kernel
theorem at50_19 : am_at 50 19 = some (.invokevirtual 93, 3) := by decide +kernel
theorem at50_22 : am_at 50 22 = some (.iconst 0, 1) := by decide +kernel
theorem at50_23 : am_at 50 23 = some (.istore_n 3, 1) := by decide +kernel
theorem at50_24 : am_at 50 24 = some (.iload_n 3, 1) := by decide +kernel
theorem at50_25 : am_at 50 25 = some (.sipush 700, 3) := by decide +kernel
theorem at50_28 : am_at 50 28 = some (.if_icmp .ge 135, 3) := by decide +kernel
theorem at50_31 : am_at 50 31 = some (.aload_n 0, 1) := by decide +kernel
theorem at50_32 : am_at 50 32 = some (.getfield 60010, 3) := by decide +kernel
theorem at50_35 : am_at 50 35 = some (.ifCond .ne 128, 3) := by decide +kernel
theorem at50_38 : am_at 50 38 = some (.aload_n 0, 1) := by decide +kernel
theorem at50_39 : am_at 50 39 = some (.getfield 60002, 3) := by decide +kernel
theorem at50_42 : am_at 50 42 = some (.getfield 90030, 3) := by decide +kernel
theorem at50_45 : am_at 50 45 = some (.ifCond .eq 118, 3) := by decide +kernel
theorem at50_48 : am_at 50 48 = some (.aload_n 0, 1) := by decide +kernel
theorem at50_49 : am_at 50 49 = some (.getfield 60002, 3) := by decide +kernel
theorem at50_52 : am_at 50 52 = some (.ldc 1, 2) := by decide +kernel
theorem at50_54 : am_at 50 54 = some (.invokevirtual 96, 3) := by decide +kernel
theorem at50_57 : am_at 50 57 = some (.ifCond .eq 11, 3) := by decide +kernel
theorem at50_60 : am_at 50 60 = some (.aload_n 0, 1) := by decide +kernel
theorem at50_61 : am_at 50 61 = some (.aload_n 2, 1) := by decide +kernel
theorem at50_62 : am_at 50 62 = some (.invokevirtual 51, 3) := by decide +kernel
theorem at50_65 : am_at 50 65 = some (.goto 88, 3) := by decide +kernel
theorem at50_68 : am_at 50 68 = some (.aload_n 0, 1) := by decide +kernel
theorem at50_69 : am_at 50 69 = some (.getfield 60002, 3) := by decide +kernel
theorem at50_72 : am_at 50 72 = some (.ldc 2, 2) := by decide +kernel
theorem at50_74 : am_at 50 74 = some (.invokevirtual 96, 3) := by decide +kernel
theorem at50_77 : am_at 50 77 = some (.ifCond .eq 11, 3) := by decide +kernel
theorem at50_80 : am_at 50 80 = some (.aload_n 0, 1) := by decide +kernel
theorem at50_81 : am_at 50 81 = some (.aload_n 2, 1) := by decide +kernel
theorem at50_82 : am_at 50 82 = some (.invokevirtual 52, 3) := by decide +kernel
theorem at50_85 : am_at 50 85 = some (.goto 68, 3) := by decide +kernel
theorem at50_88 : am_at 50 88 = some (.aload_n 0, 1) := by decide +kernel
theorem at50_89 : am_at 50 89 = some (.getfield 60002, 3) := by decide +kernel
theorem at50_92 : am_at 50 92 = some (.ldc 4, 2) := by decide +kernel
theorem at50_94 : am_at 50 94 = some (.invokevirtual 96, 3) := by decide +kernel
theorem at50_97 : am_at 50 97 = some (.ifCond .eq 11, 3) := by decide +kernel
theorem at50_100 : am_at 50 100 = some (.aload_n 0, 1) := by decide +kernel
theorem at50_101 : am_at 50 101 = some (.aload_n 2, 1) := by decide +kernel
theorem at50_102 : am_at 50 102 = some (.invokevirtual 53, 3) := by decide +kernel
theorem at50_105 : am_at 50 105 = some (.goto 48, 3) := by decide +kernel
theorem at50_108 : am_at 50 108 = some (.aload_n 0, 1) := by decide +kernel
theorem at50_109 : am_at 50 109 = some (.getfield 60002, 3) := by decide +kernel
theorem at50_112 : am_at 50 112 = some (.ldc 5, 2) := by decide +kernel
theorem at50_114 : am_at 50 114 = some (.invokevirtual 96, 3) := by decide +kernel
theorem at50_117 : am_at 50 117 = some (.ifCond .eq 11, 3) := by decide +kernel
theorem at50_120 : am_at 50 120 = some (.aload_n 0, 1) := by decide +kernel
theorem at50_121 : am_at 50 121 = some (.aload_n 2, 1) := by decide +kernel
theorem at50_122 : am_at 50 122 = some (.invokevirtual 54, 3) := by decide +kernel
theorem at50_125 : am_at 50 125 = some (.goto 28, 3) := by decide +kernel
theorem at50_128 : am_at 50 128 = some (.aload_n 0, 1) := by decide +kernel
theorem at50_129 : am_at 50 129 = some (.getfield 60002, 3) := by decide +kernel
theorem at50_132 : am_at 50 132 = some (.ldc 6, 2) := by decide +kernel
theorem at50_134 : am_at 50 134 = some (.invokevirtual 96, 3) := by decide +kernel
theorem at50_137 : am_at 50 137 = some (.ifCond .eq 11, 3) := by decide +kernel
theorem at50_140 : am_at 50 140 = some (.aload_n 0, 1) := by decide +kernel
theorem at50_141 : am_at 50 141 = some (.aload_n 2, 1) := by decide +kernel
theorem at50_142 : am_at 50 142 = some (.invokevirtual 55, 3) := by decide +kernel
theorem at50_145 : am_at 50 145 = some (.goto 8, 3) := by decide +kernel
theorem at50_148 : am_at 50 148 = some (.aload_n 0, 1) := by decide +kernel
theorem at50_149 : am_at 50 149 = some (.iconst 1, 1) := by decide +kernel
theorem at50_150 : am_at 50 150 = some (.invokevirtual 66, 3) := by decide +kernel
theorem at50_153 : am_at 50 153 = some (.aload_n 0, 1) := by decide +kernel
theorem at50_154 : am_at 50 154 = some (.invokevirtual 65, 3) := by decide +kernel
theorem at50_157 : am_at 50 157 = some (.iinc 3 1, 3) := by decide +kernel
theorem at50_160 : am_at 50 160 = some (.goto (-136), 3) := by decide +kernel
theorem at50_163 : am_at 50 163 = some (.aload_n 0, 1) := by decide +kernel
theorem at50_164 : am_at 50 164 = some (.getfield 60010, 3) := by decide +kernel
theorem at50_167 : am_at 50 167 = some (.ireturn, 1) := by decide +kernel
theorem at51_0 : am_at 51 0 = some (.aload_n 1, 1) := by decide +kernel
theorem at51_1 : am_at 51 1 = some (.getfield 80000, 3) := by decide +kernel
theorem at51_4 : am_at 51 4 = some (.istore_n 2, 1) := by decide +kernel
theorem at51_5 : am_at 51 5 = some (.iload_n 2, 1) := by decide +kernel
theorem at51_6 : am_at 51 6 = some (.ifCond .lt 9, 3) := by decide +kernel
theorem at51_9 : am_at 51 9 = some (.iload_n 2, 1) := by decide +kernel
theorem at51_10 : am_at 51 10 = some (.bipush 6, 2) := by decide +kernel
theorem at51_12 : am_at 51 12 = some (.if_icmp .lt 9, 3) := by decide +kernel
theorem at51_15 : am_at 51 15 = some (.aload_n 0, 1) := by decide +kernel
theorem at51_16 : am_at 51 16 = some (.iconst 2, 1) := by decide +kernel
theorem at51_17 : am_at 51 17 = some (.invokevirtual 66, 3) := by decide +kernel
theorem at51_20 : am_at 51 20 = some (.return_, 1) := by decide +kernel
theorem at51_21 : am_at 51 21 = some (.aload_n 0, 1) := by decide +kernel
theorem at51_22 : am_at 51 22 = some (.getfield 60002, 3) := by decide +kernel
theorem at51_25 : am_at 51 25 = some (.invokevirtual 94, 3) := by decide +kernel
theorem at51_28 : am_at 51 28 = some (.aload_n 1, 1) := by decide +kernel
theorem at51_29 : am_at 51 29 = some (.getfield 80052, 3) := by decide +kernel
theorem at51_32 : am_at 51 32 = some (.iload_n 2, 1) := by decide +kernel
theorem at51_33 : am_at 51 33 = some (.aload_n 0, 1) := by decide +kernel
theorem at51_34 : am_at 51 34 = some (.iconst 0, 1) := by decide +kernel
theorem at51_35 : am_at 51 35 = some (.sipush 9999, 3) := by decide +kernel
theorem at51_38 : am_at 51 38 = some (.invokevirtual 62, 3) := by decide +kernel
theorem at51_41 : am_at 51 41 = some (.iastore, 1) := by decide +kernel
theorem at51_42 : am_at 51 42 = some (.aload_n 1, 1) := by decide +kernel
theorem at51_43 : am_at 51 43 = some (.getfield 80062, 3) := by decide +kernel
theorem at51_46 : am_at 51 46 = some (.iload_n 2, 1) := by decide +kernel
theorem at51_47 : am_at 51 47 = some (.aload_n 0, 1) := by decide +kernel
theorem at51_48 : am_at 51 48 = some (.iconst 0, 1) := by decide +kernel
theorem at51_49 : am_at 51 49 = some (.iconst 3, 1) := by decide +kernel
theorem at51_50 : am_at 51 50 = some (.invokevirtual 62, 3) := by decide +kernel
theorem at51_53 : am_at 51 53 = some (.iastore, 1) := by decide +kernel
theorem at51_54 : am_at 51 54 = some (.aload_n 1, 1) := by decide +kernel
theorem at51_55 : am_at 51 55 = some (.dup, 1) := by decide +kernel
theorem at51_56 : am_at 51 56 = some (.getfield 80000, 3) := by decide +kernel
theorem at51_59 : am_at 51 59 = some (.iconst 1, 1) := by decide +kernel
theorem at51_60 : am_at 51 60 = some (.iadd, 1) := by decide +kernel
theorem at51_61 : am_at 51 61 = some (.putfield 80000, 3) := by decide +kernel
theorem at51_64 : am_at 51 64 = some (.return_, 1) := by decide +kernel
theorem at52_0 : am_at 52 0 = some (.aload_n 1, 1) := by decide +kernel
theorem at52_1 : am_at 52 1 = some (.getfield 80010, 3) := by decide +kernel
theorem at52_4 : am_at 52 4 = some (.istore_n 2, 1) := by decide +kernel
theorem at52_5 : am_at 52 5 = some (.iload_n 2, 1) := by decide +kernel
theorem at52_6 : am_at 52 6 = some (.ifCond .lt 9, 3) := by decide +kernel
theorem at52_9 : am_at 52 9 = some (.iload_n 2, 1) := by decide +kernel
theorem at52_10 : am_at 52 10 = some (.bipush 10, 2) := by decide +kernel
theorem at52_12 : am_at 52 12 = some (.if_icmp .lt 9, 3) := by decide +kernel
theorem at52_15 : am_at 52 15 = some (.aload_n 0, 1) := by decide +kernel
theorem at52_16 : am_at 52 16 = some (.iconst 2, 1) := by decide +kernel
theorem at52_17 : am_at 52 17 = some (.invokevirtual 66, 3) := by decide +kernel
theorem at52_20 : am_at 52 20 = some (.return_, 1) := by decide +kernel
theorem at52_21 : am_at 52 21 = some (.aload_n 0, 1) := by decide +kernel
theorem at52_22 : am_at 52 22 = some (.getfield 60002, 3) := by decide +kernel
theorem at52_25 : am_at 52 25 = some (.invokevirtual 94, 3) := by decide +kernel
theorem at52_28 : am_at 52 28 = some (.aload_n 1, 1) := by decide +kernel
theorem at52_29 : am_at 52 29 = some (.getfield 80072, 3) := by decide +kernel
theorem at52_32 : am_at 52 32 = some (.iload_n 2, 1) := by decide +kernel
theorem at52_33 : am_at 52 33 = some (.aload_n 0, 1) := by decide +kernel
theorem at52_34 : am_at 52 34 = some (.iconst 0, 1) := by decide +kernel
theorem at52_35 : am_at 52 35 = some (.sipush 400, 3) := by decide +kernel
theorem at52_38 : am_at 52 38 = some (.invokevirtual 62, 3) := by decide +kernel
theorem at52_41 : am_at 52 41 = some (.iastore, 1) := by decide +kernel
theorem at52_42 : am_at 52 42 = some (.aload_n 1, 1) := by decide +kernel
theorem at52_43 : am_at 52 43 = some (.getfield 80082, 3) := by decide +kernel
theorem at52_46 : am_at 52 46 = some (.iload_n 2, 1) := by decide +kernel
theorem at52_47 : am_at 52 47 = some (.aload_n 0, 1) := by decide +kernel
theorem at52_48 : am_at 52 48 = some (.iconst 1, 1) := by decide +kernel
theorem at52_49 : am_at 52 49 = some (.bipush 9, 2) := by decide +kernel
theorem at52_51 : am_at 52 51 = some (.invokevirtual 62, 3) := by decide +kernel
theorem at52_54 : am_at 52 54 = some (.iastore, 1) := by decide +kernel
theorem at52_55 : am_at 52 55 = some (.aload_n 0, 1) := by decide +kernel
theorem at52_56 : am_at 52 56 = some (.aload_n 1, 1) := by decide +kernel
theorem at52_57 : am_at 52 57 = some (.iconst 0, 1) := by decide +kernel
theorem at52_58 : am_at 52 58 = some (.invokevirtual 63, 3) := by decide +kernel
theorem at52_61 : am_at 52 61 = some (.invokestatic 64, 3) := by decide +kernel
theorem at52_64 : am_at 52 64 = some (.istore_n 3, 1) := by decide +kernel
theorem at52_65 : am_at 52 65 = some (.iconst 0, 1) := by decide +kernel
theorem at52_66 : am_at 52 66 = some (.istore 4, 2) := by decide +kernel
theorem at52_68 : am_at 52 68 = some (.iload 4, 2) := by decide +kernel
theorem at52_70 : am_at 52 70 = some (.bipush 6, 2) := by decide +kernel
theorem at52_72 : am_at 52 72 = some (.if_icmp .gt 39, 3) := by decide +kernel
theorem at52_75 : am_at 52 75 = some (.aload_n 0, 1) := by decide +kernel
theorem at52_76 : am_at 52 76 = some (.getfield 60010, 3) := by decide +kernel
theorem at52_79 : am_at 52 79 = some (.ifCond .ne 32, 3) := by decide +kernel
theorem at52_82 : am_at 52 82 = some (.aload_n 0, 1) := by decide +kernel
theorem at52_83 : am_at 52 83 = some (.getfield 60002, 3) := by decide +kernel
theorem at52_86 : am_at 52 86 = some (.getfield 90030, 3) := by decide +kernel
theorem at52_89 : am_at 52 89 = some (.iconst 2, 1) := by decide +kernel
theorem at52_90 : am_at 52 90 = some (.if_icmp .ne 21, 3) := by decide +kernel
theorem at52_93 : am_at 52 93 = some (.iload_n 3, 1) := by decide +kernel
theorem at52_94 : am_at 52 94 = some (.aload_n 0, 1) := by decide +kernel
theorem at52_95 : am_at 52 95 = some (.aload_n 1, 1) := by decide +kernel
theorem at52_96 : am_at 52 96 = some (.iload_n 3, 1) := by decide +kernel
theorem at52_97 : am_at 52 97 = some (.invokevirtual 63, 3) := by decide +kernel
theorem at52_100 : am_at 52 100 = some (.invokestatic 64, 3) := by decide +kernel
theorem at52_103 : am_at 52 103 = some (.ior, 1) := by decide +kernel
theorem at52_104 : am_at 52 104 = some (.istore_n 3, 1) := by decide +kernel
theorem at52_105 : am_at 52 105 = some (.iinc 4 1, 3) := by decide +kernel
theorem at52_108 : am_at 52 108 = some (.goto (-40), 3) := by decide +kernel
theorem at52_111 : am_at 52 111 = some (.aload_n 1, 1) := by decide +kernel
theorem at52_112 : am_at 52 112 = some (.getfield 80092, 3) := by decide +kernel
theorem at52_115 : am_at 52 115 = some (.iload_n 2, 1) := by decide +kernel
theorem at52_116 : am_at 52 116 = some (.iload_n 3, 1) := by decide +kernel
theorem at52_117 : am_at 52 117 = some (.iastore, 1) := by decide +kernel
theorem at52_118 : am_at 52 118 = some (.aload_n 1, 1) := by decide +kernel
theorem at52_119 : am_at 52 119 = some (.getfield 80102, 3) := by decide +kernel
theorem at52_122 : am_at 52 122 = some (.iload_n 2, 1) := by decide +kernel
theorem at52_123 : am_at 52 123 = some (.iconst (-1), 1) := by decide +kernel
theorem at52_124 : am_at 52 124 = some (.iastore, 1) := by decide +kernel
theorem at52_125 : am_at 52 125 = some (.aload_n 1, 1) := by decide +kernel
theorem at52_126 : am_at 52 126 = some (.getfield 80112, 3) := by decide +kernel
theorem at52_129 : am_at 52 129 = some (.iload_n 2, 1) := by decide +kernel
theorem at52_130 : am_at 52 130 = some (.iconst (-1), 1) := by decide +kernel
theorem at52_131 : am_at 52 131 = some (.iastore, 1) := by decide +kernel
theorem at52_132 : am_at 52 132 = some (.aload_n 1, 1) := by decide +kernel
theorem at52_133 : am_at 52 133 = some (.getfield 80122, 3) := by decide +kernel
theorem at52_136 : am_at 52 136 = some (.iload_n 2, 1) := by decide +kernel
theorem at52_137 : am_at 52 137 = some (.iconst (-1), 1) := by decide +kernel
theorem at52_138 : am_at 52 138 = some (.iastore, 1) := by decide +kernel
theorem at52_139 : am_at 52 139 = some (.aload_n 0, 1) := by decide +kernel
theorem at52_140 : am_at 52 140 = some (.getfield 60010, 3) := by decide +kernel
theorem at52_143 : am_at 52 143 = some (.ifCond .ne 68, 3) := by decide +kernel
theorem at52_146 : am_at 52 146 = some (.aload_n 0, 1) := by decide +kernel
theorem at52_147 : am_at 52 147 = some (.getfield 60002, 3) := by decide +kernel
theorem at52_150 : am_at 52 150 = some (.ldc 3, 2) := by decide +kernel
theorem at52_152 : am_at 52 152 = some (.invokevirtual 96, 3) := by decide +kernel
theorem at52_155 : am_at 52 155 = some (.ifCond .eq 56, 3) := by decide +kernel
theorem at52_158 : am_at 52 158 = some (.aload_n 0, 1) := by decide +kernel
theorem at52_159 : am_at 52 159 = some (.getfield 60002, 3) := by decide +kernel
theorem at52_162 : am_at 52 162 = some (.invokevirtual 94, 3) := by decide +kernel
theorem at52_165 : am_at 52 165 = some (.aload_n 1, 1) := by decide +kernel
theorem at52_166 : am_at 52 166 = some (.getfield 80102, 3) := by decide +kernel
theorem at52_169 : am_at 52 169 = some (.iload_n 2, 1) := by decide +kernel
theorem at52_170 : am_at 52 170 = some (.aload_n 0, 1) := by decide +kernel
theorem at52_171 : am_at 52 171 = some (.aload_n 1, 1) := by decide +kernel
theorem at52_172 : am_at 52 172 = some (.iconst 0, 1) := by decide +kernel
theorem at52_173 : am_at 52 173 = some (.invokevirtual 63, 3) := by decide +kernel
theorem at52_176 : am_at 52 176 = some (.iastore, 1) := by decide +kernel
theorem at52_177 : am_at 52 177 = some (.aload_n 1, 1) := by decide +kernel
theorem at52_178 : am_at 52 178 = some (.getfield 80112, 3) := by decide +kernel
theorem at52_181 : am_at 52 181 = some (.iload_n 2, 1) := by decide +kernel
theorem at52_182 : am_at 52 182 = some (.aload_n 0, 1) := by decide +kernel
theorem at52_183 : am_at 52 183 = some (.aload_n 1, 1) := by decide +kernel
theorem at52_184 : am_at 52 184 = some (.aload_n 1, 1) := by decide +kernel
theorem at52_185 : am_at 52 185 = some (.getfield 80102, 3) := by decide +kernel
theorem at52_188 : am_at 52 188 = some (.iload_n 2, 1) := by decide +kernel
theorem at52_189 : am_at 52 189 = some (.iaload, 1) := by decide +kernel
theorem at52_190 : am_at 52 190 = some (.invokestatic 64, 3) := by decide +kernel
theorem at52_193 : am_at 52 193 = some (.invokevirtual 63, 3) := by decide +kernel
theorem at52_196 : am_at 52 196 = some (.iastore, 1) := by decide +kernel
theorem at52_197 : am_at 52 197 = some (.aload_n 1, 1) := by decide +kernel
theorem at52_198 : am_at 52 198 = some (.getfield 80122, 3) := by decide +kernel
theorem at52_201 : am_at 52 201 = some (.iload_n 2, 1) := by decide +kernel
theorem at52_202 : am_at 52 202 = some (.aload_n 0, 1) := by decide +kernel
theorem at52_203 : am_at 52 203 = some (.iconst 1, 1) := by decide +kernel
theorem at52_204 : am_at 52 204 = some (.sipush 999, 3) := by decide +kernel
theorem at52_207 : am_at 52 207 = some (.invokevirtual 62, 3) := by decide +kernel
theorem at52_210 : am_at 52 210 = some (.iastore, 1) := by decide +kernel
theorem at52_211 : am_at 52 211 = some (.aload_n 1, 1) := by decide +kernel
theorem at52_212 : am_at 52 212 = some (.dup, 1) := by decide +kernel
theorem at52_213 : am_at 52 213 = some (.getfield 80010, 3) := by decide +kernel
theorem at52_216 : am_at 52 216 = some (.iconst 1, 1) := by decide +kernel
theorem at52_217 : am_at 52 217 = some (.iadd, 1) := by decide +kernel
theorem at52_218 : am_at 52 218 = some (.putfield 80010, 3) := by decide +kernel
theorem at52_221 : am_at 52 221 = some (.return_, 1) := by decide +kernel
theorem at53_0 : am_at 53 0 = some (.aload_n 1, 1) := by decide +kernel
theorem at53_1 : am_at 53 1 = some (.getfield 80020, 3) := by decide +kernel
theorem at53_4 : am_at 53 4 = some (.istore_n 2, 1) := by decide +kernel
theorem at53_5 : am_at 53 5 = some (.iload_n 2, 1) := by decide +kernel
theorem at53_6 : am_at 53 6 = some (.ifCond .lt 9, 3) := by decide +kernel
theorem at53_9 : am_at 53 9 = some (.iload_n 2, 1) := by decide +kernel
theorem at53_10 : am_at 53 10 = some (.bipush 10, 2) := by decide +kernel
theorem at53_12 : am_at 53 12 = some (.if_icmp .lt 9, 3) := by decide +kernel
theorem at53_15 : am_at 53 15 = some (.aload_n 0, 1) := by decide +kernel
theorem at53_16 : am_at 53 16 = some (.iconst 2, 1) := by decide +kernel
theorem at53_17 : am_at 53 17 = some (.invokevirtual 66, 3) := by decide +kernel
theorem at53_20 : am_at 53 20 = some (.return_, 1) := by decide +kernel
theorem at53_21 : am_at 53 21 = some (.aload_n 0, 1) := by decide +kernel
theorem at53_22 : am_at 53 22 = some (.getfield 60002, 3) := by decide +kernel
theorem at53_25 : am_at 53 25 = some (.invokevirtual 94, 3) := by decide +kernel
theorem at53_28 : am_at 53 28 = some (.aload_n 0, 1) := by decide +kernel
theorem at53_29 : am_at 53 29 = some (.aload_n 1, 1) := by decide +kernel
theorem at53_30 : am_at 53 30 = some (.iconst 0, 1) := by decide +kernel
theorem at53_31 : am_at 53 31 = some (.invokevirtual 63, 3) := by decide +kernel
theorem at53_34 : am_at 53 34 = some (.istore_n 3, 1) := by decide +kernel
theorem at53_35 : am_at 53 35 = some (.aload_n 1, 1) := by decide +kernel
theorem at53_36 : am_at 53 36 = some (.getfield 80142, 3) := by decide +kernel
theorem at53_39 : am_at 53 39 = some (.iload_n 2, 1) := by decide +kernel
theorem at53_40 : am_at 53 40 = some (.aload_n 0, 1) := by decide +kernel
theorem at53_41 : am_at 53 41 = some (.aload_n 1, 1) := by decide +kernel
theorem at53_42 : am_at 53 42 = some (.iload_n 3, 1) := by decide +kernel
theorem at53_43 : am_at 53 43 = some (.invokestatic 64, 3) := by decide +kernel
theorem at53_46 : am_at 53 46 = some (.aload_n 1, 1) := by decide +kernel
theorem at53_47 : am_at 53 47 = some (.iload_n 3, 1) := by decide +kernel
theorem at53_48 : am_at 53 48 = some (.invokevirtual 87, 3) := by decide +kernel
theorem at53_51 : am_at 53 51 = some (.ior, 1) := by decide +kernel
theorem at53_52 : am_at 53 52 = some (.invokevirtual 63, 3) := by decide +kernel
theorem at53_55 : am_at 53 55 = some (.iastore, 1) := by decide +kernel
theorem at53_56 : am_at 53 56 = some (.aload_n 1, 1) := by decide +kernel
theorem at53_57 : am_at 53 57 = some (.getfield 80132, 3) := by decide +kernel
theorem at53_60 : am_at 53 60 = some (.iload_n 2, 1) := by decide +kernel
theorem at53_61 : am_at 53 61 = some (.iload_n 3, 1) := by decide +kernel
theorem at53_62 : am_at 53 62 = some (.iastore, 1) := by decide +kernel
theorem at53_63 : am_at 53 63 = some (.aload_n 1, 1) := by decide +kernel
theorem at53_64 : am_at 53 64 = some (.dup, 1) := by decide +kernel
theorem at53_65 : am_at 53 65 = some (.getfield 80020, 3) := by decide +kernel
theorem at53_68 : am_at 53 68 = some (.iconst 1, 1) := by decide +kernel
theorem at53_69 : am_at 53 69 = some (.iadd, 1) := by decide +kernel
theorem at53_70 : am_at 53 70 = some (.putfield 80020, 3) := by decide +kernel
theorem at53_73 : am_at 53 73 = some (.return_, 1) := by decide +kernel
theorem at54_0 : am_at 54 0 = some (.aload_n 1, 1) := by decide +kernel
theorem at54_1 : am_at 54 1 = some (.getfield 80030, 3) := by decide +kernel
theorem at54_4 : am_at 54 4 = some (.istore_n 2, 1) := by decide +kernel
theorem at54_5 : am_at 54 5 = some (.iload_n 2, 1) := by decide +kernel
theorem at54_6 : am_at 54 6 = some (.ifCond .lt 9, 3) := by decide +kernel
theorem at54_9 : am_at 54 9 = some (.iload_n 2, 1) := by decide +kernel
theorem at54_10 : am_at 54 10 = some (.bipush 8, 2) := by decide +kernel
theorem at54_12 : am_at 54 12 = some (.if_icmp .lt 9, 3) := by decide +kernel
theorem at54_15 : am_at 54 15 = some (.aload_n 0, 1) := by decide +kernel
theorem at54_16 : am_at 54 16 = some (.iconst 2, 1) := by decide +kernel
theorem at54_17 : am_at 54 17 = some (.invokevirtual 66, 3) := by decide +kernel
theorem at54_20 : am_at 54 20 = some (.return_, 1) := by decide +kernel
theorem at54_21 : am_at 54 21 = some (.aload_n 0, 1) := by decide +kernel
theorem at54_22 : am_at 54 22 = some (.getfield 60002, 3) := by decide +kernel
theorem at54_25 : am_at 54 25 = some (.invokevirtual 94, 3) := by decide +kernel
theorem at54_28 : am_at 54 28 = some (.aload_n 0, 1) := by decide +kernel
theorem at54_29 : am_at 54 29 = some (.getfield 60002, 3) := by decide +kernel
theorem at54_32 : am_at 54 32 = some (.getfield 90040, 3) := by decide +kernel
theorem at54_35 : am_at 54 35 = some (.istore_n 3, 1) := by decide +kernel
theorem at54_36 : am_at 54 36 = some (.aload_n 0, 1) := by decide +kernel
theorem at54_37 : am_at 54 37 = some (.iconst 0, 1) := by decide +kernel
theorem at54_38 : am_at 54 38 = some (.sipush 400, 3) := by decide +kernel
theorem at54_41 : am_at 54 41 = some (.invokevirtual 62, 3) := by decide +kernel
theorem at54_44 : am_at 54 44 = some (.istore 4, 2) := by decide +kernel
theorem at54_46 : am_at 54 46 = some (.aload_n 1, 1) := by decide +kernel
theorem at54_47 : am_at 54 47 = some (.iload 4, 2) := by decide +kernel
theorem at54_49 : am_at 54 49 = some (.invokevirtual 85, 3) := by decide +kernel
theorem at54_52 : am_at 54 52 = some (.ifCond .eq 9, 3) := by decide +kernel
theorem at54_55 : am_at 54 55 = some (.aload_n 0, 1) := by decide +kernel
theorem at54_56 : am_at 54 56 = some (.iconst 4, 1) := by decide +kernel
theorem at54_57 : am_at 54 57 = some (.iload_n 3, 1) := by decide +kernel
theorem at54_58 : am_at 54 58 = some (.invokevirtual 67, 3) := by decide +kernel
theorem at54_61 : am_at 54 61 = some (.aload_n 1, 1) := by decide +kernel
theorem at54_62 : am_at 54 62 = some (.getfield 80152, 3) := by decide +kernel
theorem at54_65 : am_at 54 65 = some (.iload_n 2, 1) := by decide +kernel
theorem at54_66 : am_at 54 66 = some (.iload 4, 2) := by decide +kernel
theorem at54_68 : am_at 54 68 = some (.iastore, 1) := by decide +kernel
theorem at54_69 : am_at 54 69 = some (.aload_n 1, 1) := by decide +kernel
theorem at54_70 : am_at 54 70 = some (.getfield 80162, 3) := by decide +kernel
theorem at54_73 : am_at 54 73 = some (.iload_n 2, 1) := by decide +kernel
theorem at54_74 : am_at 54 74 = some (.aload_n 0, 1) := by decide +kernel
theorem at54_75 : am_at 54 75 = some (.iconst 0, 1) := by decide +kernel
theorem at54_76 : am_at 54 76 = some (.bipush 99, 2) := by decide +kernel
theorem at54_78 : am_at 54 78 = some (.invokevirtual 62, 3) := by decide +kernel
theorem at54_81 : am_at 54 81 = some (.iastore, 1) := by decide +kernel
theorem at54_82 : am_at 54 82 = some (.aload_n 1, 1) := by decide +kernel
theorem at54_83 : am_at 54 83 = some (.dup, 1) := by decide +kernel
theorem at54_84 : am_at 54 84 = some (.getfield 80030, 3) := by decide +kernel
theorem at54_87 : am_at 54 87 = some (.iconst 1, 1) := by decide +kernel
theorem at54_88 : am_at 54 88 = some (.iadd, 1) := by decide +kernel
theorem at54_89 : am_at 54 89 = some (.putfield 80030, 3) := by decide +kernel
theorem at54_92 : am_at 54 92 = some (.return_, 1) := by decide +kernel
theorem at55_0 : am_at 55 0 = some (.aload_n 1, 1) := by decide +kernel
theorem at55_1 : am_at 55 1 = some (.getfield 80041, 3) := by decide +kernel
theorem at55_4 : am_at 55 4 = some (.ifCond .eq 9, 3) := by decide +kernel
theorem at55_7 : am_at 55 7 = some (.aload_n 0, 1) := by decide +kernel
theorem at55_8 : am_at 55 8 = some (.iconst 5, 1) := by decide +kernel
theorem at55_9 : am_at 55 9 = some (.invokevirtual 66, 3) := by decide +kernel
theorem at55_12 : am_at 55 12 = some (.return_, 1) := by decide +kernel
theorem at55_13 : am_at 55 13 = some (.aload_n 0, 1) := by decide +kernel
theorem at55_14 : am_at 55 14 = some (.getfield 60002, 3) := by decide +kernel
theorem at55_17 : am_at 55 17 = some (.invokevirtual 94, 3) := by decide +kernel
theorem at55_20 : am_at 55 20 = some (.aload_n 1, 1) := by decide +kernel
theorem at55_21 : am_at 55 21 = some (.iconst 1, 1) := by decide +kernel
theorem at55_22 : am_at 55 22 = some (.putfield 80041, 3) := by decide +kernel
theorem at55_25 : am_at 55 25 = some (.aload_n 0, 1) := by decide +kernel
theorem at55_26 : am_at 55 26 = some (.iconst 1, 1) := by decide +kernel
theorem at55_27 : am_at 55 27 = some (.putfield 60031, 3) := by decide +kernel
theorem at55_30 : am_at 55 30 = some (.aload_n 0, 1) := by decide +kernel
theorem at55_31 : am_at 55 31 = some (.iconst 1, 1) := by decide +kernel
theorem at55_32 : am_at 55 32 = some (.putfield 60041, 3) := by decide +kernel
theorem at55_35 : am_at 55 35 = some (.aload_n 0, 1) := by decide +kernel
theorem at55_36 : am_at 55 36 = some (.iconst 0, 1) := by decide +kernel
theorem at55_37 : am_at 55 37 = some (.putfield 60050, 3) := by decide +kernel
theorem at55_40 : am_at 55 40 = some (.aload_n 0, 1) := by decide +kernel
theorem at55_41 : am_at 55 41 = some (.iconst 0, 1) := by decide +kernel
theorem at55_42 : am_at 55 42 = some (.putfield 60060, 3) := by decide +kernel
theorem at55_45 : am_at 55 45 = some (.iconst 0, 1) := by decide +kernel
theorem at55_46 : am_at 55 46 = some (.istore_n 2, 1) := by decide +kernel
theorem at55_47 : am_at 55 47 = some (.iload_n 2, 1) := by decide +kernel
theorem at55_48 : am_at 55 48 = some (.sipush 700, 3) := by decide +kernel
theorem at55_51 : am_at 55 51 = some (.if_icmp .ge 64, 3) := by decide +kernel
theorem at55_54 : am_at 55 54 = some (.aload_n 0, 1) := by decide +kernel
theorem at55_55 : am_at 55 55 = some (.getfield 60010, 3) := by decide +kernel
theorem at55_58 : am_at 55 58 = some (.ifCond .ne 57, 3) := by decide +kernel
theorem at55_61 : am_at 55 61 = some (.aload_n 0, 1) := by decide +kernel
theorem at55_62 : am_at 55 62 = some (.getfield 60031, 3) := by decide +kernel
theorem at55_65 : am_at 55 65 = some (.ifCond .eq 14, 3) := by decide +kernel
theorem at55_68 : am_at 55 68 = some (.aload_n 0, 1) := by decide +kernel
theorem at55_69 : am_at 55 69 = some (.aload_n 1, 1) := by decide +kernel
theorem at55_70 : am_at 55 70 = some (.getfield 80172, 3) := by decide +kernel
theorem at55_73 : am_at 55 73 = some (.invokevirtual 56, 3) := by decide +kernel
theorem at55_76 : am_at 55 76 = some (.goto 33, 3) := by decide +kernel
theorem at55_79 : am_at 55 79 = some (.aload_n 0, 1) := by decide +kernel
theorem at55_80 : am_at 55 80 = some (.getfield 60050, 3) := by decide +kernel
theorem at55_83 : am_at 55 83 = some (.ifCond .ne 18, 3) := by decide +kernel
theorem at55_86 : am_at 55 86 = some (.aload_n 0, 1) := by decide +kernel
theorem at55_87 : am_at 55 87 = some (.getfield 60002, 3) := by decide +kernel
theorem at55_90 : am_at 55 90 = some (.bipush 59, 2) := by decide +kernel
theorem at55_92 : am_at 55 92 = some (.invokevirtual 97, 3) := by decide +kernel
theorem at55_95 : am_at 55 95 = some (.ifCond .eq 6, 3) := by decide +kernel
theorem at55_98 : am_at 55 98 = some (.goto 17, 3) := by decide +kernel
theorem at55_101 : am_at 55 101 = some (.aload_n 0, 1) := by decide +kernel
theorem at55_102 : am_at 55 102 = some (.aload_n 1, 1) := by decide +kernel
theorem at55_103 : am_at 55 103 = some (.getfield 80172, 3) := by decide +kernel
theorem at55_106 : am_at 55 106 = some (.invokevirtual 59, 3) := by decide +kernel
theorem at55_109 : am_at 55 109 = some (.iinc 2 1, 3) := by decide +kernel
theorem at55_112 : am_at 55 112 = some (.goto (-65), 3) := by decide +kernel
theorem at55_115 : am_at 55 115 = some (.aload_n 1, 1) := by decide +kernel
theorem at55_116 : am_at 55 116 = some (.getfield 80172, 3) := by decide +kernel
theorem at55_119 : am_at 55 119 = some (.iconst 1, 1) := by decide +kernel
theorem at55_120 : am_at 55 120 = some (.invokevirtual 76, 3) := by decide +kernel
theorem at55_123 : am_at 55 123 = some (.return_, 1) := by decide +kernel
theorem at56_0 : am_at 56 0 = some (.aload_n 0, 1) := by decide +kernel
theorem at56_1 : am_at 56 1 = some (.getfield 60002, 3) := by decide +kernel
theorem at56_4 : am_at 56 4 = some (.getfield 90030, 3) := by decide +kernel
theorem at56_7 : am_at 56 7 = some (.iconst 2, 1) := by decide +kernel
theorem at56_8 : am_at 56 8 = some (.if_icmp .eq 34, 3) := by decide +kernel
theorem at56_11 : am_at 56 11 = some (.aload_n 0, 1) := by decide +kernel
theorem at56_12 : am_at 56 12 = some (.getfield 60002, 3) := by decide +kernel
theorem at56_15 : am_at 56 15 = some (.getfield 90030, 3) := by decide +kernel
theorem at56_18 : am_at 56 18 = some (.iconst 1, 1) := by decide +kernel
theorem at56_19 : am_at 56 19 = some (.if_icmp .eq 23, 3) := by decide +kernel
theorem at56_22 : am_at 56 22 = some (.aload_n 0, 1) := by decide +kernel
theorem at56_23 : am_at 56 23 = some (.getfield 60002, 3) := by decide +kernel
theorem at56_26 : am_at 56 26 = some (.bipush 40, 2) := by decide +kernel
theorem at56_28 : am_at 56 28 = some (.invokevirtual 97, 3) := by decide +kernel
theorem at56_31 : am_at 56 31 = some (.ifCond .ne 11, 3) := by decide +kernel
theorem at56_34 : am_at 56 34 = some (.aload_n 0, 1) := by decide +kernel
theorem at56_35 : am_at 56 35 = some (.iconst 1, 1) := by decide +kernel
theorem at56_36 : am_at 56 36 = some (.invokevirtual 66, 3) := by decide +kernel
theorem at56_39 : am_at 56 39 = some (.goto 95, 3) := by decide +kernel
theorem at56_42 : am_at 56 42 = some (.aload_n 0, 1) := by decide +kernel
theorem at56_43 : am_at 56 43 = some (.getfield 60050, 3) := by decide +kernel
theorem at56_46 : am_at 56 46 = some (.bipush 6, 2) := by decide +kernel
theorem at56_48 : am_at 56 48 = some (.if_icmp .lt 11, 3) := by decide +kernel
theorem at56_51 : am_at 56 51 = some (.aload_n 0, 1) := by decide +kernel
theorem at56_52 : am_at 56 52 = some (.iconst 2, 1) := by decide +kernel
theorem at56_53 : am_at 56 53 = some (.invokevirtual 66, 3) := by decide +kernel
theorem at56_56 : am_at 56 56 = some (.goto 78, 3) := by decide +kernel
theorem at56_59 : am_at 56 59 = some (.aload_n 0, 1) := by decide +kernel
theorem at56_60 : am_at 56 60 = some (.getfield 60041, 3) := by decide +kernel
theorem at56_63 : am_at 56 63 = some (.ifCond .eq 23, 3) := by decide +kernel
theorem at56_66 : am_at 56 66 = some (.aload_n 0, 1) := by decide +kernel
theorem at56_67 : am_at 56 67 = some (.getfield 60002, 3) := by decide +kernel
theorem at56_70 : am_at 56 70 = some (.ldc 7, 2) := by decide +kernel
theorem at56_72 : am_at 56 72 = some (.invokevirtual 96, 3) := by decide +kernel
theorem at56_75 : am_at 56 75 = some (.ifCond .eq 11, 3) := by decide +kernel
theorem at56_78 : am_at 56 78 = some (.aload_n 0, 1) := by decide +kernel
theorem at56_79 : am_at 56 79 = some (.aload_n 1, 1) := by decide +kernel
theorem at56_80 : am_at 56 80 = some (.invokevirtual 57, 3) := by decide +kernel
theorem at56_83 : am_at 56 83 = some (.goto 51, 3) := by decide +kernel
theorem at56_86 : am_at 56 86 = some (.aload_n 0, 1) := by decide +kernel
theorem at56_87 : am_at 56 87 = some (.getfield 60002, 3) := by decide +kernel
theorem at56_90 : am_at 56 90 = some (.bipush 40, 2) := by decide +kernel
theorem at56_92 : am_at 56 92 = some (.invokevirtual 97, 3) := by decide +kernel
theorem at56_95 : am_at 56 95 = some (.ifCond .eq 34, 3) := by decide +kernel
theorem at56_98 : am_at 56 98 = some (.aload_n 1, 1) := by decide +kernel
theorem at56_99 : am_at 56 99 = some (.bipush (-17), 2) := by decide +kernel
theorem at56_101 : am_at 56 101 = some (.invokevirtual 74, 3) := by decide +kernel
theorem at56_104 : am_at 56 104 = some (.aload_n 0, 1) := by decide +kernel
theorem at56_105 : am_at 56 105 = some (.dup, 1) := by decide +kernel
theorem at56_106 : am_at 56 106 = some (.getfield 60050, 3) := by decide +kernel
theorem at56_109 : am_at 56 109 = some (.iconst 1, 1) := by decide +kernel
theorem at56_110 : am_at 56 110 = some (.iadd, 1) := by decide +kernel
theorem at56_111 : am_at 56 111 = some (.putfield 60050, 3) := by decide +kernel
theorem at56_114 : am_at 56 114 = some (.aload_n 0, 1) := by decide +kernel
theorem at56_115 : am_at 56 115 = some (.iconst 1, 1) := by decide +kernel
theorem at56_116 : am_at 56 116 = some (.invokevirtual 61, 3) := by decide +kernel
theorem at56_119 : am_at 56 119 = some (.aload_n 0, 1) := by decide +kernel
theorem at56_120 : am_at 56 120 = some (.getfield 60002, 3) := by decide +kernel
theorem at56_123 : am_at 56 123 = some (.invokevirtual 94, 3) := by decide +kernel
theorem at56_126 : am_at 56 126 = some (.goto 8, 3) := by decide +kernel
theorem at56_129 : am_at 56 129 = some (.aload_n 0, 1) := by decide +kernel
theorem at56_130 : am_at 56 130 = some (.aload_n 1, 1) := by decide +kernel
theorem at56_131 : am_at 56 131 = some (.invokevirtual 58, 3) := by decide +kernel
theorem at56_134 : am_at 56 134 = some (.return_, 1) := by decide +kernel
theorem at57_0 : am_at 57 0 = some (.aload_n 0, 1) := by decide +kernel
theorem at57_1 : am_at 57 1 = some (.getfield 60060, 3) := by decide +kernel
theorem at57_4 : am_at 57 4 = some (.bipush 6, 2) := by decide +kernel
theorem at57_6 : am_at 57 6 = some (.if_icmp .lt 9, 3) := by decide +kernel
theorem at57_9 : am_at 57 9 = some (.aload_n 0, 1) := by decide +kernel
theorem at57_10 : am_at 57 10 = some (.iconst 2, 1) := by decide +kernel
theorem at57_11 : am_at 57 11 = some (.invokevirtual 66, 3) := by decide +kernel
theorem at57_14 : am_at 57 14 = some (.return_, 1) := by decide +kernel
theorem at57_15 : am_at 57 15 = some (.aload_n 0, 1) := by decide +kernel
theorem at57_16 : am_at 57 16 = some (.dup, 1) := by decide +kernel
theorem at57_17 : am_at 57 17 = some (.getfield 60060, 3) := by decide +kernel
theorem at57_20 : am_at 57 20 = some (.iconst 1, 1) := by decide +kernel
theorem at57_21 : am_at 57 21 = some (.iadd, 1) := by decide +kernel
theorem at57_22 : am_at 57 22 = some (.putfield 60060, 3) := by decide +kernel
theorem at57_25 : am_at 57 25 = some (.aload_n 1, 1) := by decide +kernel
theorem at57_26 : am_at 57 26 = some (.bipush (-8), 2) := by decide +kernel
theorem at57_28 : am_at 57 28 = some (.invokevirtual 74, 3) := by decide +kernel
theorem at57_31 : am_at 57 31 = some (.aload_n 0, 1) := by decide +kernel
theorem at57_32 : am_at 57 32 = some (.getfield 60002, 3) := by decide +kernel
theorem at57_35 : am_at 57 35 = some (.invokevirtual 94, 3) := by decide +kernel
theorem at57_38 : am_at 57 38 = some (.return_, 1) := by decide +kernel
theorem at58_0 : am_at 58 0 = some (.aload_n 0, 1) := by decide +kernel
theorem at58_1 : am_at 58 1 = some (.getfield 60002, 3) := by decide +kernel
theorem at58_4 : am_at 58 4 = some (.getfield 90030, 3) := by decide +kernel
theorem at58_7 : am_at 58 7 = some (.iconst 2, 1) := by decide +kernel
theorem at58_8 : am_at 58 8 = some (.if_icmp .ne 13, 3) := by decide +kernel
theorem at58_11 : am_at 58 11 = some (.aload_n 0, 1) := by decide +kernel
theorem at58_12 : am_at 58 12 = some (.getfield 60002, 3) := by decide +kernel
theorem at58_15 : am_at 58 15 = some (.getfield 90060, 3) := by decide +kernel
theorem at58_18 : am_at 58 18 = some (.goto 10, 3) := by decide +kernel
theorem at58_21 : am_at 58 21 = some (.aload_n 0, 1) := by decide +kernel
theorem at58_22 : am_at 58 22 = some (.getfield 60002, 3) := by decide +kernel
theorem at58_25 : am_at 58 25 = some (.invokestatic 69, 3) := by decide +kernel
theorem at58_28 : am_at 58 28 = some (.istore_n 2, 1) := by decide +kernel
theorem at58_29 : am_at 58 29 = some (.iload_n 2, 1) := by decide +kernel
theorem at58_30 : am_at 58 30 = some (.bipush (-18), 2) := by decide +kernel
theorem at58_32 : am_at 58 32 = some (.if_icmp .ne 11, 3) := by decide +kernel
theorem at58_35 : am_at 58 35 = some (.aload_n 0, 1) := by decide +kernel
theorem at58_36 : am_at 58 36 = some (.iconst 3, 1) := by decide +kernel
theorem at58_37 : am_at 58 37 = some (.invokevirtual 66, 3) := by decide +kernel
theorem at58_40 : am_at 58 40 = some (.goto 35, 3) := by decide +kernel
theorem at58_43 : am_at 58 43 = some (.iload_n 2, 1) := by decide +kernel
theorem at58_44 : am_at 58 44 = some (.sipush 10000, 3) := by decide +kernel
theorem at58_47 : am_at 58 47 = some (.if_icmp .lt 11, 3) := by decide +kernel
theorem at58_50 : am_at 58 50 = some (.aload_n 0, 1) := by decide +kernel
theorem at58_51 : am_at 58 51 = some (.iconst 2, 1) := by decide +kernel
theorem at58_52 : am_at 58 52 = some (.invokevirtual 66, 3) := by decide +kernel
theorem at58_55 : am_at 58 55 = some (.goto 20, 3) := by decide +kernel
theorem at58_58 : am_at 58 58 = some (.aload_n 1, 1) := by decide +kernel
theorem at58_59 : am_at 58 59 = some (.iload_n 2, 1) := by decide +kernel
theorem at58_60 : am_at 58 60 = some (.invokevirtual 73, 3) := by decide +kernel
theorem at58_63 : am_at 58 63 = some (.aload_n 0, 1) := by decide +kernel
theorem at58_64 : am_at 58 64 = some (.iconst 0, 1) := by decide +kernel
theorem at58_65 : am_at 58 65 = some (.putfield 60031, 3) := by decide +kernel
theorem at58_68 : am_at 58 68 = some (.aload_n 0, 1) := by decide +kernel
theorem at58_69 : am_at 58 69 = some (.getfield 60002, 3) := by decide +kernel
theorem at58_72 : am_at 58 72 = some (.invokevirtual 94, 3) := by decide +kernel
theorem at58_75 : am_at 58 75 = some (.return_, 1) := by decide +kernel
theorem at59_0 : am_at 59 0 = some (.aload_n 0, 1) := by decide +kernel
theorem at59_1 : am_at 59 1 = some (.getfield 60002, 3) := by decide +kernel
theorem at59_4 : am_at 59 4 = some (.invokestatic 70, 3) := by decide +kernel
theorem at59_7 : am_at 59 7 = some (.istore_n 2, 1) := by decide +kernel
theorem at59_8 : am_at 59 8 = some (.iload_n 2, 1) := by decide +kernel
theorem at59_9 : am_at 59 9 = some (.bipush (-18), 2) := by decide +kernel
theorem at59_11 : am_at 59 11 = some (.if_icmp .ne 9, 3) := by decide +kernel
theorem at59_14 : am_at 59 14 = some (.aload_n 0, 1) := by decide +kernel
theorem at59_15 : am_at 59 15 = some (.aload_n 1, 1) := by decide +kernel
theorem at59_16 : am_at 59 16 = some (.invokevirtual 60, 3) := by decide +kernel
theorem at59_19 : am_at 59 19 = some (.return_, 1) := by decide +kernel
theorem at59_20 : am_at 59 20 = some (.iload_n 2, 1) := by decide +kernel
theorem at59_21 : am_at 59 21 = some (.invokestatic 71, 3) := by decide +kernel
theorem at59_24 : am_at 59 24 = some (.istore_n 3, 1) := by decide +kernel
theorem at59_25 : am_at 59 25 = some (.iload_n 3, 1) := by decide +kernel
theorem at59_26 : am_at 59 26 = some (.iconst 4, 1) := by decide +kernel
theorem at59_27 : am_at 59 27 = some (.if_icmp .ne 7, 3) := by decide +kernel
theorem at59_30 : am_at 59 30 = some (.iconst 1, 1) := by decide +kernel
theorem at59_31 : am_at 59 31 = some (.goto 4, 3) := by decide +kernel
theorem at59_34 : am_at 59 34 = some (.iconst 0, 1) := by decide +kernel
theorem at59_35 : am_at 59 35 = some (.istore 4, 2) := by decide +kernel
theorem at59_37 : am_at 59 37 = some (.aload_n 1, 1) := by decide +kernel
theorem at59_38 : am_at 59 38 = some (.iload 4, 2) := by decide +kernel
theorem at59_40 : am_at 59 40 = some (.ifCond .eq 9, 3) := by decide +kernel
theorem at59_43 : am_at 59 43 = some (.iload_n 3, 1) := by decide +kernel
theorem at59_44 : am_at 59 44 = some (.iconst 1, 1) := by decide +kernel
theorem at59_45 : am_at 59 45 = some (.iadd, 1) := by decide +kernel
theorem at59_46 : am_at 59 46 = some (.goto 4, 3) := by decide +kernel
theorem at59_49 : am_at 59 49 = some (.iload_n 3, 1) := by decide +kernel
theorem at59_50 : am_at 59 50 = some (.invokevirtual 76, 3) := by decide +kernel
theorem at59_53 : am_at 59 53 = some (.iload 4, 2) := by decide +kernel
theorem at59_55 : am_at 59 55 = some (.ifCond .eq 17, 3) := by decide +kernel
theorem at59_58 : am_at 59 58 = some (.aload_n 1, 1) := by decide +kernel
theorem at59_59 : am_at 59 59 = some (.invokevirtual 75, 3) := by decide +kernel
theorem at59_62 : am_at 59 62 = some (.iload_n 3, 1) := by decide +kernel
theorem at59_63 : am_at 59 63 = some (.if_icmp .ne 9, 3) := by decide +kernel
theorem at59_66 : am_at 59 66 = some (.aload_n 0, 1) := by decide +kernel
theorem at59_67 : am_at 59 67 = some (.iconst 1, 1) := by decide +kernel
theorem at59_68 : am_at 59 68 = some (.invokevirtual 66, 3) := by decide +kernel
theorem at59_71 : am_at 59 71 = some (.return_, 1) := by decide +kernel
theorem at59_72 : am_at 59 72 = some (.aload_n 1, 1) := by decide +kernel
theorem at59_73 : am_at 59 73 = some (.iload_n 2, 1) := by decide +kernel
theorem at59_74 : am_at 59 74 = some (.invokevirtual 74, 3) := by decide +kernel
theorem at59_77 : am_at 59 77 = some (.aload_n 0, 1) := by decide +kernel
theorem at59_78 : am_at 59 78 = some (.iload_n 3, 1) := by decide +kernel
theorem at59_79 : am_at 59 79 = some (.iconst 4, 1) := by decide +kernel
theorem at59_80 : am_at 59 80 = some (.if_icmp .ge 7, 3) := by decide +kernel
theorem at59_83 : am_at 59 83 = some (.iconst 1, 1) := by decide +kernel
theorem at59_84 : am_at 59 84 = some (.goto 4, 3) := by decide +kernel
theorem at59_87 : am_at 59 87 = some (.iconst 0, 1) := by decide +kernel
theorem at59_88 : am_at 59 88 = some (.invokevirtual 61, 3) := by decide +kernel
theorem at59_91 : am_at 59 91 = some (.aload_n 0, 1) := by decide +kernel
theorem at59_92 : am_at 59 92 = some (.getfield 60002, 3) := by decide +kernel
theorem at59_95 : am_at 59 95 = some (.invokevirtual 94, 3) := by decide +kernel
theorem at59_98 : am_at 59 98 = some (.return_, 1) := by decide +kernel
theorem at60_0 : am_at 60 0 = some (.aload_n 0, 1) := by decide +kernel
theorem at60_1 : am_at 60 1 = some (.getfield 60050, 3) := by decide +kernel
theorem at60_4 : am_at 60 4 = some (.ifCond .le 15, 3) := by decide +kernel
theorem at60_7 : am_at 60 7 = some (.aload_n 0, 1) := by decide +kernel
theorem at60_8 : am_at 60 8 = some (.getfield 60002, 3) := by decide +kernel
theorem at60_11 : am_at 60 11 = some (.bipush 41, 2) := by decide +kernel
theorem at60_13 : am_at 60 13 = some (.invokevirtual 97, 3) := by decide +kernel
theorem at60_16 : am_at 60 16 = some (.ifCond .ne 9, 3) := by decide +kernel
theorem at60_19 : am_at 60 19 = some (.aload_n 0, 1) := by decide +kernel
theorem at60_20 : am_at 60 20 = some (.iconst 1, 1) := by decide +kernel
theorem at60_21 : am_at 60 21 = some (.invokevirtual 66, 3) := by decide +kernel
theorem at60_24 : am_at 60 24 = some (.return_, 1) := by decide +kernel
theorem at60_25 : am_at 60 25 = some (.aload_n 1, 1) := by decide +kernel
theorem at60_26 : am_at 60 26 = some (.iconst 1, 1) := by decide +kernel
theorem at60_27 : am_at 60 27 = some (.invokevirtual 76, 3) := by decide +kernel
theorem at60_30 : am_at 60 30 = some (.aload_n 1, 1) := by decide +kernel
theorem at60_31 : am_at 60 31 = some (.invokevirtual 77, 3) := by decide +kernel
theorem at60_34 : am_at 60 34 = some (.aload_n 0, 1) := by decide +kernel
theorem at60_35 : am_at 60 35 = some (.dup, 1) := by decide +kernel
theorem at60_36 : am_at 60 36 = some (.getfield 60050, 3) := by decide +kernel
theorem at60_39 : am_at 60 39 = some (.iconst 1, 1) := by decide +kernel
theorem at60_40 : am_at 60 40 = some (.isub, 1) := by decide +kernel
theorem at60_41 : am_at 60 41 = some (.putfield 60050, 3) := by decide +kernel
theorem at60_44 : am_at 60 44 = some (.aload_n 0, 1) := by decide +kernel
theorem at60_45 : am_at 60 45 = some (.getfield 60002, 3) := by decide +kernel
theorem at60_48 : am_at 60 48 = some (.invokevirtual 94, 3) := by decide +kernel
theorem at60_51 : am_at 60 51 = some (.return_, 1) := by decide +kernel
theorem at61_0 : am_at 61 0 = some (.aload_n 0, 1) := by decide +kernel
theorem at61_1 : am_at 61 1 = some (.iconst 1, 1) := by decide +kernel
theorem at61_2 : am_at 61 2 = some (.putfield 60031, 3) := by decide +kernel
theorem at61_5 : am_at 61 5 = some (.aload_n 0, 1) := by decide +kernel
theorem at61_6 : am_at 61 6 = some (.iload_n 1, 1) := by decide +kernel
theorem at61_7 : am_at 61 7 = some (.putfield 60041, 3) := by decide +kernel
theorem at61_10 : am_at 61 10 = some (.aload_n 0, 1) := by decide +kernel
theorem at61_11 : am_at 61 11 = some (.iconst 0, 1) := by decide +kernel
theorem at61_12 : am_at 61 12 = some (.putfield 60060, 3) := by decide +kernel
theorem at61_15 : am_at 61 15 = some (.return_, 1) := by decide +kernel
theorem at62_0 : am_at 62 0 = some (.aload_n 0, 1) := by decide +kernel
theorem at62_1 : am_at 62 1 = some (.getfield 60010, 3) := by decide +kernel
theorem at62_4 : am_at 62 4 = some (.ifCond .eq 5, 3) := by decide +kernel
theorem at62_7 : am_at 62 7 = some (.iconst 0, 1) := by decide +kernel
theorem at62_8 : am_at 62 8 = some (.ireturn, 1) := by decide +kernel
theorem at62_9 : am_at 62 9 = some (.aload_n 0, 1) := by decide +kernel
theorem at62_10 : am_at 62 10 = some (.getfield 60002, 3) := by decide +kernel
theorem at62_13 : am_at 62 13 = some (.getfield 90060, 3) := by decide +kernel
theorem at62_16 : am_at 62 16 = some (.istore_n 3, 1) := by decide +kernel
theorem at62_17 : am_at 62 17 = some (.aload_n 0, 1) := by decide +kernel
theorem at62_18 : am_at 62 18 = some (.getfield 60002, 3) := by decide +kernel
theorem at62_21 : am_at 62 21 = some (.getfield 90030, 3) := by decide +kernel
theorem at62_24 : am_at 62 24 = some (.iconst 2, 1) := by decide +kernel
theorem at62_25 : am_at 62 25 = some (.if_icmp .eq 11, 3) := by decide +kernel
theorem at62_28 : am_at 62 28 = some (.aload_n 0, 1) := by decide +kernel
theorem at62_29 : am_at 62 29 = some (.iconst 1, 1) := by decide +kernel
theorem at62_30 : am_at 62 30 = some (.invokevirtual 66, 3) := by decide +kernel
theorem at62_33 : am_at 62 33 = some (.goto 30, 3) := by decide +kernel
theorem at62_36 : am_at 62 36 = some (.iload_n 3, 1) := by decide +kernel
theorem at62_37 : am_at 62 37 = some (.iload_n 1, 1) := by decide +kernel
theorem at62_38 : am_at 62 38 = some (.if_icmp .lt 8, 3) := by decide +kernel
theorem at62_41 : am_at 62 41 = some (.iload_n 3, 1) := by decide +kernel
theorem at62_42 : am_at 62 42 = some (.iload_n 2, 1) := by decide +kernel
theorem at62_43 : am_at 62 43 = some (.if_icmp .le 11, 3) := by decide +kernel
theorem at62_46 : am_at 62 46 = some (.aload_n 0, 1) := by decide +kernel
theorem at62_47 : am_at 62 47 = some (.iconst 2, 1) := by decide +kernel
theorem at62_48 : am_at 62 48 = some (.invokevirtual 66, 3) := by decide +kernel
theorem at62_51 : am_at 62 51 = some (.goto 12, 3) := by decide +kernel
theorem at62_54 : am_at 62 54 = some (.aload_n 0, 1) := by decide +kernel
theorem at62_55 : am_at 62 55 = some (.getfield 60002, 3) := by decide +kernel
theorem at62_58 : am_at 62 58 = some (.invokevirtual 94, 3) := by decide +kernel
theorem at62_61 : am_at 62 61 = some (.iload_n 3, 1) := by decide +kernel
theorem at62_62 : am_at 62 62 = some (.ireturn, 1) := by decide +kernel
theorem at62_63 : am_at 62 63 = some (.iconst 0, 1) := by decide +kernel
theorem at62_64 : am_at 62 64 = some (.ireturn, 1) := by decide +kernel
theorem at63_0 : am_at 63 0 = some (.aload_n 0, 1) := by decide +kernel
theorem at63_1 : am_at 63 1 = some (.getfield 60010, 3) := by decide +kernel
theorem at63_4 : am_at 63 4 = some (.ifCond .eq 5, 3) := by decide +kernel
theorem at63_7 : am_at 63 7 = some (.iconst (-1), 1) := by decide +kernel
theorem at63_8 : am_at 63 8 = some (.ireturn, 1) := by decide +kernel
theorem at63_9 : am_at 63 9 = some (.aload_n 0, 1) := by decide +kernel
theorem at63_10 : am_at 63 10 = some (.getfield 60002, 3) := by decide +kernel
theorem at63_13 : am_at 63 13 = some (.getfield 90060, 3) := by decide +kernel
theorem at63_16 : am_at 63 16 = some (.istore_n 3, 1) := by decide +kernel
theorem at63_17 : am_at 63 17 = some (.aload_n 0, 1) := by decide +kernel
theorem at63_18 : am_at 63 18 = some (.getfield 60002, 3) := by decide +kernel
theorem at63_21 : am_at 63 21 = some (.getfield 90030, 3) := by decide +kernel
theorem at63_24 : am_at 63 24 = some (.iconst 2, 1) := by decide +kernel
theorem at63_25 : am_at 63 25 = some (.if_icmp .eq 11, 3) := by decide +kernel
theorem at63_28 : am_at 63 28 = some (.aload_n 0, 1) := by decide +kernel
theorem at63_29 : am_at 63 29 = some (.iconst 1, 1) := by decide +kernel
theorem at63_30 : am_at 63 30 = some (.invokevirtual 66, 3) := by decide +kernel
theorem at63_33 : am_at 63 33 = some (.goto 59, 3) := by decide +kernel
theorem at63_36 : am_at 63 36 = some (.iload_n 3, 1) := by decide +kernel
theorem at63_37 : am_at 63 37 = some (.sipush 10000, 3) := by decide +kernel
theorem at63_40 : am_at 63 40 = some (.if_icmp .lt 11, 3) := by decide +kernel
theorem at63_43 : am_at 63 43 = some (.aload_n 0, 1) := by decide +kernel
theorem at63_44 : am_at 63 44 = some (.iconst 2, 1) := by decide +kernel
theorem at63_45 : am_at 63 45 = some (.invokevirtual 66, 3) := by decide +kernel
theorem at63_48 : am_at 63 48 = some (.goto 44, 3) := by decide +kernel
theorem at63_51 : am_at 63 51 = some (.iload_n 3, 1) := by decide +kernel
theorem at63_52 : am_at 63 52 = some (.aload_n 1, 1) := by decide +kernel
theorem at63_53 : am_at 63 53 = some (.getfield 80000, 3) := by decide +kernel
theorem at63_56 : am_at 63 56 = some (.if_icmp .lt 11, 3) := by decide +kernel
theorem at63_59 : am_at 63 59 = some (.aload_n 0, 1) := by decide +kernel
theorem at63_60 : am_at 63 60 = some (.iconst 3, 1) := by decide +kernel
theorem at63_61 : am_at 63 61 = some (.invokevirtual 66, 3) := by decide +kernel
theorem at63_64 : am_at 63 64 = some (.goto 28, 3) := by decide +kernel
theorem at63_67 : am_at 63 67 = some (.iload_n 2, 1) := by decide +kernel
theorem at63_68 : am_at 63 68 = some (.iload_n 3, 1) := by decide +kernel
theorem at63_69 : am_at 63 69 = some (.invokestatic 145, 3) := by decide +kernel
theorem at63_72 : am_at 63 72 = some (.ifCond .eq 11, 3) := by decide +kernel
theorem at63_75 : am_at 63 75 = some (.aload_n 0, 1) := by decide +kernel
theorem at63_76 : am_at 63 76 = some (.iconst 4, 1) := by decide +kernel
theorem at63_77 : am_at 63 77 = some (.invokevirtual 66, 3) := by decide +kernel
theorem at63_80 : am_at 63 80 = some (.goto 12, 3) := by decide +kernel
theorem at63_83 : am_at 63 83 = some (.aload_n 0, 1) := by decide +kernel
theorem at63_84 : am_at 63 84 = some (.getfield 60002, 3) := by decide +kernel
theorem at63_87 : am_at 63 87 = some (.invokevirtual 94, 3) := by decide +kernel
theorem at63_90 : am_at 63 90 = some (.iload_n 3, 1) := by decide +kernel
theorem at63_91 : am_at 63 91 = some (.ireturn, 1) := by decide +kernel
theorem at63_92 : am_at 63 92 = some (.iconst (-1), 1) := by decide +kernel
theorem at63_93 : am_at 63 93 = some (.ireturn, 1) := by decide +kernel
theorem at64_0 : am_at 64 0 = some (.iload_n 0, 1) := by decide +kernel
theorem at64_1 : am_at 64 1 = some (.ifCond .lt 15, 3) := by decide +kernel
theorem at64_4 : am_at 64 4 = some (.iload_n 0, 1) := by decide +kernel
theorem at64_5 : am_at 64 5 = some (.bipush 6, 2) := by decide +kernel
theorem at64_7 : am_at 64 7 = some (.if_icmp .ge 9, 3) := by decide +kernel
theorem at64_10 : am_at 64 10 = some (.iconst 1, 1) := by decide +kernel
theorem at64_11 : am_at 64 11 = some (.iload_n 0, 1) := by decide +kernel
theorem at64_12 : am_at 64 12 = some (.ishl, 1) := by decide +kernel
theorem at64_13 : am_at 64 13 = some (.goto 4, 3) := by decide +kernel
theorem at64_16 : am_at 64 16 = some (.iconst 0, 1) := by decide +kernel
theorem at64_17 : am_at 64 17 = some (.ireturn, 1) := by decide +kernel
theorem at65_0 : am_at 65 0 = some (.aload_n 0, 1) := by decide +kernel
theorem at65_1 : am_at 65 1 = some (.getfield 60010, 3) := by decide +kernel
theorem at65_4 : am_at 65 4 = some (.ifCond .eq 4, 3) := by decide +kernel
theorem at65_7 : am_at 65 7 = some (.return_, 1) := by decide +kernel
theorem at65_8 : am_at 65 8 = some (.aload_n 0, 1) := by decide +kernel
theorem at65_9 : am_at 65 9 = some (.getfield 60002, 3) := by decide +kernel
theorem at65_12 : am_at 65 12 = some (.bipush 59, 2) := by decide +kernel
theorem at65_14 : am_at 65 14 = some (.invokevirtual 97, 3) := by decide +kernel
theorem at65_17 : am_at 65 17 = some (.ifCond .eq 13, 3) := by decide +kernel
theorem at65_20 : am_at 65 20 = some (.aload_n 0, 1) := by decide +kernel
theorem at65_21 : am_at 65 21 = some (.getfield 60002, 3) := by decide +kernel
theorem at65_24 : am_at 65 24 = some (.invokevirtual 94, 3) := by decide +kernel
theorem at65_27 : am_at 65 27 = some (.goto 8, 3) := by decide +kernel
theorem at65_30 : am_at 65 30 = some (.aload_n 0, 1) := by decide +kernel
theorem at65_31 : am_at 65 31 = some (.iconst 1, 1) := by decide +kernel
theorem at65_32 : am_at 65 32 = some (.invokevirtual 66, 3) := by decide +kernel
theorem at65_35 : am_at 65 35 = some (.return_, 1) := by decide +kernel
theorem at66_0 : am_at 66 0 = some (.aload_n 0, 1) := by decide +kernel
theorem at66_1 : am_at 66 1 = some (.iload_n 1, 1) := by decide +kernel
theorem at66_2 : am_at 66 2 = some (.aload_n 0, 1) := by decide +kernel
theorem at66_3 : am_at 66 3 = some (.getfield 60002, 3) := by decide +kernel
theorem at66_6 : am_at 66 6 = some (.getfield 90040, 3) := by decide +kernel
theorem at66_9 : am_at 66 9 = some (.invokevirtual 67, 3) := by decide +kernel
theorem at66_12 : am_at 66 12 = some (.return_, 1) := by decide +kernel
theorem at67_0 : am_at 67 0 = some (.aload_n 0, 1) := by decide +kernel
theorem at67_1 : am_at 67 1 = some (.getfield 60010, 3) := by decide +kernel
theorem at67_4 : am_at 67 4 = some (.ifCond .ne 13, 3) := by decide +kernel
theorem at67_7 : am_at 67 7 = some (.aload_n 0, 1) := by decide +kernel
theorem at67_8 : am_at 67 8 = some (.iload_n 1, 1) := by decide +kernel
theorem at67_9 : am_at 67 9 = some (.putfield 60010, 3) := by decide +kernel
theorem at67_12 : am_at 67 12 = some (.aload_n 0, 1) := by decide +kernel
theorem at67_13 : am_at 67 13 = some (.iload_n 2, 1) := by decide +kernel
theorem at67_14 : am_at 67 14 = some (.putfield 60020, 3) := by decide +kernel
theorem at67_17 : am_at 67 17 = some (.return_, 1) := by decide +kernel
theorem at68_0 : am_at 68 0 = some (.aload_n 0, 1) := by decide +kernel
theorem at68_1 : am_at 68 1 = some (.invokespecial 1000, 3) := by decide +kernel
theorem at68_4 : am_at 68 4 = some (.aload_n 0, 1) := by decide +kernel
theorem at68_5 : am_at 68 5 = some (.sipush 700, 3) := by decide +kernel
theorem at68_8 : am_at 68 8 = some (.newarray .int, 2) := by decide +kernel
theorem at68_10 : am_at 68 10 = some (.putfield 70002, 3) := by decide +kernel
theorem at68_13 : am_at 68 13 = some (.aload_n 0, 1) := by decide +kernel
theorem at68_14 : am_at 68 14 = some (.bipush 8, 2) := by decide +kernel
theorem at68_16 : am_at 68 16 = some (.newarray .int, 2) := by decide +kernel
theorem at68_18 : am_at 68 18 = some (.putfield 70022, 3) := by decide +kernel
theorem at68_21 : am_at 68 21 = some (.aload_n 0, 1) := by decide +kernel
theorem at68_22 : am_at 68 22 = some (.bipush 40, 2) := by decide +kernel
theorem at68_24 : am_at 68 24 = some (.newarray .int, 2) := by decide +kernel
theorem at68_26 : am_at 68 26 = some (.putfield 70032, 3) := by decide +kernel
theorem at68_29 : am_at 68 29 = some (.aload_n 0, 1) := by decide +kernel
theorem at68_30 : am_at 68 30 = some (.bipush 80, 2) := by decide +kernel
theorem at68_32 : am_at 68 32 = some (.newarray .int, 2) := by decide +kernel
theorem at68_34 : am_at 68 34 = some (.putfield 70042, 3) := by decide +kernel
theorem at68_37 : am_at 68 37 = some (.return_, 1) := by decide +kernel
theorem at69_0 : am_at 69 0 = some (.aload_n 0, 1) := by decide +kernel
theorem at69_1 : am_at 69 1 = some (.ldc 8, 2) := by decide +kernel
theorem at69_3 : am_at 69 3 = some (.invokevirtual 96, 3) := by decide +kernel
theorem at69_6 : am_at 69 6 = some (.ifCond .eq 5, 3) := by decide +kernel
theorem at69_9 : am_at 69 9 = some (.iconst (-1), 1) := by decide +kernel
theorem at69_10 : am_at 69 10 = some (.ireturn, 1) := by decide +kernel
theorem at69_11 : am_at 69 11 = some (.aload_n 0, 1) := by decide +kernel
theorem at69_12 : am_at 69 12 = some (.ldc 9, 2) := by decide +kernel
theorem at69_14 : am_at 69 14 = some (.invokevirtual 96, 3) := by decide +kernel
theorem at69_17 : am_at 69 17 = some (.ifCond .eq 6, 3) := by decide +kernel
theorem at69_20 : am_at 69 20 = some (.bipush (-2), 2) := by decide +kernel
theorem at69_22 : am_at 69 22 = some (.ireturn, 1) := by decide +kernel
theorem at69_23 : am_at 69 23 = some (.aload_n 0, 1) := by decide +kernel
theorem at69_24 : am_at 69 24 = some (.ldc 10, 2) := by decide +kernel
theorem at69_26 : am_at 69 26 = some (.invokevirtual 96, 3) := by decide +kernel
theorem at69_29 : am_at 69 29 = some (.ifCond .eq 6, 3) := by decide +kernel
theorem at69_32 : am_at 69 32 = some (.bipush (-3), 2) := by decide +kernel
theorem at69_34 : am_at 69 34 = some (.ireturn, 1) := by decide +kernel
theorem at69_35 : am_at 69 35 = some (.aload_n 0, 1) := by decide +kernel
theorem at69_36 : am_at 69 36 = some (.ldc 11, 2) := by decide +kernel
theorem at69_38 : am_at 69 38 = some (.invokevirtual 96, 3) := by decide +kernel
theorem at69_41 : am_at 69 41 = some (.ifCond .eq 6, 3) := by decide +kernel
theorem at69_44 : am_at 69 44 = some (.bipush (-4), 2) := by decide +kernel
theorem at69_46 : am_at 69 46 = some (.ireturn, 1) := by decide +kernel
theorem at69_47 : am_at 69 47 = some (.aload_n 0, 1) := by decide +kernel
theorem at69_48 : am_at 69 48 = some (.ldc 12, 2) := by decide +kernel
theorem at69_50 : am_at 69 50 = some (.invokevirtual 96, 3) := by decide +kernel
theorem at69_53 : am_at 69 53 = some (.ifCond .eq 6, 3) := by decide +kernel
theorem at69_56 : am_at 69 56 = some (.bipush (-5), 2) := by decide +kernel
theorem at69_58 : am_at 69 58 = some (.ireturn, 1) := by decide +kernel
theorem at69_59 : am_at 69 59 = some (.aload_n 0, 1) := by decide +kernel
theorem at69_60 : am_at 69 60 = some (.ldc 13, 2) := by decide +kernel
theorem at69_62 : am_at 69 62 = some (.invokevirtual 96, 3) := by decide +kernel
theorem at69_65 : am_at 69 65 = some (.ifCond .eq 6, 3) := by decide +kernel
theorem at69_68 : am_at 69 68 = some (.bipush (-6), 2) := by decide +kernel
theorem at69_70 : am_at 69 70 = some (.ireturn, 1) := by decide +kernel
theorem at69_71 : am_at 69 71 = some (.aload_n 0, 1) := by decide +kernel
theorem at69_72 : am_at 69 72 = some (.ldc 14, 2) := by decide +kernel
theorem at69_74 : am_at 69 74 = some (.invokevirtual 96, 3) := by decide +kernel
theorem at69_77 : am_at 69 77 = some (.ifCond .eq 8, 3) := by decide +kernel
theorem at69_80 : am_at 69 80 = some (.bipush (-7), 2) := by decide +kernel
theorem at69_82 : am_at 69 82 = some (.goto 5, 3) := by decide +kernel
theorem at69_85 : am_at 69 85 = some (.bipush (-18), 2) := by decide +kernel
theorem at69_87 : am_at 69 87 = some (.ireturn, 1) := by decide +kernel
theorem at70_0 : am_at 70 0 = some (.aload_n 0, 1) := by decide +kernel
theorem at70_1 : am_at 70 1 = some (.ldc 15, 2) := by decide +kernel
theorem at70_3 : am_at 70 3 = some (.invokevirtual 96, 3) := by decide +kernel
theorem at70_6 : am_at 70 6 = some (.ifCond .eq 6, 3) := by decide +kernel
theorem at70_9 : am_at 70 9 = some (.bipush (-9), 2) := by decide +kernel
theorem at70_11 : am_at 70 11 = some (.ireturn, 1) := by decide +kernel
theorem at70_12 : am_at 70 12 = some (.aload_n 0, 1) := by decide +kernel
theorem at70_13 : am_at 70 13 = some (.ldc 16, 2) := by decide +kernel
theorem at70_15 : am_at 70 15 = some (.invokevirtual 96, 3) := by decide +kernel
theorem at70_18 : am_at 70 18 = some (.ifCond .eq 6, 3) := by decide +kernel
theorem at70_21 : am_at 70 21 = some (.bipush (-10), 2) := by decide +kernel
theorem at70_23 : am_at 70 23 = some (.ireturn, 1) := by decide +kernel
theorem at70_24 : am_at 70 24 = some (.aload_n 0, 1) := by decide +kernel
theorem at70_25 : am_at 70 25 = some (.bipush 60, 2) := by decide +kernel
theorem at70_27 : am_at 70 27 = some (.invokevirtual 97, 3) := by decide +kernel
theorem at70_30 : am_at 70 30 = some (.ifCond .eq 6, 3) := by decide +kernel
theorem at70_33 : am_at 70 33 = some (.bipush (-11), 2) := by decide +kernel
theorem at70_35 : am_at 70 35 = some (.ireturn, 1) := by decide +kernel
theorem at70_36 : am_at 70 36 = some (.aload_n 0, 1) := by decide +kernel
theorem at70_37 : am_at 70 37 = some (.bipush 61, 2) := by decide +kernel
theorem at70_39 : am_at 70 39 = some (.invokevirtual 97, 3) := by decide +kernel
theorem at70_42 : am_at 70 42 = some (.ifCond .eq 6, 3) := by decide +kernel
theorem at70_45 : am_at 70 45 = some (.bipush (-12), 2) := by decide +kernel
theorem at70_47 : am_at 70 47 = some (.ireturn, 1) := by decide +kernel
theorem at70_48 : am_at 70 48 = some (.aload_n 0, 1) := by decide +kernel
theorem at70_49 : am_at 70 49 = some (.bipush 43, 2) := by decide +kernel
theorem at70_51 : am_at 70 51 = some (.invokevirtual 97, 3) := by decide +kernel
theorem at70_54 : am_at 70 54 = some (.ifCond .eq 6, 3) := by decide +kernel
theorem at70_57 : am_at 70 57 = some (.bipush (-13), 2) := by decide +kernel
theorem at70_59 : am_at 70 59 = some (.ireturn, 1) := by decide +kernel
theorem at70_60 : am_at 70 60 = some (.aload_n 0, 1) := by decide +kernel
theorem at70_61 : am_at 70 61 = some (.bipush 45, 2) := by decide +kernel
theorem at70_63 : am_at 70 63 = some (.invokevirtual 97, 3) := by decide +kernel
theorem at70_66 : am_at 70 66 = some (.ifCond .eq 6, 3) := by decide +kernel
theorem at70_69 : am_at 70 69 = some (.bipush (-14), 2) := by decide +kernel
theorem at70_71 : am_at 70 71 = some (.ireturn, 1) := by decide +kernel
theorem at70_72 : am_at 70 72 = some (.aload_n 0, 1) := by decide +kernel
theorem at70_73 : am_at 70 73 = some (.bipush 42, 2) := by decide +kernel
theorem at70_75 : am_at 70 75 = some (.invokevirtual 97, 3) := by decide +kernel
theorem at70_78 : am_at 70 78 = some (.ifCond .eq 6, 3) := by decide +kernel
theorem at70_81 : am_at 70 81 = some (.bipush (-15), 2) := by decide +kernel
theorem at70_83 : am_at 70 83 = some (.ireturn, 1) := by decide +kernel
theorem at70_84 : am_at 70 84 = some (.aload_n 0, 1) := by decide +kernel
theorem at70_85 : am_at 70 85 = some (.bipush 47, 2) := by decide +kernel
theorem at70_87 : am_at 70 87 = some (.invokevirtual 97, 3) := by decide +kernel
theorem at70_90 : am_at 70 90 = some (.ifCond .eq 8, 3) := by decide +kernel
theorem at70_93 : am_at 70 93 = some (.bipush (-16), 2) := by decide +kernel
theorem at70_95 : am_at 70 95 = some (.goto 5, 3) := by decide +kernel
theorem at70_98 : am_at 70 98 = some (.bipush (-18), 2) := by decide +kernel
theorem at70_100 : am_at 70 100 = some (.ireturn, 1) := by decide +kernel
theorem at71_0 : am_at 71 0 = some (.iload_n 0, 1) := by decide +kernel
theorem at71_1 : am_at 71 1 = some (.tableswitch 64 (-16) (-8) #[61, 61, 59, 59, 57, 57, 53, 51, 55], 51) := by decide +kernel
theorem at71_52 : am_at 71 52 = some (.iconst 1, 1) := by decide +kernel
theorem at71_53 : am_at 71 53 = some (.ireturn, 1) := by decide +kernel
theorem at71_54 : am_at 71 54 = some (.iconst 2, 1) := by decide +kernel
theorem at71_55 : am_at 71 55 = some (.ireturn, 1) := by decide +kernel
theorem at71_56 : am_at 71 56 = some (.iconst 3, 1) := by decide +kernel
theorem at71_57 : am_at 71 57 = some (.ireturn, 1) := by decide +kernel
theorem at71_58 : am_at 71 58 = some (.iconst 4, 1) := by decide +kernel
theorem at71_59 : am_at 71 59 = some (.ireturn, 1) := by decide +kernel
theorem at71_60 : am_at 71 60 = some (.iconst 5, 1) := by decide +kernel
theorem at71_61 : am_at 71 61 = some (.ireturn, 1) := by decide +kernel
theorem at71_62 : am_at 71 62 = some (.bipush 6, 2) := by decide +kernel
theorem at71_64 : am_at 71 64 = some (.ireturn, 1) := by decide +kernel
theorem at71_65 : am_at 71 65 = some (.iconst 0, 1) := by decide +kernel
theorem at71_66 : am_at 71 66 = some (.ireturn, 1) := by decide +kernel
theorem at72_0 : am_at 72 0 = some (.aload_n 0, 1) := by decide +kernel
theorem at72_1 : am_at 72 1 = some (.iconst 0, 1) := by decide +kernel
theorem at72_2 : am_at 72 2 = some (.putfield 70010, 3) := by decide +kernel
theorem at72_5 : am_at 72 5 = some (.aload_n 0, 1) := by decide +kernel
theorem at72_6 : am_at 72 6 = some (.iconst 0, 1) := by decide +kernel
theorem at72_7 : am_at 72 7 = some (.putfield 70050, 3) := by decide +kernel
theorem at72_10 : am_at 72 10 = some (.return_, 1) := by decide +kernel
theorem at73_0 : am_at 73 0 = some (.aload_n 0, 1) := by decide +kernel
theorem at73_1 : am_at 73 1 = some (.getfield 70010, 3) := by decide +kernel
theorem at73_4 : am_at 73 4 = some (.ifCond .lt 33, 3) := by decide +kernel
theorem at73_7 : am_at 73 7 = some (.aload_n 0, 1) := by decide +kernel
theorem at73_8 : am_at 73 8 = some (.getfield 70010, 3) := by decide +kernel
theorem at73_11 : am_at 73 11 = some (.sipush 700, 3) := by decide +kernel
theorem at73_14 : am_at 73 14 = some (.if_icmp .ge 23, 3) := by decide +kernel
theorem at73_17 : am_at 73 17 = some (.aload_n 0, 1) := by decide +kernel
theorem at73_18 : am_at 73 18 = some (.getfield 70002, 3) := by decide +kernel
theorem at73_21 : am_at 73 21 = some (.aload_n 0, 1) := by decide +kernel
theorem at73_22 : am_at 73 22 = some (.getfield 70010, 3) := by decide +kernel
theorem at73_25 : am_at 73 25 = some (.iload_n 1, 1) := by decide +kernel
theorem at73_26 : am_at 73 26 = some (.iastore, 1) := by decide +kernel
theorem at73_27 : am_at 73 27 = some (.aload_n 0, 1) := by decide +kernel
theorem at73_28 : am_at 73 28 = some (.dup, 1) := by decide +kernel
theorem at73_29 : am_at 73 29 = some (.getfield 70010, 3) := by decide +kernel
theorem at73_32 : am_at 73 32 = some (.iconst 1, 1) := by decide +kernel
theorem at73_33 : am_at 73 33 = some (.iadd, 1) := by decide +kernel
theorem at73_34 : am_at 73 34 = some (.putfield 70010, 3) := by decide +kernel
theorem at73_37 : am_at 73 37 = some (.return_, 1) := by decide +kernel
theorem at74_0 : am_at 74 0 = some (.aload_n 0, 1) := by decide +kernel
theorem at74_1 : am_at 74 1 = some (.getfield 70050, 3) := by decide +kernel
theorem at74_4 : am_at 74 4 = some (.ifCond .lt 32, 3) := by decide +kernel
theorem at74_7 : am_at 74 7 = some (.aload_n 0, 1) := by decide +kernel
theorem at74_8 : am_at 74 8 = some (.getfield 70050, 3) := by decide +kernel
theorem at74_11 : am_at 74 11 = some (.bipush 80, 2) := by decide +kernel
theorem at74_13 : am_at 74 13 = some (.if_icmp .ge 23, 3) := by decide +kernel
theorem at74_16 : am_at 74 16 = some (.aload_n 0, 1) := by decide +kernel
theorem at74_17 : am_at 74 17 = some (.getfield 70042, 3) := by decide +kernel
theorem at74_20 : am_at 74 20 = some (.aload_n 0, 1) := by decide +kernel
theorem at74_21 : am_at 74 21 = some (.getfield 70050, 3) := by decide +kernel
theorem at74_24 : am_at 74 24 = some (.iload_n 1, 1) := by decide +kernel
theorem at74_25 : am_at 74 25 = some (.iastore, 1) := by decide +kernel
theorem at74_26 : am_at 74 26 = some (.aload_n 0, 1) := by decide +kernel
theorem at74_27 : am_at 74 27 = some (.dup, 1) := by decide +kernel
theorem at74_28 : am_at 74 28 = some (.getfield 70050, 3) := by decide +kernel
theorem at74_31 : am_at 74 31 = some (.iconst 1, 1) := by decide +kernel
theorem at74_32 : am_at 74 32 = some (.iadd, 1) := by decide +kernel
theorem at74_33 : am_at 74 33 = some (.putfield 70050, 3) := by decide +kernel
theorem at74_36 : am_at 74 36 = some (.return_, 1) := by decide +kernel
theorem at75_0 : am_at 75 0 = some (.aload_n 0, 1) := by decide +kernel
theorem at75_1 : am_at 75 1 = some (.getfield 70050, 3) := by decide +kernel
theorem at75_4 : am_at 75 4 = some (.ifCond .le 29, 3) := by decide +kernel
theorem at75_7 : am_at 75 7 = some (.aload_n 0, 1) := by decide +kernel
theorem at75_8 : am_at 75 8 = some (.getfield 70050, 3) := by decide +kernel
theorem at75_11 : am_at 75 11 = some (.bipush 80, 2) := by decide +kernel
theorem at75_13 : am_at 75 13 = some (.if_icmp .gt 20, 3) := by decide +kernel
theorem at75_16 : am_at 75 16 = some (.aload_n 0, 1) := by decide +kernel
theorem at75_17 : am_at 75 17 = some (.getfield 70042, 3) := by decide +kernel
theorem at75_20 : am_at 75 20 = some (.aload_n 0, 1) := by decide +kernel
theorem at75_21 : am_at 75 21 = some (.getfield 70050, 3) := by decide +kernel
theorem at75_24 : am_at 75 24 = some (.iconst 1, 1) := by decide +kernel
theorem at75_25 : am_at 75 25 = some (.isub, 1) := by decide +kernel
theorem at75_26 : am_at 75 26 = some (.iaload, 1) := by decide +kernel
theorem at75_27 : am_at 75 27 = some (.invokestatic 71, 3) := by decide +kernel
theorem at75_30 : am_at 75 30 = some (.goto 4, 3) := by decide +kernel
theorem at75_33 : am_at 75 33 = some (.iconst 0, 1) := by decide +kernel
theorem at75_34 : am_at 75 34 = some (.ireturn, 1) := by decide +kernel
theorem at76_0 : am_at 76 0 = some (.iconst 0, 1) := by decide +kernel
theorem at76_1 : am_at 76 1 = some (.istore_n 2, 1) := by decide +kernel
theorem at76_2 : am_at 76 2 = some (.iload_n 2, 1) := by decide +kernel
theorem at76_3 : am_at 76 3 = some (.bipush 80, 2) := by decide +kernel
theorem at76_5 : am_at 76 5 = some (.if_icmp .ge 47, 3) := by decide +kernel
theorem at76_8 : am_at 76 8 = some (.aload_n 0, 1) := by decide +kernel
theorem at76_9 : am_at 76 9 = some (.getfield 70050, 3) := by decide +kernel
theorem at76_12 : am_at 76 12 = some (.ifCond .le 40, 3) := by decide +kernel
theorem at76_15 : am_at 76 15 = some (.aload_n 0, 1) := by decide +kernel
theorem at76_16 : am_at 76 16 = some (.invokevirtual 75, 3) := by decide +kernel
theorem at76_19 : am_at 76 19 = some (.iload_n 1, 1) := by decide +kernel
theorem at76_20 : am_at 76 20 = some (.if_icmp .lt 32, 3) := by decide +kernel
theorem at76_23 : am_at 76 23 = some (.aload_n 0, 1) := by decide +kernel
theorem at76_24 : am_at 76 24 = some (.dup, 1) := by decide +kernel
theorem at76_25 : am_at 76 25 = some (.getfield 70050, 3) := by decide +kernel
theorem at76_28 : am_at 76 28 = some (.iconst 1, 1) := by decide +kernel
theorem at76_29 : am_at 76 29 = some (.isub, 1) := by decide +kernel
theorem at76_30 : am_at 76 30 = some (.putfield 70050, 3) := by decide +kernel
theorem at76_33 : am_at 76 33 = some (.aload_n 0, 1) := by decide +kernel
theorem at76_34 : am_at 76 34 = some (.aload_n 0, 1) := by decide +kernel
theorem at76_35 : am_at 76 35 = some (.getfield 70042, 3) := by decide +kernel
theorem at76_38 : am_at 76 38 = some (.aload_n 0, 1) := by decide +kernel
theorem at76_39 : am_at 76 39 = some (.getfield 70050, 3) := by decide +kernel
theorem at76_42 : am_at 76 42 = some (.iaload, 1) := by decide +kernel
theorem at76_43 : am_at 76 43 = some (.invokevirtual 73, 3) := by decide +kernel
theorem at76_46 : am_at 76 46 = some (.iinc 2 1, 3) := by decide +kernel
theorem at76_49 : am_at 76 49 = some (.goto (-47), 3) := by decide +kernel
theorem at76_52 : am_at 76 52 = some (.return_, 1) := by decide +kernel
theorem at77_0 : am_at 77 0 = some (.aload_n 0, 1) := by decide +kernel
theorem at77_1 : am_at 77 1 = some (.getfield 70050, 3) := by decide +kernel
theorem at77_4 : am_at 77 4 = some (.ifCond .le 20, 3) := by decide +kernel
theorem at77_7 : am_at 77 7 = some (.aload_n 0, 1) := by decide +kernel
theorem at77_8 : am_at 77 8 = some (.invokevirtual 75, 3) := by decide +kernel
theorem at77_11 : am_at 77 11 = some (.ifCond .ne 13, 3) := by decide +kernel
theorem at77_14 : am_at 77 14 = some (.aload_n 0, 1) := by decide +kernel
theorem at77_15 : am_at 77 15 = some (.dup, 1) := by decide +kernel
theorem at77_16 : am_at 77 16 = some (.getfield 70050, 3) := by decide +kernel
theorem at77_19 : am_at 77 19 = some (.iconst 1, 1) := by decide +kernel
theorem at77_20 : am_at 77 20 = some (.isub, 1) := by decide +kernel
theorem at77_21 : am_at 77 21 = some (.putfield 70050, 3) := by decide +kernel
theorem at77_24 : am_at 77 24 = some (.return_, 1) := by decide +kernel
theorem at78_0 : am_at 78 0 = some (.iload_n 1, 1) := by decide +kernel
theorem at78_1 : am_at 78 1 = some (.ifCond .ge 17, 3) := by decide +kernel
theorem at78_4 : am_at 78 4 = some (.iload_n 1, 1) := by decide +kernel
theorem at78_5 : am_at 78 5 = some (.bipush (-7), 2) := by decide +kernel
theorem at78_7 : am_at 78 7 = some (.if_icmp .lt 11, 3) := by decide +kernel
theorem at78_10 : am_at 78 10 = some (.aload_n 0, 1) := by decide +kernel
theorem at78_11 : am_at 78 11 = some (.getfield 70022, 3) := by decide +kernel
theorem at78_14 : am_at 78 14 = some (.iload_n 1, 1) := by decide +kernel
theorem at78_15 : am_at 78 15 = some (.ineg, 1) := by decide +kernel
theorem at78_16 : am_at 78 16 = some (.iload_n 2, 1) := by decide +kernel
theorem at78_17 : am_at 78 17 = some (.iastore, 1) := by decide +kernel
theorem at78_18 : am_at 78 18 = some (.return_, 1) := by decide +kernel
theorem at79_0 : am_at 79 0 = some (.iconst 0, 1) := by decide +kernel
theorem at79_1 : am_at 79 1 = some (.istore_n 1, 1) := by decide +kernel
theorem at79_2 : am_at 79 2 = some (.iconst 0, 1) := by decide +kernel
theorem at79_3 : am_at 79 3 = some (.istore_n 2, 1) := by decide +kernel
theorem at79_4 : am_at 79 4 = some (.iload_n 2, 1) := by decide +kernel
theorem at79_5 : am_at 79 5 = some (.aload_n 0, 1) := by decide +kernel
theorem at79_6 : am_at 79 6 = some (.getfield 70010, 3) := by decide +kernel
theorem at79_9 : am_at 79 9 = some (.if_icmp .ge 134, 3) := by decide +kernel
theorem at79_12 : am_at 79 12 = some (.iload_n 2, 1) := by decide +kernel
theorem at79_13 : am_at 79 13 = some (.sipush 700, 3) := by decide +kernel
theorem at79_16 : am_at 79 16 = some (.if_icmp .ge 127, 3) := by decide +kernel
theorem at79_19 : am_at 79 19 = some (.aload_n 0, 1) := by decide +kernel
theorem at79_20 : am_at 79 20 = some (.getfield 70002, 3) := by decide +kernel
theorem at79_23 : am_at 79 23 = some (.iload_n 2, 1) := by decide +kernel
theorem at79_24 : am_at 79 24 = some (.iaload, 1) := by decide +kernel
theorem at79_25 : am_at 79 25 = some (.istore_n 3, 1) := by decide +kernel
theorem at79_26 : am_at 79 26 = some (.iload_n 3, 1) := by decide +kernel
theorem at79_27 : am_at 79 27 = some (.bipush (-7), 2) := by decide +kernel
theorem at79_29 : am_at 79 29 = some (.if_icmp .lt 36, 3) := by decide +kernel
theorem at79_32 : am_at 79 32 = some (.iload_n 1, 1) := by decide +kernel
theorem at79_33 : am_at 79 33 = some (.bipush 40, 2) := by decide +kernel
theorem at79_35 : am_at 79 35 = some (.if_icmp .ge 102, 3) := by decide +kernel
theorem at79_38 : am_at 79 38 = some (.aload_n 0, 1) := by decide +kernel
theorem at79_39 : am_at 79 39 = some (.getfield 70032, 3) := by decide +kernel
theorem at79_42 : am_at 79 42 = some (.iload_n 1, 1) := by decide +kernel
theorem at79_43 : am_at 79 43 = some (.iload_n 3, 1) := by decide +kernel
theorem at79_44 : am_at 79 44 = some (.ifCond .lt 7, 3) := by decide +kernel
theorem at79_47 : am_at 79 47 = some (.iload_n 3, 1) := by decide +kernel
theorem at79_48 : am_at 79 48 = some (.goto 10, 3) := by decide +kernel
theorem at79_51 : am_at 79 51 = some (.aload_n 0, 1) := by decide +kernel
theorem at79_52 : am_at 79 52 = some (.getfield 70022, 3) := by decide +kernel
theorem at79_55 : am_at 79 55 = some (.iload_n 3, 1) := by decide +kernel
theorem at79_56 : am_at 79 56 = some (.ineg, 1) := by decide +kernel
theorem at79_57 : am_at 79 57 = some (.iaload, 1) := by decide +kernel
theorem at79_58 : am_at 79 58 = some (.iastore, 1) := by decide +kernel
theorem at79_59 : am_at 79 59 = some (.iinc 1 1, 3) := by decide +kernel
theorem at79_62 : am_at 79 62 = some (.goto 75, 3) := by decide +kernel
theorem at79_65 : am_at 79 65 = some (.iload_n 3, 1) := by decide +kernel
theorem at79_66 : am_at 79 66 = some (.bipush (-8), 2) := by decide +kernel
theorem at79_68 : am_at 79 68 = some (.if_icmp .ne 35, 3) := by decide +kernel
theorem at79_71 : am_at 79 71 = some (.iload_n 1, 1) := by decide +kernel
theorem at79_72 : am_at 79 72 = some (.iconst 1, 1) := by decide +kernel
theorem at79_73 : am_at 79 73 = some (.if_icmp .lt 64, 3) := by decide +kernel
theorem at79_76 : am_at 79 76 = some (.aload_n 0, 1) := by decide +kernel
theorem at79_77 : am_at 79 77 = some (.getfield 70032, 3) := by decide +kernel
theorem at79_80 : am_at 79 80 = some (.iload_n 1, 1) := by decide +kernel
theorem at79_81 : am_at 79 81 = some (.iconst 1, 1) := by decide +kernel
theorem at79_82 : am_at 79 82 = some (.isub, 1) := by decide +kernel
theorem at79_83 : am_at 79 83 = some (.aload_n 0, 1) := by decide +kernel
theorem at79_84 : am_at 79 84 = some (.getfield 70032, 3) := by decide +kernel
theorem at79_87 : am_at 79 87 = some (.iload_n 1, 1) := by decide +kernel
theorem at79_88 : am_at 79 88 = some (.iconst 1, 1) := by decide +kernel
theorem at79_89 : am_at 79 89 = some (.isub, 1) := by decide +kernel
theorem at79_90 : am_at 79 90 = some (.iaload, 1) := by decide +kernel
theorem at79_91 : am_at 79 91 = some (.ifCond .ne 7, 3) := by decide +kernel
theorem at79_94 : am_at 79 94 = some (.iconst 1, 1) := by decide +kernel
theorem at79_95 : am_at 79 95 = some (.goto 4, 3) := by decide +kernel
theorem at79_98 : am_at 79 98 = some (.iconst 0, 1) := by decide +kernel
theorem at79_99 : am_at 79 99 = some (.iastore, 1) := by decide +kernel
theorem at79_100 : am_at 79 100 = some (.goto 37, 3) := by decide +kernel
theorem at79_103 : am_at 79 103 = some (.iload_n 1, 1) := by decide +kernel
theorem at79_104 : am_at 79 104 = some (.iconst 2, 1) := by decide +kernel
theorem at79_105 : am_at 79 105 = some (.if_icmp .lt 32, 3) := by decide +kernel
theorem at79_108 : am_at 79 108 = some (.iinc 1 (-1), 3) := by decide +kernel
theorem at79_111 : am_at 79 111 = some (.aload_n 0, 1) := by decide +kernel
theorem at79_112 : am_at 79 112 = some (.getfield 70032, 3) := by decide +kernel
theorem at79_115 : am_at 79 115 = some (.iload_n 1, 1) := by decide +kernel
theorem at79_116 : am_at 79 116 = some (.iconst 1, 1) := by decide +kernel
theorem at79_117 : am_at 79 117 = some (.isub, 1) := by decide +kernel
theorem at79_118 : am_at 79 118 = some (.iload_n 3, 1) := by decide +kernel
theorem at79_119 : am_at 79 119 = some (.aload_n 0, 1) := by decide +kernel
theorem at79_120 : am_at 79 120 = some (.getfield 70032, 3) := by decide +kernel
theorem at79_123 : am_at 79 123 = some (.iload_n 1, 1) := by decide +kernel
theorem at79_124 : am_at 79 124 = some (.iconst 1, 1) := by decide +kernel
theorem at79_125 : am_at 79 125 = some (.isub, 1) := by decide +kernel
theorem at79_126 : am_at 79 126 = some (.iaload, 1) := by decide +kernel
theorem at79_127 : am_at 79 127 = some (.aload_n 0, 1) := by decide +kernel
theorem at79_128 : am_at 79 128 = some (.getfield 70032, 3) := by decide +kernel
theorem at79_131 : am_at 79 131 = some (.iload_n 1, 1) := by decide +kernel
theorem at79_132 : am_at 79 132 = some (.iaload, 1) := by decide +kernel
theorem at79_133 : am_at 79 133 = some (.invokestatic 80, 3) := by decide +kernel
theorem at79_136 : am_at 79 136 = some (.iastore, 1) := by decide +kernel
theorem at79_137 : am_at 79 137 = some (.iinc 2 1, 3) := by decide +kernel
theorem at79_140 : am_at 79 140 = some (.goto (-136), 3) := by decide +kernel
theorem at79_143 : am_at 79 143 = some (.iload_n 1, 1) := by decide +kernel
theorem at79_144 : am_at 79 144 = some (.iconst 1, 1) := by decide +kernel
theorem at79_145 : am_at 79 145 = some (.if_icmp .lt 12, 3) := by decide +kernel
theorem at79_148 : am_at 79 148 = some (.aload_n 0, 1) := by decide +kernel
theorem at79_149 : am_at 79 149 = some (.getfield 70032, 3) := by decide +kernel
theorem at79_152 : am_at 79 152 = some (.iconst 0, 1) := by decide +kernel
theorem at79_153 : am_at 79 153 = some (.iaload, 1) := by decide +kernel
theorem at79_154 : am_at 79 154 = some (.goto 4, 3) := by decide +kernel
theorem at79_157 : am_at 79 157 = some (.iconst 0, 1) := by decide +kernel
theorem at79_158 : am_at 79 158 = some (.ireturn, 1) := by decide +kernel
theorem at80_0 : am_at 80 0 = some (.iload_n 0, 1) := by decide +kernel
theorem at80_1 : am_at 80 1 = some (.tableswitch 105 (-15) (-9) #[101, 97, 93, 82, 71, 57, 43], 43) := by decide +kernel
theorem at80_44 : am_at 80 44 = some (.iload_n 1, 1) := by decide +kernel
theorem at80_45 : am_at 80 45 = some (.ifCond .ne 7, 3) := by decide +kernel
theorem at80_48 : am_at 80 48 = some (.iload_n 2, 1) := by decide +kernel
theorem at80_49 : am_at 80 49 = some (.ifCond .eq 7, 3) := by decide +kernel
theorem at80_52 : am_at 80 52 = some (.iconst 1, 1) := by decide +kernel
theorem at80_53 : am_at 80 53 = some (.goto 4, 3) := by decide +kernel
theorem at80_56 : am_at 80 56 = some (.iconst 0, 1) := by decide +kernel
theorem at80_57 : am_at 80 57 = some (.ireturn, 1) := by decide +kernel
theorem at80_58 : am_at 80 58 = some (.iload_n 1, 1) := by decide +kernel
theorem at80_59 : am_at 80 59 = some (.ifCond .eq 11, 3) := by decide +kernel
theorem at80_62 : am_at 80 62 = some (.iload_n 2, 1) := by decide +kernel
theorem at80_63 : am_at 80 63 = some (.ifCond .eq 7, 3) := by decide +kernel
theorem at80_66 : am_at 80 66 = some (.iconst 1, 1) := by decide +kernel
theorem at80_67 : am_at 80 67 = some (.goto 4, 3) := by decide +kernel
theorem at80_70 : am_at 80 70 = some (.iconst 0, 1) := by decide +kernel
theorem at80_71 : am_at 80 71 = some (.ireturn, 1) := by decide +kernel
theorem at80_72 : am_at 80 72 = some (.iload_n 1, 1) := by decide +kernel
theorem at80_73 : am_at 80 73 = some (.iload_n 2, 1) := by decide +kernel
theorem at80_74 : am_at 80 74 = some (.if_icmp .ge 7, 3) := by decide +kernel
theorem at80_77 : am_at 80 77 = some (.iconst 1, 1) := by decide +kernel
theorem at80_78 : am_at 80 78 = some (.goto 4, 3) := by decide +kernel
theorem at80_81 : am_at 80 81 = some (.iconst 0, 1) := by decide +kernel
theorem at80_82 : am_at 80 82 = some (.ireturn, 1) := by decide +kernel
theorem at80_83 : am_at 80 83 = some (.iload_n 1, 1) := by decide +kernel
theorem at80_84 : am_at 80 84 = some (.iload_n 2, 1) := by decide +kernel
theorem at80_85 : am_at 80 85 = some (.if_icmp .ne 7, 3) := by decide +kernel
theorem at80_88 : am_at 80 88 = some (.iconst 1, 1) := by decide +kernel
theorem at80_89 : am_at 80 89 = some (.goto 4, 3) := by decide +kernel
theorem at80_92 : am_at 80 92 = some (.iconst 0, 1) := by decide +kernel
theorem at80_93 : am_at 80 93 = some (.ireturn, 1) := by decide +kernel
theorem at80_94 : am_at 80 94 = some (.iload_n 1, 1) := by decide +kernel
theorem at80_95 : am_at 80 95 = some (.iload_n 2, 1) := by decide +kernel
theorem at80_96 : am_at 80 96 = some (.iadd, 1) := by decide +kernel
theorem at80_97 : am_at 80 97 = some (.ireturn, 1) := by decide +kernel
theorem at80_98 : am_at 80 98 = some (.iload_n 1, 1) := by decide +kernel
theorem at80_99 : am_at 80 99 = some (.iload_n 2, 1) := by decide +kernel
theorem at80_100 : am_at 80 100 = some (.isub, 1) := by decide +kernel
theorem at80_101 : am_at 80 101 = some (.ireturn, 1) := by decide +kernel
theorem at80_102 : am_at 80 102 = some (.iload_n 1, 1) := by decide +kernel
theorem at80_103 : am_at 80 103 = some (.iload_n 2, 1) := by decide +kernel
theorem at80_104 : am_at 80 104 = some (.imul, 1) := by decide +kernel
theorem at80_105 : am_at 80 105 = some (.ireturn, 1) := by decide +kernel
theorem at80_106 : am_at 80 106 = some (.iload_n 2, 1) := by decide +kernel
theorem at80_107 : am_at 80 107 = some (.ifCond .ne 7, 3) := by decide +kernel
theorem at80_110 : am_at 80 110 = some (.iconst 0, 1) := by decide +kernel
theorem at80_111 : am_at 80 111 = some (.goto 6, 3) := by decide +kernel
theorem at80_114 : am_at 80 114 = some (.iload_n 1, 1) := by decide +kernel
theorem at80_115 : am_at 80 115 = some (.iload_n 2, 1) := by decide +kernel
theorem at80_116 : am_at 80 116 = some (.idiv, 1) := by decide +kernel
theorem at80_117 : am_at 80 117 = some (.ireturn, 1) := by decide +kernel
theorem at81_0 : am_at 81 0 = some (.aload_n 0, 1) := by decide +kernel
theorem at81_1 : am_at 81 1 = some (.invokespecial 1000, 3) := by decide +kernel
theorem at81_4 : am_at 81 4 = some (.aload_n 0, 1) := by decide +kernel
theorem at81_5 : am_at 81 5 = some (.bipush 6, 2) := by decide +kernel
theorem at81_7 : am_at 81 7 = some (.newarray .int, 2) := by decide +kernel
theorem at81_9 : am_at 81 9 = some (.putfield 80052, 3) := by decide +kernel
theorem at81_12 : am_at 81 12 = some (.aload_n 0, 1) := by decide +kernel
theorem at81_13 : am_at 81 13 = some (.bipush 6, 2) := by decide +kernel
theorem at81_15 : am_at 81 15 = some (.newarray .int, 2) := by decide +kernel
theorem at81_17 : am_at 81 17 = some (.putfield 80062, 3) := by decide +kernel
theorem at81_20 : am_at 81 20 = some (.aload_n 0, 1) := by decide +kernel
theorem at81_21 : am_at 81 21 = some (.bipush 10, 2) := by decide +kernel
theorem at81_23 : am_at 81 23 = some (.newarray .int, 2) := by decide +kernel
theorem at81_25 : am_at 81 25 = some (.putfield 80072, 3) := by decide +kernel
theorem at81_28 : am_at 81 28 = some (.aload_n 0, 1) := by decide +kernel
theorem at81_29 : am_at 81 29 = some (.bipush 10, 2) := by decide +kernel
theorem at81_31 : am_at 81 31 = some (.newarray .int, 2) := by decide +kernel
theorem at81_33 : am_at 81 33 = some (.putfield 80082, 3) := by decide +kernel
theorem at81_36 : am_at 81 36 = some (.aload_n 0, 1) := by decide +kernel
theorem at81_37 : am_at 81 37 = some (.bipush 10, 2) := by decide +kernel
theorem at81_39 : am_at 81 39 = some (.newarray .int, 2) := by decide +kernel
theorem at81_41 : am_at 81 41 = some (.putfield 80092, 3) := by decide +kernel
theorem at81_44 : am_at 81 44 = some (.aload_n 0, 1) := by decide +kernel
theorem at81_45 : am_at 81 45 = some (.bipush 10, 2) := by decide +kernel
theorem at81_47 : am_at 81 47 = some (.newarray .int, 2) := by decide +kernel
theorem at81_49 : am_at 81 49 = some (.putfield 80102, 3) := by decide +kernel
theorem at81_52 : am_at 81 52 = some (.aload_n 0, 1) := by decide +kernel
theorem at81_53 : am_at 81 53 = some (.bipush 10, 2) := by decide +kernel
theorem at81_55 : am_at 81 55 = some (.newarray .int, 2) := by decide +kernel
theorem at81_57 : am_at 81 57 = some (.putfield 80112, 3) := by decide +kernel
theorem at81_60 : am_at 81 60 = some (.aload_n 0, 1) := by decide +kernel
theorem at81_61 : am_at 81 61 = some (.bipush 10, 2) := by decide +kernel
theorem at81_63 : am_at 81 63 = some (.newarray .int, 2) := by decide +kernel
theorem at81_65 : am_at 81 65 = some (.putfield 80122, 3) := by decide +kernel
theorem at81_68 : am_at 81 68 = some (.aload_n 0, 1) := by decide +kernel
theorem at81_69 : am_at 81 69 = some (.bipush 10, 2) := by decide +kernel
theorem at81_71 : am_at 81 71 = some (.newarray .int, 2) := by decide +kernel
theorem at81_73 : am_at 81 73 = some (.putfield 80132, 3) := by decide +kernel
theorem at81_76 : am_at 81 76 = some (.aload_n 0, 1) := by decide +kernel
theorem at81_77 : am_at 81 77 = some (.bipush 10, 2) := by decide +kernel
theorem at81_79 : am_at 81 79 = some (.newarray .int, 2) := by decide +kernel
theorem at81_81 : am_at 81 81 = some (.putfield 80142, 3) := by decide +kernel
theorem at81_84 : am_at 81 84 = some (.aload_n 0, 1) := by decide +kernel
theorem at81_85 : am_at 81 85 = some (.bipush 8, 2) := by decide +kernel
theorem at81_87 : am_at 81 87 = some (.newarray .int, 2) := by decide +kernel
theorem at81_89 : am_at 81 89 = some (.putfield 80152, 3) := by decide +kernel
theorem at81_92 : am_at 81 92 = some (.aload_n 0, 1) := by decide +kernel
theorem at81_93 : am_at 81 93 = some (.bipush 8, 2) := by decide +kernel
theorem at81_95 : am_at 81 95 = some (.newarray .int, 2) := by decide +kernel
theorem at81_97 : am_at 81 97 = some (.putfield 80162, 3) := by decide +kernel
theorem at81_100 : am_at 81 100 = some (.aload_n 0, 1) := by decide +kernel
theorem at81_101 : am_at 81 101 = some (.new 7, 3) := by decide +kernel
theorem at81_104 : am_at 81 104 = some (.dup, 1) := by decide +kernel
theorem at81_105 : am_at 81 105 = some (.invokespecial 68, 3) := by decide +kernel
theorem at81_108 : am_at 81 108 = some (.putfield 80172, 3) := by decide +kernel
theorem at81_111 : am_at 81 111 = some (.return_, 1) := by decide +kernel
theorem at82_0 : am_at 82 0 = some (.aload_n 0, 1) := by decide +kernel
theorem at82_1 : am_at 82 1 = some (.iconst 0, 1) := by decide +kernel
theorem at82_2 : am_at 82 2 = some (.putfield 80000, 3) := by decide +kernel
theorem at82_5 : am_at 82 5 = some (.aload_n 0, 1) := by decide +kernel
theorem at82_6 : am_at 82 6 = some (.iconst 0, 1) := by decide +kernel
theorem at82_7 : am_at 82 7 = some (.putfield 80010, 3) := by decide +kernel
theorem at82_10 : am_at 82 10 = some (.aload_n 0, 1) := by decide +kernel
theorem at82_11 : am_at 82 11 = some (.iconst 0, 1) := by decide +kernel
theorem at82_12 : am_at 82 12 = some (.putfield 80020, 3) := by decide +kernel
theorem at82_15 : am_at 82 15 = some (.aload_n 0, 1) := by decide +kernel
theorem at82_16 : am_at 82 16 = some (.iconst 0, 1) := by decide +kernel
theorem at82_17 : am_at 82 17 = some (.putfield 80030, 3) := by decide +kernel
theorem at82_20 : am_at 82 20 = some (.aload_n 0, 1) := by decide +kernel
theorem at82_21 : am_at 82 21 = some (.iconst 0, 1) := by decide +kernel
theorem at82_22 : am_at 82 22 = some (.putfield 80041, 3) := by decide +kernel
theorem at82_25 : am_at 82 25 = some (.aload_n 0, 1) := by decide +kernel
theorem at82_26 : am_at 82 26 = some (.getfield 80172, 3) := by decide +kernel
theorem at82_29 : am_at 82 29 = some (.invokevirtual 72, 3) := by decide +kernel
theorem at82_32 : am_at 82 32 = some (.return_, 1) := by decide +kernel
theorem at83_0 : am_at 83 0 = some (.iconst 1, 1) := by decide +kernel
theorem at83_1 : am_at 83 1 = some (.aload_n 0, 1) := by decide +kernel
theorem at83_2 : am_at 83 2 = some (.getfield 80010, 3) := by decide +kernel
theorem at83_5 : am_at 83 5 = some (.ishl, 1) := by decide +kernel
theorem at83_6 : am_at 83 6 = some (.iconst 1, 1) := by decide +kernel
theorem at83_7 : am_at 83 7 = some (.isub, 1) := by decide +kernel
theorem at83_8 : am_at 83 8 = some (.ireturn, 1) := by decide +kernel
theorem at84_0 : am_at 84 0 = some (.iconst 0, 1) := by decide +kernel
theorem at84_1 : am_at 84 1 = some (.istore_n 2, 1) := by decide +kernel
theorem at84_2 : am_at 84 2 = some (.iconst 0, 1) := by decide +kernel
theorem at84_3 : am_at 84 3 = some (.istore_n 3, 1) := by decide +kernel
theorem at84_4 : am_at 84 4 = some (.iload_n 3, 1) := by decide +kernel
theorem at84_5 : am_at 84 5 = some (.aload_n 0, 1) := by decide +kernel
theorem at84_6 : am_at 84 6 = some (.getfield 80010, 3) := by decide +kernel
theorem at84_9 : am_at 84 9 = some (.if_icmp .ge 26, 3) := by decide +kernel
theorem at84_12 : am_at 84 12 = some (.iload_n 1, 1) := by decide +kernel
theorem at84_13 : am_at 84 13 = some (.iload_n 3, 1) := by decide +kernel
theorem at84_14 : am_at 84 14 = some (.invokestatic 145, 3) := by decide +kernel
theorem at84_17 : am_at 84 17 = some (.ifCond .eq 12, 3) := by decide +kernel
theorem at84_20 : am_at 84 20 = some (.iload_n 2, 1) := by decide +kernel
theorem at84_21 : am_at 84 21 = some (.aload_n 0, 1) := by decide +kernel
theorem at84_22 : am_at 84 22 = some (.getfield 80082, 3) := by decide +kernel
theorem at84_25 : am_at 84 25 = some (.iload_n 3, 1) := by decide +kernel
theorem at84_26 : am_at 84 26 = some (.iaload, 1) := by decide +kernel
theorem at84_27 : am_at 84 27 = some (.iadd, 1) := by decide +kernel
theorem at84_28 : am_at 84 28 = some (.istore_n 2, 1) := by decide +kernel
theorem at84_29 : am_at 84 29 = some (.iinc 3 1, 3) := by decide +kernel
theorem at84_32 : am_at 84 32 = some (.goto (-28), 3) := by decide +kernel
theorem at84_35 : am_at 84 35 = some (.iload_n 2, 1) := by decide +kernel
theorem at84_36 : am_at 84 36 = some (.ireturn, 1) := by decide +kernel
theorem at85_0 : am_at 85 0 = some (.iconst 0, 1) := by decide +kernel
theorem at85_1 : am_at 85 1 = some (.istore_n 2, 1) := by decide +kernel
theorem at85_2 : am_at 85 2 = some (.iload_n 2, 1) := by decide +kernel
theorem at85_3 : am_at 85 3 = some (.aload_n 0, 1) := by decide +kernel
theorem at85_4 : am_at 85 4 = some (.getfield 80030, 3) := by decide +kernel
theorem at85_7 : am_at 85 7 = some (.if_icmp .ge 21, 3) := by decide +kernel
theorem at85_10 : am_at 85 10 = some (.aload_n 0, 1) := by decide +kernel
theorem at85_11 : am_at 85 11 = some (.getfield 80152, 3) := by decide +kernel
theorem at85_14 : am_at 85 14 = some (.iload_n 2, 1) := by decide +kernel
theorem at85_15 : am_at 85 15 = some (.iaload, 1) := by decide +kernel
theorem at85_16 : am_at 85 16 = some (.iload_n 1, 1) := by decide +kernel
theorem at85_17 : am_at 85 17 = some (.if_icmp .ne 5, 3) := by decide +kernel
theorem at85_20 : am_at 85 20 = some (.iconst 1, 1) := by decide +kernel
theorem at85_21 : am_at 85 21 = some (.ireturn, 1) := by decide +kernel
theorem at85_22 : am_at 85 22 = some (.iinc 2 1, 3) := by decide +kernel
theorem at85_25 : am_at 85 25 = some (.goto (-23), 3) := by decide +kernel
theorem at85_28 : am_at 85 28 = some (.iconst 0, 1) := by decide +kernel
theorem at85_29 : am_at 85 29 = some (.ireturn, 1) := by decide +kernel
theorem at86_0 : am_at 86 0 = some (.iconst (-1), 1) := by decide +kernel
theorem at86_1 : am_at 86 1 = some (.istore_n 2, 1) := by decide +kernel
theorem at86_2 : am_at 86 2 = some (.iconst 5, 1) := by decide +kernel
theorem at86_3 : am_at 86 3 = some (.istore_n 3, 1) := by decide +kernel
theorem at86_4 : am_at 86 4 = some (.iconst 0, 1) := by decide +kernel
theorem at86_5 : am_at 86 5 = some (.istore 4, 2) := by decide +kernel
theorem at86_7 : am_at 86 7 = some (.iload 4, 2) := by decide +kernel
theorem at86_9 : am_at 86 9 = some (.aload_n 0, 1) := by decide +kernel
theorem at86_10 : am_at 86 10 = some (.getfield 80030, 3) := by decide +kernel
theorem at86_13 : am_at 86 13 = some (.if_icmp .ge 47, 3) := by decide +kernel
theorem at86_16 : am_at 86 16 = some (.aload_n 0, 1) := by decide +kernel
theorem at86_17 : am_at 86 17 = some (.getfield 80152, 3) := by decide +kernel
theorem at86_20 : am_at 86 20 = some (.iload 4, 2) := by decide +kernel
theorem at86_22 : am_at 86 22 = some (.iaload, 1) := by decide +kernel
theorem at86_23 : am_at 86 23 = some (.iload_n 1, 1) := by decide +kernel
theorem at86_24 : am_at 86 24 = some (.if_icmp .gt 30, 3) := by decide +kernel
theorem at86_27 : am_at 86 27 = some (.aload_n 0, 1) := by decide +kernel
theorem at86_28 : am_at 86 28 = some (.getfield 80152, 3) := by decide +kernel
theorem at86_31 : am_at 86 31 = some (.iload 4, 2) := by decide +kernel
theorem at86_33 : am_at 86 33 = some (.iaload, 1) := by decide +kernel
theorem at86_34 : am_at 86 34 = some (.iload_n 2, 1) := by decide +kernel
theorem at86_35 : am_at 86 35 = some (.if_icmp .le 19, 3) := by decide +kernel
theorem at86_38 : am_at 86 38 = some (.aload_n 0, 1) := by decide +kernel
theorem at86_39 : am_at 86 39 = some (.getfield 80152, 3) := by decide +kernel
theorem at86_42 : am_at 86 42 = some (.iload 4, 2) := by decide +kernel
theorem at86_44 : am_at 86 44 = some (.iaload, 1) := by decide +kernel
theorem at86_45 : am_at 86 45 = some (.istore_n 2, 1) := by decide +kernel
theorem at86_46 : am_at 86 46 = some (.aload_n 0, 1) := by decide +kernel
theorem at86_47 : am_at 86 47 = some (.getfield 80162, 3) := by decide +kernel
theorem at86_50 : am_at 86 50 = some (.iload 4, 2) := by decide +kernel
theorem at86_52 : am_at 86 52 = some (.iaload, 1) := by decide +kernel
theorem at86_53 : am_at 86 53 = some (.istore_n 3, 1) := by decide +kernel
theorem at86_54 : am_at 86 54 = some (.iinc 4 1, 3) := by decide +kernel
theorem at86_57 : am_at 86 57 = some (.goto (-50), 3) := by decide +kernel
theorem at86_60 : am_at 86 60 = some (.iload_n 3, 1) := by decide +kernel
theorem at86_61 : am_at 86 61 = some (.ireturn, 1) := by decide +kernel
theorem at87_0 : am_at 87 0 = some (.iconst 0, 1) := by decide +kernel
theorem at87_1 : am_at 87 1 = some (.istore_n 2, 1) := by decide +kernel
theorem at87_2 : am_at 87 2 = some (.iconst 0, 1) := by decide +kernel
theorem at87_3 : am_at 87 3 = some (.istore_n 3, 1) := by decide +kernel
theorem at87_4 : am_at 87 4 = some (.iload_n 3, 1) := by decide +kernel
theorem at87_5 : am_at 87 5 = some (.aload_n 0, 1) := by decide +kernel
theorem at87_6 : am_at 87 6 = some (.getfield 80020, 3) := by decide +kernel
theorem at87_9 : am_at 87 9 = some (.if_icmp .ge 51, 3) := by decide +kernel
theorem at87_12 : am_at 87 12 = some (.aload_n 0, 1) := by decide +kernel
theorem at87_13 : am_at 87 13 = some (.getfield 80132, 3) := by decide +kernel
theorem at87_16 : am_at 87 16 = some (.iload_n 3, 1) := by decide +kernel
theorem at87_17 : am_at 87 17 = some (.iaload, 1) := by decide +kernel
theorem at87_18 : am_at 87 18 = some (.iload_n 1, 1) := by decide +kernel
theorem at87_19 : am_at 87 19 = some (.if_icmp .ne 14, 3) := by decide +kernel
theorem at87_22 : am_at 87 22 = some (.iload_n 2, 1) := by decide +kernel
theorem at87_23 : am_at 87 23 = some (.iconst 1, 1) := by decide +kernel
theorem at87_24 : am_at 87 24 = some (.aload_n 0, 1) := by decide +kernel
theorem at87_25 : am_at 87 25 = some (.getfield 80142, 3) := by decide +kernel
theorem at87_28 : am_at 87 28 = some (.iload_n 3, 1) := by decide +kernel
theorem at87_29 : am_at 87 29 = some (.iaload, 1) := by decide +kernel
theorem at87_30 : am_at 87 30 = some (.ishl, 1) := by decide +kernel
theorem at87_31 : am_at 87 31 = some (.ior, 1) := by decide +kernel
theorem at87_32 : am_at 87 32 = some (.istore_n 2, 1) := by decide +kernel
theorem at87_33 : am_at 87 33 = some (.aload_n 0, 1) := by decide +kernel
theorem at87_34 : am_at 87 34 = some (.getfield 80142, 3) := by decide +kernel
theorem at87_37 : am_at 87 37 = some (.iload_n 3, 1) := by decide +kernel
theorem at87_38 : am_at 87 38 = some (.iaload, 1) := by decide +kernel
theorem at87_39 : am_at 87 39 = some (.iload_n 1, 1) := by decide +kernel
theorem at87_40 : am_at 87 40 = some (.if_icmp .ne 14, 3) := by decide +kernel
theorem at87_43 : am_at 87 43 = some (.iload_n 2, 1) := by decide +kernel
theorem at87_44 : am_at 87 44 = some (.iconst 1, 1) := by decide +kernel
theorem at87_45 : am_at 87 45 = some (.aload_n 0, 1) := by decide +kernel
theorem at87_46 : am_at 87 46 = some (.getfield 80132, 3) := by decide +kernel
theorem at87_49 : am_at 87 49 = some (.iload_n 3, 1) := by decide +kernel
theorem at87_50 : am_at 87 50 = some (.iaload, 1) := by decide +kernel
theorem at87_51 : am_at 87 51 = some (.ishl, 1) := by decide +kernel
theorem at87_52 : am_at 87 52 = some (.ior, 1) := by decide +kernel
theorem at87_53 : am_at 87 53 = some (.istore_n 2, 1) := by decide +kernel
theorem at87_54 : am_at 87 54 = some (.iinc 3 1, 3) := by decide +kernel
theorem at87_57 : am_at 87 57 = some (.goto (-53), 3) := by decide +kernel
theorem at87_60 : am_at 87 60 = some (.iload_n 2, 1) := by decide +kernel
theorem at87_61 : am_at 87 61 = some (.ireturn, 1) := by decide +kernel
theorem at88_0 : am_at 88 0 = some (.iload_n 1, 1) := by decide +kernel
theorem at88_1 : am_at 88 1 = some (.istore_n 3, 1) := by decide +kernel
theorem at88_2 : am_at 88 2 = some (.iconst 0, 1) := by decide +kernel
theorem at88_3 : am_at 88 3 = some (.istore 4, 2) := by decide +kernel
theorem at88_5 : am_at 88 5 = some (.iload 4, 2) := by decide +kernel
theorem at88_7 : am_at 88 7 = some (.aload_n 0, 1) := by decide +kernel
theorem at88_8 : am_at 88 8 = some (.getfield 80000, 3) := by decide +kernel
theorem at88_11 : am_at 88 11 = some (.if_icmp .ge 34, 3) := by decide +kernel
theorem at88_14 : am_at 88 14 = some (.iload 4, 2) := by decide +kernel
theorem at88_16 : am_at 88 16 = some (.aload_n 2, 1) := by decide +kernel
theorem at88_17 : am_at 88 17 = some (.arraylength, 1) := by decide +kernel
theorem at88_18 : am_at 88 18 = some (.if_icmp .ge 27, 3) := by decide +kernel
theorem at88_21 : am_at 88 21 = some (.aload_n 2, 1) := by decide +kernel
theorem at88_22 : am_at 88 22 = some (.iload 4, 2) := by decide +kernel
theorem at88_24 : am_at 88 24 = some (.iload_n 1, 1) := by decide +kernel
theorem at88_25 : am_at 88 25 = some (.iload 4, 2) := by decide +kernel
theorem at88_27 : am_at 88 27 = some (.invokestatic 145, 3) := by decide +kernel
theorem at88_30 : am_at 88 30 = some (.ifCond .eq 7, 3) := by decide +kernel
theorem at88_33 : am_at 88 33 = some (.iconst 0, 1) := by decide +kernel
theorem at88_34 : am_at 88 34 = some (.goto 4, 3) := by decide +kernel
theorem at88_37 : am_at 88 37 = some (.iconst (-1), 1) := by decide +kernel
theorem at88_38 : am_at 88 38 = some (.iastore, 1) := by decide +kernel
theorem at88_39 : am_at 88 39 = some (.iinc 4 1, 3) := by decide +kernel
theorem at88_42 : am_at 88 42 = some (.goto (-37), 3) := by decide +kernel
theorem at88_45 : am_at 88 45 = some (.iconst 1, 1) := by decide +kernel
theorem at88_46 : am_at 88 46 = some (.istore 4, 2) := by decide +kernel
theorem at88_48 : am_at 88 48 = some (.iload 4, 2) := by decide +kernel
theorem at88_50 : am_at 88 50 = some (.bipush 6, 2) := by decide +kernel
theorem at88_52 : am_at 88 52 = some (.if_icmp .ge 75, 3) := by decide +kernel
theorem at88_55 : am_at 88 55 = some (.iload_n 3, 1) := by decide +kernel
theorem at88_56 : am_at 88 56 = some (.istore 5, 2) := by decide +kernel
theorem at88_58 : am_at 88 58 = some (.iconst 0, 1) := by decide +kernel
theorem at88_59 : am_at 88 59 = some (.istore 6, 2) := by decide +kernel
theorem at88_61 : am_at 88 61 = some (.iload 6, 2) := by decide +kernel
theorem at88_63 : am_at 88 63 = some (.aload_n 0, 1) := by decide +kernel
theorem at88_64 : am_at 88 64 = some (.getfield 80000, 3) := by decide +kernel
theorem at88_67 : am_at 88 67 = some (.if_icmp .ge 51, 3) := by decide +kernel
theorem at88_70 : am_at 88 70 = some (.iload 6, 2) := by decide +kernel
theorem at88_72 : am_at 88 72 = some (.aload_n 2, 1) := by decide +kernel
theorem at88_73 : am_at 88 73 = some (.arraylength, 1) := by decide +kernel
theorem at88_74 : am_at 88 74 = some (.if_icmp .ge 44, 3) := by decide +kernel
theorem at88_77 : am_at 88 77 = some (.iload_n 3, 1) := by decide +kernel
theorem at88_78 : am_at 88 78 = some (.iload 6, 2) := by decide +kernel
theorem at88_80 : am_at 88 80 = some (.invokestatic 145, 3) := by decide +kernel
theorem at88_83 : am_at 88 83 = some (.ifCond .ne 29, 3) := by decide +kernel
theorem at88_86 : am_at 88 86 = some (.aload_n 0, 1) := by decide +kernel
theorem at88_87 : am_at 88 87 = some (.iload 6, 2) := by decide +kernel
theorem at88_89 : am_at 88 89 = some (.invokevirtual 87, 3) := by decide +kernel
theorem at88_92 : am_at 88 92 = some (.iload_n 3, 1) := by decide +kernel
theorem at88_93 : am_at 88 93 = some (.iand, 1) := by decide +kernel
theorem at88_94 : am_at 88 94 = some (.ifCond .eq 18, 3) := by decide +kernel
theorem at88_97 : am_at 88 97 = some (.aload_n 2, 1) := by decide +kernel
theorem at88_98 : am_at 88 98 = some (.iload 6, 2) := by decide +kernel
theorem at88_100 : am_at 88 100 = some (.iload 4, 2) := by decide +kernel
theorem at88_102 : am_at 88 102 = some (.iastore, 1) := by decide +kernel
theorem at88_103 : am_at 88 103 = some (.iload 5, 2) := by decide +kernel
theorem at88_105 : am_at 88 105 = some (.iconst 1, 1) := by decide +kernel
theorem at88_106 : am_at 88 106 = some (.iload 6, 2) := by decide +kernel
theorem at88_108 : am_at 88 108 = some (.ishl, 1) := by decide +kernel
theorem at88_109 : am_at 88 109 = some (.ior, 1) := by decide +kernel
theorem at88_110 : am_at 88 110 = some (.istore 5, 2) := by decide +kernel
theorem at88_112 : am_at 88 112 = some (.iinc 6 1, 3) := by decide +kernel
theorem at88_115 : am_at 88 115 = some (.goto (-54), 3) := by decide +kernel
theorem at88_118 : am_at 88 118 = some (.iload 5, 2) := by decide +kernel
theorem at88_120 : am_at 88 120 = some (.istore_n 3, 1) := by decide +kernel
theorem at88_121 : am_at 88 121 = some (.iinc 4 1, 3) := by decide +kernel
theorem at88_124 : am_at 88 124 = some (.goto (-76), 3) := by decide +kernel
theorem at88_127 : am_at 88 127 = some (.return_, 1) := by decide +kernel
theorem at89_0 : am_at 89 0 = some (.iload_n 1, 1) := by decide +kernel
theorem at89_1 : am_at 89 1 = some (.ifCond .lt 20, 3) := by decide +kernel
theorem at89_4 : am_at 89 4 = some (.iload_n 1, 1) := by decide +kernel
theorem at89_5 : am_at 89 5 = some (.aload_n 0, 1) := by decide +kernel
theorem at89_6 : am_at 89 6 = some (.getfield 80010, 3) := by decide +kernel
theorem at89_9 : am_at 89 9 = some (.if_icmp .ge 12, 3) := by decide +kernel
theorem at89_12 : am_at 89 12 = some (.aload_n 0, 1) := by decide +kernel
theorem at89_13 : am_at 89 13 = some (.getfield 80102, 3) := by decide +kernel
theorem at89_16 : am_at 89 16 = some (.iload_n 1, 1) := by decide +kernel
theorem at89_17 : am_at 89 17 = some (.iaload, 1) := by decide +kernel
theorem at89_18 : am_at 89 18 = some (.ifCond .ge 5, 3) := by decide +kernel
theorem at89_21 : am_at 89 21 = some (.iconst 0, 1) := by decide +kernel
theorem at89_22 : am_at 89 22 = some (.ireturn, 1) := by decide +kernel
theorem at89_23 : am_at 89 23 = some (.iconst 1, 1) := by decide +kernel
theorem at89_24 : am_at 89 24 = some (.aload_n 0, 1) := by decide +kernel
theorem at89_25 : am_at 89 25 = some (.getfield 80102, 3) := by decide +kernel
theorem at89_28 : am_at 89 28 = some (.iload_n 1, 1) := by decide +kernel
theorem at89_29 : am_at 89 29 = some (.iaload, 1) := by decide +kernel
theorem at89_30 : am_at 89 30 = some (.ishl, 1) := by decide +kernel
theorem at89_31 : am_at 89 31 = some (.iconst 1, 1) := by decide +kernel
theorem at89_32 : am_at 89 32 = some (.aload_n 0, 1) := by decide +kernel
theorem at89_33 : am_at 89 33 = some (.getfield 80112, 3) := by decide +kernel
theorem at89_36 : am_at 89 36 = some (.iload_n 1, 1) := by decide +kernel
theorem at89_37 : am_at 89 37 = some (.iaload, 1) := by decide +kernel
theorem at89_38 : am_at 89 38 = some (.ishl, 1) := by decide +kernel
theorem at89_39 : am_at 89 39 = some (.ior, 1) := by decide +kernel
theorem at89_40 : am_at 89 40 = some (.istore_n 3, 1) := by decide +kernel
theorem at89_41 : am_at 89 41 = some (.iload_n 2, 1) := by decide +kernel
theorem at89_42 : am_at 89 42 = some (.iload_n 3, 1) := by decide +kernel
theorem at89_43 : am_at 89 43 = some (.iconst (-1), 1) := by decide +kernel
theorem at89_44 : am_at 89 44 = some (.ixor, 1) := by decide +kernel
theorem at89_45 : am_at 89 45 = some (.iand, 1) := by decide +kernel
theorem at89_46 : am_at 89 46 = some (.ifCond .ne 10, 3) := by decide +kernel
theorem at89_49 : am_at 89 49 = some (.iload_n 2, 1) := by decide +kernel
theorem at89_50 : am_at 89 50 = some (.iload_n 3, 1) := by decide +kernel
theorem at89_51 : am_at 89 51 = some (.iand, 1) := by decide +kernel
theorem at89_52 : am_at 89 52 = some (.iload_n 3, 1) := by decide +kernel
theorem at89_53 : am_at 89 53 = some (.if_icmp .ne 7, 3) := by decide +kernel
theorem at89_56 : am_at 89 56 = some (.iconst 1, 1) := by decide +kernel
theorem at89_57 : am_at 89 57 = some (.goto 4, 3) := by decide +kernel
theorem at89_60 : am_at 89 60 = some (.iconst 0, 1) := by decide +kernel
theorem at89_61 : am_at 89 61 = some (.ireturn, 1) := by decide +kernel
theorem at90_0 : am_at 90 0 = some (.aload_n 0, 1) := by decide +kernel
theorem at90_1 : am_at 90 1 = some (.invokespecial 1000, 3) := by decide +kernel
theorem at90_4 : am_at 90 4 = some (.aload_n 0, 1) := by decide +kernel
theorem at90_5 : am_at 90 5 = some (.sipush 700, 3) := by decide +kernel
theorem at90_8 : am_at 90 8 = some (.newarray .int, 2) := by decide +kernel
theorem at90_10 : am_at 90 10 = some (.putfield 90002, 3) := by decide +kernel
theorem at90_13 : am_at 90 13 = some (.return_, 1) := by decide +kernel
theorem at91_0 : am_at 91 0 = some (.aload_n 0, 1) := by decide +kernel
theorem at91_1 : am_at 91 1 = some (.getfield 90010, 3) := by decide +kernel
theorem at91_4 : am_at 91 4 = some (.iload_n 1, 1) := by decide +kernel
theorem at91_5 : am_at 91 5 = some (.iadd, 1) := by decide +kernel
theorem at91_6 : am_at 91 6 = some (.sipush 700, 3) := by decide +kernel
theorem at91_9 : am_at 91 9 = some (.if_icmp .gt 7, 3) := by decide +kernel
theorem at91_12 : am_at 91 12 = some (.iconst 1, 1) := by decide +kernel
theorem at91_13 : am_at 91 13 = some (.goto 4, 3) := by decide +kernel
theorem at91_16 : am_at 91 16 = some (.iconst 0, 1) := by decide +kernel
theorem at91_17 : am_at 91 17 = some (.ireturn, 1) := by decide +kernel
theorem at92_0 : am_at 92 0 = some (.bipush 24, 2) := by decide +kernel
theorem at92_2 : am_at 92 2 = some (.istore_n 2, 1) := by decide +kernel
theorem at92_3 : am_at 92 3 = some (.iload_n 2, 1) := by decide +kernel
theorem at92_4 : am_at 92 4 = some (.ifCond .lt 52, 3) := by decide +kernel
theorem at92_7 : am_at 92 7 = some (.aload_n 0, 1) := by decide +kernel
theorem at92_8 : am_at 92 8 = some (.getfield 90010, 3) := by decide +kernel
theorem at92_11 : am_at 92 11 = some (.ifCond .lt 39, 3) := by decide +kernel
theorem at92_14 : am_at 92 14 = some (.aload_n 0, 1) := by decide +kernel
theorem at92_15 : am_at 92 15 = some (.getfield 90010, 3) := by decide +kernel
theorem at92_18 : am_at 92 18 = some (.sipush 700, 3) := by decide +kernel
theorem at92_21 : am_at 92 21 = some (.if_icmp .ge 29, 3) := by decide +kernel
theorem at92_24 : am_at 92 24 = some (.aload_n 0, 1) := by decide +kernel
theorem at92_25 : am_at 92 25 = some (.getfield 90002, 3) := by decide +kernel
theorem at92_28 : am_at 92 28 = some (.aload_n 0, 1) := by decide +kernel
theorem at92_29 : am_at 92 29 = some (.getfield 90010, 3) := by decide +kernel
theorem at92_32 : am_at 92 32 = some (.iload_n 1, 1) := by decide +kernel
theorem at92_33 : am_at 92 33 = some (.iload_n 2, 1) := by decide +kernel
theorem at92_34 : am_at 92 34 = some (.ishr, 1) := by decide +kernel
theorem at92_35 : am_at 92 35 = some (.sipush 255, 3) := by decide +kernel
theorem at92_38 : am_at 92 38 = some (.iand, 1) := by decide +kernel
theorem at92_39 : am_at 92 39 = some (.iastore, 1) := by decide +kernel
theorem at92_40 : am_at 92 40 = some (.aload_n 0, 1) := by decide +kernel
theorem at92_41 : am_at 92 41 = some (.dup, 1) := by decide +kernel
theorem at92_42 : am_at 92 42 = some (.getfield 90010, 3) := by decide +kernel
theorem at92_45 : am_at 92 45 = some (.iconst 1, 1) := by decide +kernel
theorem at92_46 : am_at 92 46 = some (.iadd, 1) := by decide +kernel
theorem at92_47 : am_at 92 47 = some (.putfield 90010, 3) := by decide +kernel
theorem at92_50 : am_at 92 50 = some (.iinc 2 (-8), 3) := by decide +kernel
theorem at92_53 : am_at 92 53 = some (.goto (-50), 3) := by decide +kernel
theorem at92_56 : am_at 92 56 = some (.return_, 1) := by decide +kernel
theorem at93_0 : am_at 93 0 = some (.aload_n 0, 1) := by decide +kernel
theorem at93_1 : am_at 93 1 = some (.iload_n 1, 1) := by decide +kernel
theorem at93_2 : am_at 93 2 = some (.putfield 90020, 3) := by decide +kernel
theorem at93_5 : am_at 93 5 = some (.aload_n 0, 1) := by decide +kernel
theorem at93_6 : am_at 93 6 = some (.iconst 0, 1) := by decide +kernel
theorem at93_7 : am_at 93 7 = some (.putfield 90050, 3) := by decide +kernel
theorem at93_10 : am_at 93 10 = some (.aload_n 0, 1) := by decide +kernel
theorem at93_11 : am_at 93 11 = some (.invokevirtual 94, 3) := by decide +kernel
theorem at93_14 : am_at 93 14 = some (.return_, 1) := by decide +kernel
theorem at94_0 : am_at 94 0 = some (.aload_n 0, 1) := by decide +kernel
theorem at94_1 : am_at 94 1 = some (.aload_n 0, 1) := by decide +kernel
theorem at94_2 : am_at 94 2 = some (.getfield 90050, 3) := by decide +kernel
theorem at94_5 : am_at 94 5 = some (.putfield 90040, 3) := by decide +kernel
theorem at94_8 : am_at 94 8 = some (.iconst 0, 1) := by decide +kernel
theorem at94_9 : am_at 94 9 = some (.istore_n 1, 1) := by decide +kernel
theorem at94_10 : am_at 94 10 = some (.iload_n 1, 1) := by decide +kernel
theorem at94_11 : am_at 94 11 = some (.sipush 700, 3) := by decide +kernel
theorem at94_14 : am_at 94 14 = some (.if_icmp .ge 33, 3) := by decide +kernel
theorem at94_17 : am_at 94 17 = some (.aload_n 0, 1) := by decide +kernel
theorem at94_18 : am_at 94 18 = some (.aload_n 0, 1) := by decide +kernel
theorem at94_19 : am_at 94 19 = some (.getfield 90040, 3) := by decide +kernel
theorem at94_22 : am_at 94 22 = some (.invokevirtual 98, 3) := by decide +kernel
theorem at94_25 : am_at 94 25 = some (.invokestatic 99, 3) := by decide +kernel
theorem at94_28 : am_at 94 28 = some (.ifCond .eq 19, 3) := by decide +kernel
theorem at94_31 : am_at 94 31 = some (.aload_n 0, 1) := by decide +kernel
theorem at94_32 : am_at 94 32 = some (.dup, 1) := by decide +kernel
theorem at94_33 : am_at 94 33 = some (.getfield 90040, 3) := by decide +kernel
theorem at94_36 : am_at 94 36 = some (.iconst 1, 1) := by decide +kernel
theorem at94_37 : am_at 94 37 = some (.iadd, 1) := by decide +kernel
theorem at94_38 : am_at 94 38 = some (.putfield 90040, 3) := by decide +kernel
theorem at94_41 : am_at 94 41 = some (.iinc 1 1, 3) := by decide +kernel
theorem at94_44 : am_at 94 44 = some (.goto (-34), 3) := by decide +kernel
theorem at94_47 : am_at 94 47 = some (.aload_n 0, 1) := by decide +kernel
theorem at94_48 : am_at 94 48 = some (.aload_n 0, 1) := by decide +kernel
theorem at94_49 : am_at 94 49 = some (.getfield 90040, 3) := by decide +kernel
theorem at94_52 : am_at 94 52 = some (.invokevirtual 98, 3) := by decide +kernel
theorem at94_55 : am_at 94 55 = some (.istore_n 1, 1) := by decide +kernel
theorem at94_56 : am_at 94 56 = some (.aload_n 0, 1) := by decide +kernel
theorem at94_57 : am_at 94 57 = some (.aload_n 0, 1) := by decide +kernel
theorem at94_58 : am_at 94 58 = some (.getfield 90040, 3) := by decide +kernel
theorem at94_61 : am_at 94 61 = some (.iconst 1, 1) := by decide +kernel
theorem at94_62 : am_at 94 62 = some (.iadd, 1) := by decide +kernel
theorem at94_63 : am_at 94 63 = some (.putfield 90050, 3) := by decide +kernel
theorem at94_66 : am_at 94 66 = some (.iload_n 1, 1) := by decide +kernel
theorem at94_67 : am_at 94 67 = some (.iconst (-1), 1) := by decide +kernel
theorem at94_68 : am_at 94 68 = some (.if_icmp .ne 19, 3) := by decide +kernel
theorem at94_71 : am_at 94 71 = some (.aload_n 0, 1) := by decide +kernel
theorem at94_72 : am_at 94 72 = some (.iconst 0, 1) := by decide +kernel
theorem at94_73 : am_at 94 73 = some (.putfield 90030, 3) := by decide +kernel
theorem at94_76 : am_at 94 76 = some (.aload_n 0, 1) := by decide +kernel
theorem at94_77 : am_at 94 77 = some (.aload_n 0, 1) := by decide +kernel
theorem at94_78 : am_at 94 78 = some (.getfield 90040, 3) := by decide +kernel
theorem at94_81 : am_at 94 81 = some (.putfield 90050, 3) := by decide +kernel
theorem at94_84 : am_at 94 84 = some (.goto 93, 3) := by decide +kernel
theorem at94_87 : am_at 94 87 = some (.iload_n 1, 1) := by decide +kernel
theorem at94_88 : am_at 94 88 = some (.invokestatic 100, 3) := by decide +kernel
theorem at94_91 : am_at 94 91 = some (.ifCond .eq 50, 3) := by decide +kernel
theorem at94_94 : am_at 94 94 = some (.aload_n 0, 1) := by decide +kernel
theorem at94_95 : am_at 94 95 = some (.iconst 1, 1) := by decide +kernel
theorem at94_96 : am_at 94 96 = some (.putfield 90030, 3) := by decide +kernel
theorem at94_99 : am_at 94 99 = some (.iconst 0, 1) := by decide +kernel
theorem at94_100 : am_at 94 100 = some (.istore_n 2, 1) := by decide +kernel
theorem at94_101 : am_at 94 101 = some (.iload_n 2, 1) := by decide +kernel
theorem at94_102 : am_at 94 102 = some (.sipush 700, 3) := by decide +kernel
theorem at94_105 : am_at 94 105 = some (.if_icmp .ge 33, 3) := by decide +kernel
theorem at94_108 : am_at 94 108 = some (.aload_n 0, 1) := by decide +kernel
theorem at94_109 : am_at 94 109 = some (.aload_n 0, 1) := by decide +kernel
theorem at94_110 : am_at 94 110 = some (.getfield 90050, 3) := by decide +kernel
theorem at94_113 : am_at 94 113 = some (.invokevirtual 98, 3) := by decide +kernel
theorem at94_116 : am_at 94 116 = some (.invokestatic 100, 3) := by decide +kernel
theorem at94_119 : am_at 94 119 = some (.ifCond .eq 19, 3) := by decide +kernel
theorem at94_122 : am_at 94 122 = some (.aload_n 0, 1) := by decide +kernel
theorem at94_123 : am_at 94 123 = some (.dup, 1) := by decide +kernel
theorem at94_124 : am_at 94 124 = some (.getfield 90050, 3) := by decide +kernel
theorem at94_127 : am_at 94 127 = some (.iconst 1, 1) := by decide +kernel
theorem at94_128 : am_at 94 128 = some (.iadd, 1) := by decide +kernel
theorem at94_129 : am_at 94 129 = some (.putfield 90050, 3) := by decide +kernel
theorem at94_132 : am_at 94 132 = some (.iinc 2 1, 3) := by decide +kernel
theorem at94_135 : am_at 94 135 = some (.goto (-34), 3) := by decide +kernel
theorem at94_138 : am_at 94 138 = some (.goto 39, 3) := by decide +kernel
theorem at94_141 : am_at 94 141 = some (.iload_n 1, 1) := by decide +kernel
theorem at94_142 : am_at 94 142 = some (.invokestatic 101, 3) := by decide +kernel
theorem at94_145 : am_at 94 145 = some (.ifCond .eq 16, 3) := by decide +kernel
theorem at94_148 : am_at 94 148 = some (.aload_n 0, 1) := by decide +kernel
theorem at94_149 : am_at 94 149 = some (.iconst 2, 1) := by decide +kernel
theorem at94_150 : am_at 94 150 = some (.putfield 90030, 3) := by decide +kernel
theorem at94_153 : am_at 94 153 = some (.aload_n 0, 1) := by decide +kernel
theorem at94_154 : am_at 94 154 = some (.iload_n 1, 1) := by decide +kernel
theorem at94_155 : am_at 94 155 = some (.invokevirtual 95, 3) := by decide +kernel
theorem at94_158 : am_at 94 158 = some (.goto 19, 3) := by decide +kernel
theorem at94_161 : am_at 94 161 = some (.aload_n 0, 1) := by decide +kernel
theorem at94_162 : am_at 94 162 = some (.iload_n 1, 1) := by decide +kernel
theorem at94_163 : am_at 94 163 = some (.invokestatic 102, 3) := by decide +kernel
theorem at94_166 : am_at 94 166 = some (.ifCond .eq 7, 3) := by decide +kernel
theorem at94_169 : am_at 94 169 = some (.iconst 3, 1) := by decide +kernel
theorem at94_170 : am_at 94 170 = some (.goto 4, 3) := by decide +kernel
theorem at94_173 : am_at 94 173 = some (.iconst 4, 1) := by decide +kernel
theorem at94_174 : am_at 94 174 = some (.putfield 90030, 3) := by decide +kernel
theorem at94_177 : am_at 94 177 = some (.return_, 1) := by decide +kernel
theorem at95_0 : am_at 95 0 = some (.aload_n 0, 1) := by decide +kernel
theorem at95_1 : am_at 95 1 = some (.iload_n 1, 1) := by decide +kernel
theorem at95_2 : am_at 95 2 = some (.bipush 48, 2) := by decide +kernel
theorem at95_4 : am_at 95 4 = some (.isub, 1) := by decide +kernel
theorem at95_5 : am_at 95 5 = some (.putfield 90060, 3) := by decide +kernel
theorem at95_8 : am_at 95 8 = some (.iconst 0, 1) := by decide +kernel
theorem at95_9 : am_at 95 9 = some (.istore_n 2, 1) := by decide +kernel
theorem at95_10 : am_at 95 10 = some (.iload_n 2, 1) := by decide +kernel
theorem at95_11 : am_at 95 11 = some (.sipush 700, 3) := by decide +kernel
theorem at95_14 : am_at 95 14 = some (.if_icmp .ge 75, 3) := by decide +kernel
theorem at95_17 : am_at 95 17 = some (.aload_n 0, 1) := by decide +kernel
theorem at95_18 : am_at 95 18 = some (.aload_n 0, 1) := by decide +kernel
theorem at95_19 : am_at 95 19 = some (.getfield 90050, 3) := by decide +kernel
theorem at95_22 : am_at 95 22 = some (.invokevirtual 98, 3) := by decide +kernel
theorem at95_25 : am_at 95 25 = some (.invokestatic 101, 3) := by decide +kernel
theorem at95_28 : am_at 95 28 = some (.ifCond .eq 61, 3) := by decide +kernel
theorem at95_31 : am_at 95 31 = some (.aload_n 0, 1) := by decide +kernel
theorem at95_32 : am_at 95 32 = some (.aload_n 0, 1) := by decide +kernel
theorem at95_33 : am_at 95 33 = some (.getfield 90050, 3) := by decide +kernel
theorem at95_36 : am_at 95 36 = some (.aload_n 0, 1) := by decide +kernel
theorem at95_37 : am_at 95 37 = some (.getfield 90040, 3) := by decide +kernel
theorem at95_40 : am_at 95 40 = some (.isub, 1) := by decide +kernel
theorem at95_41 : am_at 95 41 = some (.iconst 4, 1) := by decide +kernel
theorem at95_42 : am_at 95 42 = some (.if_icmp .lt 9, 3) := by decide +kernel
theorem at95_45 : am_at 95 45 = some (.sipush 10000, 3) := by decide +kernel
theorem at95_48 : am_at 95 48 = some (.goto 22, 3) := by decide +kernel
theorem at95_51 : am_at 95 51 = some (.aload_n 0, 1) := by decide +kernel
theorem at95_52 : am_at 95 52 = some (.getfield 90060, 3) := by decide +kernel
theorem at95_55 : am_at 95 55 = some (.bipush 10, 2) := by decide +kernel
theorem at95_57 : am_at 95 57 = some (.imul, 1) := by decide +kernel
theorem at95_58 : am_at 95 58 = some (.aload_n 0, 1) := by decide +kernel
theorem at95_59 : am_at 95 59 = some (.aload_n 0, 1) := by decide +kernel
theorem at95_60 : am_at 95 60 = some (.getfield 90050, 3) := by decide +kernel
theorem at95_63 : am_at 95 63 = some (.invokevirtual 98, 3) := by decide +kernel
theorem at95_66 : am_at 95 66 = some (.iadd, 1) := by decide +kernel
theorem at95_67 : am_at 95 67 = some (.bipush 48, 2) := by decide +kernel
theorem at95_69 : am_at 95 69 = some (.isub, 1) := by decide +kernel
theorem at95_70 : am_at 95 70 = some (.putfield 90060, 3) := by decide +kernel
theorem at95_73 : am_at 95 73 = some (.aload_n 0, 1) := by decide +kernel
theorem at95_74 : am_at 95 74 = some (.dup, 1) := by decide +kernel
theorem at95_75 : am_at 95 75 = some (.getfield 90050, 3) := by decide +kernel
theorem at95_78 : am_at 95 78 = some (.iconst 1, 1) := by decide +kernel
theorem at95_79 : am_at 95 79 = some (.iadd, 1) := by decide +kernel
theorem at95_80 : am_at 95 80 = some (.putfield 90050, 3) := by decide +kernel
theorem at95_83 : am_at 95 83 = some (.iinc 2 1, 3) := by decide +kernel
theorem at95_86 : am_at 95 86 = some (.goto (-76), 3) := by decide +kernel
theorem at95_89 : am_at 95 89 = some (.return_, 1) := by decide +kernel
theorem at96_0 : am_at 96 0 = some (.aload_n 0, 1) := by decide +kernel
theorem at96_1 : am_at 96 1 = some (.getfield 90030, 3) := by decide +kernel
theorem at96_4 : am_at 96 4 = some (.iconst 1, 1) := by decide +kernel
theorem at96_5 : am_at 96 5 = some (.if_icmp .ne 19, 3) := by decide +kernel
theorem at96_8 : am_at 96 8 = some (.aload_n 0, 1) := by decide +kernel
theorem at96_9 : am_at 96 9 = some (.getfield 90050, 3) := by decide +kernel
theorem at96_12 : am_at 96 12 = some (.aload_n 0, 1) := by decide +kernel
theorem at96_13 : am_at 96 13 = some (.getfield 90040, 3) := by decide +kernel
theorem at96_16 : am_at 96 16 = some (.isub, 1) := by decide +kernel
theorem at96_17 : am_at 96 17 = some (.aload_n 1, 1) := by decide +kernel
theorem at96_18 : am_at 96 18 = some (.invokevirtual 1002, 3) := by decide +kernel
theorem at96_21 : am_at 96 21 = some (.if_icmp .eq 5, 3) := by decide +kernel
theorem at96_24 : am_at 96 24 = some (.iconst 0, 1) := by decide +kernel
theorem at96_25 : am_at 96 25 = some (.ireturn, 1) := by decide +kernel
theorem at96_26 : am_at 96 26 = some (.iconst 0, 1) := by decide +kernel
theorem at96_27 : am_at 96 27 = some (.istore_n 2, 1) := by decide +kernel
theorem at96_28 : am_at 96 28 = some (.iload_n 2, 1) := by decide +kernel
theorem at96_29 : am_at 96 29 = some (.aload_n 1, 1) := by decide +kernel
theorem at96_30 : am_at 96 30 = some (.invokevirtual 1002, 3) := by decide +kernel
theorem at96_33 : am_at 96 33 = some (.if_icmp .ge 29, 3) := by decide +kernel
theorem at96_36 : am_at 96 36 = some (.aload_n 0, 1) := by decide +kernel
theorem at96_37 : am_at 96 37 = some (.aload_n 0, 1) := by decide +kernel
theorem at96_38 : am_at 96 38 = some (.getfield 90040, 3) := by decide +kernel
theorem at96_41 : am_at 96 41 = some (.iload_n 2, 1) := by decide +kernel
theorem at96_42 : am_at 96 42 = some (.iadd, 1) := by decide +kernel
theorem at96_43 : am_at 96 43 = some (.invokevirtual 98, 3) := by decide +kernel
theorem at96_46 : am_at 96 46 = some (.aload_n 1, 1) := by decide +kernel
theorem at96_47 : am_at 96 47 = some (.iload_n 2, 1) := by decide +kernel
theorem at96_48 : am_at 96 48 = some (.invokevirtual 1003, 3) := by decide +kernel
theorem at96_51 : am_at 96 51 = some (.if_icmp .eq 5, 3) := by decide +kernel
theorem at96_54 : am_at 96 54 = some (.iconst 0, 1) := by decide +kernel
theorem at96_55 : am_at 96 55 = some (.ireturn, 1) := by decide +kernel
theorem at96_56 : am_at 96 56 = some (.iinc 2 1, 3) := by decide +kernel
theorem at96_59 : am_at 96 59 = some (.goto (-31), 3) := by decide +kernel
theorem at96_62 : am_at 96 62 = some (.iconst 1, 1) := by decide +kernel
theorem at96_63 : am_at 96 63 = some (.ireturn, 1) := by decide +kernel
theorem at97_0 : am_at 97 0 = some (.aload_n 0, 1) := by decide +kernel
theorem at97_1 : am_at 97 1 = some (.getfield 90030, 3) := by decide +kernel
theorem at97_4 : am_at 97 4 = some (.iconst 3, 1) := by decide +kernel
theorem at97_5 : am_at 97 5 = some (.if_icmp .ne 19, 3) := by decide +kernel
theorem at97_8 : am_at 97 8 = some (.aload_n 0, 1) := by decide +kernel
theorem at97_9 : am_at 97 9 = some (.aload_n 0, 1) := by decide +kernel
theorem at97_10 : am_at 97 10 = some (.getfield 90040, 3) := by decide +kernel
theorem at97_13 : am_at 97 13 = some (.invokevirtual 98, 3) := by decide +kernel
theorem at97_16 : am_at 97 16 = some (.iload_n 1, 1) := by decide +kernel
theorem at97_17 : am_at 97 17 = some (.if_icmp .ne 7, 3) := by decide +kernel
theorem at97_20 : am_at 97 20 = some (.iconst 1, 1) := by decide +kernel
theorem at97_21 : am_at 97 21 = some (.goto 4, 3) := by decide +kernel
theorem at97_24 : am_at 97 24 = some (.iconst 0, 1) := by decide +kernel
theorem at97_25 : am_at 97 25 = some (.ireturn, 1) := by decide +kernel
theorem at98_0 : am_at 98 0 = some (.iload_n 1, 1) := by decide +kernel
theorem at98_1 : am_at 98 1 = some (.ifCond .lt 27, 3) := by decide +kernel
theorem at98_4 : am_at 98 4 = some (.iload_n 1, 1) := by decide +kernel
theorem at98_5 : am_at 98 5 = some (.aload_n 0, 1) := by decide +kernel
theorem at98_6 : am_at 98 6 = some (.getfield 90020, 3) := by decide +kernel
theorem at98_9 : am_at 98 9 = some (.if_icmp .ge 19, 3) := by decide +kernel
theorem at98_12 : am_at 98 12 = some (.iload_n 1, 1) := by decide +kernel
theorem at98_13 : am_at 98 13 = some (.sipush 700, 3) := by decide +kernel
theorem at98_16 : am_at 98 16 = some (.if_icmp .ge 12, 3) := by decide +kernel
theorem at98_19 : am_at 98 19 = some (.aload_n 0, 1) := by decide +kernel
theorem at98_20 : am_at 98 20 = some (.getfield 90002, 3) := by decide +kernel
theorem at98_23 : am_at 98 23 = some (.iload_n 1, 1) := by decide +kernel
theorem at98_24 : am_at 98 24 = some (.iaload, 1) := by decide +kernel
theorem at98_25 : am_at 98 25 = some (.goto 4, 3) := by decide +kernel
theorem at98_28 : am_at 98 28 = some (.iconst (-1), 1) := by decide +kernel
theorem at98_29 : am_at 98 29 = some (.ireturn, 1) := by decide +kernel
theorem at99_0 : am_at 99 0 = some (.iload_n 0, 1) := by decide +kernel
theorem at99_1 : am_at 99 1 = some (.bipush 32, 2) := by decide +kernel
theorem at99_3 : am_at 99 3 = some (.if_icmp .eq 9, 3) := by decide +kernel
theorem at99_6 : am_at 99 6 = some (.iload_n 0, 1) := by decide +kernel
theorem at99_7 : am_at 99 7 = some (.bipush 10, 2) := by decide +kernel
theorem at99_9 : am_at 99 9 = some (.if_icmp .ne 7, 3) := by decide +kernel
theorem at99_12 : am_at 99 12 = some (.iconst 1, 1) := by decide +kernel
theorem at99_13 : am_at 99 13 = some (.goto 4, 3) := by decide +kernel
theorem at99_16 : am_at 99 16 = some (.iconst 0, 1) := by decide +kernel
theorem at99_17 : am_at 99 17 = some (.ireturn, 1) := by decide +kernel
