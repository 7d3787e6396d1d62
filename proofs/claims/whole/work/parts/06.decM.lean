theorem dX10_init_0 : decode cX10_init 0 = .ok (.aload_n 0, 1) := by decide +kernel
theorem dX10_init_1 : decode cX10_init 1 = .ok (.invokespecial 1, 3) := by decide +kernel
theorem dX10_init_4 : decode cX10_init 4 = .ok (.aload_n 0, 1) := by decide +kernel
theorem dX10_init_5 : decode cX10_init 5 = .ok (.bipush 40, 2) := by decide +kernel
theorem dX10_init_7 : decode cX10_init 7 = .ok (.newarray .int, 2) := by decide +kernel
theorem dX10_init_9 : decode cX10_init 9 = .ok (.putfield 7, 3) := by decide +kernel
theorem dX10_init_12 : decode cX10_init 12 = .ok (.aload_n 0, 1) := by decide +kernel
theorem dX10_init_13 : decode cX10_init 13 = .ok (.bipush 40, 2) := by decide +kernel
theorem dX10_init_15 : decode cX10_init 15 = .ok (.newarray .int, 2) := by decide +kernel
theorem dX10_init_17 : decode cX10_init 17 = .ok (.putfield 13, 3) := by decide +kernel
theorem dX10_init_20 : decode cX10_init 20 = .ok (.aload_n 0, 1) := by decide +kernel
theorem dX10_init_21 : decode cX10_init 21 = .ok (.bipush 40, 2) := by decide +kernel
theorem dX10_init_23 : decode cX10_init 23 = .ok (.newarray .int, 2) := by decide +kernel
theorem dX10_init_25 : decode cX10_init 25 = .ok (.putfield 16, 3) := by decide +kernel
theorem dX10_init_28 : decode cX10_init 28 = .ok (.aload_n 0, 1) := by decide +kernel
theorem dX10_init_29 : decode cX10_init 29 = .ok (.bipush 40, 2) := by decide +kernel
theorem dX10_init_31 : decode cX10_init 31 = .ok (.newarray .int, 2) := by decide +kernel
theorem dX10_init_33 : decode cX10_init 33 = .ok (.putfield 19, 3) := by decide +kernel
theorem dX10_init_36 : decode cX10_init 36 = .ok (.aload_n 0, 1) := by decide +kernel
theorem dX10_init_37 : decode cX10_init 37 = .ok (.bipush 40, 2) := by decide +kernel
theorem dX10_init_39 : decode cX10_init 39 = .ok (.newarray .int, 2) := by decide +kernel
theorem dX10_init_41 : decode cX10_init 41 = .ok (.putfield 22, 3) := by decide +kernel
theorem dX10_init_44 : decode cX10_init 44 = .ok (.aload_n 0, 1) := by decide +kernel
theorem dX10_init_45 : decode cX10_init 45 = .ok (.bipush 40, 2) := by decide +kernel
theorem dX10_init_47 : decode cX10_init 47 = .ok (.newarray .int, 2) := by decide +kernel
theorem dX10_init_49 : decode cX10_init 49 = .ok (.putfield 25, 3) := by decide +kernel
theorem dX10_init_52 : decode cX10_init 52 = .ok (.aload_n 0, 1) := by decide +kernel
theorem dX10_init_53 : decode cX10_init 53 = .ok (.bipush 40, 2) := by decide +kernel
theorem dX10_init_55 : decode cX10_init 55 = .ok (.newarray .int, 2) := by decide +kernel
theorem dX10_init_57 : decode cX10_init 57 = .ok (.putfield 28, 3) := by decide +kernel
theorem dX10_init_60 : decode cX10_init 60 = .ok (.aload_n 0, 1) := by decide +kernel
theorem dX10_init_61 : decode cX10_init 61 = .ok (.bipush 40, 2) := by decide +kernel
theorem dX10_init_63 : decode cX10_init 63 = .ok (.newarray .long, 2) := by decide +kernel
theorem dX10_init_65 : decode cX10_init 65 = .ok (.putfield 31, 3) := by decide +kernel
theorem dX10_init_68 : decode cX10_init 68 = .ok (.aload_n 0, 1) := by decide +kernel
theorem dX10_init_69 : decode cX10_init 69 = .ok (.bipush 40, 2) := by decide +kernel
theorem dX10_init_71 : decode cX10_init 71 = .ok (.newarray .boolean, 2) := by decide +kernel
theorem dX10_init_73 : decode cX10_init 73 = .ok (.putfield 35, 3) := by decide +kernel
theorem dX10_init_76 : decode cX10_init 76 = .ok (.aload_n 0, 1) := by decide +kernel
theorem dX10_init_77 : decode cX10_init 77 = .ok (.sipush 480, 3) := by decide +kernel
theorem dX10_init_80 : decode cX10_init 80 = .ok (.newarray .int, 2) := by decide +kernel
theorem dX10_init_82 : decode cX10_init 82 = .ok (.putfield 39, 3) := by decide +kernel
theorem dX10_init_85 : decode cX10_init 85 = .ok (.aload_n 0, 1) := by decide +kernel
theorem dX10_init_86 : decode cX10_init 86 = .ok (.sipush 280, 3) := by decide +kernel
theorem dX10_init_89 : decode cX10_init 89 = .ok (.newarray .int, 2) := by decide +kernel
theorem dX10_init_91 : decode cX10_init 91 = .ok (.putfield 42, 3) := by decide +kernel
theorem dX10_init_94 : decode cX10_init 94 = .ok (.aload_n 0, 1) := by decide +kernel
theorem dX10_init_95 : decode cX10_init 95 = .ok (.bipush 56, 2) := by decide +kernel
theorem dX10_init_97 : decode cX10_init 97 = .ok (.newarray .int, 2) := by decide +kernel
theorem dX10_init_99 : decode cX10_init 99 = .ok (.putfield 45, 3) := by decide +kernel
theorem dX10_init_102 : decode cX10_init 102 = .ok (.aload_n 0, 1) := by decide +kernel
theorem dX10_init_103 : decode cX10_init 103 = .ok (.bipush 8, 2) := by decide +kernel
theorem dX10_init_105 : decode cX10_init 105 = .ok (.newarray .int, 2) := by decide +kernel
theorem dX10_init_107 : decode cX10_init 107 = .ok (.putfield 48, 3) := by decide +kernel
theorem dX10_init_110 : decode cX10_init 110 = .ok (.aload_n 0, 1) := by decide +kernel
theorem dX10_init_111 : decode cX10_init 111 = .ok (.bipush 12, 2) := by decide +kernel
theorem dX10_init_113 : decode cX10_init 113 = .ok (.newarray .int, 2) := by decide +kernel
theorem dX10_init_115 : decode cX10_init 115 = .ok (.putfield 51, 3) := by decide +kernel
theorem dX10_init_118 : decode cX10_init 118 = .ok (.aload_n 0, 1) := by decide +kernel
theorem dX10_init_119 : decode cX10_init 119 = .ok (.bipush 16, 2) := by decide +kernel
theorem dX10_init_121 : decode cX10_init 121 = .ok (.newarray .int, 2) := by decide +kernel
theorem dX10_init_123 : decode cX10_init 123 = .ok (.putfield 54, 3) := by decide +kernel
theorem dX10_init_126 : decode cX10_init 126 = .ok (.aload_n 0, 1) := by decide +kernel
theorem dX10_init_127 : decode cX10_init 127 = .ok (.bipush 8, 2) := by decide +kernel
theorem dX10_init_129 : decode cX10_init 129 = .ok (.newarray .int, 2) := by decide +kernel
theorem dX10_init_131 : decode cX10_init 131 = .ok (.putfield 57, 3) := by decide +kernel
theorem dX10_init_134 : decode cX10_init 134 = .ok (.aload_n 0, 1) := by decide +kernel
theorem dX10_init_135 : decode cX10_init 135 = .ok (.bipush 8, 2) := by decide +kernel
theorem dX10_init_137 : decode cX10_init 137 = .ok (.newarray .int, 2) := by decide +kernel
theorem dX10_init_139 : decode cX10_init 139 = .ok (.putfield 60, 3) := by decide +kernel
theorem dX10_init_142 : decode cX10_init 142 = .ok (.aload_n 0, 1) := by decide +kernel
theorem dX10_init_143 : decode cX10_init 143 = .ok (.iconst 5, 1) := by decide +kernel
theorem dX10_init_144 : decode cX10_init 144 = .ok (.putfield 63, 3) := by decide +kernel
theorem dX10_init_147 : decode cX10_init 147 = .ok (.aload_n 0, 1) := by decide +kernel
theorem dX10_init_148 : decode cX10_init 148 = .ok (.iconst 1, 1) := by decide +kernel
theorem dX10_init_149 : decode cX10_init 149 = .ok (.putfield 67, 3) := by decide +kernel
theorem dX10_init_152 : decode cX10_init 152 = .ok (.return_, 1) := by decide +kernel
theorem dX10_thrown_0 : decode cX10_thrown 0 = .ok (.aload_n 0, 1) := by decide +kernel
theorem dX10_thrown_1 : decode cX10_thrown 1 = .ok (.getfield 70, 3) := by decide +kernel
theorem dX10_thrown_4 : decode cX10_thrown 4 = .ok (.ireturn, 1) := by decide +kernel
theorem dX10_isIn_0 : decode cX10_isIn 0 = .ok (.lload_n 0, 1) := by decide +kernel
theorem dX10_isIn_1 : decode cX10_isIn 1 = .ok (.lload_n 2, 1) := by decide +kernel
theorem dX10_isIn_2 : decode cX10_isIn 2 = .ok (.lcmp, 1) := by decide +kernel
theorem dX10_isIn_3 : decode cX10_isIn 3 = .ok (.ifCond .lt 14, 3) := by decide +kernel
theorem dX10_isIn_6 : decode cX10_isIn 6 = .ok (.lload_n 0, 1) := by decide +kernel
theorem dX10_isIn_7 : decode cX10_isIn 7 = .ok (.lload 4, 2) := by decide +kernel
theorem dX10_isIn_9 : decode cX10_isIn 9 = .ok (.lcmp, 1) := by decide +kernel
theorem dX10_isIn_10 : decode cX10_isIn 10 = .ok (.ifCond .gt 7, 3) := by decide +kernel
theorem dX10_isIn_13 : decode cX10_isIn 13 = .ok (.iconst 1, 1) := by decide +kernel
theorem dX10_isIn_14 : decode cX10_isIn 14 = .ok (.goto 4, 3) := by decide +kernel
theorem dX10_isIn_17 : decode cX10_isIn 17 = .ok (.iconst 0, 1) := by decide +kernel
theorem dX10_isIn_18 : decode cX10_isIn 18 = .ok (.ireturn, 1) := by decide +kernel
theorem dX10_no_0 : decode cX10_no 0 = .ok (.aload_n 0, 1) := by decide +kernel
theorem dX10_no_1 : decode cX10_no 1 = .ok (.iload_n 1, 1) := by decide +kernel
theorem dX10_no_2 : decode cX10_no 2 = .ok (.ifCond .eq 7, 3) := by decide +kernel
theorem dX10_no_5 : decode cX10_no 5 = .ok (.iconst 0, 1) := by decide +kernel
theorem dX10_no_6 : decode cX10_no 6 = .ok (.goto 4, 3) := by decide +kernel
theorem dX10_no_9 : decode cX10_no 9 = .ok (.iload_n 2, 1) := by decide +kernel
theorem dX10_no_10 : decode cX10_no 10 = .ok (.putfield 70, 3) := by decide +kernel
theorem dX10_no_13 : decode cX10_no 13 = .ok (.iload_n 1, 1) := by decide +kernel
theorem dX10_no_14 : decode cX10_no 14 = .ok (.ifCond .ne 7, 3) := by decide +kernel
theorem dX10_no_17 : decode cX10_no 17 = .ok (.iconst 1, 1) := by decide +kernel
theorem dX10_no_18 : decode cX10_no 18 = .ok (.goto 4, 3) := by decide +kernel
theorem dX10_no_21 : decode cX10_no 21 = .ok (.iconst 0, 1) := by decide +kernel
theorem dX10_no_22 : decode cX10_no 22 = .ok (.ireturn, 1) := by decide +kernel
theorem dX10_noNumber_0 : decode cX10_noNumber 0 = .ok (.aload_n 0, 1) := by decide +kernel
theorem dX10_noNumber_1 : decode cX10_noNumber 1 = .ok (.iload_n 1, 1) := by decide +kernel
theorem dX10_noNumber_2 : decode cX10_noNumber 2 = .ok (.i2l, 1) := by decide +kernel
theorem dX10_noNumber_3 : decode cX10_noNumber 3 = .ok (.lconst 0, 1) := by decide +kernel
theorem dX10_noNumber_4 : decode cX10_noNumber 4 = .ok (.aload_n 0, 1) := by decide +kernel
theorem dX10_noNumber_5 : decode cX10_noNumber 5 = .ok (.getfield 73, 3) := by decide +kernel
theorem dX10_noNumber_8 : decode cX10_noNumber 8 = .ok (.iconst 1, 1) := by decide +kernel
theorem dX10_noNumber_9 : decode cX10_noNumber 9 = .ok (.isub, 1) := by decide +kernel
theorem dX10_noNumber_10 : decode cX10_noNumber 10 = .ok (.i2l, 1) := by decide +kernel
theorem dX10_noNumber_11 : decode cX10_noNumber 11 = .ok (.invokestatic 76, 3) := by decide +kernel
theorem dX10_noNumber_14 : decode cX10_noNumber 14 = .ok (.iconst 1, 1) := by decide +kernel
theorem dX10_noNumber_15 : decode cX10_noNumber 15 = .ok (.invokevirtual 80, 3) := by decide +kernel
theorem dX10_noNumber_18 : decode cX10_noNumber 18 = .ok (.ireturn, 1) := by decide +kernel
theorem dX10_noNumbers_0 : decode cX10_noNumbers 0 = .ok (.aload_n 0, 1) := by decide +kernel
theorem dX10_noNumbers_1 : decode cX10_noNumbers 1 = .ok (.iload_n 1, 1) := by decide +kernel
theorem dX10_noNumbers_2 : decode cX10_noNumbers 2 = .ok (.i2l, 1) := by decide +kernel
theorem dX10_noNumbers_3 : decode cX10_noNumbers 3 = .ok (.lconst 0, 1) := by decide +kernel
theorem dX10_noNumbers_4 : decode cX10_noNumbers 4 = .ok (.aload_n 0, 1) := by decide +kernel
theorem dX10_noNumbers_5 : decode cX10_noNumbers 5 = .ok (.getfield 73, 3) := by decide +kernel
theorem dX10_noNumbers_8 : decode cX10_noNumbers 8 = .ok (.iconst 1, 1) := by decide +kernel
theorem dX10_noNumbers_9 : decode cX10_noNumbers 9 = .ok (.isub, 1) := by decide +kernel
theorem dX10_noNumbers_10 : decode cX10_noNumbers 10 = .ok (.i2l, 1) := by decide +kernel
theorem dX10_noNumbers_11 : decode cX10_noNumbers 11 = .ok (.invokestatic 76, 3) := by decide +kernel
theorem dX10_noNumbers_14 : decode cX10_noNumbers 14 = .ok (.ifCond .eq 23, 3) := by decide +kernel
theorem dX10_noNumbers_17 : decode cX10_noNumbers 17 = .ok (.iload_n 2, 1) := by decide +kernel
theorem dX10_noNumbers_18 : decode cX10_noNumbers 18 = .ok (.i2l, 1) := by decide +kernel
theorem dX10_noNumbers_19 : decode cX10_noNumbers 19 = .ok (.lconst 0, 1) := by decide +kernel
theorem dX10_noNumbers_20 : decode cX10_noNumbers 20 = .ok (.aload_n 0, 1) := by decide +kernel
theorem dX10_noNumbers_21 : decode cX10_noNumbers 21 = .ok (.getfield 73, 3) := by decide +kernel
theorem dX10_noNumbers_24 : decode cX10_noNumbers 24 = .ok (.iconst 1, 1) := by decide +kernel
theorem dX10_noNumbers_25 : decode cX10_noNumbers 25 = .ok (.isub, 1) := by decide +kernel
theorem dX10_noNumbers_26 : decode cX10_noNumbers 26 = .ok (.i2l, 1) := by decide +kernel
theorem dX10_noNumbers_27 : decode cX10_noNumbers 27 = .ok (.invokestatic 76, 3) := by decide +kernel
theorem dX10_noNumbers_30 : decode cX10_noNumbers 30 = .ok (.ifCond .eq 7, 3) := by decide +kernel
theorem dX10_noNumbers_33 : decode cX10_noNumbers 33 = .ok (.iconst 1, 1) := by decide +kernel
theorem dX10_noNumbers_34 : decode cX10_noNumbers 34 = .ok (.goto 4, 3) := by decide +kernel
theorem dX10_noNumbers_37 : decode cX10_noNumbers 37 = .ok (.iconst 0, 1) := by decide +kernel
theorem dX10_noNumbers_38 : decode cX10_noNumbers 38 = .ok (.iconst 1, 1) := by decide +kernel
theorem dX10_noNumbers_39 : decode cX10_noNumbers 39 = .ok (.invokevirtual 80, 3) := by decide +kernel
theorem dX10_noNumbers_42 : decode cX10_noNumbers 42 = .ok (.ireturn, 1) := by decide +kernel
theorem dX10_power_0 : decode cX10_power 0 = .ok (.lconst 1, 1) := by decide +kernel
theorem dX10_power_1 : decode cX10_power 1 = .ok (.lstore_n 2, 1) := by decide +kernel
theorem dX10_power_2 : decode cX10_power 2 = .ok (.iconst 0, 1) := by decide +kernel
theorem dX10_power_3 : decode cX10_power 3 = .ok (.istore 4, 2) := by decide +kernel
theorem dX10_power_5 : decode cX10_power 5 = .ok (.iload 4, 2) := by decide +kernel
theorem dX10_power_7 : decode cX10_power 7 = .ok (.iload_n 1, 1) := by decide +kernel
theorem dX10_power_8 : decode cX10_power 8 = .ok (.if_icmp .ge 17, 3) := by decide +kernel
theorem dX10_power_11 : decode cX10_power 11 = .ok (.lload_n 2, 1) := by decide +kernel
theorem dX10_power_12 : decode cX10_power 12 = .ok (.aload_n 0, 1) := by decide +kernel
theorem dX10_power_13 : decode cX10_power 13 = .ok (.getfield 63, 3) := by decide +kernel
theorem dX10_power_16 : decode cX10_power 16 = .ok (.i2l, 1) := by decide +kernel
theorem dX10_power_17 : decode cX10_power 17 = .ok (.lmul, 1) := by decide +kernel
theorem dX10_power_18 : decode cX10_power 18 = .ok (.lstore_n 2, 1) := by decide +kernel
theorem dX10_power_19 : decode cX10_power 19 = .ok (.iinc 4 1, 3) := by decide +kernel
theorem dX10_power_22 : decode cX10_power 22 = .ok (.goto (-17), 3) := by decide +kernel
theorem dX10_power_25 : decode cX10_power 25 = .ok (.lload_n 2, 1) := by decide +kernel
theorem dX10_power_26 : decode cX10_power 26 = .ok (.lreturn, 1) := by decide +kernel
theorem dX10_most_0 : decode cX10_most 0 = .ok (.iconst 0, 1) := by decide +kernel
theorem dX10_most_1 : decode cX10_most 1 = .ok (.istore_n 1, 1) := by decide +kernel
theorem dX10_most_2 : decode cX10_most 2 = .ok (.aload_n 0, 1) := by decide +kernel
theorem dX10_most_3 : decode cX10_most 3 = .ok (.getfield 63, 3) := by decide +kernel
theorem dX10_most_6 : decode cX10_most 6 = .ok (.i2l, 1) := by decide +kernel
theorem dX10_most_7 : decode cX10_most 7 = .ok (.lstore_n 2, 1) := by decide +kernel
theorem dX10_most_8 : decode cX10_most 8 = .ok (.lload_n 2, 1) := by decide +kernel
theorem dX10_most_9 : decode cX10_most 9 = .ok (.ldc2_w 84, 3) := by decide +kernel
theorem dX10_most_12 : decode cX10_most 12 = .ok (.lcmp, 1) := by decide +kernel
theorem dX10_most_13 : decode cX10_most 13 = .ok (.ifCond .gt 17, 3) := by decide +kernel
theorem dX10_most_16 : decode cX10_most 16 = .ok (.lload_n 2, 1) := by decide +kernel
theorem dX10_most_17 : decode cX10_most 17 = .ok (.aload_n 0, 1) := by decide +kernel
theorem dX10_most_18 : decode cX10_most 18 = .ok (.getfield 63, 3) := by decide +kernel
theorem dX10_most_21 : decode cX10_most 21 = .ok (.i2l, 1) := by decide +kernel
theorem dX10_most_22 : decode cX10_most 22 = .ok (.lmul, 1) := by decide +kernel
theorem dX10_most_23 : decode cX10_most 23 = .ok (.lstore_n 2, 1) := by decide +kernel
theorem dX10_most_24 : decode cX10_most 24 = .ok (.iinc 1 1, 3) := by decide +kernel
theorem dX10_most_27 : decode cX10_most 27 = .ok (.goto (-19), 3) := by decide +kernel
theorem dX10_most_30 : decode cX10_most 30 = .ok (.iload_n 1, 1) := by decide +kernel
theorem dX10_most_31 : decode cX10_most 31 = .ok (.ireturn, 1) := by decide +kernel
theorem dX10_whole_0 : decode cX10_whole 0 = .ok (.lload_n 0, 1) := by decide +kernel
theorem dX10_whole_1 : decode cX10_whole 1 = .ok (.lload_n 2, 1) := by decide +kernel
theorem dX10_whole_2 : decode cX10_whole 2 = .ok (.lrem, 1) := by decide +kernel
theorem dX10_whole_3 : decode cX10_whole 3 = .ok (.lstore 4, 2) := by decide +kernel
theorem dX10_whole_5 : decode cX10_whole 5 = .ok (.lload 4, 2) := by decide +kernel
theorem dX10_whole_7 : decode cX10_whole 7 = .ok (.lconst 0, 1) := by decide +kernel
theorem dX10_whole_8 : decode cX10_whole 8 = .ok (.lcmp, 1) := by decide +kernel
theorem dX10_whole_9 : decode cX10_whole 9 = .ok (.ifCond .ge 10, 3) := by decide +kernel
theorem dX10_whole_12 : decode cX10_whole 12 = .ok (.lload 4, 2) := by decide +kernel
theorem dX10_whole_14 : decode cX10_whole 14 = .ok (.lload_n 2, 1) := by decide +kernel
theorem dX10_whole_15 : decode cX10_whole 15 = .ok (.ladd, 1) := by decide +kernel
theorem dX10_whole_16 : decode cX10_whole 16 = .ok (.goto 5, 3) := by decide +kernel
theorem dX10_whole_19 : decode cX10_whole 19 = .ok (.lload 4, 2) := by decide +kernel
theorem dX10_whole_21 : decode cX10_whole 21 = .ok (.lreturn, 1) := by decide +kernel
theorem dX10_raised_0 : decode cX10_raised 0 = .ok (.lconst 1, 1) := by decide +kernel
theorem dX10_raised_1 : decode cX10_raised 1 = .ok (.lload 4, 2) := by decide +kernel
theorem dX10_raised_3 : decode cX10_raised 3 = .ok (.lrem, 1) := by decide +kernel
theorem dX10_raised_4 : decode cX10_raised 4 = .ok (.lstore 6, 2) := by decide +kernel
theorem dX10_raised_6 : decode cX10_raised 6 = .ok (.lload_n 0, 1) := by decide +kernel
theorem dX10_raised_7 : decode cX10_raised 7 = .ok (.lload 4, 2) := by decide +kernel
theorem dX10_raised_9 : decode cX10_raised 9 = .ok (.invokestatic 86, 3) := by decide +kernel
theorem dX10_raised_12 : decode cX10_raised 12 = .ok (.lstore 8, 2) := by decide +kernel
theorem dX10_raised_14 : decode cX10_raised 14 = .ok (.lload_n 2, 1) := by decide +kernel
theorem dX10_raised_15 : decode cX10_raised 15 = .ok (.lstore 10, 2) := by decide +kernel
theorem dX10_raised_17 : decode cX10_raised 17 = .ok (.lload 10, 2) := by decide +kernel
theorem dX10_raised_19 : decode cX10_raised 19 = .ok (.lconst 0, 1) := by decide +kernel
theorem dX10_raised_20 : decode cX10_raised 20 = .ok (.lcmp, 1) := by decide +kernel
theorem dX10_raised_21 : decode cX10_raised 21 = .ok (.ifCond .le 45, 3) := by decide +kernel
theorem dX10_raised_24 : decode cX10_raised 24 = .ok (.lload 10, 2) := by decide +kernel
theorem dX10_raised_26 : decode cX10_raised 26 = .ok (.ldc2_w 90, 3) := by decide +kernel
theorem dX10_raised_29 : decode cX10_raised 29 = .ok (.lrem, 1) := by decide +kernel
theorem dX10_raised_30 : decode cX10_raised 30 = .ok (.lconst 1, 1) := by decide +kernel
theorem dX10_raised_31 : decode cX10_raised 31 = .ok (.lcmp, 1) := by decide +kernel
theorem dX10_raised_32 : decode cX10_raised 32 = .ok (.ifCond .ne 13, 3) := by decide +kernel
theorem dX10_raised_35 : decode cX10_raised 35 = .ok (.lload 6, 2) := by decide +kernel
theorem dX10_raised_37 : decode cX10_raised 37 = .ok (.lload 8, 2) := by decide +kernel
theorem dX10_raised_39 : decode cX10_raised 39 = .ok (.lmul, 1) := by decide +kernel
theorem dX10_raised_40 : decode cX10_raised 40 = .ok (.lload 4, 2) := by decide +kernel
theorem dX10_raised_42 : decode cX10_raised 42 = .ok (.lrem, 1) := by decide +kernel
theorem dX10_raised_43 : decode cX10_raised 43 = .ok (.lstore 6, 2) := by decide +kernel
theorem dX10_raised_45 : decode cX10_raised 45 = .ok (.lload 8, 2) := by decide +kernel
theorem dX10_raised_47 : decode cX10_raised 47 = .ok (.lload 8, 2) := by decide +kernel
theorem dX10_raised_49 : decode cX10_raised 49 = .ok (.lmul, 1) := by decide +kernel
theorem dX10_raised_50 : decode cX10_raised 50 = .ok (.lload 4, 2) := by decide +kernel
theorem dX10_raised_52 : decode cX10_raised 52 = .ok (.lrem, 1) := by decide +kernel
theorem dX10_raised_53 : decode cX10_raised 53 = .ok (.lstore 8, 2) := by decide +kernel
theorem dX10_raised_55 : decode cX10_raised 55 = .ok (.lload 10, 2) := by decide +kernel
theorem dX10_raised_57 : decode cX10_raised 57 = .ok (.ldc2_w 90, 3) := by decide +kernel
theorem dX10_raised_60 : decode cX10_raised 60 = .ok (.ldiv, 1) := by decide +kernel
theorem dX10_raised_61 : decode cX10_raised 61 = .ok (.lstore 10, 2) := by decide +kernel
theorem dX10_raised_63 : decode cX10_raised 63 = .ok (.goto (-46), 3) := by decide +kernel
theorem dX10_raised_66 : decode cX10_raised 66 = .ok (.lload 6, 2) := by decide +kernel
theorem dX10_raised_68 : decode cX10_raised 68 = .ok (.lreturn, 1) := by decide +kernel
theorem dX10_inverse_0 : decode cX10_inverse 0 = .ok (.iload_n 3, 1) := by decide +kernel
theorem dX10_inverse_1 : decode cX10_inverse 1 = .ok (.ifCond .gt 5, 3) := by decide +kernel
theorem dX10_inverse_4 : decode cX10_inverse 4 = .ok (.lconst 0, 1) := by decide +kernel
theorem dX10_inverse_5 : decode cX10_inverse 5 = .ok (.lreturn, 1) := by decide +kernel
theorem dX10_inverse_6 : decode cX10_inverse 6 = .ok (.aload_n 0, 1) := by decide +kernel
theorem dX10_inverse_7 : decode cX10_inverse 7 = .ok (.iload_n 3, 1) := by decide +kernel
theorem dX10_inverse_8 : decode cX10_inverse 8 = .ok (.invokevirtual 92, 3) := by decide +kernel
theorem dX10_inverse_11 : decode cX10_inverse 11 = .ok (.lstore 4, 2) := by decide +kernel
theorem dX10_inverse_13 : decode cX10_inverse 13 = .ok (.lload_n 1, 1) := by decide +kernel
theorem dX10_inverse_14 : decode cX10_inverse 14 = .ok (.lload 4, 2) := by decide +kernel
theorem dX10_inverse_16 : decode cX10_inverse 16 = .ok (.aload_n 0, 1) := by decide +kernel
theorem dX10_inverse_17 : decode cX10_inverse 17 = .ok (.getfield 63, 3) := by decide +kernel
theorem dX10_inverse_20 : decode cX10_inverse 20 = .ok (.i2l, 1) := by decide +kernel
theorem dX10_inverse_21 : decode cX10_inverse 21 = .ok (.ldiv, 1) := by decide +kernel
theorem dX10_inverse_22 : decode cX10_inverse 22 = .ok (.aload_n 0, 1) := by decide +kernel
theorem dX10_inverse_23 : decode cX10_inverse 23 = .ok (.getfield 63, 3) := by decide +kernel
theorem dX10_inverse_26 : decode cX10_inverse 26 = .ok (.iconst 1, 1) := by decide +kernel
theorem dX10_inverse_27 : decode cX10_inverse 27 = .ok (.isub, 1) := by decide +kernel
theorem dX10_inverse_28 : decode cX10_inverse 28 = .ok (.i2l, 1) := by decide +kernel
theorem dX10_inverse_29 : decode cX10_inverse 29 = .ok (.lmul, 1) := by decide +kernel
theorem dX10_inverse_30 : decode cX10_inverse 30 = .ok (.lconst 1, 1) := by decide +kernel
theorem dX10_inverse_31 : decode cX10_inverse 31 = .ok (.lsub, 1) := by decide +kernel
theorem dX10_inverse_32 : decode cX10_inverse 32 = .ok (.lload 4, 2) := by decide +kernel
theorem dX10_inverse_34 : decode cX10_inverse 34 = .ok (.invokestatic 96, 3) := by decide +kernel
theorem dX10_inverse_37 : decode cX10_inverse 37 = .ok (.lreturn, 1) := by decide +kernel
theorem dX10_valuationOf_0 : decode cX10_valuationOf 0 = .ok (.iconst 0, 1) := by decide +kernel
theorem dX10_valuationOf_1 : decode cX10_valuationOf 1 = .ok (.istore_n 3, 1) := by decide +kernel
theorem dX10_valuationOf_2 : decode cX10_valuationOf 2 = .ok (.lload_n 1, 1) := by decide +kernel
theorem dX10_valuationOf_3 : decode cX10_valuationOf 3 = .ok (.lstore 4, 2) := by decide +kernel
theorem dX10_valuationOf_5 : decode cX10_valuationOf 5 = .ok (.lload 4, 2) := by decide +kernel
theorem dX10_valuationOf_7 : decode cX10_valuationOf 7 = .ok (.lconst 0, 1) := by decide +kernel
theorem dX10_valuationOf_8 : decode cX10_valuationOf 8 = .ok (.lcmp, 1) := by decide +kernel
theorem dX10_valuationOf_9 : decode cX10_valuationOf 9 = .ok (.ifCond .eq 32, 3) := by decide +kernel
theorem dX10_valuationOf_12 : decode cX10_valuationOf 12 = .ok (.lload 4, 2) := by decide +kernel
theorem dX10_valuationOf_14 : decode cX10_valuationOf 14 = .ok (.aload_n 0, 1) := by decide +kernel
theorem dX10_valuationOf_15 : decode cX10_valuationOf 15 = .ok (.getfield 63, 3) := by decide +kernel
theorem dX10_valuationOf_18 : decode cX10_valuationOf 18 = .ok (.i2l, 1) := by decide +kernel
theorem dX10_valuationOf_19 : decode cX10_valuationOf 19 = .ok (.lrem, 1) := by decide +kernel
theorem dX10_valuationOf_20 : decode cX10_valuationOf 20 = .ok (.lconst 0, 1) := by decide +kernel
theorem dX10_valuationOf_21 : decode cX10_valuationOf 21 = .ok (.lcmp, 1) := by decide +kernel
theorem dX10_valuationOf_22 : decode cX10_valuationOf 22 = .ok (.ifCond .ne 19, 3) := by decide +kernel
theorem dX10_valuationOf_25 : decode cX10_valuationOf 25 = .ok (.iinc 3 1, 3) := by decide +kernel
theorem dX10_valuationOf_28 : decode cX10_valuationOf 28 = .ok (.lload 4, 2) := by decide +kernel
theorem dX10_valuationOf_30 : decode cX10_valuationOf 30 = .ok (.aload_n 0, 1) := by decide +kernel
theorem dX10_valuationOf_31 : decode cX10_valuationOf 31 = .ok (.getfield 63, 3) := by decide +kernel
theorem dX10_valuationOf_34 : decode cX10_valuationOf 34 = .ok (.i2l, 1) := by decide +kernel
theorem dX10_valuationOf_35 : decode cX10_valuationOf 35 = .ok (.ldiv, 1) := by decide +kernel
theorem dX10_valuationOf_36 : decode cX10_valuationOf 36 = .ok (.lstore 4, 2) := by decide +kernel
theorem dX10_valuationOf_38 : decode cX10_valuationOf 38 = .ok (.goto (-33), 3) := by decide +kernel
theorem dX10_valuationOf_41 : decode cX10_valuationOf 41 = .ok (.iload_n 3, 1) := by decide +kernel
theorem dX10_valuationOf_42 : decode cX10_valuationOf 42 = .ok (.ireturn, 1) := by decide +kernel
theorem dX10_isPrime_0 : decode cX10_isPrime 0 = .ok (.iload_n 0, 1) := by decide +kernel
theorem dX10_isPrime_1 : decode cX10_isPrime 1 = .ok (.iconst 2, 1) := by decide +kernel
theorem dX10_isPrime_2 : decode cX10_isPrime 2 = .ok (.if_icmp .ge 5, 3) := by decide +kernel
theorem dX10_isPrime_5 : decode cX10_isPrime 5 = .ok (.iconst 0, 1) := by decide +kernel
theorem dX10_isPrime_6 : decode cX10_isPrime 6 = .ok (.ireturn, 1) := by decide +kernel
theorem dX10_isPrime_7 : decode cX10_isPrime 7 = .ok (.iconst 2, 1) := by decide +kernel
theorem dX10_isPrime_8 : decode cX10_isPrime 8 = .ok (.istore_n 1, 1) := by decide +kernel
theorem dX10_isPrime_9 : decode cX10_isPrime 9 = .ok (.iload_n 1, 1) := by decide +kernel
theorem dX10_isPrime_10 : decode cX10_isPrime 10 = .ok (.iload_n 1, 1) := by decide +kernel
theorem dX10_isPrime_11 : decode cX10_isPrime 11 = .ok (.imul, 1) := by decide +kernel
theorem dX10_isPrime_12 : decode cX10_isPrime 12 = .ok (.iload_n 0, 1) := by decide +kernel
theorem dX10_isPrime_13 : decode cX10_isPrime 13 = .ok (.if_icmp .gt 17, 3) := by decide +kernel
theorem dX10_isPrime_16 : decode cX10_isPrime 16 = .ok (.iload_n 0, 1) := by decide +kernel
theorem dX10_isPrime_17 : decode cX10_isPrime 17 = .ok (.iload_n 1, 1) := by decide +kernel
theorem dX10_isPrime_18 : decode cX10_isPrime 18 = .ok (.irem, 1) := by decide +kernel
theorem dX10_isPrime_19 : decode cX10_isPrime 19 = .ok (.ifCond .ne 5, 3) := by decide +kernel
theorem dX10_isPrime_22 : decode cX10_isPrime 22 = .ok (.iconst 0, 1) := by decide +kernel
theorem dX10_isPrime_23 : decode cX10_isPrime 23 = .ok (.ireturn, 1) := by decide +kernel
theorem dX10_isPrime_24 : decode cX10_isPrime 24 = .ok (.iinc 1 1, 3) := by decide +kernel
theorem dX10_isPrime_27 : decode cX10_isPrime 27 = .ok (.goto (-18), 3) := by decide +kernel
theorem dX10_isPrime_30 : decode cX10_isPrime 30 = .ok (.iconst 1, 1) := by decide +kernel
theorem dX10_isPrime_31 : decode cX10_isPrime 31 = .ok (.ireturn, 1) := by decide +kernel
theorem dX10_nothing_0 : decode cX10_nothing 0 = .ok (.aload_n 0, 1) := by decide +kernel
theorem dX10_nothing_1 : decode cX10_nothing 1 = .ok (.bipush 60, 2) := by decide +kernel
theorem dX10_nothing_3 : decode cX10_nothing 3 = .ok (.iload_n 1, 1) := by decide +kernel
theorem dX10_nothing_4 : decode cX10_nothing 4 = .ok (.invokestatic 100, 3) := by decide +kernel
theorem dX10_nothing_7 : decode cX10_nothing 7 = .ok (.putfield 106, 3) := by decide +kernel
theorem dX10_nothing_10 : decode cX10_nothing 10 = .ok (.aload_n 0, 1) := by decide +kernel
theorem dX10_nothing_11 : decode cX10_nothing 11 = .ok (.aload_n 0, 1) := by decide +kernel
theorem dX10_nothing_12 : decode cX10_nothing 12 = .ok (.getfield 106, 3) := by decide +kernel
theorem dX10_nothing_15 : decode cX10_nothing 15 = .ok (.putfield 109, 3) := by decide +kernel
theorem dX10_nothing_18 : decode cX10_nothing 18 = .ok (.aload_n 0, 1) := by decide +kernel
theorem dX10_nothing_19 : decode cX10_nothing 19 = .ok (.lconst 0, 1) := by decide +kernel
theorem dX10_nothing_20 : decode cX10_nothing 20 = .ok (.putfield 112, 3) := by decide +kernel
theorem dX10_nothing_23 : decode cX10_nothing 23 = .ok (.return_, 1) := by decide +kernel
theorem dX10_lays_0 : decode cX10_lays 0 = .ok (.bipush 60, 2) := by decide +kernel
theorem dX10_lays_2 : decode cX10_lays 2 = .ok (.iload 4, 2) := by decide +kernel
theorem dX10_lays_4 : decode cX10_lays 4 = .ok (.invokestatic 100, 3) := by decide +kernel
theorem dX10_lays_7 : decode cX10_lays 7 = .ok (.istore 5, 2) := by decide +kernel
theorem dX10_lays_9 : decode cX10_lays 9 = .ok (.lload_n 1, 1) := by decide +kernel
theorem dX10_lays_10 : decode cX10_lays 10 = .ok (.lconst 0, 1) := by decide +kernel
theorem dX10_lays_11 : decode cX10_lays 11 = .ok (.lcmp, 1) := by decide +kernel
theorem dX10_lays_12 : decode cX10_lays 12 = .ok (.ifCond .eq 9, 3) := by decide +kernel
theorem dX10_lays_15 : decode cX10_lays 15 = .ok (.iload_n 3, 1) := by decide +kernel
theorem dX10_lays_16 : decode cX10_lays 16 = .ok (.iload 5, 2) := by decide +kernel
theorem dX10_lays_18 : decode cX10_lays 18 = .ok (.if_icmp .lt 10, 3) := by decide +kernel
theorem dX10_lays_21 : decode cX10_lays 21 = .ok (.aload_n 0, 1) := by decide +kernel
theorem dX10_lays_22 : decode cX10_lays 22 = .ok (.iload 4, 2) := by decide +kernel
theorem dX10_lays_24 : decode cX10_lays 24 = .ok (.invokevirtual 116, 3) := by decide +kernel
theorem dX10_lays_27 : decode cX10_lays 27 = .ok (.return_, 1) := by decide +kernel
theorem dX10_lays_28 : decode cX10_lays 28 = .ok (.aload_n 0, 1) := by decide +kernel
theorem dX10_lays_29 : decode cX10_lays 29 = .ok (.lload_n 1, 1) := by decide +kernel
theorem dX10_lays_30 : decode cX10_lays 30 = .ok (.invokevirtual 120, 3) := by decide +kernel
theorem dX10_lays_33 : decode cX10_lays 33 = .ok (.istore 6, 2) := by decide +kernel
theorem dX10_lays_35 : decode cX10_lays 35 = .ok (.iload_n 3, 1) := by decide +kernel
theorem dX10_lays_36 : decode cX10_lays 36 = .ok (.iload 6, 2) := by decide +kernel
theorem dX10_lays_38 : decode cX10_lays 38 = .ok (.iadd, 1) := by decide +kernel
theorem dX10_lays_39 : decode cX10_lays 39 = .ok (.iload 5, 2) := by decide +kernel
theorem dX10_lays_41 : decode cX10_lays 41 = .ok (.if_icmp .lt 10, 3) := by decide +kernel
theorem dX10_lays_44 : decode cX10_lays 44 = .ok (.aload_n 0, 1) := by decide +kernel
theorem dX10_lays_45 : decode cX10_lays 45 = .ok (.iload 4, 2) := by decide +kernel
theorem dX10_lays_47 : decode cX10_lays 47 = .ok (.invokevirtual 116, 3) := by decide +kernel
theorem dX10_lays_50 : decode cX10_lays 50 = .ok (.return_, 1) := by decide +kernel
theorem dX10_lays_51 : decode cX10_lays 51 = .ok (.aload_n 0, 1) := by decide +kernel
theorem dX10_lays_52 : decode cX10_lays 52 = .ok (.iload_n 3, 1) := by decide +kernel
theorem dX10_lays_53 : decode cX10_lays 53 = .ok (.iload 6, 2) := by decide +kernel
theorem dX10_lays_55 : decode cX10_lays 55 = .ok (.iadd, 1) := by decide +kernel
theorem dX10_lays_56 : decode cX10_lays 56 = .ok (.putfield 109, 3) := by decide +kernel
theorem dX10_lays_59 : decode cX10_lays 59 = .ok (.aload_n 0, 1) := by decide +kernel
theorem dX10_lays_60 : decode cX10_lays 60 = .ok (.iload 5, 2) := by decide +kernel
theorem dX10_lays_62 : decode cX10_lays 62 = .ok (.aload_n 0, 1) := by decide +kernel
theorem dX10_lays_63 : decode cX10_lays 63 = .ok (.getfield 109, 3) := by decide +kernel
theorem dX10_lays_66 : decode cX10_lays 66 = .ok (.aload_n 0, 1) := by decide +kernel
theorem dX10_lays_67 : decode cX10_lays 67 = .ok (.invokevirtual 124, 3) := by decide +kernel
theorem dX10_lays_70 : decode cX10_lays 70 = .ok (.iadd, 1) := by decide +kernel
theorem dX10_lays_71 : decode cX10_lays 71 = .ok (.invokestatic 100, 3) := by decide +kernel
theorem dX10_lays_74 : decode cX10_lays 74 = .ok (.putfield 106, 3) := by decide +kernel
theorem dX10_lays_77 : decode cX10_lays 77 = .ok (.aload_n 0, 1) := by decide +kernel
theorem dX10_lays_78 : decode cX10_lays 78 = .ok (.lload_n 1, 1) := by decide +kernel
theorem dX10_lays_79 : decode cX10_lays 79 = .ok (.aload_n 0, 1) := by decide +kernel
theorem dX10_lays_80 : decode cX10_lays 80 = .ok (.iload 6, 2) := by decide +kernel
theorem dX10_lays_82 : decode cX10_lays 82 = .ok (.invokevirtual 92, 3) := by decide +kernel
theorem dX10_lays_85 : decode cX10_lays 85 = .ok (.ldiv, 1) := by decide +kernel
theorem dX10_lays_86 : decode cX10_lays 86 = .ok (.aload_n 0, 1) := by decide +kernel
theorem dX10_lays_87 : decode cX10_lays 87 = .ok (.aload_n 0, 1) := by decide +kernel
theorem dX10_lays_88 : decode cX10_lays 88 = .ok (.getfield 106, 3) := by decide +kernel
theorem dX10_lays_91 : decode cX10_lays 91 = .ok (.aload_n 0, 1) := by decide +kernel
theorem dX10_lays_92 : decode cX10_lays 92 = .ok (.getfield 109, 3) := by decide +kernel
theorem dX10_lays_95 : decode cX10_lays 95 = .ok (.isub, 1) := by decide +kernel
theorem dX10_lays_96 : decode cX10_lays 96 = .ok (.invokevirtual 92, 3) := by decide +kernel
theorem dX10_lays_99 : decode cX10_lays 99 = .ok (.invokestatic 86, 3) := by decide +kernel
theorem dX10_lays_102 : decode cX10_lays 102 = .ok (.putfield 112, 3) := by decide +kernel
theorem dX10_lays_105 : decode cX10_lays 105 = .ok (.return_, 1) := by decide +kernel
theorem dX10_fraction_0 : decode cX10_fraction 0 = .ok (.aload_n 0, 1) := by decide +kernel
theorem dX10_fraction_1 : decode cX10_fraction 1 = .ok (.iload_n 1, 1) := by decide +kernel
theorem dX10_fraction_2 : decode cX10_fraction 2 = .ok (.i2l, 1) := by decide +kernel
theorem dX10_fraction_3 : decode cX10_fraction 3 = .ok (.invokevirtual 120, 3) := by decide +kernel
theorem dX10_fraction_6 : decode cX10_fraction 6 = .ok (.istore 4, 2) := by decide +kernel
theorem dX10_fraction_8 : decode cX10_fraction 8 = .ok (.aload_n 0, 1) := by decide +kernel
theorem dX10_fraction_9 : decode cX10_fraction 9 = .ok (.iload_n 2, 1) := by decide +kernel
theorem dX10_fraction_10 : decode cX10_fraction 10 = .ok (.i2l, 1) := by decide +kernel
theorem dX10_fraction_11 : decode cX10_fraction 11 = .ok (.invokevirtual 120, 3) := by decide +kernel
theorem dX10_fraction_14 : decode cX10_fraction 14 = .ok (.istore 5, 2) := by decide +kernel
theorem dX10_fraction_16 : decode cX10_fraction 16 = .ok (.iload 4, 2) := by decide +kernel
theorem dX10_fraction_18 : decode cX10_fraction 18 = .ok (.iload 5, 2) := by decide +kernel
theorem dX10_fraction_20 : decode cX10_fraction 20 = .ok (.isub, 1) := by decide +kernel
theorem dX10_fraction_21 : decode cX10_fraction 21 = .ok (.istore 6, 2) := by decide +kernel
theorem dX10_fraction_23 : decode cX10_fraction 23 = .ok (.iload_n 1, 1) := by decide +kernel
theorem dX10_fraction_24 : decode cX10_fraction 24 = .ok (.ifCond .eq 14, 3) := by decide +kernel
theorem dX10_fraction_27 : decode cX10_fraction 27 = .ok (.iload 6, 2) := by decide +kernel
theorem dX10_fraction_29 : decode cX10_fraction 29 = .ok (.bipush 60, 2) := by decide +kernel
theorem dX10_fraction_31 : decode cX10_fraction 31 = .ok (.iload_n 3, 1) := by decide +kernel
theorem dX10_fraction_32 : decode cX10_fraction 32 = .ok (.invokestatic 100, 3) := by decide +kernel
theorem dX10_fraction_35 : decode cX10_fraction 35 = .ok (.if_icmp .lt 9, 3) := by decide +kernel
theorem dX10_fraction_38 : decode cX10_fraction 38 = .ok (.aload_n 0, 1) := by decide +kernel
theorem dX10_fraction_39 : decode cX10_fraction 39 = .ok (.iload_n 3, 1) := by decide +kernel
theorem dX10_fraction_40 : decode cX10_fraction 40 = .ok (.invokevirtual 116, 3) := by decide +kernel
theorem dX10_fraction_43 : decode cX10_fraction 43 = .ok (.return_, 1) := by decide +kernel
theorem dX10_fraction_44 : decode cX10_fraction 44 = .ok (.bipush 60, 2) := by decide +kernel
theorem dX10_fraction_46 : decode cX10_fraction 46 = .ok (.iload_n 3, 1) := by decide +kernel
theorem dX10_fraction_47 : decode cX10_fraction 47 = .ok (.invokestatic 100, 3) := by decide +kernel
theorem dX10_fraction_50 : decode cX10_fraction 50 = .ok (.iload 6, 2) := by decide +kernel
theorem dX10_fraction_52 : decode cX10_fraction 52 = .ok (.aload_n 0, 1) := by decide +kernel
theorem dX10_fraction_53 : decode cX10_fraction 53 = .ok (.invokevirtual 124, 3) := by decide +kernel
theorem dX10_fraction_56 : decode cX10_fraction 56 = .ok (.iadd, 1) := by decide +kernel
theorem dX10_fraction_57 : decode cX10_fraction 57 = .ok (.invokestatic 100, 3) := by decide +kernel
theorem dX10_fraction_60 : decode cX10_fraction 60 = .ok (.istore 7, 2) := by decide +kernel
theorem dX10_fraction_62 : decode cX10_fraction 62 = .ok (.aload_n 0, 1) := by decide +kernel
theorem dX10_fraction_63 : decode cX10_fraction 63 = .ok (.iload 7, 2) := by decide +kernel
theorem dX10_fraction_65 : decode cX10_fraction 65 = .ok (.iload 6, 2) := by decide +kernel
theorem dX10_fraction_67 : decode cX10_fraction 67 = .ok (.isub, 1) := by decide +kernel
theorem dX10_fraction_68 : decode cX10_fraction 68 = .ok (.invokevirtual 92, 3) := by decide +kernel
theorem dX10_fraction_71 : decode cX10_fraction 71 = .ok (.lstore 8, 2) := by decide +kernel
theorem dX10_fraction_73 : decode cX10_fraction 73 = .ok (.aload_n 0, 1) := by decide +kernel
theorem dX10_fraction_74 : decode cX10_fraction 74 = .ok (.iload 6, 2) := by decide +kernel
theorem dX10_fraction_76 : decode cX10_fraction 76 = .ok (.putfield 109, 3) := by decide +kernel
theorem dX10_fraction_79 : decode cX10_fraction 79 = .ok (.aload_n 0, 1) := by decide +kernel
theorem dX10_fraction_80 : decode cX10_fraction 80 = .ok (.iload 7, 2) := by decide +kernel
theorem dX10_fraction_82 : decode cX10_fraction 82 = .ok (.putfield 106, 3) := by decide +kernel
theorem dX10_fraction_85 : decode cX10_fraction 85 = .ok (.aload_n 0, 1) := by decide +kernel
theorem dX10_fraction_86 : decode cX10_fraction 86 = .ok (.iload_n 1, 1) := by decide +kernel
theorem dX10_fraction_87 : decode cX10_fraction 87 = .ok (.i2l, 1) := by decide +kernel
theorem dX10_fraction_88 : decode cX10_fraction 88 = .ok (.aload_n 0, 1) := by decide +kernel
theorem dX10_fraction_89 : decode cX10_fraction 89 = .ok (.iload 4, 2) := by decide +kernel
theorem dX10_fraction_91 : decode cX10_fraction 91 = .ok (.invokevirtual 92, 3) := by decide +kernel
theorem dX10_fraction_94 : decode cX10_fraction 94 = .ok (.ldiv, 1) := by decide +kernel
theorem dX10_fraction_95 : decode cX10_fraction 95 = .ok (.lload 8, 2) := by decide +kernel
theorem dX10_fraction_97 : decode cX10_fraction 97 = .ok (.invokestatic 86, 3) := by decide +kernel
theorem dX10_fraction_100 : decode cX10_fraction 100 = .ok (.aload_n 0, 1) := by decide +kernel
theorem dX10_fraction_101 : decode cX10_fraction 101 = .ok (.iload_n 2, 1) := by decide +kernel
theorem dX10_fraction_102 : decode cX10_fraction 102 = .ok (.i2l, 1) := by decide +kernel
theorem dX10_fraction_103 : decode cX10_fraction 103 = .ok (.aload_n 0, 1) := by decide +kernel
theorem dX10_fraction_104 : decode cX10_fraction 104 = .ok (.iload 5, 2) := by decide +kernel
theorem dX10_fraction_106 : decode cX10_fraction 106 = .ok (.invokevirtual 92, 3) := by decide +kernel
theorem dX10_fraction_109 : decode cX10_fraction 109 = .ok (.ldiv, 1) := by decide +kernel
theorem dX10_fraction_110 : decode cX10_fraction 110 = .ok (.iload 7, 2) := by decide +kernel
theorem dX10_fraction_112 : decode cX10_fraction 112 = .ok (.iload 6, 2) := by decide +kernel
theorem dX10_fraction_114 : decode cX10_fraction 114 = .ok (.isub, 1) := by decide +kernel
theorem dX10_fraction_115 : decode cX10_fraction 115 = .ok (.invokevirtual 128, 3) := by decide +kernel
theorem dX10_fraction_118 : decode cX10_fraction 118 = .ok (.lmul, 1) := by decide +kernel
theorem dX10_fraction_119 : decode cX10_fraction 119 = .ok (.lload 8, 2) := by decide +kernel
theorem dX10_fraction_121 : decode cX10_fraction 121 = .ok (.lrem, 1) := by decide +kernel
theorem dX10_fraction_122 : decode cX10_fraction 122 = .ok (.putfield 112, 3) := by decide +kernel
theorem dX10_fraction_125 : decode cX10_fraction 125 = .ok (.return_, 1) := by decide +kernel
theorem dX10_sum_0 : decode cX10_sum 0 = .ok (.aload_n 0, 1) := by decide +kernel
theorem dX10_sum_1 : decode cX10_sum 1 = .ok (.getfield 13, 3) := by decide +kernel
theorem dX10_sum_4 : decode cX10_sum 4 = .ok (.iload_n 1, 1) := by decide +kernel
theorem dX10_sum_5 : decode cX10_sum 5 = .ok (.iaload, 1) := by decide +kernel
theorem dX10_sum_6 : decode cX10_sum 6 = .ok (.aload_n 0, 1) := by decide +kernel
theorem dX10_sum_7 : decode cX10_sum 7 = .ok (.getfield 13, 3) := by decide +kernel
theorem dX10_sum_10 : decode cX10_sum 10 = .ok (.iload_n 2, 1) := by decide +kernel
theorem dX10_sum_11 : decode cX10_sum 11 = .ok (.iaload, 1) := by decide +kernel
theorem dX10_sum_12 : decode cX10_sum 12 = .ok (.invokestatic 100, 3) := by decide +kernel
theorem dX10_sum_15 : decode cX10_sum 15 = .ok (.istore 4, 2) := by decide +kernel
theorem dX10_sum_17 : decode cX10_sum 17 = .ok (.iload 4, 2) := by decide +kernel
theorem dX10_sum_19 : decode cX10_sum 19 = .ok (.aload_n 0, 1) := by decide +kernel
theorem dX10_sum_20 : decode cX10_sum 20 = .ok (.getfield 7, 3) := by decide +kernel
theorem dX10_sum_23 : decode cX10_sum 23 = .ok (.iload_n 1, 1) := by decide +kernel
theorem dX10_sum_24 : decode cX10_sum 24 = .ok (.iaload, 1) := by decide +kernel
theorem dX10_sum_25 : decode cX10_sum 25 = .ok (.aload_n 0, 1) := by decide +kernel
theorem dX10_sum_26 : decode cX10_sum 26 = .ok (.getfield 7, 3) := by decide +kernel
theorem dX10_sum_29 : decode cX10_sum 29 = .ok (.iload_n 2, 1) := by decide +kernel
theorem dX10_sum_30 : decode cX10_sum 30 = .ok (.iaload, 1) := by decide +kernel
theorem dX10_sum_31 : decode cX10_sum 31 = .ok (.invokestatic 100, 3) := by decide +kernel
theorem dX10_sum_34 : decode cX10_sum 34 = .ok (.invokestatic 100, 3) := by decide +kernel
theorem dX10_sum_37 : decode cX10_sum 37 = .ok (.istore 5, 2) := by decide +kernel
theorem dX10_sum_39 : decode cX10_sum 39 = .ok (.aload_n 0, 1) := by decide +kernel
theorem dX10_sum_40 : decode cX10_sum 40 = .ok (.iload 4, 2) := by decide +kernel
theorem dX10_sum_42 : decode cX10_sum 42 = .ok (.iload 5, 2) := by decide +kernel
theorem dX10_sum_44 : decode cX10_sum 44 = .ok (.isub, 1) := by decide +kernel
theorem dX10_sum_45 : decode cX10_sum 45 = .ok (.invokevirtual 92, 3) := by decide +kernel
theorem dX10_sum_48 : decode cX10_sum 48 = .ok (.lstore 6, 2) := by decide +kernel
theorem dX10_sum_50 : decode cX10_sum 50 = .ok (.aload_n 0, 1) := by decide +kernel
theorem dX10_sum_51 : decode cX10_sum 51 = .ok (.getfield 7, 3) := by decide +kernel
theorem dX10_sum_54 : decode cX10_sum 54 = .ok (.iload_n 1, 1) := by decide +kernel
theorem dX10_sum_55 : decode cX10_sum 55 = .ok (.iaload, 1) := by decide +kernel
theorem dX10_sum_56 : decode cX10_sum 56 = .ok (.iload 4, 2) := by decide +kernel
theorem dX10_sum_58 : decode cX10_sum 58 = .ok (.if_icmp .lt 7, 3) := by decide +kernel
theorem dX10_sum_61 : decode cX10_sum 61 = .ok (.lconst 0, 1) := by decide +kernel
theorem dX10_sum_62 : decode cX10_sum 62 = .ok (.goto 29, 3) := by decide +kernel
theorem dX10_sum_65 : decode cX10_sum 65 = .ok (.aload_n 0, 1) := by decide +kernel
theorem dX10_sum_66 : decode cX10_sum 66 = .ok (.getfield 31, 3) := by decide +kernel
theorem dX10_sum_69 : decode cX10_sum 69 = .ok (.iload_n 1, 1) := by decide +kernel
theorem dX10_sum_70 : decode cX10_sum 70 = .ok (.laload, 1) := by decide +kernel
theorem dX10_sum_71 : decode cX10_sum 71 = .ok (.lload 6, 2) := by decide +kernel
theorem dX10_sum_73 : decode cX10_sum 73 = .ok (.lrem, 1) := by decide +kernel
theorem dX10_sum_74 : decode cX10_sum 74 = .ok (.aload_n 0, 1) := by decide +kernel
theorem dX10_sum_75 : decode cX10_sum 75 = .ok (.aload_n 0, 1) := by decide +kernel
theorem dX10_sum_76 : decode cX10_sum 76 = .ok (.getfield 7, 3) := by decide +kernel
theorem dX10_sum_79 : decode cX10_sum 79 = .ok (.iload_n 1, 1) := by decide +kernel
theorem dX10_sum_80 : decode cX10_sum 80 = .ok (.iaload, 1) := by decide +kernel
theorem dX10_sum_81 : decode cX10_sum 81 = .ok (.iload 5, 2) := by decide +kernel
theorem dX10_sum_83 : decode cX10_sum 83 = .ok (.isub, 1) := by decide +kernel
theorem dX10_sum_84 : decode cX10_sum 84 = .ok (.invokevirtual 92, 3) := by decide +kernel
theorem dX10_sum_87 : decode cX10_sum 87 = .ok (.lmul, 1) := by decide +kernel
theorem dX10_sum_88 : decode cX10_sum 88 = .ok (.lload 6, 2) := by decide +kernel
theorem dX10_sum_90 : decode cX10_sum 90 = .ok (.lrem, 1) := by decide +kernel
theorem dX10_sum_91 : decode cX10_sum 91 = .ok (.lstore 8, 2) := by decide +kernel
theorem dX10_sum_93 : decode cX10_sum 93 = .ok (.aload_n 0, 1) := by decide +kernel
theorem dX10_sum_94 : decode cX10_sum 94 = .ok (.getfield 7, 3) := by decide +kernel
theorem dX10_sum_97 : decode cX10_sum 97 = .ok (.iload_n 2, 1) := by decide +kernel
theorem dX10_sum_98 : decode cX10_sum 98 = .ok (.iaload, 1) := by decide +kernel
theorem dX10_sum_99 : decode cX10_sum 99 = .ok (.iload 4, 2) := by decide +kernel
theorem dX10_sum_101 : decode cX10_sum 101 = .ok (.if_icmp .lt 7, 3) := by decide +kernel
theorem dX10_sum_104 : decode cX10_sum 104 = .ok (.lconst 0, 1) := by decide +kernel
theorem dX10_sum_105 : decode cX10_sum 105 = .ok (.goto 29, 3) := by decide +kernel
theorem dX10_sum_108 : decode cX10_sum 108 = .ok (.aload_n 0, 1) := by decide +kernel
theorem dX10_sum_109 : decode cX10_sum 109 = .ok (.getfield 31, 3) := by decide +kernel
theorem dX10_sum_112 : decode cX10_sum 112 = .ok (.iload_n 2, 1) := by decide +kernel
theorem dX10_sum_113 : decode cX10_sum 113 = .ok (.laload, 1) := by decide +kernel
theorem dX10_sum_114 : decode cX10_sum 114 = .ok (.lload 6, 2) := by decide +kernel
theorem dX10_sum_116 : decode cX10_sum 116 = .ok (.lrem, 1) := by decide +kernel
theorem dX10_sum_117 : decode cX10_sum 117 = .ok (.aload_n 0, 1) := by decide +kernel
theorem dX10_sum_118 : decode cX10_sum 118 = .ok (.aload_n 0, 1) := by decide +kernel
theorem dX10_sum_119 : decode cX10_sum 119 = .ok (.getfield 7, 3) := by decide +kernel
theorem dX10_sum_122 : decode cX10_sum 122 = .ok (.iload_n 2, 1) := by decide +kernel
theorem dX10_sum_123 : decode cX10_sum 123 = .ok (.iaload, 1) := by decide +kernel
theorem dX10_sum_124 : decode cX10_sum 124 = .ok (.iload 5, 2) := by decide +kernel
theorem dX10_sum_126 : decode cX10_sum 126 = .ok (.isub, 1) := by decide +kernel
theorem dX10_sum_127 : decode cX10_sum 127 = .ok (.invokevirtual 92, 3) := by decide +kernel
theorem dX10_sum_130 : decode cX10_sum 130 = .ok (.lmul, 1) := by decide +kernel
theorem dX10_sum_131 : decode cX10_sum 131 = .ok (.lload 6, 2) := by decide +kernel
theorem dX10_sum_133 : decode cX10_sum 133 = .ok (.lrem, 1) := by decide +kernel
theorem dX10_sum_134 : decode cX10_sum 134 = .ok (.lstore 10, 2) := by decide +kernel
theorem dX10_sum_136 : decode cX10_sum 136 = .ok (.aload_n 0, 1) := by decide +kernel
theorem dX10_sum_137 : decode cX10_sum 137 = .ok (.lload 8, 2) := by decide +kernel
theorem dX10_sum_139 : decode cX10_sum 139 = .ok (.iload_n 3, 1) := by decide +kernel
theorem dX10_sum_140 : decode cX10_sum 140 = .ok (.i2l, 1) := by decide +kernel
theorem dX10_sum_141 : decode cX10_sum 141 = .ok (.lload 10, 2) := by decide +kernel
theorem dX10_sum_143 : decode cX10_sum 143 = .ok (.lmul, 1) := by decide +kernel
theorem dX10_sum_144 : decode cX10_sum 144 = .ok (.ladd, 1) := by decide +kernel
theorem dX10_sum_145 : decode cX10_sum 145 = .ok (.lload 6, 2) := by decide +kernel
theorem dX10_sum_147 : decode cX10_sum 147 = .ok (.invokestatic 86, 3) := by decide +kernel
theorem dX10_sum_150 : decode cX10_sum 150 = .ok (.iload 5, 2) := by decide +kernel
theorem dX10_sum_152 : decode cX10_sum 152 = .ok (.iload 4, 2) := by decide +kernel
theorem dX10_sum_154 : decode cX10_sum 154 = .ok (.invokevirtual 132, 3) := by decide +kernel
theorem dX10_sum_157 : decode cX10_sum 157 = .ok (.return_, 1) := by decide +kernel
theorem dX10_product_0 : decode cX10_product 0 = .ok (.aload_n 0, 1) := by decide +kernel
theorem dX10_product_1 : decode cX10_product 1 = .ok (.getfield 7, 3) := by decide +kernel
theorem dX10_product_4 : decode cX10_product 4 = .ok (.iload_n 1, 1) := by decide +kernel
theorem dX10_product_5 : decode cX10_product 5 = .ok (.iaload, 1) := by decide +kernel
theorem dX10_product_6 : decode cX10_product 6 = .ok (.aload_n 0, 1) := by decide +kernel
theorem dX10_product_7 : decode cX10_product 7 = .ok (.getfield 13, 3) := by decide +kernel
theorem dX10_product_10 : decode cX10_product 10 = .ok (.iload_n 2, 1) := by decide +kernel
theorem dX10_product_11 : decode cX10_product 11 = .ok (.iaload, 1) := by decide +kernel
theorem dX10_product_12 : decode cX10_product 12 = .ok (.iadd, 1) := by decide +kernel
theorem dX10_product_13 : decode cX10_product 13 = .ok (.aload_n 0, 1) := by decide +kernel
theorem dX10_product_14 : decode cX10_product 14 = .ok (.getfield 7, 3) := by decide +kernel
theorem dX10_product_17 : decode cX10_product 17 = .ok (.iload_n 2, 1) := by decide +kernel
theorem dX10_product_18 : decode cX10_product 18 = .ok (.iaload, 1) := by decide +kernel
theorem dX10_product_19 : decode cX10_product 19 = .ok (.aload_n 0, 1) := by decide +kernel
theorem dX10_product_20 : decode cX10_product 20 = .ok (.getfield 13, 3) := by decide +kernel
theorem dX10_product_23 : decode cX10_product 23 = .ok (.iload_n 1, 1) := by decide +kernel
theorem dX10_product_24 : decode cX10_product 24 = .ok (.iaload, 1) := by decide +kernel
theorem dX10_product_25 : decode cX10_product 25 = .ok (.iadd, 1) := by decide +kernel
theorem dX10_product_26 : decode cX10_product 26 = .ok (.invokestatic 100, 3) := by decide +kernel
theorem dX10_product_29 : decode cX10_product 29 = .ok (.istore_n 3, 1) := by decide +kernel
theorem dX10_product_30 : decode cX10_product 30 = .ok (.aload_n 0, 1) := by decide +kernel
theorem dX10_product_31 : decode cX10_product 31 = .ok (.getfield 7, 3) := by decide +kernel
theorem dX10_product_34 : decode cX10_product 34 = .ok (.iload_n 1, 1) := by decide +kernel
theorem dX10_product_35 : decode cX10_product 35 = .ok (.iaload, 1) := by decide +kernel
theorem dX10_product_36 : decode cX10_product 36 = .ok (.aload_n 0, 1) := by decide +kernel
theorem dX10_product_37 : decode cX10_product 37 = .ok (.getfield 7, 3) := by decide +kernel
theorem dX10_product_40 : decode cX10_product 40 = .ok (.iload_n 2, 1) := by decide +kernel
theorem dX10_product_41 : decode cX10_product 41 = .ok (.iaload, 1) := by decide +kernel
theorem dX10_product_42 : decode cX10_product 42 = .ok (.iadd, 1) := by decide +kernel
theorem dX10_product_43 : decode cX10_product 43 = .ok (.istore 4, 2) := by decide +kernel
theorem dX10_product_45 : decode cX10_product 45 = .ok (.aload_n 0, 1) := by decide +kernel
theorem dX10_product_46 : decode cX10_product 46 = .ok (.getfield 31, 3) := by decide +kernel
theorem dX10_product_49 : decode cX10_product 49 = .ok (.iload_n 1, 1) := by decide +kernel
theorem dX10_product_50 : decode cX10_product 50 = .ok (.laload, 1) := by decide +kernel
theorem dX10_product_51 : decode cX10_product 51 = .ok (.lconst 0, 1) := by decide +kernel
theorem dX10_product_52 : decode cX10_product 52 = .ok (.lcmp, 1) := by decide +kernel
theorem dX10_product_53 : decode cX10_product 53 = .ok (.ifCond .eq 14, 3) := by decide +kernel
theorem dX10_product_56 : decode cX10_product 56 = .ok (.aload_n 0, 1) := by decide +kernel
theorem dX10_product_57 : decode cX10_product 57 = .ok (.getfield 31, 3) := by decide +kernel
theorem dX10_product_60 : decode cX10_product 60 = .ok (.iload_n 2, 1) := by decide +kernel
theorem dX10_product_61 : decode cX10_product 61 = .ok (.laload, 1) := by decide +kernel
theorem dX10_product_62 : decode cX10_product 62 = .ok (.lconst 0, 1) := by decide +kernel
theorem dX10_product_63 : decode cX10_product 63 = .ok (.lcmp, 1) := by decide +kernel
theorem dX10_product_64 : decode cX10_product 64 = .ok (.ifCond .ne 9, 3) := by decide +kernel
theorem dX10_product_67 : decode cX10_product 67 = .ok (.aload_n 0, 1) := by decide +kernel
theorem dX10_product_68 : decode cX10_product 68 = .ok (.iload_n 3, 1) := by decide +kernel
theorem dX10_product_69 : decode cX10_product 69 = .ok (.invokevirtual 116, 3) := by decide +kernel
theorem dX10_product_72 : decode cX10_product 72 = .ok (.return_, 1) := by decide +kernel
theorem dX10_product_73 : decode cX10_product 73 = .ok (.aload_n 0, 1) := by decide +kernel
theorem dX10_product_74 : decode cX10_product 74 = .ok (.iload_n 3, 1) := by decide +kernel
theorem dX10_product_75 : decode cX10_product 75 = .ok (.iload 4, 2) := by decide +kernel
theorem dX10_product_77 : decode cX10_product 77 = .ok (.isub, 1) := by decide +kernel
theorem dX10_product_78 : decode cX10_product 78 = .ok (.aload_n 0, 1) := by decide +kernel
theorem dX10_product_79 : decode cX10_product 79 = .ok (.invokevirtual 124, 3) := by decide +kernel
theorem dX10_product_82 : decode cX10_product 82 = .ok (.invokestatic 100, 3) := by decide +kernel
theorem dX10_product_85 : decode cX10_product 85 = .ok (.invokevirtual 92, 3) := by decide +kernel
theorem dX10_product_88 : decode cX10_product 88 = .ok (.lstore 5, 2) := by decide +kernel
theorem dX10_product_90 : decode cX10_product 90 = .ok (.aload_n 0, 1) := by decide +kernel
theorem dX10_product_91 : decode cX10_product 91 = .ok (.aload_n 0, 1) := by decide +kernel
theorem dX10_product_92 : decode cX10_product 92 = .ok (.getfield 31, 3) := by decide +kernel
theorem dX10_product_95 : decode cX10_product 95 = .ok (.iload_n 1, 1) := by decide +kernel
theorem dX10_product_96 : decode cX10_product 96 = .ok (.laload, 1) := by decide +kernel
theorem dX10_product_97 : decode cX10_product 97 = .ok (.lload 5, 2) := by decide +kernel
theorem dX10_product_99 : decode cX10_product 99 = .ok (.lrem, 1) := by decide +kernel
theorem dX10_product_100 : decode cX10_product 100 = .ok (.aload_n 0, 1) := by decide +kernel
theorem dX10_product_101 : decode cX10_product 101 = .ok (.getfield 31, 3) := by decide +kernel
theorem dX10_product_104 : decode cX10_product 104 = .ok (.iload_n 2, 1) := by decide +kernel
theorem dX10_product_105 : decode cX10_product 105 = .ok (.laload, 1) := by decide +kernel
theorem dX10_product_106 : decode cX10_product 106 = .ok (.lload 5, 2) := by decide +kernel
theorem dX10_product_108 : decode cX10_product 108 = .ok (.lrem, 1) := by decide +kernel
theorem dX10_product_109 : decode cX10_product 109 = .ok (.lmul, 1) := by decide +kernel
theorem dX10_product_110 : decode cX10_product 110 = .ok (.lload 5, 2) := by decide +kernel
theorem dX10_product_112 : decode cX10_product 112 = .ok (.lrem, 1) := by decide +kernel
theorem dX10_product_113 : decode cX10_product 113 = .ok (.iload 4, 2) := by decide +kernel
theorem dX10_product_115 : decode cX10_product 115 = .ok (.iload_n 3, 1) := by decide +kernel
theorem dX10_product_116 : decode cX10_product 116 = .ok (.invokevirtual 132, 3) := by decide +kernel
theorem dX10_product_119 : decode cX10_product 119 = .ok (.return_, 1) := by decide +kernel
theorem dX10_quotient_0 : decode cX10_quotient 0 = .ok (.aload_n 0, 1) := by decide +kernel
theorem dX10_quotient_1 : decode cX10_quotient 1 = .ok (.getfield 13, 3) := by decide +kernel
theorem dX10_quotient_4 : decode cX10_quotient 4 = .ok (.iload_n 1, 1) := by decide +kernel
theorem dX10_quotient_5 : decode cX10_quotient 5 = .ok (.iaload, 1) := by decide +kernel
theorem dX10_quotient_6 : decode cX10_quotient 6 = .ok (.aload_n 0, 1) := by decide +kernel
theorem dX10_quotient_7 : decode cX10_quotient 7 = .ok (.getfield 7, 3) := by decide +kernel
theorem dX10_quotient_10 : decode cX10_quotient 10 = .ok (.iload_n 2, 1) := by decide +kernel
theorem dX10_quotient_11 : decode cX10_quotient 11 = .ok (.iaload, 1) := by decide +kernel
theorem dX10_quotient_12 : decode cX10_quotient 12 = .ok (.isub, 1) := by decide +kernel
theorem dX10_quotient_13 : decode cX10_quotient 13 = .ok (.aload_n 0, 1) := by decide +kernel
theorem dX10_quotient_14 : decode cX10_quotient 14 = .ok (.getfield 7, 3) := by decide +kernel
theorem dX10_quotient_17 : decode cX10_quotient 17 = .ok (.iload_n 1, 1) := by decide +kernel
theorem dX10_quotient_18 : decode cX10_quotient 18 = .ok (.iaload, 1) := by decide +kernel
theorem dX10_quotient_19 : decode cX10_quotient 19 = .ok (.aload_n 0, 1) := by decide +kernel
theorem dX10_quotient_20 : decode cX10_quotient 20 = .ok (.getfield 13, 3) := by decide +kernel
theorem dX10_quotient_23 : decode cX10_quotient 23 = .ok (.iload_n 2, 1) := by decide +kernel
theorem dX10_quotient_24 : decode cX10_quotient 24 = .ok (.iaload, 1) := by decide +kernel
theorem dX10_quotient_25 : decode cX10_quotient 25 = .ok (.iadd, 1) := by decide +kernel
theorem dX10_quotient_26 : decode cX10_quotient 26 = .ok (.iconst 2, 1) := by decide +kernel
theorem dX10_quotient_27 : decode cX10_quotient 27 = .ok (.aload_n 0, 1) := by decide +kernel
theorem dX10_quotient_28 : decode cX10_quotient 28 = .ok (.getfield 7, 3) := by decide +kernel
theorem dX10_quotient_31 : decode cX10_quotient 31 = .ok (.iload_n 2, 1) := by decide +kernel
theorem dX10_quotient_32 : decode cX10_quotient 32 = .ok (.iaload, 1) := by decide +kernel
theorem dX10_quotient_33 : decode cX10_quotient 33 = .ok (.imul, 1) := by decide +kernel
theorem dX10_quotient_34 : decode cX10_quotient 34 = .ok (.isub, 1) := by decide +kernel
theorem dX10_quotient_35 : decode cX10_quotient 35 = .ok (.invokestatic 100, 3) := by decide +kernel
theorem dX10_quotient_38 : decode cX10_quotient 38 = .ok (.istore_n 3, 1) := by decide +kernel
theorem dX10_quotient_39 : decode cX10_quotient 39 = .ok (.aload_n 0, 1) := by decide +kernel
theorem dX10_quotient_40 : decode cX10_quotient 40 = .ok (.getfield 7, 3) := by decide +kernel
theorem dX10_quotient_43 : decode cX10_quotient 43 = .ok (.iload_n 1, 1) := by decide +kernel
theorem dX10_quotient_44 : decode cX10_quotient 44 = .ok (.iaload, 1) := by decide +kernel
theorem dX10_quotient_45 : decode cX10_quotient 45 = .ok (.aload_n 0, 1) := by decide +kernel
theorem dX10_quotient_46 : decode cX10_quotient 46 = .ok (.getfield 7, 3) := by decide +kernel
theorem dX10_quotient_49 : decode cX10_quotient 49 = .ok (.iload_n 2, 1) := by decide +kernel
theorem dX10_quotient_50 : decode cX10_quotient 50 = .ok (.iaload, 1) := by decide +kernel
theorem dX10_quotient_51 : decode cX10_quotient 51 = .ok (.isub, 1) := by decide +kernel
theorem dX10_quotient_52 : decode cX10_quotient 52 = .ok (.istore 4, 2) := by decide +kernel
theorem dX10_quotient_54 : decode cX10_quotient 54 = .ok (.aload_n 0, 1) := by decide +kernel
theorem dX10_quotient_55 : decode cX10_quotient 55 = .ok (.getfield 31, 3) := by decide +kernel
theorem dX10_quotient_58 : decode cX10_quotient 58 = .ok (.iload_n 1, 1) := by decide +kernel
theorem dX10_quotient_59 : decode cX10_quotient 59 = .ok (.laload, 1) := by decide +kernel
theorem dX10_quotient_60 : decode cX10_quotient 60 = .ok (.lconst 0, 1) := by decide +kernel
theorem dX10_quotient_61 : decode cX10_quotient 61 = .ok (.lcmp, 1) := by decide +kernel
theorem dX10_quotient_62 : decode cX10_quotient 62 = .ok (.ifCond .ne 9, 3) := by decide +kernel
theorem dX10_quotient_65 : decode cX10_quotient 65 = .ok (.aload_n 0, 1) := by decide +kernel
theorem dX10_quotient_66 : decode cX10_quotient 66 = .ok (.iload_n 3, 1) := by decide +kernel
theorem dX10_quotient_67 : decode cX10_quotient 67 = .ok (.invokevirtual 116, 3) := by decide +kernel
theorem dX10_quotient_70 : decode cX10_quotient 70 = .ok (.return_, 1) := by decide +kernel
theorem dX10_quotient_71 : decode cX10_quotient 71 = .ok (.aload_n 0, 1) := by decide +kernel
theorem dX10_quotient_72 : decode cX10_quotient 72 = .ok (.iload_n 3, 1) := by decide +kernel
theorem dX10_quotient_73 : decode cX10_quotient 73 = .ok (.iload 4, 2) := by decide +kernel
theorem dX10_quotient_75 : decode cX10_quotient 75 = .ok (.isub, 1) := by decide +kernel
theorem dX10_quotient_76 : decode cX10_quotient 76 = .ok (.invokevirtual 92, 3) := by decide +kernel
theorem dX10_quotient_79 : decode cX10_quotient 79 = .ok (.lstore 5, 2) := by decide +kernel
theorem dX10_quotient_81 : decode cX10_quotient 81 = .ok (.aload_n 0, 1) := by decide +kernel
theorem dX10_quotient_82 : decode cX10_quotient 82 = .ok (.aload_n 0, 1) := by decide +kernel
theorem dX10_quotient_83 : decode cX10_quotient 83 = .ok (.getfield 31, 3) := by decide +kernel
theorem dX10_quotient_86 : decode cX10_quotient 86 = .ok (.iload_n 1, 1) := by decide +kernel
theorem dX10_quotient_87 : decode cX10_quotient 87 = .ok (.laload, 1) := by decide +kernel
theorem dX10_quotient_88 : decode cX10_quotient 88 = .ok (.lload 5, 2) := by decide +kernel
theorem dX10_quotient_90 : decode cX10_quotient 90 = .ok (.lrem, 1) := by decide +kernel
theorem dX10_quotient_91 : decode cX10_quotient 91 = .ok (.aload_n 0, 1) := by decide +kernel
theorem dX10_quotient_92 : decode cX10_quotient 92 = .ok (.aload_n 0, 1) := by decide +kernel
theorem dX10_quotient_93 : decode cX10_quotient 93 = .ok (.getfield 31, 3) := by decide +kernel
theorem dX10_quotient_96 : decode cX10_quotient 96 = .ok (.iload_n 2, 1) := by decide +kernel
theorem dX10_quotient_97 : decode cX10_quotient 97 = .ok (.laload, 1) := by decide +kernel
theorem dX10_quotient_98 : decode cX10_quotient 98 = .ok (.lload 5, 2) := by decide +kernel
theorem dX10_quotient_100 : decode cX10_quotient 100 = .ok (.lrem, 1) := by decide +kernel
theorem dX10_quotient_101 : decode cX10_quotient 101 = .ok (.iload_n 3, 1) := by decide +kernel
theorem dX10_quotient_102 : decode cX10_quotient 102 = .ok (.iload 4, 2) := by decide +kernel
theorem dX10_quotient_104 : decode cX10_quotient 104 = .ok (.isub, 1) := by decide +kernel
theorem dX10_quotient_105 : decode cX10_quotient 105 = .ok (.invokevirtual 128, 3) := by decide +kernel
theorem dX10_quotient_108 : decode cX10_quotient 108 = .ok (.lmul, 1) := by decide +kernel
theorem dX10_quotient_109 : decode cX10_quotient 109 = .ok (.lload 5, 2) := by decide +kernel
theorem dX10_quotient_111 : decode cX10_quotient 111 = .ok (.lrem, 1) := by decide +kernel
theorem dX10_quotient_112 : decode cX10_quotient 112 = .ok (.iload 4, 2) := by decide +kernel
theorem dX10_quotient_114 : decode cX10_quotient 114 = .ok (.iload_n 3, 1) := by decide +kernel
theorem dX10_quotient_115 : decode cX10_quotient 115 = .ok (.invokevirtual 132, 3) := by decide +kernel
theorem dX10_quotient_118 : decode cX10_quotient 118 = .ok (.return_, 1) := by decide +kernel
theorem dX10_rootOf_0 : decode cX10_rootOf 0 = .ok (.aload_n 0, 1) := by decide +kernel
theorem dX10_rootOf_1 : decode cX10_rootOf 1 = .ok (.getfield 63, 3) := by decide +kernel
theorem dX10_rootOf_4 : decode cX10_rootOf 4 = .ok (.iconst 2, 1) := by decide +kernel
theorem dX10_rootOf_5 : decode cX10_rootOf 5 = .ok (.if_icmp .ne 64, 3) := by decide +kernel
theorem dX10_rootOf_8 : decode cX10_rootOf 8 = .ok (.lconst 1, 1) := by decide +kernel
theorem dX10_rootOf_9 : decode cX10_rootOf 9 = .ok (.lstore 4, 2) := by decide +kernel
theorem dX10_rootOf_11 : decode cX10_rootOf 11 = .ok (.iconst 2, 1) := by decide +kernel
theorem dX10_rootOf_12 : decode cX10_rootOf 12 = .ok (.istore 6, 2) := by decide +kernel
theorem dX10_rootOf_14 : decode cX10_rootOf 14 = .ok (.iload 6, 2) := by decide +kernel
theorem dX10_rootOf_16 : decode cX10_rootOf 16 = .ok (.iconst 2, 1) := by decide +kernel
theorem dX10_rootOf_17 : decode cX10_rootOf 17 = .ok (.iadd, 1) := by decide +kernel
theorem dX10_rootOf_18 : decode cX10_rootOf 18 = .ok (.iload_n 3, 1) := by decide +kernel
theorem dX10_rootOf_19 : decode cX10_rootOf 19 = .ok (.if_icmp .gt 47, 3) := by decide +kernel
theorem dX10_rootOf_22 : decode cX10_rootOf 22 = .ok (.aload_n 0, 1) := by decide +kernel
theorem dX10_rootOf_23 : decode cX10_rootOf 23 = .ok (.iload 6, 2) := by decide +kernel
theorem dX10_rootOf_25 : decode cX10_rootOf 25 = .ok (.iconst 2, 1) := by decide +kernel
theorem dX10_rootOf_26 : decode cX10_rootOf 26 = .ok (.iadd, 1) := by decide +kernel
theorem dX10_rootOf_27 : decode cX10_rootOf 27 = .ok (.invokevirtual 92, 3) := by decide +kernel
theorem dX10_rootOf_30 : decode cX10_rootOf 30 = .ok (.lstore 7, 2) := by decide +kernel
theorem dX10_rootOf_32 : decode cX10_rootOf 32 = .ok (.lload 4, 2) := by decide +kernel
theorem dX10_rootOf_34 : decode cX10_rootOf 34 = .ok (.lload 4, 2) := by decide +kernel
theorem dX10_rootOf_36 : decode cX10_rootOf 36 = .ok (.lmul, 1) := by decide +kernel
theorem dX10_rootOf_37 : decode cX10_rootOf 37 = .ok (.lload_n 1, 1) := by decide +kernel
theorem dX10_rootOf_38 : decode cX10_rootOf 38 = .ok (.lsub, 1) := by decide +kernel
theorem dX10_rootOf_39 : decode cX10_rootOf 39 = .ok (.lload 7, 2) := by decide +kernel
theorem dX10_rootOf_41 : decode cX10_rootOf 41 = .ok (.invokestatic 86, 3) := by decide +kernel
theorem dX10_rootOf_44 : decode cX10_rootOf 44 = .ok (.lconst 0, 1) := by decide +kernel
theorem dX10_rootOf_45 : decode cX10_rootOf 45 = .ok (.lcmp, 1) := by decide +kernel
theorem dX10_rootOf_46 : decode cX10_rootOf 46 = .ok (.ifCond .eq 14, 3) := by decide +kernel
theorem dX10_rootOf_49 : decode cX10_rootOf 49 = .ok (.lload 4, 2) := by decide +kernel
theorem dX10_rootOf_51 : decode cX10_rootOf 51 = .ok (.aload_n 0, 1) := by decide +kernel
theorem dX10_rootOf_52 : decode cX10_rootOf 52 = .ok (.iload 6, 2) := by decide +kernel
theorem dX10_rootOf_54 : decode cX10_rootOf 54 = .ok (.invokevirtual 92, 3) := by decide +kernel
theorem dX10_rootOf_57 : decode cX10_rootOf 57 = .ok (.ladd, 1) := by decide +kernel
theorem dX10_rootOf_58 : decode cX10_rootOf 58 = .ok (.lstore 4, 2) := by decide +kernel
theorem dX10_rootOf_60 : decode cX10_rootOf 60 = .ok (.iinc 6 1, 3) := by decide +kernel
theorem dX10_rootOf_63 : decode cX10_rootOf 63 = .ok (.goto (-49), 3) := by decide +kernel
theorem dX10_rootOf_66 : decode cX10_rootOf 66 = .ok (.lload 4, 2) := by decide +kernel
theorem dX10_rootOf_68 : decode cX10_rootOf 68 = .ok (.lreturn, 1) := by decide +kernel
theorem dX10_rootOf_69 : decode cX10_rootOf 69 = .ok (.lconst 1, 1) := by decide +kernel
theorem dX10_rootOf_70 : decode cX10_rootOf 70 = .ok (.lstore 4, 2) := by decide +kernel
theorem dX10_rootOf_72 : decode cX10_rootOf 72 = .ok (.lload 4, 2) := by decide +kernel
theorem dX10_rootOf_74 : decode cX10_rootOf 74 = .ok (.aload_n 0, 1) := by decide +kernel
theorem dX10_rootOf_75 : decode cX10_rootOf 75 = .ok (.getfield 63, 3) := by decide +kernel
theorem dX10_rootOf_78 : decode cX10_rootOf 78 = .ok (.i2l, 1) := by decide +kernel
theorem dX10_rootOf_79 : decode cX10_rootOf 79 = .ok (.lcmp, 1) := by decide +kernel
theorem dX10_rootOf_80 : decode cX10_rootOf 80 = .ok (.ifCond .ge 30, 3) := by decide +kernel
theorem dX10_rootOf_83 : decode cX10_rootOf 83 = .ok (.lload 4, 2) := by decide +kernel
theorem dX10_rootOf_85 : decode cX10_rootOf 85 = .ok (.lload 4, 2) := by decide +kernel
theorem dX10_rootOf_87 : decode cX10_rootOf 87 = .ok (.lmul, 1) := by decide +kernel
theorem dX10_rootOf_88 : decode cX10_rootOf 88 = .ok (.lload_n 1, 1) := by decide +kernel
theorem dX10_rootOf_89 : decode cX10_rootOf 89 = .ok (.lsub, 1) := by decide +kernel
theorem dX10_rootOf_90 : decode cX10_rootOf 90 = .ok (.aload_n 0, 1) := by decide +kernel
theorem dX10_rootOf_91 : decode cX10_rootOf 91 = .ok (.getfield 63, 3) := by decide +kernel
theorem dX10_rootOf_94 : decode cX10_rootOf 94 = .ok (.i2l, 1) := by decide +kernel
theorem dX10_rootOf_95 : decode cX10_rootOf 95 = .ok (.lrem, 1) := by decide +kernel
theorem dX10_rootOf_96 : decode cX10_rootOf 96 = .ok (.lconst 0, 1) := by decide +kernel
theorem dX10_rootOf_97 : decode cX10_rootOf 97 = .ok (.lcmp, 1) := by decide +kernel
theorem dX10_rootOf_98 : decode cX10_rootOf 98 = .ok (.ifCond .eq 12, 3) := by decide +kernel
theorem dX10_rootOf_101 : decode cX10_rootOf 101 = .ok (.lload 4, 2) := by decide +kernel
theorem dX10_rootOf_103 : decode cX10_rootOf 103 = .ok (.lconst 1, 1) := by decide +kernel
theorem dX10_rootOf_104 : decode cX10_rootOf 104 = .ok (.ladd, 1) := by decide +kernel
theorem dX10_rootOf_105 : decode cX10_rootOf 105 = .ok (.lstore 4, 2) := by decide +kernel
theorem dX10_rootOf_107 : decode cX10_rootOf 107 = .ok (.goto (-35), 3) := by decide +kernel
theorem dX10_rootOf_110 : decode cX10_rootOf 110 = .ok (.iconst 1, 1) := by decide +kernel
theorem dX10_rootOf_111 : decode cX10_rootOf 111 = .ok (.istore 6, 2) := by decide +kernel
theorem dX10_rootOf_113 : decode cX10_rootOf 113 = .ok (.iload 6, 2) := by decide +kernel
theorem dX10_rootOf_115 : decode cX10_rootOf 115 = .ok (.iload_n 3, 1) := by decide +kernel
theorem dX10_rootOf_116 : decode cX10_rootOf 116 = .ok (.if_icmp .ge 54, 3) := by decide +kernel
theorem dX10_rootOf_119 : decode cX10_rootOf 119 = .ok (.aload_n 0, 1) := by decide +kernel
theorem dX10_rootOf_120 : decode cX10_rootOf 120 = .ok (.iload 6, 2) := by decide +kernel
theorem dX10_rootOf_122 : decode cX10_rootOf 122 = .ok (.invokevirtual 92, 3) := by decide +kernel
theorem dX10_rootOf_125 : decode cX10_rootOf 125 = .ok (.lstore 7, 2) := by decide +kernel
theorem dX10_rootOf_127 : decode cX10_rootOf 127 = .ok (.aload_n 0, 1) := by decide +kernel
theorem dX10_rootOf_128 : decode cX10_rootOf 128 = .ok (.iload 6, 2) := by decide +kernel
theorem dX10_rootOf_130 : decode cX10_rootOf 130 = .ok (.iconst 1, 1) := by decide +kernel
theorem dX10_rootOf_131 : decode cX10_rootOf 131 = .ok (.iadd, 1) := by decide +kernel
theorem dX10_rootOf_132 : decode cX10_rootOf 132 = .ok (.invokevirtual 92, 3) := by decide +kernel
theorem dX10_rootOf_135 : decode cX10_rootOf 135 = .ok (.lstore 9, 2) := by decide +kernel
theorem dX10_rootOf_137 : decode cX10_rootOf 137 = .ok (.lload 4, 2) := by decide +kernel
theorem dX10_rootOf_139 : decode cX10_rootOf 139 = .ok (.lload 4, 2) := by decide +kernel
theorem dX10_rootOf_141 : decode cX10_rootOf 141 = .ok (.lmul, 1) := by decide +kernel
theorem dX10_rootOf_142 : decode cX10_rootOf 142 = .ok (.lload_n 1, 1) := by decide +kernel
theorem dX10_rootOf_143 : decode cX10_rootOf 143 = .ok (.lsub, 1) := by decide +kernel
theorem dX10_rootOf_144 : decode cX10_rootOf 144 = .ok (.lload 9, 2) := by decide +kernel
theorem dX10_rootOf_146 : decode cX10_rootOf 146 = .ok (.invokestatic 86, 3) := by decide +kernel
theorem dX10_rootOf_149 : decode cX10_rootOf 149 = .ok (.lconst 0, 1) := by decide +kernel
theorem dX10_rootOf_150 : decode cX10_rootOf 150 = .ok (.lcmp, 1) := by decide +kernel
theorem dX10_rootOf_151 : decode cX10_rootOf 151 = .ok (.ifCond .eq 13, 3) := by decide +kernel
theorem dX10_rootOf_154 : decode cX10_rootOf 154 = .ok (.lload 4, 2) := by decide +kernel
theorem dX10_rootOf_156 : decode cX10_rootOf 156 = .ok (.lload 7, 2) := by decide +kernel
theorem dX10_rootOf_158 : decode cX10_rootOf 158 = .ok (.ladd, 1) := by decide +kernel
theorem dX10_rootOf_159 : decode cX10_rootOf 159 = .ok (.lstore 4, 2) := by decide +kernel
theorem dX10_rootOf_161 : decode cX10_rootOf 161 = .ok (.goto (-24), 3) := by decide +kernel
theorem dX10_rootOf_164 : decode cX10_rootOf 164 = .ok (.iinc 6 1, 3) := by decide +kernel
theorem dX10_rootOf_167 : decode cX10_rootOf 167 = .ok (.goto (-54), 3) := by decide +kernel
theorem dX10_rootOf_170 : decode cX10_rootOf 170 = .ok (.lload 4, 2) := by decide +kernel
theorem dX10_rootOf_172 : decode cX10_rootOf 172 = .ok (.lreturn, 1) := by decide +kernel
theorem dX10_isSquare_0 : decode cX10_isSquare 0 = .ok (.aload_n 0, 1) := by decide +kernel
theorem dX10_isSquare_1 : decode cX10_isSquare 1 = .ok (.getfield 31, 3) := by decide +kernel
theorem dX10_isSquare_4 : decode cX10_isSquare 4 = .ok (.iload_n 1, 1) := by decide +kernel
theorem dX10_isSquare_5 : decode cX10_isSquare 5 = .ok (.laload, 1) := by decide +kernel
theorem dX10_isSquare_6 : decode cX10_isSquare 6 = .ok (.lconst 0, 1) := by decide +kernel
theorem dX10_isSquare_7 : decode cX10_isSquare 7 = .ok (.lcmp, 1) := by decide +kernel
theorem dX10_isSquare_8 : decode cX10_isSquare 8 = .ok (.ifCond .eq 14, 3) := by decide +kernel
theorem dX10_isSquare_11 : decode cX10_isSquare 11 = .ok (.aload_n 0, 1) := by decide +kernel
theorem dX10_isSquare_12 : decode cX10_isSquare 12 = .ok (.getfield 7, 3) := by decide +kernel
theorem dX10_isSquare_15 : decode cX10_isSquare 15 = .ok (.iload_n 1, 1) := by decide +kernel
theorem dX10_isSquare_16 : decode cX10_isSquare 16 = .ok (.iaload, 1) := by decide +kernel
theorem dX10_isSquare_17 : decode cX10_isSquare 17 = .ok (.iconst 2, 1) := by decide +kernel
theorem dX10_isSquare_18 : decode cX10_isSquare 18 = .ok (.irem, 1) := by decide +kernel
theorem dX10_isSquare_19 : decode cX10_isSquare 19 = .ok (.ifCond .eq 5, 3) := by decide +kernel
theorem dX10_isSquare_22 : decode cX10_isSquare 22 = .ok (.iconst 0, 1) := by decide +kernel
theorem dX10_isSquare_23 : decode cX10_isSquare 23 = .ok (.ireturn, 1) := by decide +kernel
theorem dX10_isSquare_24 : decode cX10_isSquare 24 = .ok (.aload_n 0, 1) := by decide +kernel
theorem dX10_isSquare_25 : decode cX10_isSquare 25 = .ok (.getfield 63, 3) := by decide +kernel
theorem dX10_isSquare_28 : decode cX10_isSquare 28 = .ok (.iconst 2, 1) := by decide +kernel
theorem dX10_isSquare_29 : decode cX10_isSquare 29 = .ok (.if_icmp .ne 41, 3) := by decide +kernel
theorem dX10_isSquare_32 : decode cX10_isSquare 32 = .ok (.aload_n 0, 1) := by decide +kernel
theorem dX10_isSquare_33 : decode cX10_isSquare 33 = .ok (.getfield 13, 3) := by decide +kernel
theorem dX10_isSquare_36 : decode cX10_isSquare 36 = .ok (.iload_n 1, 1) := by decide +kernel
theorem dX10_isSquare_37 : decode cX10_isSquare 37 = .ok (.iaload, 1) := by decide +kernel
theorem dX10_isSquare_38 : decode cX10_isSquare 38 = .ok (.aload_n 0, 1) := by decide +kernel
theorem dX10_isSquare_39 : decode cX10_isSquare 39 = .ok (.getfield 7, 3) := by decide +kernel
theorem dX10_isSquare_42 : decode cX10_isSquare 42 = .ok (.iload_n 1, 1) := by decide +kernel
theorem dX10_isSquare_43 : decode cX10_isSquare 43 = .ok (.iaload, 1) := by decide +kernel
theorem dX10_isSquare_44 : decode cX10_isSquare 44 = .ok (.isub, 1) := by decide +kernel
theorem dX10_isSquare_45 : decode cX10_isSquare 45 = .ok (.iconst 3, 1) := by decide +kernel
theorem dX10_isSquare_46 : decode cX10_isSquare 46 = .ok (.if_icmp .lt 22, 3) := by decide +kernel
theorem dX10_isSquare_49 : decode cX10_isSquare 49 = .ok (.aload_n 0, 1) := by decide +kernel
theorem dX10_isSquare_50 : decode cX10_isSquare 50 = .ok (.getfield 31, 3) := by decide +kernel
theorem dX10_isSquare_53 : decode cX10_isSquare 53 = .ok (.iload_n 1, 1) := by decide +kernel
theorem dX10_isSquare_54 : decode cX10_isSquare 54 = .ok (.laload, 1) := by decide +kernel
theorem dX10_isSquare_55 : decode cX10_isSquare 55 = .ok (.ldc2_w 136, 3) := by decide +kernel
theorem dX10_isSquare_58 : decode cX10_isSquare 58 = .ok (.lrem, 1) := by decide +kernel
theorem dX10_isSquare_59 : decode cX10_isSquare 59 = .ok (.lconst 1, 1) := by decide +kernel
theorem dX10_isSquare_60 : decode cX10_isSquare 60 = .ok (.lcmp, 1) := by decide +kernel
theorem dX10_isSquare_61 : decode cX10_isSquare 61 = .ok (.ifCond .ne 7, 3) := by decide +kernel
theorem dX10_isSquare_64 : decode cX10_isSquare 64 = .ok (.iconst 1, 1) := by decide +kernel
theorem dX10_isSquare_65 : decode cX10_isSquare 65 = .ok (.goto 4, 3) := by decide +kernel
theorem dX10_isSquare_68 : decode cX10_isSquare 68 = .ok (.iconst 0, 1) := by decide +kernel
theorem dX10_isSquare_69 : decode cX10_isSquare 69 = .ok (.ireturn, 1) := by decide +kernel
theorem dX10_isSquare_70 : decode cX10_isSquare 70 = .ok (.aload_n 0, 1) := by decide +kernel
theorem dX10_isSquare_71 : decode cX10_isSquare 71 = .ok (.getfield 31, 3) := by decide +kernel
theorem dX10_isSquare_74 : decode cX10_isSquare 74 = .ok (.iload_n 1, 1) := by decide +kernel
theorem dX10_isSquare_75 : decode cX10_isSquare 75 = .ok (.laload, 1) := by decide +kernel
theorem dX10_isSquare_76 : decode cX10_isSquare 76 = .ok (.aload_n 0, 1) := by decide +kernel
theorem dX10_isSquare_77 : decode cX10_isSquare 77 = .ok (.getfield 63, 3) := by decide +kernel
theorem dX10_isSquare_80 : decode cX10_isSquare 80 = .ok (.iconst 1, 1) := by decide +kernel
theorem dX10_isSquare_81 : decode cX10_isSquare 81 = .ok (.isub, 1) := by decide +kernel
theorem dX10_isSquare_82 : decode cX10_isSquare 82 = .ok (.iconst 2, 1) := by decide +kernel
theorem dX10_isSquare_83 : decode cX10_isSquare 83 = .ok (.idiv, 1) := by decide +kernel
theorem dX10_isSquare_84 : decode cX10_isSquare 84 = .ok (.i2l, 1) := by decide +kernel
theorem dX10_isSquare_85 : decode cX10_isSquare 85 = .ok (.aload_n 0, 1) := by decide +kernel
theorem dX10_isSquare_86 : decode cX10_isSquare 86 = .ok (.getfield 63, 3) := by decide +kernel
theorem dX10_isSquare_89 : decode cX10_isSquare 89 = .ok (.i2l, 1) := by decide +kernel
theorem dX10_isSquare_90 : decode cX10_isSquare 90 = .ok (.invokestatic 96, 3) := by decide +kernel
theorem dX10_isSquare_93 : decode cX10_isSquare 93 = .ok (.lconst 1, 1) := by decide +kernel
theorem dX10_isSquare_94 : decode cX10_isSquare 94 = .ok (.lcmp, 1) := by decide +kernel
theorem dX10_isSquare_95 : decode cX10_isSquare 95 = .ok (.ifCond .ne 7, 3) := by decide +kernel
theorem dX10_isSquare_98 : decode cX10_isSquare 98 = .ok (.iconst 1, 1) := by decide +kernel
theorem dX10_isSquare_99 : decode cX10_isSquare 99 = .ok (.goto 4, 3) := by decide +kernel
theorem dX10_isSquare_102 : decode cX10_isSquare 102 = .ok (.iconst 0, 1) := by decide +kernel
theorem dX10_isSquare_103 : decode cX10_isSquare 103 = .ok (.ireturn, 1) := by decide +kernel
theorem dX10_squareRoot_0 : decode cX10_squareRoot 0 = .ok (.aload_n 0, 1) := by decide +kernel
theorem dX10_squareRoot_1 : decode cX10_squareRoot 1 = .ok (.getfield 63, 3) := by decide +kernel
theorem dX10_squareRoot_4 : decode cX10_squareRoot 4 = .ok (.iconst 2, 1) := by decide +kernel
theorem dX10_squareRoot_5 : decode cX10_squareRoot 5 = .ok (.if_icmp .ne 9, 3) := by decide +kernel
theorem dX10_squareRoot_8 : decode cX10_squareRoot 8 = .ok (.iload_n 2, 1) := by decide +kernel
theorem dX10_squareRoot_9 : decode cX10_squareRoot 9 = .ok (.iconst 1, 1) := by decide +kernel
theorem dX10_squareRoot_10 : decode cX10_squareRoot 10 = .ok (.isub, 1) := by decide +kernel
theorem dX10_squareRoot_11 : decode cX10_squareRoot 11 = .ok (.goto 4, 3) := by decide +kernel
theorem dX10_squareRoot_14 : decode cX10_squareRoot 14 = .ok (.iload_n 2, 1) := by decide +kernel
theorem dX10_squareRoot_15 : decode cX10_squareRoot 15 = .ok (.istore_n 3, 1) := by decide +kernel
theorem dX10_squareRoot_16 : decode cX10_squareRoot 16 = .ok (.aload_n 0, 1) := by decide +kernel
theorem dX10_squareRoot_17 : decode cX10_squareRoot 17 = .ok (.aload_n 0, 1) := by decide +kernel
theorem dX10_squareRoot_18 : decode cX10_squareRoot 18 = .ok (.aload_n 0, 1) := by decide +kernel
theorem dX10_squareRoot_19 : decode cX10_squareRoot 19 = .ok (.getfield 31, 3) := by decide +kernel
theorem dX10_squareRoot_22 : decode cX10_squareRoot 22 = .ok (.iload_n 1, 1) := by decide +kernel
theorem dX10_squareRoot_23 : decode cX10_squareRoot 23 = .ok (.laload, 1) := by decide +kernel
theorem dX10_squareRoot_24 : decode cX10_squareRoot 24 = .ok (.iload_n 2, 1) := by decide +kernel
theorem dX10_squareRoot_25 : decode cX10_squareRoot 25 = .ok (.invokevirtual 138, 3) := by decide +kernel
theorem dX10_squareRoot_28 : decode cX10_squareRoot 28 = .ok (.aload_n 0, 1) := by decide +kernel
theorem dX10_squareRoot_29 : decode cX10_squareRoot 29 = .ok (.iload_n 3, 1) := by decide +kernel
theorem dX10_squareRoot_30 : decode cX10_squareRoot 30 = .ok (.invokevirtual 92, 3) := by decide +kernel
theorem dX10_squareRoot_33 : decode cX10_squareRoot 33 = .ok (.invokestatic 86, 3) := by decide +kernel
theorem dX10_squareRoot_36 : decode cX10_squareRoot 36 = .ok (.aload_n 0, 1) := by decide +kernel
theorem dX10_squareRoot_37 : decode cX10_squareRoot 37 = .ok (.getfield 7, 3) := by decide +kernel
theorem dX10_squareRoot_40 : decode cX10_squareRoot 40 = .ok (.iload_n 1, 1) := by decide +kernel
theorem dX10_squareRoot_41 : decode cX10_squareRoot 41 = .ok (.iaload, 1) := by decide +kernel
theorem dX10_squareRoot_42 : decode cX10_squareRoot 42 = .ok (.iconst 2, 1) := by decide +kernel
theorem dX10_squareRoot_43 : decode cX10_squareRoot 43 = .ok (.idiv, 1) := by decide +kernel
theorem dX10_squareRoot_44 : decode cX10_squareRoot 44 = .ok (.aload_n 0, 1) := by decide +kernel
theorem dX10_squareRoot_45 : decode cX10_squareRoot 45 = .ok (.getfield 7, 3) := by decide +kernel
theorem dX10_squareRoot_48 : decode cX10_squareRoot 48 = .ok (.iload_n 1, 1) := by decide +kernel
theorem dX10_squareRoot_49 : decode cX10_squareRoot 49 = .ok (.iaload, 1) := by decide +kernel
theorem dX10_squareRoot_50 : decode cX10_squareRoot 50 = .ok (.iconst 2, 1) := by decide +kernel
theorem dX10_squareRoot_51 : decode cX10_squareRoot 51 = .ok (.idiv, 1) := by decide +kernel
theorem dX10_squareRoot_52 : decode cX10_squareRoot 52 = .ok (.iload_n 3, 1) := by decide +kernel
theorem dX10_squareRoot_53 : decode cX10_squareRoot 53 = .ok (.iadd, 1) := by decide +kernel
theorem dX10_squareRoot_54 : decode cX10_squareRoot 54 = .ok (.invokevirtual 132, 3) := by decide +kernel
theorem dX10_squareRoot_57 : decode cX10_squareRoot 57 = .ok (.return_, 1) := by decide +kernel
theorem dX10_teich_0 : decode cX10_teich 0 = .ok (.aload_n 0, 1) := by decide +kernel
theorem dX10_teich_1 : decode cX10_teich 1 = .ok (.aload_n 0, 1) := by decide +kernel
theorem dX10_teich_2 : decode cX10_teich 2 = .ok (.getfield 13, 3) := by decide +kernel
theorem dX10_teich_5 : decode cX10_teich 5 = .ok (.iload_n 1, 1) := by decide +kernel
theorem dX10_teich_6 : decode cX10_teich 6 = .ok (.iaload, 1) := by decide +kernel
theorem dX10_teich_7 : decode cX10_teich 7 = .ok (.invokevirtual 92, 3) := by decide +kernel
theorem dX10_teich_10 : decode cX10_teich 10 = .ok (.lstore_n 2, 1) := by decide +kernel
theorem dX10_teich_11 : decode cX10_teich 11 = .ok (.aload_n 0, 1) := by decide +kernel
theorem dX10_teich_12 : decode cX10_teich 12 = .ok (.getfield 31, 3) := by decide +kernel
theorem dX10_teich_15 : decode cX10_teich 15 = .ok (.iload_n 1, 1) := by decide +kernel
theorem dX10_teich_16 : decode cX10_teich 16 = .ok (.laload, 1) := by decide +kernel
theorem dX10_teich_17 : decode cX10_teich 17 = .ok (.lload_n 2, 1) := by decide +kernel
theorem dX10_teich_18 : decode cX10_teich 18 = .ok (.lrem, 1) := by decide +kernel
theorem dX10_teich_19 : decode cX10_teich 19 = .ok (.lstore 4, 2) := by decide +kernel
theorem dX10_teich_21 : decode cX10_teich 21 = .ok (.iconst 0, 1) := by decide +kernel
theorem dX10_teich_22 : decode cX10_teich 22 = .ok (.istore 6, 2) := by decide +kernel
theorem dX10_teich_24 : decode cX10_teich 24 = .ok (.iload 6, 2) := by decide +kernel
theorem dX10_teich_26 : decode cX10_teich 26 = .ok (.aload_n 0, 1) := by decide +kernel
theorem dX10_teich_27 : decode cX10_teich 27 = .ok (.getfield 13, 3) := by decide +kernel
theorem dX10_teich_30 : decode cX10_teich 30 = .ok (.iload_n 1, 1) := by decide +kernel
theorem dX10_teich_31 : decode cX10_teich 31 = .ok (.iaload, 1) := by decide +kernel
theorem dX10_teich_32 : decode cX10_teich 32 = .ok (.if_icmp .ge 22, 3) := by decide +kernel
theorem dX10_teich_35 : decode cX10_teich 35 = .ok (.lload 4, 2) := by decide +kernel
theorem dX10_teich_37 : decode cX10_teich 37 = .ok (.aload_n 0, 1) := by decide +kernel
theorem dX10_teich_38 : decode cX10_teich 38 = .ok (.getfield 63, 3) := by decide +kernel
theorem dX10_teich_41 : decode cX10_teich 41 = .ok (.i2l, 1) := by decide +kernel
theorem dX10_teich_42 : decode cX10_teich 42 = .ok (.lload_n 2, 1) := by decide +kernel
theorem dX10_teich_43 : decode cX10_teich 43 = .ok (.invokestatic 96, 3) := by decide +kernel
theorem dX10_teich_46 : decode cX10_teich 46 = .ok (.lstore 4, 2) := by decide +kernel
theorem dX10_teich_48 : decode cX10_teich 48 = .ok (.iinc 6 1, 3) := by decide +kernel
theorem dX10_teich_51 : decode cX10_teich 51 = .ok (.goto (-27), 3) := by decide +kernel
theorem dX10_teich_54 : decode cX10_teich 54 = .ok (.aload_n 0, 1) := by decide +kernel
theorem dX10_teich_55 : decode cX10_teich 55 = .ok (.lload 4, 2) := by decide +kernel
theorem dX10_teich_57 : decode cX10_teich 57 = .ok (.iconst 0, 1) := by decide +kernel
theorem dX10_teich_58 : decode cX10_teich 58 = .ok (.aload_n 0, 1) := by decide +kernel
theorem dX10_teich_59 : decode cX10_teich 59 = .ok (.getfield 13, 3) := by decide +kernel
theorem dX10_teich_62 : decode cX10_teich 62 = .ok (.iload_n 1, 1) := by decide +kernel
theorem dX10_teich_63 : decode cX10_teich 63 = .ok (.iaload, 1) := by decide +kernel
theorem dX10_teich_64 : decode cX10_teich 64 = .ok (.invokevirtual 132, 3) := by decide +kernel
theorem dX10_teich_67 : decode cX10_teich 67 = .ok (.return_, 1) := by decide +kernel
theorem dX10_valueOf_0 : decode cX10_valueOf 0 = .ok (.lconst 0, 1) := by decide +kernel
theorem dX10_valueOf_1 : decode cX10_valueOf 1 = .ok (.lstore 7, 2) := by decide +kernel
theorem dX10_valueOf_3 : decode cX10_valueOf 3 = .ok (.bipush 6, 2) := by decide +kernel
theorem dX10_valueOf_5 : decode cX10_valueOf 5 = .ok (.istore 9, 2) := by decide +kernel
theorem dX10_valueOf_7 : decode cX10_valueOf 7 = .ok (.iload 9, 2) := by decide +kernel
theorem dX10_valueOf_9 : decode cX10_valueOf 9 = .ok (.iload 6, 2) := by decide +kernel
theorem dX10_valueOf_11 : decode cX10_valueOf 11 = .ok (.ifCond .eq 7, 3) := by decide +kernel
theorem dX10_valueOf_14 : decode cX10_valueOf 14 = .ok (.iconst 1, 1) := by decide +kernel
theorem dX10_valueOf_15 : decode cX10_valueOf 15 = .ok (.goto 4, 3) := by decide +kernel
theorem dX10_valueOf_18 : decode cX10_valueOf 18 = .ok (.iconst 0, 1) := by decide +kernel
theorem dX10_valueOf_19 : decode cX10_valueOf 19 = .ok (.if_icmp .lt 53, 3) := by decide +kernel
theorem dX10_valueOf_22 : decode cX10_valueOf 22 = .ok (.lload 7, 2) := by decide +kernel
theorem dX10_valueOf_24 : decode cX10_valueOf 24 = .ok (.lload_n 2, 1) := by decide +kernel
theorem dX10_valueOf_25 : decode cX10_valueOf 25 = .ok (.lmul, 1) := by decide +kernel
theorem dX10_valueOf_26 : decode cX10_valueOf 26 = .ok (.iload 6, 2) := by decide +kernel
theorem dX10_valueOf_28 : decode cX10_valueOf 28 = .ok (.ifCond .eq 20, 3) := by decide +kernel
theorem dX10_valueOf_31 : decode cX10_valueOf 31 = .ok (.iload 9, 2) := by decide +kernel
theorem dX10_valueOf_33 : decode cX10_valueOf 33 = .ok (.i2l, 1) := by decide +kernel
theorem dX10_valueOf_34 : decode cX10_valueOf 34 = .ok (.aload_n 0, 1) := by decide +kernel
theorem dX10_valueOf_35 : decode cX10_valueOf 35 = .ok (.getfield 42, 3) := by decide +kernel
theorem dX10_valueOf_38 : decode cX10_valueOf 38 = .ok (.iload_n 1, 1) := by decide +kernel
theorem dX10_valueOf_39 : decode cX10_valueOf 39 = .ok (.iload 9, 2) := by decide +kernel
theorem dX10_valueOf_41 : decode cX10_valueOf 41 = .ok (.iadd, 1) := by decide +kernel
theorem dX10_valueOf_42 : decode cX10_valueOf 42 = .ok (.iaload, 1) := by decide +kernel
theorem dX10_valueOf_43 : decode cX10_valueOf 43 = .ok (.i2l, 1) := by decide +kernel
theorem dX10_valueOf_44 : decode cX10_valueOf 44 = .ok (.lmul, 1) := by decide +kernel
theorem dX10_valueOf_45 : decode cX10_valueOf 45 = .ok (.goto 13, 3) := by decide +kernel
theorem dX10_valueOf_48 : decode cX10_valueOf 48 = .ok (.aload_n 0, 1) := by decide +kernel
theorem dX10_valueOf_49 : decode cX10_valueOf 49 = .ok (.getfield 42, 3) := by decide +kernel
theorem dX10_valueOf_52 : decode cX10_valueOf 52 = .ok (.iload_n 1, 1) := by decide +kernel
theorem dX10_valueOf_53 : decode cX10_valueOf 53 = .ok (.iload 9, 2) := by decide +kernel
theorem dX10_valueOf_55 : decode cX10_valueOf 55 = .ok (.iadd, 1) := by decide +kernel
theorem dX10_valueOf_56 : decode cX10_valueOf 56 = .ok (.iaload, 1) := by decide +kernel
theorem dX10_valueOf_57 : decode cX10_valueOf 57 = .ok (.i2l, 1) := by decide +kernel
theorem dX10_valueOf_58 : decode cX10_valueOf 58 = .ok (.ladd, 1) := by decide +kernel
theorem dX10_valueOf_59 : decode cX10_valueOf 59 = .ok (.lload 4, 2) := by decide +kernel
theorem dX10_valueOf_61 : decode cX10_valueOf 61 = .ok (.invokestatic 86, 3) := by decide +kernel
theorem dX10_valueOf_64 : decode cX10_valueOf 64 = .ok (.lstore 7, 2) := by decide +kernel
theorem dX10_valueOf_66 : decode cX10_valueOf 66 = .ok (.iinc 9 (-1), 3) := by decide +kernel
theorem dX10_valueOf_69 : decode cX10_valueOf 69 = .ok (.goto (-62), 3) := by decide +kernel
theorem dX10_valueOf_72 : decode cX10_valueOf 72 = .ok (.lload 7, 2) := by decide +kernel
theorem dX10_valueOf_74 : decode cX10_valueOf 74 = .ok (.lreturn, 1) := by decide +kernel
theorem dX10_lifted_0 : decode cX10_lifted 0 = .ok (.aload_n 0, 1) := by decide +kernel
theorem dX10_lifted_1 : decode cX10_lifted 1 = .ok (.getfield 19, 3) := by decide +kernel
theorem dX10_lifted_4 : decode cX10_lifted 4 = .ok (.iload_n 1, 1) := by decide +kernel
theorem dX10_lifted_5 : decode cX10_lifted 5 = .ok (.iaload, 1) := by decide +kernel
theorem dX10_lifted_6 : decode cX10_lifted 6 = .ok (.i2l, 1) := by decide +kernel
theorem dX10_lifted_7 : decode cX10_lifted 7 = .ok (.lstore_n 2, 1) := by decide +kernel
theorem dX10_lifted_8 : decode cX10_lifted 8 = .ok (.iconst 1, 1) := by decide +kernel
theorem dX10_lifted_9 : decode cX10_lifted 9 = .ok (.istore 4, 2) := by decide +kernel
theorem dX10_lifted_11 : decode cX10_lifted 11 = .ok (.iload 4, 2) := by decide +kernel
theorem dX10_lifted_13 : decode cX10_lifted 13 = .ok (.aload_n 0, 1) := by decide +kernel
theorem dX10_lifted_14 : decode cX10_lifted 14 = .ok (.getfield 25, 3) := by decide +kernel
theorem dX10_lifted_17 : decode cX10_lifted 17 = .ok (.iload_n 1, 1) := by decide +kernel
theorem dX10_lifted_18 : decode cX10_lifted 18 = .ok (.iaload, 1) := by decide +kernel
theorem dX10_lifted_19 : decode cX10_lifted 19 = .ok (.if_icmp .ge 55, 3) := by decide +kernel
theorem dX10_lifted_22 : decode cX10_lifted 22 = .ok (.aload_n 0, 1) := by decide +kernel
theorem dX10_lifted_23 : decode cX10_lifted 23 = .ok (.iload 4, 2) := by decide +kernel
theorem dX10_lifted_25 : decode cX10_lifted 25 = .ok (.invokevirtual 92, 3) := by decide +kernel
theorem dX10_lifted_28 : decode cX10_lifted 28 = .ok (.lstore 5, 2) := by decide +kernel
theorem dX10_lifted_30 : decode cX10_lifted 30 = .ok (.aload_n 0, 1) := by decide +kernel
theorem dX10_lifted_31 : decode cX10_lifted 31 = .ok (.iload 4, 2) := by decide +kernel
theorem dX10_lifted_33 : decode cX10_lifted 33 = .ok (.iconst 1, 1) := by decide +kernel
theorem dX10_lifted_34 : decode cX10_lifted 34 = .ok (.iadd, 1) := by decide +kernel
theorem dX10_lifted_35 : decode cX10_lifted 35 = .ok (.invokevirtual 92, 3) := by decide +kernel
theorem dX10_lifted_38 : decode cX10_lifted 38 = .ok (.lstore 7, 2) := by decide +kernel
theorem dX10_lifted_40 : decode cX10_lifted 40 = .ok (.aload_n 0, 1) := by decide +kernel
theorem dX10_lifted_41 : decode cX10_lifted 41 = .ok (.bipush 7, 2) := by decide +kernel
theorem dX10_lifted_43 : decode cX10_lifted 43 = .ok (.iload_n 1, 1) := by decide +kernel
theorem dX10_lifted_44 : decode cX10_lifted 44 = .ok (.imul, 1) := by decide +kernel
theorem dX10_lifted_45 : decode cX10_lifted 45 = .ok (.lload_n 2, 1) := by decide +kernel
theorem dX10_lifted_46 : decode cX10_lifted 46 = .ok (.lload 7, 2) := by decide +kernel
theorem dX10_lifted_48 : decode cX10_lifted 48 = .ok (.lrem, 1) := by decide +kernel
theorem dX10_lifted_49 : decode cX10_lifted 49 = .ok (.lload 7, 2) := by decide +kernel
theorem dX10_lifted_51 : decode cX10_lifted 51 = .ok (.iconst 0, 1) := by decide +kernel
theorem dX10_lifted_52 : decode cX10_lifted 52 = .ok (.invokevirtual 141, 3) := by decide +kernel
theorem dX10_lifted_55 : decode cX10_lifted 55 = .ok (.lconst 0, 1) := by decide +kernel
theorem dX10_lifted_56 : decode cX10_lifted 56 = .ok (.lcmp, 1) := by decide +kernel
theorem dX10_lifted_57 : decode cX10_lifted 57 = .ok (.ifCond .eq 11, 3) := by decide +kernel
theorem dX10_lifted_60 : decode cX10_lifted 60 = .ok (.lload_n 2, 1) := by decide +kernel
theorem dX10_lifted_61 : decode cX10_lifted 61 = .ok (.lload 5, 2) := by decide +kernel
theorem dX10_lifted_63 : decode cX10_lifted 63 = .ok (.ladd, 1) := by decide +kernel
theorem dX10_lifted_64 : decode cX10_lifted 64 = .ok (.lstore_n 2, 1) := by decide +kernel
theorem dX10_lifted_65 : decode cX10_lifted 65 = .ok (.goto (-25), 3) := by decide +kernel
theorem dX10_lifted_68 : decode cX10_lifted 68 = .ok (.iinc 4 1, 3) := by decide +kernel
theorem dX10_lifted_71 : decode cX10_lifted 71 = .ok (.goto (-60), 3) := by decide +kernel
theorem dX10_lifted_74 : decode cX10_lifted 74 = .ok (.aload_n 0, 1) := by decide +kernel
theorem dX10_lifted_75 : decode cX10_lifted 75 = .ok (.lload_n 2, 1) := by decide +kernel
theorem dX10_lifted_76 : decode cX10_lifted 76 = .ok (.iconst 0, 1) := by decide +kernel
theorem dX10_lifted_77 : decode cX10_lifted 77 = .ok (.aload_n 0, 1) := by decide +kernel
theorem dX10_lifted_78 : decode cX10_lifted 78 = .ok (.getfield 25, 3) := by decide +kernel
theorem dX10_lifted_81 : decode cX10_lifted 81 = .ok (.iload_n 1, 1) := by decide +kernel
theorem dX10_lifted_82 : decode cX10_lifted 82 = .ok (.iaload, 1) := by decide +kernel
theorem dX10_lifted_83 : decode cX10_lifted 83 = .ok (.invokevirtual 132, 3) := by decide +kernel
theorem dX10_lifted_86 : decode cX10_lifted 86 = .ok (.return_, 1) := by decide +kernel
theorem dX10_choose_0 : decode cX10_choose 0 = .ok (.lconst 1, 1) := by decide +kernel
theorem dX10_choose_1 : decode cX10_choose 1 = .ok (.lstore_n 2, 1) := by decide +kernel
theorem dX10_choose_2 : decode cX10_choose 2 = .ok (.iconst 1, 1) := by decide +kernel
theorem dX10_choose_3 : decode cX10_choose 3 = .ok (.istore 4, 2) := by decide +kernel
theorem dX10_choose_5 : decode cX10_choose 5 = .ok (.iload 4, 2) := by decide +kernel
theorem dX10_choose_7 : decode cX10_choose 7 = .ok (.iload_n 1, 1) := by decide +kernel
theorem dX10_choose_8 : decode cX10_choose 8 = .ok (.if_icmp .gt 23, 3) := by decide +kernel
theorem dX10_choose_11 : decode cX10_choose 11 = .ok (.lload_n 2, 1) := by decide +kernel
theorem dX10_choose_12 : decode cX10_choose 12 = .ok (.iload_n 0, 1) := by decide +kernel
theorem dX10_choose_13 : decode cX10_choose 13 = .ok (.iload_n 1, 1) := by decide +kernel
theorem dX10_choose_14 : decode cX10_choose 14 = .ok (.isub, 1) := by decide +kernel
theorem dX10_choose_15 : decode cX10_choose 15 = .ok (.iload 4, 2) := by decide +kernel
theorem dX10_choose_17 : decode cX10_choose 17 = .ok (.iadd, 1) := by decide +kernel
theorem dX10_choose_18 : decode cX10_choose 18 = .ok (.i2l, 1) := by decide +kernel
theorem dX10_choose_19 : decode cX10_choose 19 = .ok (.lmul, 1) := by decide +kernel
theorem dX10_choose_20 : decode cX10_choose 20 = .ok (.iload 4, 2) := by decide +kernel
theorem dX10_choose_22 : decode cX10_choose 22 = .ok (.i2l, 1) := by decide +kernel
theorem dX10_choose_23 : decode cX10_choose 23 = .ok (.ldiv, 1) := by decide +kernel
theorem dX10_choose_24 : decode cX10_choose 24 = .ok (.lstore_n 2, 1) := by decide +kernel
theorem dX10_choose_25 : decode cX10_choose 25 = .ok (.iinc 4 1, 3) := by decide +kernel
theorem dX10_choose_28 : decode cX10_choose 28 = .ok (.goto (-23), 3) := by decide +kernel
theorem dX10_choose_31 : decode cX10_choose 31 = .ok (.lload_n 2, 1) := by decide +kernel
theorem dX10_choose_32 : decode cX10_choose 32 = .ok (.l2i, 1) := by decide +kernel
theorem dX10_choose_33 : decode cX10_choose 33 = .ok (.ireturn, 1) := by decide +kernel
theorem dX10_greatest_0 : decode cX10_greatest 0 = .ok (.iconst 0, 1) := by decide +kernel
theorem dX10_greatest_1 : decode cX10_greatest 1 = .ok (.istore_n 2, 1) := by decide +kernel
theorem dX10_greatest_2 : decode cX10_greatest 2 = .ok (.iconst 2, 1) := by decide +kernel
theorem dX10_greatest_3 : decode cX10_greatest 3 = .ok (.istore_n 3, 1) := by decide +kernel
theorem dX10_greatest_4 : decode cX10_greatest 4 = .ok (.iload_n 3, 1) := by decide +kernel
theorem dX10_greatest_5 : decode cX10_greatest 5 = .ok (.iload_n 1, 1) := by decide +kernel
theorem dX10_greatest_6 : decode cX10_greatest 6 = .ok (.if_icmp .ge 18, 3) := by decide +kernel
theorem dX10_greatest_9 : decode cX10_greatest 9 = .ok (.iload_n 2, 1) := by decide +kernel
theorem dX10_greatest_10 : decode cX10_greatest 10 = .ok (.aload_n 0, 1) := by decide +kernel
theorem dX10_greatest_11 : decode cX10_greatest 11 = .ok (.iload_n 3, 1) := by decide +kernel
theorem dX10_greatest_12 : decode cX10_greatest 12 = .ok (.i2l, 1) := by decide +kernel
theorem dX10_greatest_13 : decode cX10_greatest 13 = .ok (.invokevirtual 120, 3) := by decide +kernel
theorem dX10_greatest_16 : decode cX10_greatest 16 = .ok (.iadd, 1) := by decide +kernel
theorem dX10_greatest_17 : decode cX10_greatest 17 = .ok (.istore_n 2, 1) := by decide +kernel
theorem dX10_greatest_18 : decode cX10_greatest 18 = .ok (.iinc 3 1, 3) := by decide +kernel
theorem dX10_greatest_21 : decode cX10_greatest 21 = .ok (.goto (-17), 3) := by decide +kernel
theorem dX10_greatest_24 : decode cX10_greatest 24 = .ok (.iload_n 2, 1) := by decide +kernel
theorem dX10_greatest_25 : decode cX10_greatest 25 = .ok (.ireturn, 1) := by decide +kernel
theorem dX10_known_0 : decode cX10_known 0 = .ok (.aload_n 0, 1) := by decide +kernel
theorem dX10_known_1 : decode cX10_known 1 = .ok (.getfield 13, 3) := by decide +kernel
theorem dX10_known_4 : decode cX10_known 4 = .ok (.iload_n 1, 1) := by decide +kernel
theorem dX10_known_5 : decode cX10_known 5 = .ok (.iaload, 1) := by decide +kernel
theorem dX10_known_6 : decode cX10_known 6 = .ok (.aload_n 0, 1) := by decide +kernel
theorem dX10_known_7 : decode cX10_known 7 = .ok (.invokevirtual 124, 3) := by decide +kernel
theorem dX10_known_10 : decode cX10_known 10 = .ok (.invokestatic 100, 3) := by decide +kernel
theorem dX10_known_13 : decode cX10_known 13 = .ok (.aload_n 0, 1) := by decide +kernel
theorem dX10_known_14 : decode cX10_known 14 = .ok (.iload_n 2, 1) := by decide +kernel
theorem dX10_known_15 : decode cX10_known 15 = .ok (.invokevirtual 145, 3) := by decide +kernel
theorem dX10_known_18 : decode cX10_known 18 = .ok (.isub, 1) := by decide +kernel
theorem dX10_known_19 : decode cX10_known 19 = .ok (.ireturn, 1) := by decide +kernel
theorem dX10_ways_0 : decode cX10_ways 0 = .ok (.aload_n 0, 1) := by decide +kernel
theorem dX10_ways_1 : decode cX10_ways 1 = .ok (.iload 4, 2) := by decide +kernel
theorem dX10_ways_3 : decode cX10_ways 3 = .ok (.invokevirtual 92, 3) := by decide +kernel
theorem dX10_ways_6 : decode cX10_ways 6 = .ok (.lstore 5, 2) := by decide +kernel
theorem dX10_ways_8 : decode cX10_ways 8 = .ok (.lconst 1, 1) := by decide +kernel
theorem dX10_ways_9 : decode cX10_ways 9 = .ok (.lload 5, 2) := by decide +kernel
theorem dX10_ways_11 : decode cX10_ways 11 = .ok (.lrem, 1) := by decide +kernel
theorem dX10_ways_12 : decode cX10_ways 12 = .ok (.lstore 7, 2) := by decide +kernel
theorem dX10_ways_14 : decode cX10_ways 14 = .ok (.iconst 0, 1) := by decide +kernel
theorem dX10_ways_15 : decode cX10_ways 15 = .ok (.istore 9, 2) := by decide +kernel
theorem dX10_ways_17 : decode cX10_ways 17 = .ok (.iconst 0, 1) := by decide +kernel
theorem dX10_ways_18 : decode cX10_ways 18 = .ok (.istore 10, 2) := by decide +kernel
theorem dX10_ways_20 : decode cX10_ways 20 = .ok (.iload 10, 2) := by decide +kernel
theorem dX10_ways_22 : decode cX10_ways 22 = .ok (.iload_n 3, 1) := by decide +kernel
theorem dX10_ways_23 : decode cX10_ways 23 = .ok (.if_icmp .ge 102, 3) := by decide +kernel
theorem dX10_ways_26 : decode cX10_ways 26 = .ok (.lload_n 1, 1) := by decide +kernel
theorem dX10_ways_27 : decode cX10_ways 27 = .ok (.iload 10, 2) := by decide +kernel
theorem dX10_ways_29 : decode cX10_ways 29 = .ok (.i2l, 1) := by decide +kernel
theorem dX10_ways_30 : decode cX10_ways 30 = .ok (.lcmp, 1) := by decide +kernel
theorem dX10_ways_31 : decode cX10_ways 31 = .ok (.ifCond .ne 5, 3) := by decide +kernel
theorem dX10_ways_34 : decode cX10_ways 34 = .ok (.lconst 0, 1) := by decide +kernel
theorem dX10_ways_35 : decode cX10_ways 35 = .ok (.lreturn, 1) := by decide +kernel
theorem dX10_ways_36 : decode cX10_ways 36 = .ok (.aload_n 0, 1) := by decide +kernel
theorem dX10_ways_37 : decode cX10_ways 37 = .ok (.lload_n 1, 1) := by decide +kernel
theorem dX10_ways_38 : decode cX10_ways 38 = .ok (.iload 10, 2) := by decide +kernel
theorem dX10_ways_40 : decode cX10_ways 40 = .ok (.i2l, 1) := by decide +kernel
theorem dX10_ways_41 : decode cX10_ways 41 = .ok (.lsub, 1) := by decide +kernel
theorem dX10_ways_42 : decode cX10_ways 42 = .ok (.invokevirtual 120, 3) := by decide +kernel
theorem dX10_ways_45 : decode cX10_ways 45 = .ok (.istore 11, 2) := by decide +kernel
theorem dX10_ways_47 : decode cX10_ways 47 = .ok (.aload_n 0, 1) := by decide +kernel
theorem dX10_ways_48 : decode cX10_ways 48 = .ok (.iload 10, 2) := by decide +kernel
theorem dX10_ways_50 : decode cX10_ways 50 = .ok (.iconst 1, 1) := by decide +kernel
theorem dX10_ways_51 : decode cX10_ways 51 = .ok (.iadd, 1) := by decide +kernel
theorem dX10_ways_52 : decode cX10_ways 52 = .ok (.i2l, 1) := by decide +kernel
theorem dX10_ways_53 : decode cX10_ways 53 = .ok (.invokevirtual 120, 3) := by decide +kernel
theorem dX10_ways_56 : decode cX10_ways 56 = .ok (.istore 12, 2) := by decide +kernel
theorem dX10_ways_58 : decode cX10_ways 58 = .ok (.iload 9, 2) := by decide +kernel
theorem dX10_ways_60 : decode cX10_ways 60 = .ok (.iload 11, 2) := by decide +kernel
theorem dX10_ways_62 : decode cX10_ways 62 = .ok (.iload 12, 2) := by decide +kernel
theorem dX10_ways_64 : decode cX10_ways 64 = .ok (.isub, 1) := by decide +kernel
theorem dX10_ways_65 : decode cX10_ways 65 = .ok (.iadd, 1) := by decide +kernel
theorem dX10_ways_66 : decode cX10_ways 66 = .ok (.istore 9, 2) := by decide +kernel
theorem dX10_ways_68 : decode cX10_ways 68 = .ok (.lload 7, 2) := by decide +kernel
theorem dX10_ways_70 : decode cX10_ways 70 = .ok (.lload_n 1, 1) := by decide +kernel
theorem dX10_ways_71 : decode cX10_ways 71 = .ok (.iload 10, 2) := by decide +kernel
theorem dX10_ways_73 : decode cX10_ways 73 = .ok (.i2l, 1) := by decide +kernel
theorem dX10_ways_74 : decode cX10_ways 74 = .ok (.lsub, 1) := by decide +kernel
theorem dX10_ways_75 : decode cX10_ways 75 = .ok (.aload_n 0, 1) := by decide +kernel
theorem dX10_ways_76 : decode cX10_ways 76 = .ok (.iload 11, 2) := by decide +kernel
theorem dX10_ways_78 : decode cX10_ways 78 = .ok (.invokevirtual 92, 3) := by decide +kernel
theorem dX10_ways_81 : decode cX10_ways 81 = .ok (.ldiv, 1) := by decide +kernel
theorem dX10_ways_82 : decode cX10_ways 82 = .ok (.lload 5, 2) := by decide +kernel
theorem dX10_ways_84 : decode cX10_ways 84 = .ok (.invokestatic 86, 3) := by decide +kernel
theorem dX10_ways_87 : decode cX10_ways 87 = .ok (.lmul, 1) := by decide +kernel
theorem dX10_ways_88 : decode cX10_ways 88 = .ok (.lload 5, 2) := by decide +kernel
theorem dX10_ways_90 : decode cX10_ways 90 = .ok (.lrem, 1) := by decide +kernel
theorem dX10_ways_91 : decode cX10_ways 91 = .ok (.lstore 7, 2) := by decide +kernel
theorem dX10_ways_93 : decode cX10_ways 93 = .ok (.lload 7, 2) := by decide +kernel
theorem dX10_ways_95 : decode cX10_ways 95 = .ok (.aload_n 0, 1) := by decide +kernel
theorem dX10_ways_96 : decode cX10_ways 96 = .ok (.iload 10, 2) := by decide +kernel
theorem dX10_ways_98 : decode cX10_ways 98 = .ok (.iconst 1, 1) := by decide +kernel
theorem dX10_ways_99 : decode cX10_ways 99 = .ok (.iadd, 1) := by decide +kernel
theorem dX10_ways_100 : decode cX10_ways 100 = .ok (.i2l, 1) := by decide +kernel
theorem dX10_ways_101 : decode cX10_ways 101 = .ok (.aload_n 0, 1) := by decide +kernel
theorem dX10_ways_102 : decode cX10_ways 102 = .ok (.iload 12, 2) := by decide +kernel
theorem dX10_ways_104 : decode cX10_ways 104 = .ok (.invokevirtual 92, 3) := by decide +kernel
theorem dX10_ways_107 : decode cX10_ways 107 = .ok (.ldiv, 1) := by decide +kernel
theorem dX10_ways_108 : decode cX10_ways 108 = .ok (.iload 4, 2) := by decide +kernel
theorem dX10_ways_110 : decode cX10_ways 110 = .ok (.invokevirtual 128, 3) := by decide +kernel
theorem dX10_ways_113 : decode cX10_ways 113 = .ok (.lmul, 1) := by decide +kernel
theorem dX10_ways_114 : decode cX10_ways 114 = .ok (.lload 5, 2) := by decide +kernel
theorem dX10_ways_116 : decode cX10_ways 116 = .ok (.lrem, 1) := by decide +kernel
theorem dX10_ways_117 : decode cX10_ways 117 = .ok (.lstore 7, 2) := by decide +kernel
theorem dX10_ways_119 : decode cX10_ways 119 = .ok (.iinc 10 1, 3) := by decide +kernel
theorem dX10_ways_122 : decode cX10_ways 122 = .ok (.goto (-102), 3) := by decide +kernel
theorem dX10_ways_125 : decode cX10_ways 125 = .ok (.iload 9, 2) := by decide +kernel
theorem dX10_ways_127 : decode cX10_ways 127 = .ok (.iload 4, 2) := by decide +kernel
theorem dX10_ways_129 : decode cX10_ways 129 = .ok (.if_icmp .lt 7, 3) := by decide +kernel
theorem dX10_ways_132 : decode cX10_ways 132 = .ok (.lconst 0, 1) := by decide +kernel
theorem dX10_ways_133 : decode cX10_ways 133 = .ok (.goto 15, 3) := by decide +kernel
theorem dX10_ways_136 : decode cX10_ways 136 = .ok (.lload 7, 2) := by decide +kernel
theorem dX10_ways_138 : decode cX10_ways 138 = .ok (.aload_n 0, 1) := by decide +kernel
theorem dX10_ways_139 : decode cX10_ways 139 = .ok (.iload 9, 2) := by decide +kernel
theorem dX10_ways_141 : decode cX10_ways 141 = .ok (.invokevirtual 92, 3) := by decide +kernel
theorem dX10_ways_144 : decode cX10_ways 144 = .ok (.lmul, 1) := by decide +kernel
theorem dX10_ways_145 : decode cX10_ways 145 = .ok (.lload 5, 2) := by decide +kernel
theorem dX10_ways_147 : decode cX10_ways 147 = .ok (.lrem, 1) := by decide +kernel
theorem dX10_ways_148 : decode cX10_ways 148 = .ok (.lreturn, 1) := by decide +kernel
theorem dX10_rowAt_0 : decode cX10_rowAt 0 = .ok (.aload_n 0, 1) := by decide +kernel
theorem dX10_rowAt_1 : decode cX10_rowAt 1 = .ok (.iload_n 1, 1) := by decide +kernel
theorem dX10_rowAt_2 : decode cX10_rowAt 2 = .ok (.aload_n 0, 1) := by decide +kernel
theorem dX10_rowAt_3 : decode cX10_rowAt 3 = .ok (.getfield 28, 3) := by decide +kernel
theorem dX10_rowAt_6 : decode cX10_rowAt 6 = .ok (.iload_n 2, 1) := by decide +kernel
theorem dX10_rowAt_7 : decode cX10_rowAt 7 = .ok (.iaload, 1) := by decide +kernel
theorem dX10_rowAt_8 : decode cX10_rowAt 8 = .ok (.invokevirtual 149, 3) := by decide +kernel
theorem dX10_rowAt_11 : decode cX10_rowAt 11 = .ok (.istore_n 3, 1) := by decide +kernel
theorem dX10_rowAt_12 : decode cX10_rowAt 12 = .ok (.aload_n 0, 1) := by decide +kernel
theorem dX10_rowAt_13 : decode cX10_rowAt 13 = .ok (.getfield 13, 3) := by decide +kernel
theorem dX10_rowAt_16 : decode cX10_rowAt 16 = .ok (.iload_n 1, 1) := by decide +kernel
theorem dX10_rowAt_17 : decode cX10_rowAt 17 = .ok (.iaload, 1) := by decide +kernel
theorem dX10_rowAt_18 : decode cX10_rowAt 18 = .ok (.aload_n 0, 1) := by decide +kernel
theorem dX10_rowAt_19 : decode cX10_rowAt 19 = .ok (.invokevirtual 124, 3) := by decide +kernel
theorem dX10_rowAt_22 : decode cX10_rowAt 22 = .ok (.invokestatic 100, 3) := by decide +kernel
theorem dX10_rowAt_25 : decode cX10_rowAt 25 = .ok (.istore 4, 2) := by decide +kernel
theorem dX10_rowAt_27 : decode cX10_rowAt 27 = .ok (.aload_n 0, 1) := by decide +kernel
theorem dX10_rowAt_28 : decode cX10_rowAt 28 = .ok (.iload_n 3, 1) := by decide +kernel
theorem dX10_rowAt_29 : decode cX10_rowAt 29 = .ok (.invokevirtual 92, 3) := by decide +kernel
theorem dX10_rowAt_32 : decode cX10_rowAt 32 = .ok (.lstore 5, 2) := by decide +kernel
theorem dX10_rowAt_34 : decode cX10_rowAt 34 = .ok (.aload_n 0, 1) := by decide +kernel
theorem dX10_rowAt_35 : decode cX10_rowAt 35 = .ok (.getfield 7, 3) := by decide +kernel
theorem dX10_rowAt_38 : decode cX10_rowAt 38 = .ok (.iload_n 1, 1) := by decide +kernel
theorem dX10_rowAt_39 : decode cX10_rowAt 39 = .ok (.iaload, 1) := by decide +kernel
theorem dX10_rowAt_40 : decode cX10_rowAt 40 = .ok (.iload 4, 2) := by decide +kernel
theorem dX10_rowAt_42 : decode cX10_rowAt 42 = .ok (.if_icmp .lt 7, 3) := by decide +kernel
theorem dX10_rowAt_45 : decode cX10_rowAt 45 = .ok (.lconst 0, 1) := by decide +kernel
theorem dX10_rowAt_46 : decode cX10_rowAt 46 = .ok (.goto 29, 3) := by decide +kernel
theorem dX10_rowAt_49 : decode cX10_rowAt 49 = .ok (.aload_n 0, 1) := by decide +kernel
theorem dX10_rowAt_50 : decode cX10_rowAt 50 = .ok (.getfield 31, 3) := by decide +kernel
theorem dX10_rowAt_53 : decode cX10_rowAt 53 = .ok (.iload_n 1, 1) := by decide +kernel
theorem dX10_rowAt_54 : decode cX10_rowAt 54 = .ok (.laload, 1) := by decide +kernel
theorem dX10_rowAt_55 : decode cX10_rowAt 55 = .ok (.aload_n 0, 1) := by decide +kernel
theorem dX10_rowAt_56 : decode cX10_rowAt 56 = .ok (.aload_n 0, 1) := by decide +kernel
theorem dX10_rowAt_57 : decode cX10_rowAt 57 = .ok (.getfield 7, 3) := by decide +kernel
theorem dX10_rowAt_60 : decode cX10_rowAt 60 = .ok (.iload_n 1, 1) := by decide +kernel
theorem dX10_rowAt_61 : decode cX10_rowAt 61 = .ok (.iaload, 1) := by decide +kernel
theorem dX10_rowAt_62 : decode cX10_rowAt 62 = .ok (.invokevirtual 92, 3) := by decide +kernel
theorem dX10_rowAt_65 : decode cX10_rowAt 65 = .ok (.lmul, 1) := by decide +kernel
theorem dX10_rowAt_66 : decode cX10_rowAt 66 = .ok (.aload_n 0, 1) := by decide +kernel
theorem dX10_rowAt_67 : decode cX10_rowAt 67 = .ok (.iload 4, 2) := by decide +kernel
theorem dX10_rowAt_69 : decode cX10_rowAt 69 = .ok (.invokevirtual 92, 3) := by decide +kernel
theorem dX10_rowAt_72 : decode cX10_rowAt 72 = .ok (.invokestatic 86, 3) := by decide +kernel
theorem dX10_rowAt_75 : decode cX10_rowAt 75 = .ok (.lstore 7, 2) := by decide +kernel
theorem dX10_rowAt_77 : decode cX10_rowAt 77 = .ok (.lconst 0, 1) := by decide +kernel
theorem dX10_rowAt_78 : decode cX10_rowAt 78 = .ok (.lstore 9, 2) := by decide +kernel
theorem dX10_rowAt_80 : decode cX10_rowAt 80 = .ok (.iconst 0, 1) := by decide +kernel
theorem dX10_rowAt_81 : decode cX10_rowAt 81 = .ok (.istore 11, 2) := by decide +kernel
theorem dX10_rowAt_83 : decode cX10_rowAt 83 = .ok (.iload 11, 2) := by decide +kernel
theorem dX10_rowAt_85 : decode cX10_rowAt 85 = .ok (.aload_n 0, 1) := by decide +kernel
theorem dX10_rowAt_86 : decode cX10_rowAt 86 = .ok (.getfield 28, 3) := by decide +kernel
theorem dX10_rowAt_89 : decode cX10_rowAt 89 = .ok (.iload_n 2, 1) := by decide +kernel
theorem dX10_rowAt_90 : decode cX10_rowAt 90 = .ok (.iaload, 1) := by decide +kernel
theorem dX10_rowAt_91 : decode cX10_rowAt 91 = .ok (.if_icmp .ge 99, 3) := by decide +kernel
theorem dX10_rowAt_94 : decode cX10_rowAt 94 = .ok (.lconst 0, 1) := by decide +kernel
theorem dX10_rowAt_95 : decode cX10_rowAt 95 = .ok (.lstore 12, 2) := by decide +kernel
theorem dX10_rowAt_97 : decode cX10_rowAt 97 = .ok (.iconst 0, 1) := by decide +kernel
theorem dX10_rowAt_98 : decode cX10_rowAt 98 = .ok (.istore 14, 2) := by decide +kernel
theorem dX10_rowAt_100 : decode cX10_rowAt 100 = .ok (.iload 14, 2) := by decide +kernel
theorem dX10_rowAt_102 : decode cX10_rowAt 102 = .ok (.iload 11, 2) := by decide +kernel
theorem dX10_rowAt_104 : decode cX10_rowAt 104 = .ok (.if_icmp .gt 53, 3) := by decide +kernel
theorem dX10_rowAt_107 : decode cX10_rowAt 107 = .ok (.lload 12, 2) := by decide +kernel
theorem dX10_rowAt_109 : decode cX10_rowAt 109 = .ok (.aload_n 0, 1) := by decide +kernel
theorem dX10_rowAt_110 : decode cX10_rowAt 110 = .ok (.getfield 39, 3) := by decide +kernel
theorem dX10_rowAt_113 : decode cX10_rowAt 113 = .ok (.bipush 12, 2) := by decide +kernel
theorem dX10_rowAt_115 : decode cX10_rowAt 115 = .ok (.iload_n 2, 1) := by decide +kernel
theorem dX10_rowAt_116 : decode cX10_rowAt 116 = .ok (.imul, 1) := by decide +kernel
theorem dX10_rowAt_117 : decode cX10_rowAt 117 = .ok (.iload 14, 2) := by decide +kernel
theorem dX10_rowAt_119 : decode cX10_rowAt 119 = .ok (.iadd, 1) := by decide +kernel
theorem dX10_rowAt_120 : decode cX10_rowAt 120 = .ok (.iaload, 1) := by decide +kernel
theorem dX10_rowAt_121 : decode cX10_rowAt 121 = .ok (.i2l, 1) := by decide +kernel
theorem dX10_rowAt_122 : decode cX10_rowAt 122 = .ok (.iload 11, 2) := by decide +kernel
theorem dX10_rowAt_124 : decode cX10_rowAt 124 = .ok (.iload 14, 2) := by decide +kernel
theorem dX10_rowAt_126 : decode cX10_rowAt 126 = .ok (.invokestatic 152, 3) := by decide +kernel
theorem dX10_rowAt_129 : decode cX10_rowAt 129 = .ok (.i2l, 1) := by decide +kernel
theorem dX10_rowAt_130 : decode cX10_rowAt 130 = .ok (.lmul, 1) := by decide +kernel
theorem dX10_rowAt_131 : decode cX10_rowAt 131 = .ok (.iload 11, 2) := by decide +kernel
theorem dX10_rowAt_133 : decode cX10_rowAt 133 = .ok (.iload 14, 2) := by decide +kernel
theorem dX10_rowAt_135 : decode cX10_rowAt 135 = .ok (.isub, 1) := by decide +kernel
theorem dX10_rowAt_136 : decode cX10_rowAt 136 = .ok (.iconst 2, 1) := by decide +kernel
theorem dX10_rowAt_137 : decode cX10_rowAt 137 = .ok (.irem, 1) := by decide +kernel
theorem dX10_rowAt_138 : decode cX10_rowAt 138 = .ok (.ifCond .ne 7, 3) := by decide +kernel
theorem dX10_rowAt_141 : decode cX10_rowAt 141 = .ok (.iconst 1, 1) := by decide +kernel
theorem dX10_rowAt_142 : decode cX10_rowAt 142 = .ok (.goto 4, 3) := by decide +kernel
theorem dX10_rowAt_145 : decode cX10_rowAt 145 = .ok (.iconst (-1), 1) := by decide +kernel
theorem dX10_rowAt_146 : decode cX10_rowAt 146 = .ok (.i2l, 1) := by decide +kernel
theorem dX10_rowAt_147 : decode cX10_rowAt 147 = .ok (.lmul, 1) := by decide +kernel
theorem dX10_rowAt_148 : decode cX10_rowAt 148 = .ok (.ladd, 1) := by decide +kernel
theorem dX10_rowAt_149 : decode cX10_rowAt 149 = .ok (.lstore 12, 2) := by decide +kernel
theorem dX10_rowAt_151 : decode cX10_rowAt 151 = .ok (.iinc 14 1, 3) := by decide +kernel
theorem dX10_rowAt_154 : decode cX10_rowAt 154 = .ok (.goto (-54), 3) := by decide +kernel
theorem dX10_rowAt_157 : decode cX10_rowAt 157 = .ok (.lload 9, 2) := by decide +kernel
theorem dX10_rowAt_159 : decode cX10_rowAt 159 = .ok (.lload 12, 2) := by decide +kernel
theorem dX10_rowAt_161 : decode cX10_rowAt 161 = .ok (.lload 5, 2) := by decide +kernel
theorem dX10_rowAt_163 : decode cX10_rowAt 163 = .ok (.invokestatic 86, 3) := by decide +kernel
theorem dX10_rowAt_166 : decode cX10_rowAt 166 = .ok (.aload_n 0, 1) := by decide +kernel
theorem dX10_rowAt_167 : decode cX10_rowAt 167 = .ok (.lload 7, 2) := by decide +kernel
theorem dX10_rowAt_169 : decode cX10_rowAt 169 = .ok (.iload 11, 2) := by decide +kernel
theorem dX10_rowAt_171 : decode cX10_rowAt 171 = .ok (.iload_n 3, 1) := by decide +kernel
theorem dX10_rowAt_172 : decode cX10_rowAt 172 = .ok (.invokevirtual 155, 3) := by decide +kernel
theorem dX10_rowAt_175 : decode cX10_rowAt 175 = .ok (.lmul, 1) := by decide +kernel
theorem dX10_rowAt_176 : decode cX10_rowAt 176 = .ok (.ladd, 1) := by decide +kernel
theorem dX10_rowAt_177 : decode cX10_rowAt 177 = .ok (.lload 5, 2) := by decide +kernel
theorem dX10_rowAt_179 : decode cX10_rowAt 179 = .ok (.invokestatic 86, 3) := by decide +kernel
theorem dX10_rowAt_182 : decode cX10_rowAt 182 = .ok (.lstore 9, 2) := by decide +kernel
theorem dX10_rowAt_184 : decode cX10_rowAt 184 = .ok (.iinc 11 1, 3) := by decide +kernel
theorem dX10_rowAt_187 : decode cX10_rowAt 187 = .ok (.goto (-104), 3) := by decide +kernel
theorem dX10_rowAt_190 : decode cX10_rowAt 190 = .ok (.aload_n 0, 1) := by decide +kernel
theorem dX10_rowAt_191 : decode cX10_rowAt 191 = .ok (.lload 9, 2) := by decide +kernel
theorem dX10_rowAt_193 : decode cX10_rowAt 193 = .ok (.iconst 0, 1) := by decide +kernel
theorem dX10_rowAt_194 : decode cX10_rowAt 194 = .ok (.iload_n 3, 1) := by decide +kernel
theorem dX10_rowAt_195 : decode cX10_rowAt 195 = .ok (.invokevirtual 132, 3) := by decide +kernel
theorem dX10_rowAt_198 : decode cX10_rowAt 198 = .ok (.return_, 1) := by decide +kernel
theorem dX10_finds_0 : decode cX10_finds 0 = .ok (.aload_n 0, 1) := by decide +kernel
theorem dX10_finds_1 : decode cX10_finds 1 = .ok (.getfield 16, 3) := by decide +kernel
theorem dX10_finds_4 : decode cX10_finds 4 = .ok (.iload_n 1, 1) := by decide +kernel
theorem dX10_finds_5 : decode cX10_finds 5 = .ok (.iaload, 1) := by decide +kernel
theorem dX10_finds_6 : decode cX10_finds 6 = .ok (.istore_n 2, 1) := by decide +kernel
theorem dX10_finds_7 : decode cX10_finds 7 = .ok (.iload_n 2, 1) := by decide +kernel
theorem dX10_finds_8 : decode cX10_finds 8 = .ok (.ifCond .ne 28, 3) := by decide +kernel
theorem dX10_finds_11 : decode cX10_finds 11 = .ok (.aload_n 0, 1) := by decide +kernel
theorem dX10_finds_12 : decode cX10_finds 12 = .ok (.aload_n 0, 1) := by decide +kernel
theorem dX10_finds_13 : decode cX10_finds 13 = .ok (.getfield 19, 3) := by decide +kernel
theorem dX10_finds_16 : decode cX10_finds 16 = .ok (.iload_n 1, 1) := by decide +kernel
theorem dX10_finds_17 : decode cX10_finds 17 = .ok (.iaload, 1) := by decide +kernel
theorem dX10_finds_18 : decode cX10_finds 18 = .ok (.aload_n 0, 1) := by decide +kernel
theorem dX10_finds_19 : decode cX10_finds 19 = .ok (.getfield 22, 3) := by decide +kernel
theorem dX10_finds_22 : decode cX10_finds 22 = .ok (.iload_n 1, 1) := by decide +kernel
theorem dX10_finds_23 : decode cX10_finds 23 = .ok (.iaload, 1) := by decide +kernel
theorem dX10_finds_24 : decode cX10_finds 24 = .ok (.aload_n 0, 1) := by decide +kernel
theorem dX10_finds_25 : decode cX10_finds 25 = .ok (.getfield 25, 3) := by decide +kernel
theorem dX10_finds_28 : decode cX10_finds 28 = .ok (.iload_n 1, 1) := by decide +kernel
theorem dX10_finds_29 : decode cX10_finds 29 = .ok (.iaload, 1) := by decide +kernel
theorem dX10_finds_30 : decode cX10_finds 30 = .ok (.invokevirtual 159, 3) := by decide +kernel
theorem dX10_finds_33 : decode cX10_finds 33 = .ok (.goto 186, 3) := by decide +kernel
theorem dX10_finds_36 : decode cX10_finds 36 = .ok (.iload_n 2, 1) := by decide +kernel
theorem dX10_finds_37 : decode cX10_finds 37 = .ok (.iconst 1, 1) := by decide +kernel
theorem dX10_finds_38 : decode cX10_finds 38 = .ok (.if_icmp .ne 23, 3) := by decide +kernel
theorem dX10_finds_41 : decode cX10_finds 41 = .ok (.aload_n 0, 1) := by decide +kernel
theorem dX10_finds_42 : decode cX10_finds 42 = .ok (.aload_n 0, 1) := by decide +kernel
theorem dX10_finds_43 : decode cX10_finds 43 = .ok (.getfield 19, 3) := by decide +kernel
theorem dX10_finds_46 : decode cX10_finds 46 = .ok (.iload_n 1, 1) := by decide +kernel
theorem dX10_finds_47 : decode cX10_finds 47 = .ok (.iaload, 1) := by decide +kernel
theorem dX10_finds_48 : decode cX10_finds 48 = .ok (.aload_n 0, 1) := by decide +kernel
theorem dX10_finds_49 : decode cX10_finds 49 = .ok (.getfield 22, 3) := by decide +kernel
theorem dX10_finds_52 : decode cX10_finds 52 = .ok (.iload_n 1, 1) := by decide +kernel
theorem dX10_finds_53 : decode cX10_finds 53 = .ok (.iaload, 1) := by decide +kernel
theorem dX10_finds_54 : decode cX10_finds 54 = .ok (.iconst 1, 1) := by decide +kernel
theorem dX10_finds_55 : decode cX10_finds 55 = .ok (.invokevirtual 163, 3) := by decide +kernel
theorem dX10_finds_58 : decode cX10_finds 58 = .ok (.goto 161, 3) := by decide +kernel
theorem dX10_finds_61 : decode cX10_finds 61 = .ok (.iload_n 2, 1) := by decide +kernel
theorem dX10_finds_62 : decode cX10_finds 62 = .ok (.iconst 2, 1) := by decide +kernel
theorem dX10_finds_63 : decode cX10_finds 63 = .ok (.if_icmp .ne 23, 3) := by decide +kernel
theorem dX10_finds_66 : decode cX10_finds 66 = .ok (.aload_n 0, 1) := by decide +kernel
theorem dX10_finds_67 : decode cX10_finds 67 = .ok (.aload_n 0, 1) := by decide +kernel
theorem dX10_finds_68 : decode cX10_finds 68 = .ok (.getfield 19, 3) := by decide +kernel
theorem dX10_finds_71 : decode cX10_finds 71 = .ok (.iload_n 1, 1) := by decide +kernel
theorem dX10_finds_72 : decode cX10_finds 72 = .ok (.iaload, 1) := by decide +kernel
theorem dX10_finds_73 : decode cX10_finds 73 = .ok (.aload_n 0, 1) := by decide +kernel
theorem dX10_finds_74 : decode cX10_finds 74 = .ok (.getfield 22, 3) := by decide +kernel
theorem dX10_finds_77 : decode cX10_finds 77 = .ok (.iload_n 1, 1) := by decide +kernel
theorem dX10_finds_78 : decode cX10_finds 78 = .ok (.iaload, 1) := by decide +kernel
theorem dX10_finds_79 : decode cX10_finds 79 = .ok (.iconst (-1), 1) := by decide +kernel
theorem dX10_finds_80 : decode cX10_finds 80 = .ok (.invokevirtual 163, 3) := by decide +kernel
theorem dX10_finds_83 : decode cX10_finds 83 = .ok (.goto 136, 3) := by decide +kernel
theorem dX10_finds_86 : decode cX10_finds 86 = .ok (.iload_n 2, 1) := by decide +kernel
theorem dX10_finds_87 : decode cX10_finds 87 = .ok (.iconst 3, 1) := by decide +kernel
theorem dX10_finds_88 : decode cX10_finds 88 = .ok (.if_icmp .ne 22, 3) := by decide +kernel
theorem dX10_finds_91 : decode cX10_finds 91 = .ok (.aload_n 0, 1) := by decide +kernel
theorem dX10_finds_92 : decode cX10_finds 92 = .ok (.aload_n 0, 1) := by decide +kernel
theorem dX10_finds_93 : decode cX10_finds 93 = .ok (.getfield 19, 3) := by decide +kernel
theorem dX10_finds_96 : decode cX10_finds 96 = .ok (.iload_n 1, 1) := by decide +kernel
theorem dX10_finds_97 : decode cX10_finds 97 = .ok (.iaload, 1) := by decide +kernel
theorem dX10_finds_98 : decode cX10_finds 98 = .ok (.aload_n 0, 1) := by decide +kernel
theorem dX10_finds_99 : decode cX10_finds 99 = .ok (.getfield 22, 3) := by decide +kernel
theorem dX10_finds_102 : decode cX10_finds 102 = .ok (.iload_n 1, 1) := by decide +kernel
theorem dX10_finds_103 : decode cX10_finds 103 = .ok (.iaload, 1) := by decide +kernel
theorem dX10_finds_104 : decode cX10_finds 104 = .ok (.invokevirtual 166, 3) := by decide +kernel
theorem dX10_finds_107 : decode cX10_finds 107 = .ok (.goto 112, 3) := by decide +kernel
theorem dX10_finds_110 : decode cX10_finds 110 = .ok (.iload_n 2, 1) := by decide +kernel
theorem dX10_finds_111 : decode cX10_finds 111 = .ok (.iconst 4, 1) := by decide +kernel
theorem dX10_finds_112 : decode cX10_finds 112 = .ok (.if_icmp .ne 22, 3) := by decide +kernel
theorem dX10_finds_115 : decode cX10_finds 115 = .ok (.aload_n 0, 1) := by decide +kernel
theorem dX10_finds_116 : decode cX10_finds 116 = .ok (.aload_n 0, 1) := by decide +kernel
theorem dX10_finds_117 : decode cX10_finds 117 = .ok (.getfield 19, 3) := by decide +kernel
theorem dX10_finds_120 : decode cX10_finds 120 = .ok (.iload_n 1, 1) := by decide +kernel
theorem dX10_finds_121 : decode cX10_finds 121 = .ok (.iaload, 1) := by decide +kernel
theorem dX10_finds_122 : decode cX10_finds 122 = .ok (.aload_n 0, 1) := by decide +kernel
theorem dX10_finds_123 : decode cX10_finds 123 = .ok (.getfield 22, 3) := by decide +kernel
theorem dX10_finds_126 : decode cX10_finds 126 = .ok (.iload_n 1, 1) := by decide +kernel
theorem dX10_finds_127 : decode cX10_finds 127 = .ok (.iaload, 1) := by decide +kernel
theorem dX10_finds_128 : decode cX10_finds 128 = .ok (.invokevirtual 170, 3) := by decide +kernel
theorem dX10_finds_131 : decode cX10_finds 131 = .ok (.goto 88, 3) := by decide +kernel
theorem dX10_finds_134 : decode cX10_finds 134 = .ok (.iload_n 2, 1) := by decide +kernel
theorem dX10_finds_135 : decode cX10_finds 135 = .ok (.iconst 5, 1) := by decide +kernel
theorem dX10_finds_136 : decode cX10_finds 136 = .ok (.if_icmp .ne 39, 3) := by decide +kernel
theorem dX10_finds_139 : decode cX10_finds 139 = .ok (.aload_n 0, 1) := by decide +kernel
theorem dX10_finds_140 : decode cX10_finds 140 = .ok (.aload_n 0, 1) := by decide +kernel
theorem dX10_finds_141 : decode cX10_finds 141 = .ok (.getfield 19, 3) := by decide +kernel
theorem dX10_finds_144 : decode cX10_finds 144 = .ok (.iload_n 1, 1) := by decide +kernel
theorem dX10_finds_145 : decode cX10_finds 145 = .ok (.iaload, 1) := by decide +kernel
theorem dX10_finds_146 : decode cX10_finds 146 = .ok (.aload_n 0, 1) := by decide +kernel
theorem dX10_finds_147 : decode cX10_finds 147 = .ok (.getfield 13, 3) := by decide +kernel
theorem dX10_finds_150 : decode cX10_finds 150 = .ok (.aload_n 0, 1) := by decide +kernel
theorem dX10_finds_151 : decode cX10_finds 151 = .ok (.getfield 19, 3) := by decide +kernel
theorem dX10_finds_154 : decode cX10_finds 154 = .ok (.iload_n 1, 1) := by decide +kernel
theorem dX10_finds_155 : decode cX10_finds 155 = .ok (.iaload, 1) := by decide +kernel
theorem dX10_finds_156 : decode cX10_finds 156 = .ok (.iaload, 1) := by decide +kernel
theorem dX10_finds_157 : decode cX10_finds 157 = .ok (.aload_n 0, 1) := by decide +kernel
theorem dX10_finds_158 : decode cX10_finds 158 = .ok (.getfield 7, 3) := by decide +kernel
theorem dX10_finds_161 : decode cX10_finds 161 = .ok (.aload_n 0, 1) := by decide +kernel
theorem dX10_finds_162 : decode cX10_finds 162 = .ok (.getfield 19, 3) := by decide +kernel
theorem dX10_finds_165 : decode cX10_finds 165 = .ok (.iload_n 1, 1) := by decide +kernel
theorem dX10_finds_166 : decode cX10_finds 166 = .ok (.iaload, 1) := by decide +kernel
theorem dX10_finds_167 : decode cX10_finds 167 = .ok (.iaload, 1) := by decide +kernel
theorem dX10_finds_168 : decode cX10_finds 168 = .ok (.isub, 1) := by decide +kernel
theorem dX10_finds_169 : decode cX10_finds 169 = .ok (.invokevirtual 173, 3) := by decide +kernel
theorem dX10_finds_172 : decode cX10_finds 172 = .ok (.goto 47, 3) := by decide +kernel
theorem dX10_finds_175 : decode cX10_finds 175 = .ok (.iload_n 2, 1) := by decide +kernel
theorem dX10_finds_176 : decode cX10_finds 176 = .ok (.bipush 6, 2) := by decide +kernel
theorem dX10_finds_178 : decode cX10_finds 178 = .ok (.if_icmp .ne 16, 3) := by decide +kernel
theorem dX10_finds_181 : decode cX10_finds 181 = .ok (.aload_n 0, 1) := by decide +kernel
theorem dX10_finds_182 : decode cX10_finds 182 = .ok (.aload_n 0, 1) := by decide +kernel
theorem dX10_finds_183 : decode cX10_finds 183 = .ok (.getfield 19, 3) := by decide +kernel
theorem dX10_finds_186 : decode cX10_finds 186 = .ok (.iload_n 1, 1) := by decide +kernel
theorem dX10_finds_187 : decode cX10_finds 187 = .ok (.iaload, 1) := by decide +kernel
theorem dX10_finds_188 : decode cX10_finds 188 = .ok (.invokevirtual 176, 3) := by decide +kernel
theorem dX10_finds_191 : decode cX10_finds 191 = .ok (.goto 28, 3) := by decide +kernel
theorem dX10_finds_194 : decode cX10_finds 194 = .ok (.iload_n 2, 1) := by decide +kernel
theorem dX10_finds_195 : decode cX10_finds 195 = .ok (.bipush 7, 2) := by decide +kernel
theorem dX10_finds_197 : decode cX10_finds 197 = .ok (.if_icmp .ne 11, 3) := by decide +kernel
theorem dX10_finds_200 : decode cX10_finds 200 = .ok (.aload_n 0, 1) := by decide +kernel
theorem dX10_finds_201 : decode cX10_finds 201 = .ok (.iload_n 1, 1) := by decide +kernel
theorem dX10_finds_202 : decode cX10_finds 202 = .ok (.invokevirtual 179, 3) := by decide +kernel
theorem dX10_finds_205 : decode cX10_finds 205 = .ok (.goto 14, 3) := by decide +kernel
theorem dX10_finds_208 : decode cX10_finds 208 = .ok (.aload_n 0, 1) := by decide +kernel
theorem dX10_finds_209 : decode cX10_finds 209 = .ok (.aload_n 0, 1) := by decide +kernel
theorem dX10_finds_210 : decode cX10_finds 210 = .ok (.getfield 19, 3) := by decide +kernel
theorem dX10_finds_213 : decode cX10_finds 213 = .ok (.iload_n 1, 1) := by decide +kernel
theorem dX10_finds_214 : decode cX10_finds 214 = .ok (.iaload, 1) := by decide +kernel
theorem dX10_finds_215 : decode cX10_finds 215 = .ok (.iload_n 1, 1) := by decide +kernel
theorem dX10_finds_216 : decode cX10_finds 216 = .ok (.invokevirtual 182, 3) := by decide +kernel
theorem dX10_finds_219 : decode cX10_finds 219 = .ok (.aload_n 0, 1) := by decide +kernel
theorem dX10_finds_220 : decode cX10_finds 220 = .ok (.getfield 7, 3) := by decide +kernel
theorem dX10_finds_223 : decode cX10_finds 223 = .ok (.iload_n 1, 1) := by decide +kernel
theorem dX10_finds_224 : decode cX10_finds 224 = .ok (.aload_n 0, 1) := by decide +kernel
theorem dX10_finds_225 : decode cX10_finds 225 = .ok (.getfield 109, 3) := by decide +kernel
theorem dX10_finds_228 : decode cX10_finds 228 = .ok (.iastore, 1) := by decide +kernel
theorem dX10_finds_229 : decode cX10_finds 229 = .ok (.aload_n 0, 1) := by decide +kernel
theorem dX10_finds_230 : decode cX10_finds 230 = .ok (.getfield 13, 3) := by decide +kernel
theorem dX10_finds_233 : decode cX10_finds 233 = .ok (.iload_n 1, 1) := by decide +kernel
theorem dX10_finds_234 : decode cX10_finds 234 = .ok (.aload_n 0, 1) := by decide +kernel
theorem dX10_finds_235 : decode cX10_finds 235 = .ok (.getfield 106, 3) := by decide +kernel
theorem dX10_finds_238 : decode cX10_finds 238 = .ok (.iastore, 1) := by decide +kernel
theorem dX10_finds_239 : decode cX10_finds 239 = .ok (.aload_n 0, 1) := by decide +kernel
theorem dX10_finds_240 : decode cX10_finds 240 = .ok (.getfield 31, 3) := by decide +kernel
theorem dX10_finds_243 : decode cX10_finds 243 = .ok (.iload_n 1, 1) := by decide +kernel
theorem dX10_finds_244 : decode cX10_finds 244 = .ok (.aload_n 0, 1) := by decide +kernel
theorem dX10_finds_245 : decode cX10_finds 245 = .ok (.getfield 112, 3) := by decide +kernel
theorem dX10_finds_248 : decode cX10_finds 248 = .ok (.lastore, 1) := by decide +kernel
theorem dX10_finds_249 : decode cX10_finds 249 = .ok (.return_, 1) := by decide +kernel
theorem dX10_comes_0 : decode cX10_comes 0 = .ok (.aload_n 0, 1) := by decide +kernel
theorem dX10_comes_1 : decode cX10_comes 1 = .ok (.getfield 16, 3) := by decide +kernel
theorem dX10_comes_4 : decode cX10_comes 4 = .ok (.aload_n 0, 1) := by decide +kernel
theorem dX10_comes_5 : decode cX10_comes 5 = .ok (.getfield 73, 3) := by decide +kernel
theorem dX10_comes_8 : decode cX10_comes 8 = .ok (.iload_n 1, 1) := by decide +kernel
theorem dX10_comes_9 : decode cX10_comes 9 = .ok (.iastore, 1) := by decide +kernel
theorem dX10_comes_10 : decode cX10_comes 10 = .ok (.aload_n 0, 1) := by decide +kernel
theorem dX10_comes_11 : decode cX10_comes 11 = .ok (.getfield 19, 3) := by decide +kernel
theorem dX10_comes_14 : decode cX10_comes 14 = .ok (.aload_n 0, 1) := by decide +kernel
theorem dX10_comes_15 : decode cX10_comes 15 = .ok (.getfield 73, 3) := by decide +kernel
theorem dX10_comes_18 : decode cX10_comes 18 = .ok (.iload_n 2, 1) := by decide +kernel
theorem dX10_comes_19 : decode cX10_comes 19 = .ok (.iastore, 1) := by decide +kernel
theorem dX10_comes_20 : decode cX10_comes 20 = .ok (.aload_n 0, 1) := by decide +kernel
theorem dX10_comes_21 : decode cX10_comes 21 = .ok (.getfield 22, 3) := by decide +kernel
theorem dX10_comes_24 : decode cX10_comes 24 = .ok (.aload_n 0, 1) := by decide +kernel
theorem dX10_comes_25 : decode cX10_comes 25 = .ok (.getfield 73, 3) := by decide +kernel
theorem dX10_comes_28 : decode cX10_comes 28 = .ok (.iload_n 3, 1) := by decide +kernel
theorem dX10_comes_29 : decode cX10_comes 29 = .ok (.iastore, 1) := by decide +kernel
theorem dX10_comes_30 : decode cX10_comes 30 = .ok (.aload_n 0, 1) := by decide +kernel
theorem dX10_comes_31 : decode cX10_comes 31 = .ok (.getfield 25, 3) := by decide +kernel
theorem dX10_comes_34 : decode cX10_comes 34 = .ok (.aload_n 0, 1) := by decide +kernel
theorem dX10_comes_35 : decode cX10_comes 35 = .ok (.getfield 73, 3) := by decide +kernel
theorem dX10_comes_38 : decode cX10_comes 38 = .ok (.iload 4, 2) := by decide +kernel
theorem dX10_comes_40 : decode cX10_comes 40 = .ok (.iastore, 1) := by decide +kernel
theorem dX10_comes_41 : decode cX10_comes 41 = .ok (.aload_n 0, 1) := by decide +kernel
theorem dX10_comes_42 : decode cX10_comes 42 = .ok (.getfield 35, 3) := by decide +kernel
theorem dX10_comes_45 : decode cX10_comes 45 = .ok (.aload_n 0, 1) := by decide +kernel
theorem dX10_comes_46 : decode cX10_comes 46 = .ok (.getfield 73, 3) := by decide +kernel
theorem dX10_comes_49 : decode cX10_comes 49 = .ok (.iconst 0, 1) := by decide +kernel
theorem dX10_comes_50 : decode cX10_comes 50 = .ok (.bastore, 1) := by decide +kernel
theorem dX10_comes_51 : decode cX10_comes 51 = .ok (.aload_n 0, 1) := by decide +kernel
theorem dX10_comes_52 : decode cX10_comes 52 = .ok (.aload_n 0, 1) := by decide +kernel
theorem dX10_comes_53 : decode cX10_comes 53 = .ok (.getfield 73, 3) := by decide +kernel
theorem dX10_comes_56 : decode cX10_comes 56 = .ok (.invokevirtual 185, 3) := by decide +kernel
theorem dX10_comes_59 : decode cX10_comes 59 = .ok (.aload_n 0, 1) := by decide +kernel
theorem dX10_comes_60 : decode cX10_comes 60 = .ok (.dup, 1) := by decide +kernel
theorem dX10_comes_61 : decode cX10_comes 61 = .ok (.getfield 73, 3) := by decide +kernel
theorem dX10_comes_64 : decode cX10_comes 64 = .ok (.dup_x1, 1) := by decide +kernel
theorem dX10_comes_65 : decode cX10_comes 65 = .ok (.iconst 1, 1) := by decide +kernel
theorem dX10_comes_66 : decode cX10_comes 66 = .ok (.iadd, 1) := by decide +kernel
theorem dX10_comes_67 : decode cX10_comes 67 = .ok (.putfield 73, 3) := by decide +kernel
theorem dX10_comes_70 : decode cX10_comes 70 = .ok (.ireturn, 1) := by decide +kernel
theorem dX10_noRoom_0 : decode cX10_noRoom 0 = .ok (.aload_n 0, 1) := by decide +kernel
theorem dX10_noRoom_1 : decode cX10_noRoom 1 = .ok (.aload_n 0, 1) := by decide +kernel
theorem dX10_noRoom_2 : decode cX10_noRoom 2 = .ok (.getfield 73, 3) := by decide +kernel
theorem dX10_noRoom_5 : decode cX10_noRoom 5 = .ok (.bipush 40, 2) := by decide +kernel
theorem dX10_noRoom_7 : decode cX10_noRoom 7 = .ok (.if_icmp .ge 7, 3) := by decide +kernel
theorem dX10_noRoom_10 : decode cX10_noRoom 10 = .ok (.iconst 1, 1) := by decide +kernel
theorem dX10_noRoom_11 : decode cX10_noRoom 11 = .ok (.goto 4, 3) := by decide +kernel
theorem dX10_noRoom_14 : decode cX10_noRoom 14 = .ok (.iconst 0, 1) := by decide +kernel
theorem dX10_noRoom_15 : decode cX10_noRoom 15 = .ok (.iload_n 1, 1) := by decide +kernel
theorem dX10_noRoom_16 : decode cX10_noRoom 16 = .ok (.invokevirtual 80, 3) := by decide +kernel
theorem dX10_noRoom_19 : decode cX10_noRoom 19 = .ok (.ireturn, 1) := by decide +kernel
theorem dX10_setPrime_0 : decode cX10_setPrime 0 = .ok (.aload_n 0, 1) := by decide +kernel
theorem dX10_setPrime_1 : decode cX10_setPrime 1 = .ok (.iload_n 1, 1) := by decide +kernel
theorem dX10_setPrime_2 : decode cX10_setPrime 2 = .ok (.i2l, 1) := by decide +kernel
theorem dX10_setPrime_3 : decode cX10_setPrime 3 = .ok (.ldc2_w 90, 3) := by decide +kernel
theorem dX10_setPrime_6 : decode cX10_setPrime 6 = .ok (.ldc2_w 188, 3) := by decide +kernel
theorem dX10_setPrime_9 : decode cX10_setPrime 9 = .ok (.invokestatic 76, 3) := by decide +kernel
theorem dX10_setPrime_12 : decode cX10_setPrime 12 = .ok (.ifCond .eq 14, 3) := by decide +kernel
theorem dX10_setPrime_15 : decode cX10_setPrime 15 = .ok (.iload_n 1, 1) := by decide +kernel
theorem dX10_setPrime_16 : decode cX10_setPrime 16 = .ok (.invokestatic 190, 3) := by decide +kernel
theorem dX10_setPrime_19 : decode cX10_setPrime 19 = .ok (.ifCond .eq 7, 3) := by decide +kernel
theorem dX10_setPrime_22 : decode cX10_setPrime 22 = .ok (.iconst 1, 1) := by decide +kernel
theorem dX10_setPrime_23 : decode cX10_setPrime 23 = .ok (.goto 4, 3) := by decide +kernel
theorem dX10_setPrime_26 : decode cX10_setPrime 26 = .ok (.iconst 0, 1) := by decide +kernel
theorem dX10_setPrime_27 : decode cX10_setPrime 27 = .ok (.iconst 1, 1) := by decide +kernel
theorem dX10_setPrime_28 : decode cX10_setPrime 28 = .ok (.invokevirtual 80, 3) := by decide +kernel
theorem dX10_setPrime_31 : decode cX10_setPrime 31 = .ok (.ifCond .ne 23, 3) := by decide +kernel
theorem dX10_setPrime_34 : decode cX10_setPrime 34 = .ok (.aload_n 0, 1) := by decide +kernel
theorem dX10_setPrime_35 : decode cX10_setPrime 35 = .ok (.aload_n 0, 1) := by decide +kernel
theorem dX10_setPrime_36 : decode cX10_setPrime 36 = .ok (.getfield 73, 3) := by decide +kernel
theorem dX10_setPrime_39 : decode cX10_setPrime 39 = .ok (.ifCond .ne 7, 3) := by decide +kernel
theorem dX10_setPrime_42 : decode cX10_setPrime 42 = .ok (.iconst 1, 1) := by decide +kernel
theorem dX10_setPrime_43 : decode cX10_setPrime 43 = .ok (.goto 4, 3) := by decide +kernel
theorem dX10_setPrime_46 : decode cX10_setPrime 46 = .ok (.iconst 0, 1) := by decide +kernel
theorem dX10_setPrime_47 : decode cX10_setPrime 47 = .ok (.iconst 2, 1) := by decide +kernel
theorem dX10_setPrime_48 : decode cX10_setPrime 48 = .ok (.invokevirtual 80, 3) := by decide +kernel
theorem dX10_setPrime_51 : decode cX10_setPrime 51 = .ok (.ifCond .eq 5, 3) := by decide +kernel
theorem dX10_setPrime_54 : decode cX10_setPrime 54 = .ok (.iconst 0, 1) := by decide +kernel
theorem dX10_setPrime_55 : decode cX10_setPrime 55 = .ok (.ireturn, 1) := by decide +kernel
theorem dX10_setPrime_56 : decode cX10_setPrime 56 = .ok (.aload_n 0, 1) := by decide +kernel
theorem dX10_setPrime_57 : decode cX10_setPrime 57 = .ok (.getfield 63, 3) := by decide +kernel
theorem dX10_setPrime_60 : decode cX10_setPrime 60 = .ok (.istore_n 2, 1) := by decide +kernel
theorem dX10_setPrime_61 : decode cX10_setPrime 61 = .ok (.aload_n 0, 1) := by decide +kernel
theorem dX10_setPrime_62 : decode cX10_setPrime 62 = .ok (.iload_n 1, 1) := by decide +kernel
theorem dX10_setPrime_63 : decode cX10_setPrime 63 = .ok (.putfield 63, 3) := by decide +kernel
theorem dX10_setPrime_66 : decode cX10_setPrime 66 = .ok (.iload_n 2, 1) := by decide +kernel
theorem dX10_setPrime_67 : decode cX10_setPrime 67 = .ok (.ireturn, 1) := by decide +kernel
theorem dX10_reach_0 : decode cX10_reach 0 = .ok (.aload_n 0, 1) := by decide +kernel
theorem dX10_reach_1 : decode cX10_reach 1 = .ok (.invokevirtual 124, 3) := by decide +kernel
theorem dX10_reach_4 : decode cX10_reach 4 = .ok (.ireturn, 1) := by decide +kernel
theorem dX10_give_0 : decode cX10_give 0 = .ok (.aload_n 0, 1) := by decide +kernel
theorem dX10_give_1 : decode cX10_give 1 = .ok (.iload_n 1, 1) := by decide +kernel
theorem dX10_give_2 : decode cX10_give 2 = .ok (.i2l, 1) := by decide +kernel
theorem dX10_give_3 : decode cX10_give 3 = .ok (.ldc2_w 194, 3) := by decide +kernel
theorem dX10_give_6 : decode cX10_give 6 = .ok (.ldc2_w 196, 3) := by decide +kernel
theorem dX10_give_9 : decode cX10_give 9 = .ok (.invokestatic 76, 3) := by decide +kernel
theorem dX10_give_12 : decode cX10_give 12 = .ok (.ifCond .eq 33, 3) := by decide +kernel
theorem dX10_give_15 : decode cX10_give 15 = .ok (.iload_n 2, 1) := by decide +kernel
theorem dX10_give_16 : decode cX10_give 16 = .ok (.i2l, 1) := by decide +kernel
theorem dX10_give_17 : decode cX10_give 17 = .ok (.lconst 1, 1) := by decide +kernel
theorem dX10_give_18 : decode cX10_give 18 = .ok (.ldc2_w 196, 3) := by decide +kernel
theorem dX10_give_21 : decode cX10_give 21 = .ok (.invokestatic 76, 3) := by decide +kernel
theorem dX10_give_24 : decode cX10_give 24 = .ok (.ifCond .eq 21, 3) := by decide +kernel
theorem dX10_give_27 : decode cX10_give 27 = .ok (.iload_n 3, 1) := by decide +kernel
theorem dX10_give_28 : decode cX10_give 28 = .ok (.i2l, 1) := by decide +kernel
theorem dX10_give_29 : decode cX10_give 29 = .ok (.ldc2_w 198, 3) := by decide +kernel
theorem dX10_give_32 : decode cX10_give 32 = .ok (.ldc2_w 200, 3) := by decide +kernel
theorem dX10_give_35 : decode cX10_give 35 = .ok (.invokestatic 76, 3) := by decide +kernel
theorem dX10_give_38 : decode cX10_give 38 = .ok (.ifCond .eq 7, 3) := by decide +kernel
theorem dX10_give_41 : decode cX10_give 41 = .ok (.iconst 1, 1) := by decide +kernel
theorem dX10_give_42 : decode cX10_give 42 = .ok (.goto 4, 3) := by decide +kernel
theorem dX10_give_45 : decode cX10_give 45 = .ok (.iconst 0, 1) := by decide +kernel
theorem dX10_give_46 : decode cX10_give 46 = .ok (.iconst 1, 1) := by decide +kernel
theorem dX10_give_47 : decode cX10_give 47 = .ok (.invokevirtual 80, 3) := by decide +kernel
theorem dX10_give_50 : decode cX10_give 50 = .ok (.ifCond .ne 11, 3) := by decide +kernel
theorem dX10_give_53 : decode cX10_give 53 = .ok (.aload_n 0, 1) := by decide +kernel
theorem dX10_give_54 : decode cX10_give 54 = .ok (.iconst 2, 1) := by decide +kernel
theorem dX10_give_55 : decode cX10_give 55 = .ok (.invokevirtual 202, 3) := by decide +kernel
theorem dX10_give_58 : decode cX10_give 58 = .ok (.ifCond .eq 5, 3) := by decide +kernel
theorem dX10_give_61 : decode cX10_give 61 = .ok (.iconst 0, 1) := by decide +kernel
theorem dX10_give_62 : decode cX10_give 62 = .ok (.ireturn, 1) := by decide +kernel
theorem dX10_give_63 : decode cX10_give 63 = .ok (.aload_n 0, 1) := by decide +kernel
theorem dX10_give_64 : decode cX10_give 64 = .ok (.iconst 0, 1) := by decide +kernel
theorem dX10_give_65 : decode cX10_give 65 = .ok (.iload_n 1, 1) := by decide +kernel
theorem dX10_give_66 : decode cX10_give 66 = .ok (.iload_n 2, 1) := by decide +kernel
theorem dX10_give_67 : decode cX10_give 67 = .ok (.iload_n 3, 1) := by decide +kernel
theorem dX10_give_68 : decode cX10_give 68 = .ok (.invokevirtual 205, 3) := by decide +kernel
theorem dX10_give_71 : decode cX10_give 71 = .ok (.ireturn, 1) := by decide +kernel
theorem dX10_add_0 : decode cX10_add 0 = .ok (.aload_n 0, 1) := by decide +kernel
theorem dX10_add_1 : decode cX10_add 1 = .ok (.iload_n 1, 1) := by decide +kernel
theorem dX10_add_2 : decode cX10_add 2 = .ok (.iload_n 2, 1) := by decide +kernel
theorem dX10_add_3 : decode cX10_add 3 = .ok (.invokevirtual 209, 3) := by decide +kernel
theorem dX10_add_6 : decode cX10_add 6 = .ok (.ifCond .ne 11, 3) := by decide +kernel
theorem dX10_add_9 : decode cX10_add 9 = .ok (.aload_n 0, 1) := by decide +kernel
theorem dX10_add_10 : decode cX10_add 10 = .ok (.iconst 2, 1) := by decide +kernel
theorem dX10_add_11 : decode cX10_add 11 = .ok (.invokevirtual 202, 3) := by decide +kernel
theorem dX10_add_14 : decode cX10_add 14 = .ok (.ifCond .eq 7, 3) := by decide +kernel
theorem dX10_add_17 : decode cX10_add 17 = .ok (.iconst 0, 1) := by decide +kernel
theorem dX10_add_18 : decode cX10_add 18 = .ok (.goto 11, 3) := by decide +kernel
theorem dX10_add_21 : decode cX10_add 21 = .ok (.aload_n 0, 1) := by decide +kernel
theorem dX10_add_22 : decode cX10_add 22 = .ok (.iconst 1, 1) := by decide +kernel
theorem dX10_add_23 : decode cX10_add 23 = .ok (.iload_n 1, 1) := by decide +kernel
theorem dX10_add_24 : decode cX10_add 24 = .ok (.iload_n 2, 1) := by decide +kernel
theorem dX10_add_25 : decode cX10_add 25 = .ok (.iconst 0, 1) := by decide +kernel
theorem dX10_add_26 : decode cX10_add 26 = .ok (.invokevirtual 205, 3) := by decide +kernel
theorem dX10_add_29 : decode cX10_add 29 = .ok (.ireturn, 1) := by decide +kernel
theorem dX10_subtract_0 : decode cX10_subtract 0 = .ok (.aload_n 0, 1) := by decide +kernel
theorem dX10_subtract_1 : decode cX10_subtract 1 = .ok (.iload_n 1, 1) := by decide +kernel
theorem dX10_subtract_2 : decode cX10_subtract 2 = .ok (.iload_n 2, 1) := by decide +kernel
theorem dX10_subtract_3 : decode cX10_subtract 3 = .ok (.invokevirtual 209, 3) := by decide +kernel
theorem dX10_subtract_6 : decode cX10_subtract 6 = .ok (.ifCond .ne 11, 3) := by decide +kernel
theorem dX10_subtract_9 : decode cX10_subtract 9 = .ok (.aload_n 0, 1) := by decide +kernel
theorem dX10_subtract_10 : decode cX10_subtract 10 = .ok (.iconst 2, 1) := by decide +kernel
theorem dX10_subtract_11 : decode cX10_subtract 11 = .ok (.invokevirtual 202, 3) := by decide +kernel
theorem dX10_subtract_14 : decode cX10_subtract 14 = .ok (.ifCond .eq 7, 3) := by decide +kernel
theorem dX10_subtract_17 : decode cX10_subtract 17 = .ok (.iconst 0, 1) := by decide +kernel
theorem dX10_subtract_18 : decode cX10_subtract 18 = .ok (.goto 11, 3) := by decide +kernel
theorem dX10_subtract_21 : decode cX10_subtract 21 = .ok (.aload_n 0, 1) := by decide +kernel
theorem dX10_subtract_22 : decode cX10_subtract 22 = .ok (.iconst 2, 1) := by decide +kernel
theorem dX10_subtract_23 : decode cX10_subtract 23 = .ok (.iload_n 1, 1) := by decide +kernel
theorem dX10_subtract_24 : decode cX10_subtract 24 = .ok (.iload_n 2, 1) := by decide +kernel
theorem dX10_subtract_25 : decode cX10_subtract 25 = .ok (.iconst 0, 1) := by decide +kernel
theorem dX10_subtract_26 : decode cX10_subtract 26 = .ok (.invokevirtual 205, 3) := by decide +kernel
theorem dX10_subtract_29 : decode cX10_subtract 29 = .ok (.ireturn, 1) := by decide +kernel
theorem dX10_multiply_0 : decode cX10_multiply 0 = .ok (.aload_n 0, 1) := by decide +kernel
theorem dX10_multiply_1 : decode cX10_multiply 1 = .ok (.iload_n 1, 1) := by decide +kernel
theorem dX10_multiply_2 : decode cX10_multiply 2 = .ok (.iload_n 2, 1) := by decide +kernel
theorem dX10_multiply_3 : decode cX10_multiply 3 = .ok (.invokevirtual 209, 3) := by decide +kernel
theorem dX10_multiply_6 : decode cX10_multiply 6 = .ok (.ifCond .eq 5, 3) := by decide +kernel
theorem dX10_multiply_9 : decode cX10_multiply 9 = .ok (.iconst 0, 1) := by decide +kernel
theorem dX10_multiply_10 : decode cX10_multiply 10 = .ok (.ireturn, 1) := by decide +kernel
theorem dX10_multiply_11 : decode cX10_multiply 11 = .ok (.aload_n 0, 1) := by decide +kernel
theorem dX10_multiply_12 : decode cX10_multiply 12 = .ok (.iload_n 1, 1) := by decide +kernel
theorem dX10_multiply_13 : decode cX10_multiply 13 = .ok (.iload_n 2, 1) := by decide +kernel
theorem dX10_multiply_14 : decode cX10_multiply 14 = .ok (.invokevirtual 166, 3) := by decide +kernel
theorem dX10_multiply_17 : decode cX10_multiply 17 = .ok (.aload_n 0, 1) := by decide +kernel
theorem dX10_multiply_18 : decode cX10_multiply 18 = .ok (.aload_n 0, 1) := by decide +kernel
theorem dX10_multiply_19 : decode cX10_multiply 19 = .ok (.getfield 109, 3) := by decide +kernel
theorem dX10_multiply_22 : decode cX10_multiply 22 = .ok (.bipush (-60), 2) := by decide +kernel
theorem dX10_multiply_24 : decode cX10_multiply 24 = .ok (.if_icmp .lt 7, 3) := by decide +kernel
theorem dX10_multiply_27 : decode cX10_multiply 27 = .ok (.iconst 1, 1) := by decide +kernel
theorem dX10_multiply_28 : decode cX10_multiply 28 = .ok (.goto 4, 3) := by decide +kernel
theorem dX10_multiply_31 : decode cX10_multiply 31 = .ok (.iconst 0, 1) := by decide +kernel
theorem dX10_multiply_32 : decode cX10_multiply 32 = .ok (.iconst 2, 1) := by decide +kernel
theorem dX10_multiply_33 : decode cX10_multiply 33 = .ok (.invokevirtual 80, 3) := by decide +kernel
theorem dX10_multiply_36 : decode cX10_multiply 36 = .ok (.ifCond .ne 11, 3) := by decide +kernel
theorem dX10_multiply_39 : decode cX10_multiply 39 = .ok (.aload_n 0, 1) := by decide +kernel
theorem dX10_multiply_40 : decode cX10_multiply 40 = .ok (.iconst 3, 1) := by decide +kernel
theorem dX10_multiply_41 : decode cX10_multiply 41 = .ok (.invokevirtual 202, 3) := by decide +kernel
theorem dX10_multiply_44 : decode cX10_multiply 44 = .ok (.ifCond .eq 7, 3) := by decide +kernel
theorem dX10_multiply_47 : decode cX10_multiply 47 = .ok (.iconst 0, 1) := by decide +kernel
theorem dX10_multiply_48 : decode cX10_multiply 48 = .ok (.goto 11, 3) := by decide +kernel
theorem dX10_multiply_51 : decode cX10_multiply 51 = .ok (.aload_n 0, 1) := by decide +kernel
theorem dX10_multiply_52 : decode cX10_multiply 52 = .ok (.iconst 3, 1) := by decide +kernel
theorem dX10_multiply_53 : decode cX10_multiply 53 = .ok (.iload_n 1, 1) := by decide +kernel
theorem dX10_multiply_54 : decode cX10_multiply 54 = .ok (.iload_n 2, 1) := by decide +kernel
theorem dX10_multiply_55 : decode cX10_multiply 55 = .ok (.iconst 0, 1) := by decide +kernel
theorem dX10_multiply_56 : decode cX10_multiply 56 = .ok (.invokevirtual 205, 3) := by decide +kernel
theorem dX10_multiply_59 : decode cX10_multiply 59 = .ok (.ireturn, 1) := by decide +kernel
theorem dX10_divide_0 : decode cX10_divide 0 = .ok (.aload_n 0, 1) := by decide +kernel
theorem dX10_divide_1 : decode cX10_divide 1 = .ok (.iload_n 1, 1) := by decide +kernel
theorem dX10_divide_2 : decode cX10_divide 2 = .ok (.iload_n 2, 1) := by decide +kernel
theorem dX10_divide_3 : decode cX10_divide 3 = .ok (.invokevirtual 209, 3) := by decide +kernel
theorem dX10_divide_6 : decode cX10_divide 6 = .ok (.ifCond .ne 27, 3) := by decide +kernel
theorem dX10_divide_9 : decode cX10_divide 9 = .ok (.aload_n 0, 1) := by decide +kernel
theorem dX10_divide_10 : decode cX10_divide 10 = .ok (.aload_n 0, 1) := by decide +kernel
theorem dX10_divide_11 : decode cX10_divide 11 = .ok (.getfield 31, 3) := by decide +kernel
theorem dX10_divide_14 : decode cX10_divide 14 = .ok (.iload_n 2, 1) := by decide +kernel
theorem dX10_divide_15 : decode cX10_divide 15 = .ok (.laload, 1) := by decide +kernel
theorem dX10_divide_16 : decode cX10_divide 16 = .ok (.lconst 0, 1) := by decide +kernel
theorem dX10_divide_17 : decode cX10_divide 17 = .ok (.lcmp, 1) := by decide +kernel
theorem dX10_divide_18 : decode cX10_divide 18 = .ok (.ifCond .eq 7, 3) := by decide +kernel
theorem dX10_divide_21 : decode cX10_divide 21 = .ok (.iconst 1, 1) := by decide +kernel
theorem dX10_divide_22 : decode cX10_divide 22 = .ok (.goto 4, 3) := by decide +kernel
theorem dX10_divide_25 : decode cX10_divide 25 = .ok (.iconst 0, 1) := by decide +kernel
theorem dX10_divide_26 : decode cX10_divide 26 = .ok (.iconst 2, 1) := by decide +kernel
theorem dX10_divide_27 : decode cX10_divide 27 = .ok (.invokevirtual 80, 3) := by decide +kernel
theorem dX10_divide_30 : decode cX10_divide 30 = .ok (.ifCond .eq 5, 3) := by decide +kernel
theorem dX10_divide_33 : decode cX10_divide 33 = .ok (.iconst 0, 1) := by decide +kernel
theorem dX10_divide_34 : decode cX10_divide 34 = .ok (.ireturn, 1) := by decide +kernel
theorem dX10_divide_35 : decode cX10_divide 35 = .ok (.aload_n 0, 1) := by decide +kernel
theorem dX10_divide_36 : decode cX10_divide 36 = .ok (.iload_n 1, 1) := by decide +kernel
theorem dX10_divide_37 : decode cX10_divide 37 = .ok (.iload_n 2, 1) := by decide +kernel
theorem dX10_divide_38 : decode cX10_divide 38 = .ok (.invokevirtual 170, 3) := by decide +kernel
theorem dX10_divide_41 : decode cX10_divide 41 = .ok (.aload_n 0, 1) := by decide +kernel
theorem dX10_divide_42 : decode cX10_divide 42 = .ok (.aload_n 0, 1) := by decide +kernel
theorem dX10_divide_43 : decode cX10_divide 43 = .ok (.getfield 109, 3) := by decide +kernel
theorem dX10_divide_46 : decode cX10_divide 46 = .ok (.bipush (-60), 2) := by decide +kernel
theorem dX10_divide_48 : decode cX10_divide 48 = .ok (.if_icmp .lt 7, 3) := by decide +kernel
theorem dX10_divide_51 : decode cX10_divide 51 = .ok (.iconst 1, 1) := by decide +kernel
theorem dX10_divide_52 : decode cX10_divide 52 = .ok (.goto 4, 3) := by decide +kernel
theorem dX10_divide_55 : decode cX10_divide 55 = .ok (.iconst 0, 1) := by decide +kernel
theorem dX10_divide_56 : decode cX10_divide 56 = .ok (.iconst 2, 1) := by decide +kernel
theorem dX10_divide_57 : decode cX10_divide 57 = .ok (.invokevirtual 80, 3) := by decide +kernel
theorem dX10_divide_60 : decode cX10_divide 60 = .ok (.ifCond .ne 11, 3) := by decide +kernel
theorem dX10_divide_63 : decode cX10_divide 63 = .ok (.aload_n 0, 1) := by decide +kernel
theorem dX10_divide_64 : decode cX10_divide 64 = .ok (.iconst 3, 1) := by decide +kernel
theorem dX10_divide_65 : decode cX10_divide 65 = .ok (.invokevirtual 202, 3) := by decide +kernel
theorem dX10_divide_68 : decode cX10_divide 68 = .ok (.ifCond .eq 7, 3) := by decide +kernel
theorem dX10_divide_71 : decode cX10_divide 71 = .ok (.iconst 0, 1) := by decide +kernel
theorem dX10_divide_72 : decode cX10_divide 72 = .ok (.goto 11, 3) := by decide +kernel
theorem dX10_divide_75 : decode cX10_divide 75 = .ok (.aload_n 0, 1) := by decide +kernel
theorem dX10_divide_76 : decode cX10_divide 76 = .ok (.iconst 4, 1) := by decide +kernel
theorem dX10_divide_77 : decode cX10_divide 77 = .ok (.iload_n 1, 1) := by decide +kernel
theorem dX10_divide_78 : decode cX10_divide 78 = .ok (.iload_n 2, 1) := by decide +kernel
theorem dX10_divide_79 : decode cX10_divide 79 = .ok (.iconst 0, 1) := by decide +kernel
theorem dX10_divide_80 : decode cX10_divide 80 = .ok (.invokevirtual 205, 3) := by decide +kernel
theorem dX10_divide_83 : decode cX10_divide 83 = .ok (.ireturn, 1) := by decide +kernel
theorem dX10_root_0 : decode cX10_root 0 = .ok (.aload_n 0, 1) := by decide +kernel
theorem dX10_root_1 : decode cX10_root 1 = .ok (.iload_n 1, 1) := by decide +kernel
theorem dX10_root_2 : decode cX10_root 2 = .ok (.invokevirtual 213, 3) := by decide +kernel
theorem dX10_root_5 : decode cX10_root 5 = .ok (.ifCond .ne 24, 3) := by decide +kernel
theorem dX10_root_8 : decode cX10_root 8 = .ok (.aload_n 0, 1) := by decide +kernel
theorem dX10_root_9 : decode cX10_root 9 = .ok (.aload_n 0, 1) := by decide +kernel
theorem dX10_root_10 : decode cX10_root 10 = .ok (.iload_n 1, 1) := by decide +kernel
theorem dX10_root_11 : decode cX10_root 11 = .ok (.invokevirtual 216, 3) := by decide +kernel
theorem dX10_root_14 : decode cX10_root 14 = .ok (.iconst 2, 1) := by decide +kernel
theorem dX10_root_15 : decode cX10_root 15 = .ok (.invokevirtual 80, 3) := by decide +kernel
theorem dX10_root_18 : decode cX10_root 18 = .ok (.ifCond .ne 11, 3) := by decide +kernel
theorem dX10_root_21 : decode cX10_root 21 = .ok (.aload_n 0, 1) := by decide +kernel
theorem dX10_root_22 : decode cX10_root 22 = .ok (.iconst 3, 1) := by decide +kernel
theorem dX10_root_23 : decode cX10_root 23 = .ok (.invokevirtual 202, 3) := by decide +kernel
theorem dX10_root_26 : decode cX10_root 26 = .ok (.ifCond .eq 7, 3) := by decide +kernel
theorem dX10_root_29 : decode cX10_root 29 = .ok (.iconst 0, 1) := by decide +kernel
theorem dX10_root_30 : decode cX10_root 30 = .ok (.goto 11, 3) := by decide +kernel
theorem dX10_root_33 : decode cX10_root 33 = .ok (.aload_n 0, 1) := by decide +kernel
theorem dX10_root_34 : decode cX10_root 34 = .ok (.iconst 5, 1) := by decide +kernel
theorem dX10_root_35 : decode cX10_root 35 = .ok (.iload_n 1, 1) := by decide +kernel
theorem dX10_root_36 : decode cX10_root 36 = .ok (.iconst 0, 1) := by decide +kernel
theorem dX10_root_37 : decode cX10_root 37 = .ok (.iconst 0, 1) := by decide +kernel
theorem dX10_root_38 : decode cX10_root 38 = .ok (.invokevirtual 205, 3) := by decide +kernel
theorem dX10_root_41 : decode cX10_root 41 = .ok (.ireturn, 1) := by decide +kernel
theorem dX10_unity_0 : decode cX10_unity 0 = .ok (.aload_n 0, 1) := by decide +kernel
theorem dX10_unity_1 : decode cX10_unity 1 = .ok (.iload_n 1, 1) := by decide +kernel
theorem dX10_unity_2 : decode cX10_unity 2 = .ok (.invokevirtual 213, 3) := by decide +kernel
theorem dX10_unity_5 : decode cX10_unity 5 = .ok (.ifCond .ne 44, 3) := by decide +kernel
theorem dX10_unity_8 : decode cX10_unity 8 = .ok (.aload_n 0, 1) := by decide +kernel
theorem dX10_unity_9 : decode cX10_unity 9 = .ok (.aload_n 0, 1) := by decide +kernel
theorem dX10_unity_10 : decode cX10_unity 10 = .ok (.getfield 7, 3) := by decide +kernel
theorem dX10_unity_13 : decode cX10_unity 13 = .ok (.iload_n 1, 1) := by decide +kernel
theorem dX10_unity_14 : decode cX10_unity 14 = .ok (.iaload, 1) := by decide +kernel
theorem dX10_unity_15 : decode cX10_unity 15 = .ok (.ifCond .ne 18, 3) := by decide +kernel
theorem dX10_unity_18 : decode cX10_unity 18 = .ok (.aload_n 0, 1) := by decide +kernel
theorem dX10_unity_19 : decode cX10_unity 19 = .ok (.getfield 31, 3) := by decide +kernel
theorem dX10_unity_22 : decode cX10_unity 22 = .ok (.iload_n 1, 1) := by decide +kernel
theorem dX10_unity_23 : decode cX10_unity 23 = .ok (.laload, 1) := by decide +kernel
theorem dX10_unity_24 : decode cX10_unity 24 = .ok (.lconst 0, 1) := by decide +kernel
theorem dX10_unity_25 : decode cX10_unity 25 = .ok (.lcmp, 1) := by decide +kernel
theorem dX10_unity_26 : decode cX10_unity 26 = .ok (.ifCond .eq 7, 3) := by decide +kernel
theorem dX10_unity_29 : decode cX10_unity 29 = .ok (.iconst 1, 1) := by decide +kernel
theorem dX10_unity_30 : decode cX10_unity 30 = .ok (.goto 4, 3) := by decide +kernel
theorem dX10_unity_33 : decode cX10_unity 33 = .ok (.iconst 0, 1) := by decide +kernel
theorem dX10_unity_34 : decode cX10_unity 34 = .ok (.iconst 2, 1) := by decide +kernel
theorem dX10_unity_35 : decode cX10_unity 35 = .ok (.invokevirtual 80, 3) := by decide +kernel
theorem dX10_unity_38 : decode cX10_unity 38 = .ok (.ifCond .ne 11, 3) := by decide +kernel
theorem dX10_unity_41 : decode cX10_unity 41 = .ok (.aload_n 0, 1) := by decide +kernel
theorem dX10_unity_42 : decode cX10_unity 42 = .ok (.iconst 3, 1) := by decide +kernel
theorem dX10_unity_43 : decode cX10_unity 43 = .ok (.invokevirtual 202, 3) := by decide +kernel
theorem dX10_unity_46 : decode cX10_unity 46 = .ok (.ifCond .eq 7, 3) := by decide +kernel
theorem dX10_unity_49 : decode cX10_unity 49 = .ok (.iconst 0, 1) := by decide +kernel
theorem dX10_unity_50 : decode cX10_unity 50 = .ok (.goto 12, 3) := by decide +kernel
theorem dX10_unity_53 : decode cX10_unity 53 = .ok (.aload_n 0, 1) := by decide +kernel
theorem dX10_unity_54 : decode cX10_unity 54 = .ok (.bipush 6, 2) := by decide +kernel
theorem dX10_unity_56 : decode cX10_unity 56 = .ok (.iload_n 1, 1) := by decide +kernel
theorem dX10_unity_57 : decode cX10_unity 57 = .ok (.iconst 0, 1) := by decide +kernel
theorem dX10_unity_58 : decode cX10_unity 58 = .ok (.iconst 0, 1) := by decide +kernel
theorem dX10_unity_59 : decode cX10_unity 59 = .ok (.invokevirtual 205, 3) := by decide +kernel
theorem dX10_unity_62 : decode cX10_unity 62 = .ok (.ireturn, 1) := by decide +kernel
theorem dX10_precision_0 : decode cX10_precision 0 = .ok (.aload_n 0, 1) := by decide +kernel
theorem dX10_precision_1 : decode cX10_precision 1 = .ok (.iload_n 1, 1) := by decide +kernel
theorem dX10_precision_2 : decode cX10_precision 2 = .ok (.invokevirtual 213, 3) := by decide +kernel
theorem dX10_precision_5 : decode cX10_precision 5 = .ok (.ifCond .eq 7, 3) := by decide +kernel
theorem dX10_precision_8 : decode cX10_precision 8 = .ok (.iconst 0, 1) := by decide +kernel
theorem dX10_precision_9 : decode cX10_precision 9 = .ok (.goto 9, 3) := by decide +kernel
theorem dX10_precision_12 : decode cX10_precision 12 = .ok (.aload_n 0, 1) := by decide +kernel
theorem dX10_precision_13 : decode cX10_precision 13 = .ok (.getfield 13, 3) := by decide +kernel
theorem dX10_precision_16 : decode cX10_precision 16 = .ok (.iload_n 1, 1) := by decide +kernel
theorem dX10_precision_17 : decode cX10_precision 17 = .ok (.iaload, 1) := by decide +kernel
theorem dX10_precision_18 : decode cX10_precision 18 = .ok (.ireturn, 1) := by decide +kernel
theorem dX10_valuation_0 : decode cX10_valuation 0 = .ok (.aload_n 0, 1) := by decide +kernel
theorem dX10_valuation_1 : decode cX10_valuation 1 = .ok (.iload_n 1, 1) := by decide +kernel
theorem dX10_valuation_2 : decode cX10_valuation 2 = .ok (.invokevirtual 213, 3) := by decide +kernel
theorem dX10_valuation_5 : decode cX10_valuation 5 = .ok (.ifCond .eq 7, 3) := by decide +kernel
theorem dX10_valuation_8 : decode cX10_valuation 8 = .ok (.iconst 0, 1) := by decide +kernel
theorem dX10_valuation_9 : decode cX10_valuation 9 = .ok (.goto 9, 3) := by decide +kernel
theorem dX10_valuation_12 : decode cX10_valuation 12 = .ok (.aload_n 0, 1) := by decide +kernel
theorem dX10_valuation_13 : decode cX10_valuation 13 = .ok (.getfield 7, 3) := by decide +kernel
theorem dX10_valuation_16 : decode cX10_valuation 16 = .ok (.iload_n 1, 1) := by decide +kernel
theorem dX10_valuation_17 : decode cX10_valuation 17 = .ok (.iaload, 1) := by decide +kernel
theorem dX10_valuation_18 : decode cX10_valuation 18 = .ok (.ireturn, 1) := by decide +kernel
theorem dX10_digit_0 : decode cX10_digit 0 = .ok (.aload_n 0, 1) := by decide +kernel
theorem dX10_digit_1 : decode cX10_digit 1 = .ok (.iload_n 1, 1) := by decide +kernel
theorem dX10_digit_2 : decode cX10_digit 2 = .ok (.invokevirtual 213, 3) := by decide +kernel
theorem dX10_digit_5 : decode cX10_digit 5 = .ok (.ifCond .ne 26, 3) := by decide +kernel
theorem dX10_digit_8 : decode cX10_digit 8 = .ok (.aload_n 0, 1) := by decide +kernel
theorem dX10_digit_9 : decode cX10_digit 9 = .ok (.iload_n 2, 1) := by decide +kernel
theorem dX10_digit_10 : decode cX10_digit 10 = .ok (.aload_n 0, 1) := by decide +kernel
theorem dX10_digit_11 : decode cX10_digit 11 = .ok (.getfield 13, 3) := by decide +kernel
theorem dX10_digit_14 : decode cX10_digit 14 = .ok (.iload_n 1, 1) := by decide +kernel
theorem dX10_digit_15 : decode cX10_digit 15 = .ok (.iaload, 1) := by decide +kernel
theorem dX10_digit_16 : decode cX10_digit 16 = .ok (.if_icmp .ge 7, 3) := by decide +kernel
theorem dX10_digit_19 : decode cX10_digit 19 = .ok (.iconst 1, 1) := by decide +kernel
theorem dX10_digit_20 : decode cX10_digit 20 = .ok (.goto 4, 3) := by decide +kernel
theorem dX10_digit_23 : decode cX10_digit 23 = .ok (.iconst 0, 1) := by decide +kernel
theorem dX10_digit_24 : decode cX10_digit 24 = .ok (.iconst 2, 1) := by decide +kernel
theorem dX10_digit_25 : decode cX10_digit 25 = .ok (.invokevirtual 80, 3) := by decide +kernel
theorem dX10_digit_28 : decode cX10_digit 28 = .ok (.ifCond .eq 5, 3) := by decide +kernel
theorem dX10_digit_31 : decode cX10_digit 31 = .ok (.iconst 0, 1) := by decide +kernel
theorem dX10_digit_32 : decode cX10_digit 32 = .ok (.ireturn, 1) := by decide +kernel
theorem dX10_digit_33 : decode cX10_digit 33 = .ok (.iload_n 2, 1) := by decide +kernel
theorem dX10_digit_34 : decode cX10_digit 34 = .ok (.aload_n 0, 1) := by decide +kernel
theorem dX10_digit_35 : decode cX10_digit 35 = .ok (.getfield 7, 3) := by decide +kernel
theorem dX10_digit_38 : decode cX10_digit 38 = .ok (.iload_n 1, 1) := by decide +kernel
theorem dX10_digit_39 : decode cX10_digit 39 = .ok (.iaload, 1) := by decide +kernel
theorem dX10_digit_40 : decode cX10_digit 40 = .ok (.if_icmp .ge 7, 3) := by decide +kernel
theorem dX10_digit_43 : decode cX10_digit 43 = .ok (.iconst 0, 1) := by decide +kernel
theorem dX10_digit_44 : decode cX10_digit 44 = .ok (.goto 29, 3) := by decide +kernel
theorem dX10_digit_47 : decode cX10_digit 47 = .ok (.aload_n 0, 1) := by decide +kernel
theorem dX10_digit_48 : decode cX10_digit 48 = .ok (.getfield 31, 3) := by decide +kernel
theorem dX10_digit_51 : decode cX10_digit 51 = .ok (.iload_n 1, 1) := by decide +kernel
theorem dX10_digit_52 : decode cX10_digit 52 = .ok (.laload, 1) := by decide +kernel
theorem dX10_digit_53 : decode cX10_digit 53 = .ok (.aload_n 0, 1) := by decide +kernel
theorem dX10_digit_54 : decode cX10_digit 54 = .ok (.iload_n 2, 1) := by decide +kernel
theorem dX10_digit_55 : decode cX10_digit 55 = .ok (.aload_n 0, 1) := by decide +kernel
theorem dX10_digit_56 : decode cX10_digit 56 = .ok (.getfield 7, 3) := by decide +kernel
theorem dX10_digit_59 : decode cX10_digit 59 = .ok (.iload_n 1, 1) := by decide +kernel
theorem dX10_digit_60 : decode cX10_digit 60 = .ok (.iaload, 1) := by decide +kernel
theorem dX10_digit_61 : decode cX10_digit 61 = .ok (.isub, 1) := by decide +kernel
theorem dX10_digit_62 : decode cX10_digit 62 = .ok (.invokevirtual 92, 3) := by decide +kernel
theorem dX10_digit_65 : decode cX10_digit 65 = .ok (.ldiv, 1) := by decide +kernel
theorem dX10_digit_66 : decode cX10_digit 66 = .ok (.aload_n 0, 1) := by decide +kernel
theorem dX10_digit_67 : decode cX10_digit 67 = .ok (.getfield 63, 3) := by decide +kernel
theorem dX10_digit_70 : decode cX10_digit 70 = .ok (.i2l, 1) := by decide +kernel
theorem dX10_digit_71 : decode cX10_digit 71 = .ok (.lrem, 1) := by decide +kernel
theorem dX10_digit_72 : decode cX10_digit 72 = .ok (.l2i, 1) := by decide +kernel
theorem dX10_digit_73 : decode cX10_digit 73 = .ok (.ireturn, 1) := by decide +kernel
theorem dX10_hangsOn_0 : decode cX10_hangsOn 0 = .ok (.iconst 0, 1) := by decide +kernel
theorem dX10_hangsOn_1 : decode cX10_hangsOn 1 = .ok (.istore_n 2, 1) := by decide +kernel
theorem dX10_hangsOn_2 : decode cX10_hangsOn 2 = .ok (.iload_n 2, 1) := by decide +kernel
theorem dX10_hangsOn_3 : decode cX10_hangsOn 3 = .ok (.aload_n 0, 1) := by decide +kernel
theorem dX10_hangsOn_4 : decode cX10_hangsOn 4 = .ok (.getfield 73, 3) := by decide +kernel
theorem dX10_hangsOn_7 : decode cX10_hangsOn 7 = .ok (.if_icmp .ge 25, 3) := by decide +kernel
theorem dX10_hangsOn_10 : decode cX10_hangsOn 10 = .ok (.aload_n 0, 1) := by decide +kernel
theorem dX10_hangsOn_11 : decode cX10_hangsOn 11 = .ok (.getfield 35, 3) := by decide +kernel
theorem dX10_hangsOn_14 : decode cX10_hangsOn 14 = .ok (.iload_n 2, 1) := by decide +kernel
theorem dX10_hangsOn_15 : decode cX10_hangsOn 15 = .ok (.iload_n 2, 1) := by decide +kernel
theorem dX10_hangsOn_16 : decode cX10_hangsOn 16 = .ok (.iload_n 1, 1) := by decide +kernel
theorem dX10_hangsOn_17 : decode cX10_hangsOn 17 = .ok (.if_icmp .ne 7, 3) := by decide +kernel
theorem dX10_hangsOn_20 : decode cX10_hangsOn 20 = .ok (.iconst 1, 1) := by decide +kernel
theorem dX10_hangsOn_21 : decode cX10_hangsOn 21 = .ok (.goto 4, 3) := by decide +kernel
theorem dX10_hangsOn_24 : decode cX10_hangsOn 24 = .ok (.iconst 0, 1) := by decide +kernel
theorem dX10_hangsOn_25 : decode cX10_hangsOn 25 = .ok (.bastore, 1) := by decide +kernel
theorem dX10_hangsOn_26 : decode cX10_hangsOn 26 = .ok (.iinc 2 1, 3) := by decide +kernel
theorem dX10_hangsOn_29 : decode cX10_hangsOn 29 = .ok (.goto (-27), 3) := by decide +kernel
theorem dX10_hangsOn_32 : decode cX10_hangsOn 32 = .ok (.iconst 0, 1) := by decide +kernel
theorem dX10_hangsOn_33 : decode cX10_hangsOn 33 = .ok (.istore_n 2, 1) := by decide +kernel
theorem dX10_hangsOn_34 : decode cX10_hangsOn 34 = .ok (.iload_n 1, 1) := by decide +kernel
theorem dX10_hangsOn_35 : decode cX10_hangsOn 35 = .ok (.istore_n 3, 1) := by decide +kernel
theorem dX10_hangsOn_36 : decode cX10_hangsOn 36 = .ok (.iload_n 3, 1) := by decide +kernel
theorem dX10_hangsOn_37 : decode cX10_hangsOn 37 = .ok (.ifCond .lt 102, 3) := by decide +kernel
theorem dX10_hangsOn_40 : decode cX10_hangsOn 40 = .ok (.aload_n 0, 1) := by decide +kernel
theorem dX10_hangsOn_41 : decode cX10_hangsOn 41 = .ok (.getfield 35, 3) := by decide +kernel
theorem dX10_hangsOn_44 : decode cX10_hangsOn 44 = .ok (.iload_n 3, 1) := by decide +kernel
theorem dX10_hangsOn_45 : decode cX10_hangsOn 45 = .ok (.baload, 1) := by decide +kernel
theorem dX10_hangsOn_46 : decode cX10_hangsOn 46 = .ok (.ifCond .ne 6, 3) := by decide +kernel
theorem dX10_hangsOn_49 : decode cX10_hangsOn 49 = .ok (.goto 84, 3) := by decide +kernel
theorem dX10_hangsOn_52 : decode cX10_hangsOn 52 = .ok (.aload_n 0, 1) := by decide +kernel
theorem dX10_hangsOn_53 : decode cX10_hangsOn 53 = .ok (.getfield 16, 3) := by decide +kernel
theorem dX10_hangsOn_56 : decode cX10_hangsOn 56 = .ok (.iload_n 3, 1) := by decide +kernel
theorem dX10_hangsOn_57 : decode cX10_hangsOn 57 = .ok (.iaload, 1) := by decide +kernel
theorem dX10_hangsOn_58 : decode cX10_hangsOn 58 = .ok (.ifCond .eq 26, 3) := by decide +kernel
theorem dX10_hangsOn_61 : decode cX10_hangsOn 61 = .ok (.aload_n 0, 1) := by decide +kernel
theorem dX10_hangsOn_62 : decode cX10_hangsOn 62 = .ok (.getfield 16, 3) := by decide +kernel
theorem dX10_hangsOn_65 : decode cX10_hangsOn 65 = .ok (.iload_n 3, 1) := by decide +kernel
theorem dX10_hangsOn_66 : decode cX10_hangsOn 66 = .ok (.iaload, 1) := by decide +kernel
theorem dX10_hangsOn_67 : decode cX10_hangsOn 67 = .ok (.bipush 7, 2) := by decide +kernel
theorem dX10_hangsOn_69 : decode cX10_hangsOn 69 = .ok (.if_icmp .eq 15, 3) := by decide +kernel
theorem dX10_hangsOn_72 : decode cX10_hangsOn 72 = .ok (.aload_n 0, 1) := by decide +kernel
theorem dX10_hangsOn_73 : decode cX10_hangsOn 73 = .ok (.getfield 35, 3) := by decide +kernel
theorem dX10_hangsOn_76 : decode cX10_hangsOn 76 = .ok (.aload_n 0, 1) := by decide +kernel
theorem dX10_hangsOn_77 : decode cX10_hangsOn 77 = .ok (.getfield 19, 3) := by decide +kernel
theorem dX10_hangsOn_80 : decode cX10_hangsOn 80 = .ok (.iload_n 3, 1) := by decide +kernel
theorem dX10_hangsOn_81 : decode cX10_hangsOn 81 = .ok (.iaload, 1) := by decide +kernel
theorem dX10_hangsOn_82 : decode cX10_hangsOn 82 = .ok (.iconst 1, 1) := by decide +kernel
theorem dX10_hangsOn_83 : decode cX10_hangsOn 83 = .ok (.bastore, 1) := by decide +kernel
theorem dX10_hangsOn_84 : decode cX10_hangsOn 84 = .ok (.aload_n 0, 1) := by decide +kernel
theorem dX10_hangsOn_85 : decode cX10_hangsOn 85 = .ok (.getfield 16, 3) := by decide +kernel
theorem dX10_hangsOn_88 : decode cX10_hangsOn 88 = .ok (.iload_n 3, 1) := by decide +kernel
theorem dX10_hangsOn_89 : decode cX10_hangsOn 89 = .ok (.iaload, 1) := by decide +kernel
theorem dX10_hangsOn_90 : decode cX10_hangsOn 90 = .ok (.iconst 1, 1) := by decide +kernel
theorem dX10_hangsOn_91 : decode cX10_hangsOn 91 = .ok (.if_icmp .lt 25, 3) := by decide +kernel
theorem dX10_hangsOn_94 : decode cX10_hangsOn 94 = .ok (.aload_n 0, 1) := by decide +kernel
theorem dX10_hangsOn_95 : decode cX10_hangsOn 95 = .ok (.getfield 16, 3) := by decide +kernel
theorem dX10_hangsOn_98 : decode cX10_hangsOn 98 = .ok (.iload_n 3, 1) := by decide +kernel
theorem dX10_hangsOn_99 : decode cX10_hangsOn 99 = .ok (.iaload, 1) := by decide +kernel
theorem dX10_hangsOn_100 : decode cX10_hangsOn 100 = .ok (.iconst 4, 1) := by decide +kernel
theorem dX10_hangsOn_101 : decode cX10_hangsOn 101 = .ok (.if_icmp .gt 15, 3) := by decide +kernel
theorem dX10_hangsOn_104 : decode cX10_hangsOn 104 = .ok (.aload_n 0, 1) := by decide +kernel
theorem dX10_hangsOn_105 : decode cX10_hangsOn 105 = .ok (.getfield 35, 3) := by decide +kernel
theorem dX10_hangsOn_108 : decode cX10_hangsOn 108 = .ok (.aload_n 0, 1) := by decide +kernel
theorem dX10_hangsOn_109 : decode cX10_hangsOn 109 = .ok (.getfield 22, 3) := by decide +kernel
theorem dX10_hangsOn_112 : decode cX10_hangsOn 112 = .ok (.iload_n 3, 1) := by decide +kernel
theorem dX10_hangsOn_113 : decode cX10_hangsOn 113 = .ok (.iaload, 1) := by decide +kernel
theorem dX10_hangsOn_114 : decode cX10_hangsOn 114 = .ok (.iconst 1, 1) := by decide +kernel
theorem dX10_hangsOn_115 : decode cX10_hangsOn 115 = .ok (.bastore, 1) := by decide +kernel
theorem dX10_hangsOn_116 : decode cX10_hangsOn 116 = .ok (.iload_n 2, 1) := by decide +kernel
theorem dX10_hangsOn_117 : decode cX10_hangsOn 117 = .ok (.aload_n 0, 1) := by decide +kernel
theorem dX10_hangsOn_118 : decode cX10_hangsOn 118 = .ok (.getfield 16, 3) := by decide +kernel
theorem dX10_hangsOn_121 : decode cX10_hangsOn 121 = .ok (.iload_n 3, 1) := by decide +kernel
theorem dX10_hangsOn_122 : decode cX10_hangsOn 122 = .ok (.iaload, 1) := by decide +kernel
theorem dX10_hangsOn_123 : decode cX10_hangsOn 123 = .ok (.ifCond .ne 7, 3) := by decide +kernel
theorem dX10_hangsOn_126 : decode cX10_hangsOn 126 = .ok (.iconst 1, 1) := by decide +kernel
theorem dX10_hangsOn_127 : decode cX10_hangsOn 127 = .ok (.goto 4, 3) := by decide +kernel
theorem dX10_hangsOn_130 : decode cX10_hangsOn 130 = .ok (.iconst 0, 1) := by decide +kernel
theorem dX10_hangsOn_131 : decode cX10_hangsOn 131 = .ok (.ior, 1) := by decide +kernel
theorem dX10_hangsOn_132 : decode cX10_hangsOn 132 = .ok (.istore_n 2, 1) := by decide +kernel
theorem dX10_hangsOn_133 : decode cX10_hangsOn 133 = .ok (.iinc 3 (-1), 3) := by decide +kernel
theorem dX10_hangsOn_136 : decode cX10_hangsOn 136 = .ok (.goto (-100), 3) := by decide +kernel
theorem dX10_hangsOn_139 : decode cX10_hangsOn 139 = .ok (.iload_n 2, 1) := by decide +kernel
theorem dX10_hangsOn_140 : decode cX10_hangsOn 140 = .ok (.ireturn, 1) := by decide +kernel
theorem dX10_refine_0 : decode cX10_refine 0 = .ok (.aload_n 0, 1) := by decide +kernel
theorem dX10_refine_1 : decode cX10_refine 1 = .ok (.iload_n 1, 1) := by decide +kernel
theorem dX10_refine_2 : decode cX10_refine 2 = .ok (.invokevirtual 213, 3) := by decide +kernel
theorem dX10_refine_5 : decode cX10_refine 5 = .ok (.ifCond .ne 33, 3) := by decide +kernel
theorem dX10_refine_8 : decode cX10_refine 8 = .ok (.aload_n 0, 1) := by decide +kernel
theorem dX10_refine_9 : decode cX10_refine 9 = .ok (.iload_n 2, 1) := by decide +kernel
theorem dX10_refine_10 : decode cX10_refine 10 = .ok (.i2l, 1) := by decide +kernel
theorem dX10_refine_11 : decode cX10_refine 11 = .ok (.lconst 1, 1) := by decide +kernel
theorem dX10_refine_12 : decode cX10_refine 12 = .ok (.ldc2_w 200, 3) := by decide +kernel
theorem dX10_refine_15 : decode cX10_refine 15 = .ok (.invokestatic 76, 3) := by decide +kernel
theorem dX10_refine_18 : decode cX10_refine 18 = .ok (.iconst 2, 1) := by decide +kernel
theorem dX10_refine_19 : decode cX10_refine 19 = .ok (.invokevirtual 80, 3) := by decide +kernel
theorem dX10_refine_22 : decode cX10_refine 22 = .ok (.ifCond .ne 16, 3) := by decide +kernel
theorem dX10_refine_25 : decode cX10_refine 25 = .ok (.aload_n 0, 1) := by decide +kernel
theorem dX10_refine_26 : decode cX10_refine 26 = .ok (.aload_n 0, 1) := by decide +kernel
theorem dX10_refine_27 : decode cX10_refine 27 = .ok (.iload_n 1, 1) := by decide +kernel
theorem dX10_refine_28 : decode cX10_refine 28 = .ok (.invokevirtual 219, 3) := by decide +kernel
theorem dX10_refine_31 : decode cX10_refine 31 = .ok (.iconst 3, 1) := by decide +kernel
theorem dX10_refine_32 : decode cX10_refine 32 = .ok (.invokevirtual 80, 3) := by decide +kernel
theorem dX10_refine_35 : decode cX10_refine 35 = .ok (.ifCond .eq 5, 3) := by decide +kernel
theorem dX10_refine_38 : decode cX10_refine 38 = .ok (.iconst 0, 1) := by decide +kernel
theorem dX10_refine_39 : decode cX10_refine 39 = .ok (.ireturn, 1) := by decide +kernel
theorem dX10_refine_40 : decode cX10_refine 40 = .ok (.iconst 0, 1) := by decide +kernel
theorem dX10_refine_41 : decode cX10_refine 41 = .ok (.istore_n 3, 1) := by decide +kernel
theorem dX10_refine_42 : decode cX10_refine 42 = .ok (.iload_n 3, 1) := by decide +kernel
theorem dX10_refine_43 : decode cX10_refine 43 = .ok (.aload_n 0, 1) := by decide +kernel
theorem dX10_refine_44 : decode cX10_refine 44 = .ok (.getfield 73, 3) := by decide +kernel
theorem dX10_refine_47 : decode cX10_refine 47 = .ok (.if_icmp .ge 46, 3) := by decide +kernel
theorem dX10_refine_50 : decode cX10_refine 50 = .ok (.aload_n 0, 1) := by decide +kernel
theorem dX10_refine_51 : decode cX10_refine 51 = .ok (.getfield 35, 3) := by decide +kernel
theorem dX10_refine_54 : decode cX10_refine 54 = .ok (.iload_n 3, 1) := by decide +kernel
theorem dX10_refine_55 : decode cX10_refine 55 = .ok (.baload, 1) := by decide +kernel
theorem dX10_refine_56 : decode cX10_refine 56 = .ok (.ifCond .eq 31, 3) := by decide +kernel
theorem dX10_refine_59 : decode cX10_refine 59 = .ok (.aload_n 0, 1) := by decide +kernel
theorem dX10_refine_60 : decode cX10_refine 60 = .ok (.getfield 16, 3) := by decide +kernel
theorem dX10_refine_63 : decode cX10_refine 63 = .ok (.iload_n 3, 1) := by decide +kernel
theorem dX10_refine_64 : decode cX10_refine 64 = .ok (.iaload, 1) := by decide +kernel
theorem dX10_refine_65 : decode cX10_refine 65 = .ok (.ifCond .ne 22, 3) := by decide +kernel
theorem dX10_refine_68 : decode cX10_refine 68 = .ok (.aload_n 0, 1) := by decide +kernel
theorem dX10_refine_69 : decode cX10_refine 69 = .ok (.getfield 25, 3) := by decide +kernel
theorem dX10_refine_72 : decode cX10_refine 72 = .ok (.iload_n 3, 1) := by decide +kernel
theorem dX10_refine_73 : decode cX10_refine 73 = .ok (.bipush 60, 2) := by decide +kernel
theorem dX10_refine_75 : decode cX10_refine 75 = .ok (.aload_n 0, 1) := by decide +kernel
theorem dX10_refine_76 : decode cX10_refine 76 = .ok (.getfield 25, 3) := by decide +kernel
theorem dX10_refine_79 : decode cX10_refine 79 = .ok (.iload_n 3, 1) := by decide +kernel
theorem dX10_refine_80 : decode cX10_refine 80 = .ok (.iaload, 1) := by decide +kernel
theorem dX10_refine_81 : decode cX10_refine 81 = .ok (.iload_n 2, 1) := by decide +kernel
theorem dX10_refine_82 : decode cX10_refine 82 = .ok (.iadd, 1) := by decide +kernel
theorem dX10_refine_83 : decode cX10_refine 83 = .ok (.invokestatic 100, 3) := by decide +kernel
theorem dX10_refine_86 : decode cX10_refine 86 = .ok (.iastore, 1) := by decide +kernel
theorem dX10_refine_87 : decode cX10_refine 87 = .ok (.iinc 3 1, 3) := by decide +kernel
theorem dX10_refine_90 : decode cX10_refine 90 = .ok (.goto (-48), 3) := by decide +kernel
theorem dX10_refine_93 : decode cX10_refine 93 = .ok (.iconst 0, 1) := by decide +kernel
theorem dX10_refine_94 : decode cX10_refine 94 = .ok (.istore_n 3, 1) := by decide +kernel
theorem dX10_refine_95 : decode cX10_refine 95 = .ok (.iload_n 3, 1) := by decide +kernel
theorem dX10_refine_96 : decode cX10_refine 96 = .ok (.aload_n 0, 1) := by decide +kernel
theorem dX10_refine_97 : decode cX10_refine 97 = .ok (.getfield 73, 3) := by decide +kernel
theorem dX10_refine_100 : decode cX10_refine 100 = .ok (.if_icmp .ge 14, 3) := by decide +kernel
theorem dX10_refine_103 : decode cX10_refine 103 = .ok (.aload_n 0, 1) := by decide +kernel
theorem dX10_refine_104 : decode cX10_refine 104 = .ok (.iload_n 3, 1) := by decide +kernel
theorem dX10_refine_105 : decode cX10_refine 105 = .ok (.invokevirtual 185, 3) := by decide +kernel
theorem dX10_refine_108 : decode cX10_refine 108 = .ok (.iinc 3 1, 3) := by decide +kernel
theorem dX10_refine_111 : decode cX10_refine 111 = .ok (.goto (-16), 3) := by decide +kernel
theorem dX10_refine_114 : decode cX10_refine 114 = .ok (.aload_n 0, 1) := by decide +kernel
theorem dX10_refine_115 : decode cX10_refine 115 = .ok (.getfield 13, 3) := by decide +kernel
theorem dX10_refine_118 : decode cX10_refine 118 = .ok (.iload_n 1, 1) := by decide +kernel
theorem dX10_refine_119 : decode cX10_refine 119 = .ok (.iaload, 1) := by decide +kernel
theorem dX10_refine_120 : decode cX10_refine 120 = .ok (.ireturn, 1) := by decide +kernel
theorem dX10_like_0 : decode cX10_like 0 = .ok (.aload_n 0, 1) := by decide +kernel
theorem dX10_like_1 : decode cX10_like 1 = .ok (.iload_n 1, 1) := by decide +kernel
theorem dX10_like_2 : decode cX10_like 2 = .ok (.invokevirtual 213, 3) := by decide +kernel
theorem dX10_like_5 : decode cX10_like 5 = .ok (.ifCond .eq 5, 3) := by decide +kernel
theorem dX10_like_8 : decode cX10_like 8 = .ok (.iconst 0, 1) := by decide +kernel
theorem dX10_like_9 : decode cX10_like 9 = .ok (.ireturn, 1) := by decide +kernel
theorem dX10_like_10 : decode cX10_like 10 = .ok (.iconst 0, 1) := by decide +kernel
theorem dX10_like_11 : decode cX10_like 11 = .ok (.istore_n 2, 1) := by decide +kernel
theorem dX10_like_12 : decode cX10_like 12 = .ok (.aload_n 0, 1) := by decide +kernel
theorem dX10_like_13 : decode cX10_like 13 = .ok (.getfield 13, 3) := by decide +kernel
theorem dX10_like_16 : decode cX10_like 16 = .ok (.iload_n 2, 1) := by decide +kernel
theorem dX10_like_17 : decode cX10_like 17 = .ok (.iaload, 1) := by decide +kernel
theorem dX10_like_18 : decode cX10_like 18 = .ok (.aload_n 0, 1) := by decide +kernel
theorem dX10_like_19 : decode cX10_like 19 = .ok (.getfield 13, 3) := by decide +kernel
theorem dX10_like_22 : decode cX10_like 22 = .ok (.iload_n 1, 1) := by decide +kernel
theorem dX10_like_23 : decode cX10_like 23 = .ok (.iaload, 1) := by decide +kernel
theorem dX10_like_24 : decode cX10_like 24 = .ok (.if_icmp .ne 34, 3) := by decide +kernel
theorem dX10_like_27 : decode cX10_like 27 = .ok (.aload_n 0, 1) := by decide +kernel
theorem dX10_like_28 : decode cX10_like 28 = .ok (.getfield 7, 3) := by decide +kernel
theorem dX10_like_31 : decode cX10_like 31 = .ok (.iload_n 2, 1) := by decide +kernel
theorem dX10_like_32 : decode cX10_like 32 = .ok (.iaload, 1) := by decide +kernel
theorem dX10_like_33 : decode cX10_like 33 = .ok (.aload_n 0, 1) := by decide +kernel
theorem dX10_like_34 : decode cX10_like 34 = .ok (.getfield 7, 3) := by decide +kernel
theorem dX10_like_37 : decode cX10_like 37 = .ok (.iload_n 1, 1) := by decide +kernel
theorem dX10_like_38 : decode cX10_like 38 = .ok (.iaload, 1) := by decide +kernel
theorem dX10_like_39 : decode cX10_like 39 = .ok (.if_icmp .ne 19, 3) := by decide +kernel
theorem dX10_like_42 : decode cX10_like 42 = .ok (.aload_n 0, 1) := by decide +kernel
theorem dX10_like_43 : decode cX10_like 43 = .ok (.getfield 31, 3) := by decide +kernel
theorem dX10_like_46 : decode cX10_like 46 = .ok (.iload_n 2, 1) := by decide +kernel
theorem dX10_like_47 : decode cX10_like 47 = .ok (.laload, 1) := by decide +kernel
theorem dX10_like_48 : decode cX10_like 48 = .ok (.aload_n 0, 1) := by decide +kernel
theorem dX10_like_49 : decode cX10_like 49 = .ok (.getfield 31, 3) := by decide +kernel
theorem dX10_like_52 : decode cX10_like 52 = .ok (.iload_n 1, 1) := by decide +kernel
theorem dX10_like_53 : decode cX10_like 53 = .ok (.laload, 1) := by decide +kernel
theorem dX10_like_54 : decode cX10_like 54 = .ok (.lcmp, 1) := by decide +kernel
theorem dX10_like_55 : decode cX10_like 55 = .ok (.ifCond .eq 9, 3) := by decide +kernel
theorem dX10_like_58 : decode cX10_like 58 = .ok (.iinc 2 1, 3) := by decide +kernel
theorem dX10_like_61 : decode cX10_like 61 = .ok (.goto (-49), 3) := by decide +kernel
theorem dX10_like_64 : decode cX10_like 64 = .ok (.iload_n 2, 1) := by decide +kernel
theorem dX10_like_65 : decode cX10_like 65 = .ok (.ireturn, 1) := by decide +kernel
theorem dX10_agree_0 : decode cX10_agree 0 = .ok (.aload_n 0, 1) := by decide +kernel
theorem dX10_agree_1 : decode cX10_agree 1 = .ok (.iload_n 1, 1) := by decide +kernel
theorem dX10_agree_2 : decode cX10_agree 2 = .ok (.iload_n 2, 1) := by decide +kernel
theorem dX10_agree_3 : decode cX10_agree 3 = .ok (.invokevirtual 209, 3) := by decide +kernel
theorem dX10_agree_6 : decode cX10_agree 6 = .ok (.ifCond .eq 5, 3) := by decide +kernel
theorem dX10_agree_9 : decode cX10_agree 9 = .ok (.iconst 0, 1) := by decide +kernel
theorem dX10_agree_10 : decode cX10_agree 10 = .ok (.ireturn, 1) := by decide +kernel
theorem dX10_agree_11 : decode cX10_agree 11 = .ok (.aload_n 0, 1) := by decide +kernel
theorem dX10_agree_12 : decode cX10_agree 12 = .ok (.iload_n 1, 1) := by decide +kernel
theorem dX10_agree_13 : decode cX10_agree 13 = .ok (.iload_n 2, 1) := by decide +kernel
theorem dX10_agree_14 : decode cX10_agree 14 = .ok (.iconst (-1), 1) := by decide +kernel
theorem dX10_agree_15 : decode cX10_agree 15 = .ok (.invokevirtual 163, 3) := by decide +kernel
theorem dX10_agree_18 : decode cX10_agree 18 = .ok (.aload_n 0, 1) := by decide +kernel
theorem dX10_agree_19 : decode cX10_agree 19 = .ok (.getfield 112, 3) := by decide +kernel
theorem dX10_agree_22 : decode cX10_agree 22 = .ok (.lconst 0, 1) := by decide +kernel
theorem dX10_agree_23 : decode cX10_agree 23 = .ok (.lcmp, 1) := by decide +kernel
theorem dX10_agree_24 : decode cX10_agree 24 = .ok (.ifCond .ne 7, 3) := by decide +kernel
theorem dX10_agree_27 : decode cX10_agree 27 = .ok (.iconst 1, 1) := by decide +kernel
theorem dX10_agree_28 : decode cX10_agree 28 = .ok (.goto 4, 3) := by decide +kernel
theorem dX10_agree_31 : decode cX10_agree 31 = .ok (.iconst 0, 1) := by decide +kernel
theorem dX10_agree_32 : decode cX10_agree 32 = .ok (.ireturn, 1) := by decide +kernel
theorem dX10_common_0 : decode cX10_common 0 = .ok (.lload_n 0, 1) := by decide +kernel
theorem dX10_common_1 : decode cX10_common 1 = .ok (.lconst 0, 1) := by decide +kernel
theorem dX10_common_2 : decode cX10_common 2 = .ok (.lcmp, 1) := by decide +kernel
theorem dX10_common_3 : decode cX10_common 3 = .ok (.ifCond .ge 8, 3) := by decide +kernel
theorem dX10_common_6 : decode cX10_common 6 = .ok (.lload_n 0, 1) := by decide +kernel
theorem dX10_common_7 : decode cX10_common 7 = .ok (.lneg, 1) := by decide +kernel
theorem dX10_common_8 : decode cX10_common 8 = .ok (.goto 4, 3) := by decide +kernel
theorem dX10_common_11 : decode cX10_common 11 = .ok (.lload_n 0, 1) := by decide +kernel
theorem dX10_common_12 : decode cX10_common 12 = .ok (.lstore 4, 2) := by decide +kernel
theorem dX10_common_14 : decode cX10_common 14 = .ok (.lload_n 2, 1) := by decide +kernel
theorem dX10_common_15 : decode cX10_common 15 = .ok (.lstore 6, 2) := by decide +kernel
theorem dX10_common_17 : decode cX10_common 17 = .ok (.lload 6, 2) := by decide +kernel
theorem dX10_common_19 : decode cX10_common 19 = .ok (.lconst 0, 1) := by decide +kernel
theorem dX10_common_20 : decode cX10_common 20 = .ok (.lcmp, 1) := by decide +kernel
theorem dX10_common_21 : decode cX10_common 21 = .ok (.ifCond .eq 21, 3) := by decide +kernel
theorem dX10_common_24 : decode cX10_common 24 = .ok (.lload 4, 2) := by decide +kernel
theorem dX10_common_26 : decode cX10_common 26 = .ok (.lload 6, 2) := by decide +kernel
theorem dX10_common_28 : decode cX10_common 28 = .ok (.lrem, 1) := by decide +kernel
theorem dX10_common_29 : decode cX10_common 29 = .ok (.lstore 8, 2) := by decide +kernel
theorem dX10_common_31 : decode cX10_common 31 = .ok (.lload 6, 2) := by decide +kernel
theorem dX10_common_33 : decode cX10_common 33 = .ok (.lstore 4, 2) := by decide +kernel
theorem dX10_common_35 : decode cX10_common 35 = .ok (.lload 8, 2) := by decide +kernel
theorem dX10_common_37 : decode cX10_common 37 = .ok (.lstore 6, 2) := by decide +kernel
theorem dX10_common_39 : decode cX10_common 39 = .ok (.goto (-22), 3) := by decide +kernel
theorem dX10_common_42 : decode cX10_common 42 = .ok (.lload 4, 2) := by decide +kernel
theorem dX10_common_44 : decode cX10_common 44 = .ok (.lreturn, 1) := by decide +kernel
theorem dX10_guess_0 : decode cX10_guess 0 = .ok (.aload_n 0, 1) := by decide +kernel
theorem dX10_guess_1 : decode cX10_guess 1 = .ok (.getfield 13, 3) := by decide +kernel
theorem dX10_guess_4 : decode cX10_guess 4 = .ok (.iload_n 1, 1) := by decide +kernel
theorem dX10_guess_5 : decode cX10_guess 5 = .ok (.iaload, 1) := by decide +kernel
theorem dX10_guess_6 : decode cX10_guess 6 = .ok (.aload_n 0, 1) := by decide +kernel
theorem dX10_guess_7 : decode cX10_guess 7 = .ok (.invokevirtual 124, 3) := by decide +kernel
theorem dX10_guess_10 : decode cX10_guess 10 = .ok (.invokestatic 100, 3) := by decide +kernel
theorem dX10_guess_13 : decode cX10_guess 13 = .ok (.istore_n 2, 1) := by decide +kernel
theorem dX10_guess_14 : decode cX10_guess 14 = .ok (.aload_n 0, 1) := by decide +kernel
theorem dX10_guess_15 : decode cX10_guess 15 = .ok (.iload_n 2, 1) := by decide +kernel
theorem dX10_guess_16 : decode cX10_guess 16 = .ok (.invokevirtual 92, 3) := by decide +kernel
theorem dX10_guess_19 : decode cX10_guess 19 = .ok (.lstore_n 3, 1) := by decide +kernel
theorem dX10_guess_20 : decode cX10_guess 20 = .ok (.aload_n 0, 1) := by decide +kernel
theorem dX10_guess_21 : decode cX10_guess 21 = .ok (.getfield 7, 3) := by decide +kernel
theorem dX10_guess_24 : decode cX10_guess 24 = .ok (.iload_n 1, 1) := by decide +kernel
theorem dX10_guess_25 : decode cX10_guess 25 = .ok (.iaload, 1) := by decide +kernel
theorem dX10_guess_26 : decode cX10_guess 26 = .ok (.iload_n 2, 1) := by decide +kernel
theorem dX10_guess_27 : decode cX10_guess 27 = .ok (.if_icmp .lt 7, 3) := by decide +kernel
theorem dX10_guess_30 : decode cX10_guess 30 = .ok (.lconst 0, 1) := by decide +kernel
theorem dX10_guess_31 : decode cX10_guess 31 = .ok (.goto 24, 3) := by decide +kernel
theorem dX10_guess_34 : decode cX10_guess 34 = .ok (.aload_n 0, 1) := by decide +kernel
theorem dX10_guess_35 : decode cX10_guess 35 = .ok (.getfield 31, 3) := by decide +kernel
theorem dX10_guess_38 : decode cX10_guess 38 = .ok (.iload_n 1, 1) := by decide +kernel
theorem dX10_guess_39 : decode cX10_guess 39 = .ok (.laload, 1) := by decide +kernel
theorem dX10_guess_40 : decode cX10_guess 40 = .ok (.aload_n 0, 1) := by decide +kernel
theorem dX10_guess_41 : decode cX10_guess 41 = .ok (.aload_n 0, 1) := by decide +kernel
theorem dX10_guess_42 : decode cX10_guess 42 = .ok (.getfield 7, 3) := by decide +kernel
theorem dX10_guess_45 : decode cX10_guess 45 = .ok (.iload_n 1, 1) := by decide +kernel
theorem dX10_guess_46 : decode cX10_guess 46 = .ok (.iaload, 1) := by decide +kernel
theorem dX10_guess_47 : decode cX10_guess 47 = .ok (.invokevirtual 92, 3) := by decide +kernel
theorem dX10_guess_50 : decode cX10_guess 50 = .ok (.lmul, 1) := by decide +kernel
theorem dX10_guess_51 : decode cX10_guess 51 = .ok (.lload_n 3, 1) := by decide +kernel
theorem dX10_guess_52 : decode cX10_guess 52 = .ok (.invokestatic 86, 3) := by decide +kernel
theorem dX10_guess_55 : decode cX10_guess 55 = .ok (.lstore 5, 2) := by decide +kernel
theorem dX10_guess_57 : decode cX10_guess 57 = .ok (.lconst 1, 1) := by decide +kernel
theorem dX10_guess_58 : decode cX10_guess 58 = .ok (.lstore 7, 2) := by decide +kernel
theorem dX10_guess_60 : decode cX10_guess 60 = .ok (.ldc2_w 90, 3) := by decide +kernel
theorem dX10_guess_63 : decode cX10_guess 63 = .ok (.lload 7, 2) := by decide +kernel
theorem dX10_guess_65 : decode cX10_guess 65 = .ok (.lmul, 1) := by decide +kernel
theorem dX10_guess_66 : decode cX10_guess 66 = .ok (.lload 7, 2) := by decide +kernel
theorem dX10_guess_68 : decode cX10_guess 68 = .ok (.lmul, 1) := by decide +kernel
theorem dX10_guess_69 : decode cX10_guess 69 = .ok (.lload_n 3, 1) := by decide +kernel
theorem dX10_guess_70 : decode cX10_guess 70 = .ok (.lcmp, 1) := by decide +kernel
theorem dX10_guess_71 : decode cX10_guess 71 = .ok (.ifCond .ge 88, 3) := by decide +kernel
theorem dX10_guess_74 : decode cX10_guess 74 = .ok (.lload 7, 2) := by decide +kernel
theorem dX10_guess_76 : decode cX10_guess 76 = .ok (.lload 5, 2) := by decide +kernel
theorem dX10_guess_78 : decode cX10_guess 78 = .ok (.lmul, 1) := by decide +kernel
theorem dX10_guess_79 : decode cX10_guess 79 = .ok (.lload_n 3, 1) := by decide +kernel
theorem dX10_guess_80 : decode cX10_guess 80 = .ok (.invokestatic 86, 3) := by decide +kernel
theorem dX10_guess_83 : decode cX10_guess 83 = .ok (.lstore 9, 2) := by decide +kernel
theorem dX10_guess_85 : decode cX10_guess 85 = .ok (.ldc2_w 90, 3) := by decide +kernel
theorem dX10_guess_88 : decode cX10_guess 88 = .ok (.lload 9, 2) := by decide +kernel
theorem dX10_guess_90 : decode cX10_guess 90 = .ok (.lmul, 1) := by decide +kernel
theorem dX10_guess_91 : decode cX10_guess 91 = .ok (.lload_n 3, 1) := by decide +kernel
theorem dX10_guess_92 : decode cX10_guess 92 = .ok (.lcmp, 1) := by decide +kernel
theorem dX10_guess_93 : decode cX10_guess 93 = .ok (.ifCond .le 9, 3) := by decide +kernel
theorem dX10_guess_96 : decode cX10_guess 96 = .ok (.lload 9, 2) := by decide +kernel
theorem dX10_guess_98 : decode cX10_guess 98 = .ok (.lload_n 3, 1) := by decide +kernel
theorem dX10_guess_99 : decode cX10_guess 99 = .ok (.lsub, 1) := by decide +kernel
theorem dX10_guess_100 : decode cX10_guess 100 = .ok (.lstore 9, 2) := by decide +kernel
theorem dX10_guess_102 : decode cX10_guess 102 = .ok (.aload_n 0, 1) := by decide +kernel
theorem dX10_guess_103 : decode cX10_guess 103 = .ok (.lload 9, 2) := by decide +kernel
theorem dX10_guess_105 : decode cX10_guess 105 = .ok (.putfield 112, 3) := by decide +kernel
theorem dX10_guess_108 : decode cX10_guess 108 = .ok (.lload 7, 2) := by decide +kernel
theorem dX10_guess_110 : decode cX10_guess 110 = .ok (.aload_n 0, 1) := by decide +kernel
theorem dX10_guess_111 : decode cX10_guess 111 = .ok (.getfield 63, 3) := by decide +kernel
theorem dX10_guess_114 : decode cX10_guess 114 = .ok (.i2l, 1) := by decide +kernel
theorem dX10_guess_115 : decode cX10_guess 115 = .ok (.lrem, 1) := by decide +kernel
theorem dX10_guess_116 : decode cX10_guess 116 = .ok (.lconst 0, 1) := by decide +kernel
theorem dX10_guess_117 : decode cX10_guess 117 = .ok (.lcmp, 1) := by decide +kernel
theorem dX10_guess_118 : decode cX10_guess 118 = .ok (.ifCond .eq 32, 3) := by decide +kernel
theorem dX10_guess_121 : decode cX10_guess 121 = .ok (.ldc2_w 90, 3) := by decide +kernel
theorem dX10_guess_124 : decode cX10_guess 124 = .ok (.lload 9, 2) := by decide +kernel
theorem dX10_guess_126 : decode cX10_guess 126 = .ok (.lmul, 1) := by decide +kernel
theorem dX10_guess_127 : decode cX10_guess 127 = .ok (.lload 9, 2) := by decide +kernel
theorem dX10_guess_129 : decode cX10_guess 129 = .ok (.lmul, 1) := by decide +kernel
theorem dX10_guess_130 : decode cX10_guess 130 = .ok (.lload_n 3, 1) := by decide +kernel
theorem dX10_guess_131 : decode cX10_guess 131 = .ok (.lcmp, 1) := by decide +kernel
theorem dX10_guess_132 : decode cX10_guess 132 = .ok (.ifCond .ge 18, 3) := by decide +kernel
theorem dX10_guess_135 : decode cX10_guess 135 = .ok (.lload 9, 2) := by decide +kernel
theorem dX10_guess_137 : decode cX10_guess 137 = .ok (.lload 7, 2) := by decide +kernel
theorem dX10_guess_139 : decode cX10_guess 139 = .ok (.invokestatic 222, 3) := by decide +kernel
theorem dX10_guess_142 : decode cX10_guess 142 = .ok (.lconst 1, 1) := by decide +kernel
theorem dX10_guess_143 : decode cX10_guess 143 = .ok (.lcmp, 1) := by decide +kernel
theorem dX10_guess_144 : decode cX10_guess 144 = .ok (.ifCond .ne 6, 3) := by decide +kernel
theorem dX10_guess_147 : decode cX10_guess 147 = .ok (.lload 7, 2) := by decide +kernel
theorem dX10_guess_149 : decode cX10_guess 149 = .ok (.lreturn, 1) := by decide +kernel
theorem dX10_guess_150 : decode cX10_guess 150 = .ok (.lload 7, 2) := by decide +kernel
theorem dX10_guess_152 : decode cX10_guess 152 = .ok (.lconst 1, 1) := by decide +kernel
theorem dX10_guess_153 : decode cX10_guess 153 = .ok (.ladd, 1) := by decide +kernel
theorem dX10_guess_154 : decode cX10_guess 154 = .ok (.lstore 7, 2) := by decide +kernel
theorem dX10_guess_156 : decode cX10_guess 156 = .ok (.goto (-96), 3) := by decide +kernel
theorem dX10_guess_159 : decode cX10_guess 159 = .ok (.lconst 0, 1) := by decide +kernel
theorem dX10_guess_160 : decode cX10_guess 160 = .ok (.lreturn, 1) := by decide +kernel
theorem dX10_noGuess_0 : decode cX10_noGuess 0 = .ok (.aload_n 0, 1) := by decide +kernel
theorem dX10_noGuess_1 : decode cX10_noGuess 1 = .ok (.iload_n 1, 1) := by decide +kernel
theorem dX10_noGuess_2 : decode cX10_noGuess 2 = .ok (.invokevirtual 213, 3) := by decide +kernel
theorem dX10_noGuess_5 : decode cX10_noGuess 5 = .ok (.ifCond .ne 57, 3) := by decide +kernel
theorem dX10_noGuess_8 : decode cX10_noGuess 8 = .ok (.aload_n 0, 1) := by decide +kernel
theorem dX10_noGuess_9 : decode cX10_noGuess 9 = .ok (.aload_n 0, 1) := by decide +kernel
theorem dX10_noGuess_10 : decode cX10_noGuess 10 = .ok (.getfield 7, 3) := by decide +kernel
theorem dX10_noGuess_13 : decode cX10_noGuess 13 = .ok (.iload_n 1, 1) := by decide +kernel
theorem dX10_noGuess_14 : decode cX10_noGuess 14 = .ok (.iaload, 1) := by decide +kernel
theorem dX10_noGuess_15 : decode cX10_noGuess 15 = .ok (.ifCond .lt 16, 3) := by decide +kernel
theorem dX10_noGuess_18 : decode cX10_noGuess 18 = .ok (.aload_n 0, 1) := by decide +kernel
theorem dX10_noGuess_19 : decode cX10_noGuess 19 = .ok (.getfield 13, 3) := by decide +kernel
theorem dX10_noGuess_22 : decode cX10_noGuess 22 = .ok (.iload_n 1, 1) := by decide +kernel
theorem dX10_noGuess_23 : decode cX10_noGuess 23 = .ok (.iaload, 1) := by decide +kernel
theorem dX10_noGuess_24 : decode cX10_noGuess 24 = .ok (.ifCond .le 7, 3) := by decide +kernel
theorem dX10_noGuess_27 : decode cX10_noGuess 27 = .ok (.iconst 1, 1) := by decide +kernel
theorem dX10_noGuess_28 : decode cX10_noGuess 28 = .ok (.goto 4, 3) := by decide +kernel
theorem dX10_noGuess_31 : decode cX10_noGuess 31 = .ok (.iconst 0, 1) := by decide +kernel
theorem dX10_noGuess_32 : decode cX10_noGuess 32 = .ok (.iconst 2, 1) := by decide +kernel
theorem dX10_noGuess_33 : decode cX10_noGuess 33 = .ok (.invokevirtual 80, 3) := by decide +kernel
theorem dX10_noGuess_36 : decode cX10_noGuess 36 = .ok (.ifCond .ne 26, 3) := by decide +kernel
theorem dX10_noGuess_39 : decode cX10_noGuess 39 = .ok (.aload_n 0, 1) := by decide +kernel
theorem dX10_noGuess_40 : decode cX10_noGuess 40 = .ok (.aload_n 0, 1) := by decide +kernel
theorem dX10_noGuess_41 : decode cX10_noGuess 41 = .ok (.iload_n 1, 1) := by decide +kernel
theorem dX10_noGuess_42 : decode cX10_noGuess 42 = .ok (.invokevirtual 225, 3) := by decide +kernel
theorem dX10_noGuess_45 : decode cX10_noGuess 45 = .ok (.lconst 0, 1) := by decide +kernel
theorem dX10_noGuess_46 : decode cX10_noGuess 46 = .ok (.lcmp, 1) := by decide +kernel
theorem dX10_noGuess_47 : decode cX10_noGuess 47 = .ok (.ifCond .eq 7, 3) := by decide +kernel
theorem dX10_noGuess_50 : decode cX10_noGuess 50 = .ok (.iconst 1, 1) := by decide +kernel
theorem dX10_noGuess_51 : decode cX10_noGuess 51 = .ok (.goto 4, 3) := by decide +kernel
theorem dX10_noGuess_54 : decode cX10_noGuess 54 = .ok (.iconst 0, 1) := by decide +kernel
theorem dX10_noGuess_55 : decode cX10_noGuess 55 = .ok (.iconst 3, 1) := by decide +kernel
theorem dX10_noGuess_56 : decode cX10_noGuess 56 = .ok (.invokevirtual 80, 3) := by decide +kernel
theorem dX10_noGuess_59 : decode cX10_noGuess 59 = .ok (.ifCond .eq 7, 3) := by decide +kernel
theorem dX10_noGuess_62 : decode cX10_noGuess 62 = .ok (.iconst 1, 1) := by decide +kernel
theorem dX10_noGuess_63 : decode cX10_noGuess 63 = .ok (.goto 4, 3) := by decide +kernel
theorem dX10_noGuess_66 : decode cX10_noGuess 66 = .ok (.iconst 0, 1) := by decide +kernel
theorem dX10_noGuess_67 : decode cX10_noGuess 67 = .ok (.ireturn, 1) := by decide +kernel
theorem dX10_numerator_0 : decode cX10_numerator 0 = .ok (.aload_n 0, 1) := by decide +kernel
theorem dX10_numerator_1 : decode cX10_numerator 1 = .ok (.iload_n 1, 1) := by decide +kernel
theorem dX10_numerator_2 : decode cX10_numerator 2 = .ok (.invokevirtual 228, 3) := by decide +kernel
theorem dX10_numerator_5 : decode cX10_numerator 5 = .ok (.ifCond .eq 7, 3) := by decide +kernel
theorem dX10_numerator_8 : decode cX10_numerator 8 = .ok (.iconst 0, 1) := by decide +kernel
theorem dX10_numerator_9 : decode cX10_numerator 9 = .ok (.goto 8, 3) := by decide +kernel
theorem dX10_numerator_12 : decode cX10_numerator 12 = .ok (.aload_n 0, 1) := by decide +kernel
theorem dX10_numerator_13 : decode cX10_numerator 13 = .ok (.getfield 112, 3) := by decide +kernel
theorem dX10_numerator_16 : decode cX10_numerator 16 = .ok (.l2i, 1) := by decide +kernel
theorem dX10_numerator_17 : decode cX10_numerator 17 = .ok (.ireturn, 1) := by decide +kernel
theorem dX10_denominator_0 : decode cX10_denominator 0 = .ok (.aload_n 0, 1) := by decide +kernel
theorem dX10_denominator_1 : decode cX10_denominator 1 = .ok (.iload_n 1, 1) := by decide +kernel
theorem dX10_denominator_2 : decode cX10_denominator 2 = .ok (.invokevirtual 228, 3) := by decide +kernel
theorem dX10_denominator_5 : decode cX10_denominator 5 = .ok (.ifCond .eq 7, 3) := by decide +kernel
theorem dX10_denominator_8 : decode cX10_denominator 8 = .ok (.iconst 0, 1) := by decide +kernel
theorem dX10_denominator_9 : decode cX10_denominator 9 = .ok (.goto 9, 3) := by decide +kernel
theorem dX10_denominator_12 : decode cX10_denominator 12 = .ok (.aload_n 0, 1) := by decide +kernel
theorem dX10_denominator_13 : decode cX10_denominator 13 = .ok (.iload_n 1, 1) := by decide +kernel
theorem dX10_denominator_14 : decode cX10_denominator 14 = .ok (.invokevirtual 225, 3) := by decide +kernel
theorem dX10_denominator_17 : decode cX10_denominator 17 = .ok (.l2i, 1) := by decide +kernel
theorem dX10_denominator_18 : decode cX10_denominator 18 = .ok (.ireturn, 1) := by decide +kernel
theorem dX10_distance_0 : decode cX10_distance 0 = .ok (.aload_n 0, 1) := by decide +kernel
theorem dX10_distance_1 : decode cX10_distance 1 = .ok (.iload_n 1, 1) := by decide +kernel
theorem dX10_distance_2 : decode cX10_distance 2 = .ok (.iload_n 3, 1) := by decide +kernel
theorem dX10_distance_3 : decode cX10_distance 3 = .ok (.invokevirtual 209, 3) := by decide +kernel
theorem dX10_distance_6 : decode cX10_distance 6 = .ok (.ifCond .ne 53, 3) := by decide +kernel
theorem dX10_distance_9 : decode cX10_distance 9 = .ok (.aload_n 0, 1) := by decide +kernel
theorem dX10_distance_10 : decode cX10_distance 10 = .ok (.iload_n 2, 1) := by decide +kernel
theorem dX10_distance_11 : decode cX10_distance 11 = .ok (.i2l, 1) := by decide +kernel
theorem dX10_distance_12 : decode cX10_distance 12 = .ok (.ldc2_w 231, 3) := by decide +kernel
theorem dX10_distance_15 : decode cX10_distance 15 = .ok (.aload_n 0, 1) := by decide +kernel
theorem dX10_distance_16 : decode cX10_distance 16 = .ok (.getfield 13, 3) := by decide +kernel
theorem dX10_distance_19 : decode cX10_distance 19 = .ok (.iload_n 1, 1) := by decide +kernel
theorem dX10_distance_20 : decode cX10_distance 20 = .ok (.iaload, 1) := by decide +kernel
theorem dX10_distance_21 : decode cX10_distance 21 = .ok (.i2l, 1) := by decide +kernel
theorem dX10_distance_22 : decode cX10_distance 22 = .ok (.invokestatic 76, 3) := by decide +kernel
theorem dX10_distance_25 : decode cX10_distance 25 = .ok (.ifCond .eq 26, 3) := by decide +kernel
theorem dX10_distance_28 : decode cX10_distance 28 = .ok (.iload 4, 2) := by decide +kernel
theorem dX10_distance_30 : decode cX10_distance 30 = .ok (.i2l, 1) := by decide +kernel
theorem dX10_distance_31 : decode cX10_distance 31 = .ok (.ldc2_w 231, 3) := by decide +kernel
theorem dX10_distance_34 : decode cX10_distance 34 = .ok (.aload_n 0, 1) := by decide +kernel
theorem dX10_distance_35 : decode cX10_distance 35 = .ok (.getfield 13, 3) := by decide +kernel
theorem dX10_distance_38 : decode cX10_distance 38 = .ok (.iload_n 3, 1) := by decide +kernel
theorem dX10_distance_39 : decode cX10_distance 39 = .ok (.iaload, 1) := by decide +kernel
theorem dX10_distance_40 : decode cX10_distance 40 = .ok (.i2l, 1) := by decide +kernel
theorem dX10_distance_41 : decode cX10_distance 41 = .ok (.invokestatic 76, 3) := by decide +kernel
theorem dX10_distance_44 : decode cX10_distance 44 = .ok (.ifCond .eq 7, 3) := by decide +kernel
theorem dX10_distance_47 : decode cX10_distance 47 = .ok (.iconst 1, 1) := by decide +kernel
theorem dX10_distance_48 : decode cX10_distance 48 = .ok (.goto 4, 3) := by decide +kernel
theorem dX10_distance_51 : decode cX10_distance 51 = .ok (.iconst 0, 1) := by decide +kernel
theorem dX10_distance_52 : decode cX10_distance 52 = .ok (.iconst 2, 1) := by decide +kernel
theorem dX10_distance_53 : decode cX10_distance 53 = .ok (.invokevirtual 80, 3) := by decide +kernel
theorem dX10_distance_56 : decode cX10_distance 56 = .ok (.ifCond .eq 5, 3) := by decide +kernel
theorem dX10_distance_59 : decode cX10_distance 59 = .ok (.iconst 0, 1) := by decide +kernel
theorem dX10_distance_60 : decode cX10_distance 60 = .ok (.ireturn, 1) := by decide +kernel
theorem dX10_distance_61 : decode cX10_distance 61 = .ok (.aload_n 0, 1) := by decide +kernel
theorem dX10_distance_62 : decode cX10_distance 62 = .ok (.iload_n 1, 1) := by decide +kernel
theorem dX10_distance_63 : decode cX10_distance 63 = .ok (.iload_n 3, 1) := by decide +kernel
theorem dX10_distance_64 : decode cX10_distance 64 = .ok (.iconst (-1), 1) := by decide +kernel
theorem dX10_distance_65 : decode cX10_distance 65 = .ok (.invokevirtual 163, 3) := by decide +kernel
theorem dX10_distance_68 : decode cX10_distance 68 = .ok (.aload_n 0, 1) := by decide +kernel
theorem dX10_distance_69 : decode cX10_distance 69 = .ok (.getfield 112, 3) := by decide +kernel
theorem dX10_distance_72 : decode cX10_distance 72 = .ok (.lconst 0, 1) := by decide +kernel
theorem dX10_distance_73 : decode cX10_distance 73 = .ok (.lcmp, 1) := by decide +kernel
theorem dX10_distance_74 : decode cX10_distance 74 = .ok (.ifCond .ne 8, 3) := by decide +kernel
theorem dX10_distance_77 : decode cX10_distance 77 = .ok (.bipush 60, 2) := by decide +kernel
theorem dX10_distance_79 : decode cX10_distance 79 = .ok (.goto 7, 3) := by decide +kernel
theorem dX10_distance_82 : decode cX10_distance 82 = .ok (.aload_n 0, 1) := by decide +kernel
theorem dX10_distance_83 : decode cX10_distance 83 = .ok (.getfield 109, 3) := by decide +kernel
theorem dX10_distance_86 : decode cX10_distance 86 = .ok (.iload_n 2, 1) := by decide +kernel
theorem dX10_distance_87 : decode cX10_distance 87 = .ok (.iload 4, 2) := by decide +kernel
theorem dX10_distance_89 : decode cX10_distance 89 = .ok (.invokestatic 100, 3) := by decide +kernel
theorem dX10_distance_92 : decode cX10_distance 92 = .ok (.invokestatic 100, 3) := by decide +kernel
theorem dX10_distance_95 : decode cX10_distance 95 = .ok (.istore 5, 2) := by decide +kernel
theorem dX10_distance_97 : decode cX10_distance 97 = .ok (.iload_n 2, 1) := by decide +kernel
theorem dX10_distance_98 : decode cX10_distance 98 = .ok (.iload 4, 2) := by decide +kernel
theorem dX10_distance_100 : decode cX10_distance 100 = .ok (.iadd, 1) := by decide +kernel
theorem dX10_distance_101 : decode cX10_distance 101 = .ok (.iconst 2, 1) := by decide +kernel
theorem dX10_distance_102 : decode cX10_distance 102 = .ok (.iload 5, 2) := by decide +kernel
theorem dX10_distance_104 : decode cX10_distance 104 = .ok (.imul, 1) := by decide +kernel
theorem dX10_distance_105 : decode cX10_distance 105 = .ok (.isub, 1) := by decide +kernel
theorem dX10_distance_106 : decode cX10_distance 106 = .ok (.ireturn, 1) := by decide +kernel
theorem dX10_begin_0 : decode cX10_begin 0 = .ok (.aload_n 0, 1) := by decide +kernel
theorem dX10_begin_1 : decode cX10_begin 1 = .ok (.iload_n 1, 1) := by decide +kernel
theorem dX10_begin_2 : decode cX10_begin 2 = .ok (.i2l, 1) := by decide +kernel
theorem dX10_begin_3 : decode cX10_begin 3 = .ok (.ldc2_w 233, 3) := by decide +kernel
theorem dX10_begin_6 : decode cX10_begin 6 = .ok (.ldc2_w 235, 3) := by decide +kernel
theorem dX10_begin_9 : decode cX10_begin 9 = .ok (.invokestatic 76, 3) := by decide +kernel
theorem dX10_begin_12 : decode cX10_begin 12 = .ok (.ifCond .eq 11, 3) := by decide +kernel
theorem dX10_begin_15 : decode cX10_begin 15 = .ok (.iload_n 1, 1) := by decide +kernel
theorem dX10_begin_16 : decode cX10_begin 16 = .ok (.ifCond .eq 7, 3) := by decide +kernel
theorem dX10_begin_19 : decode cX10_begin 19 = .ok (.iconst 1, 1) := by decide +kernel
theorem dX10_begin_20 : decode cX10_begin 20 = .ok (.goto 4, 3) := by decide +kernel
theorem dX10_begin_23 : decode cX10_begin 23 = .ok (.iconst 0, 1) := by decide +kernel
theorem dX10_begin_24 : decode cX10_begin 24 = .ok (.iconst 1, 1) := by decide +kernel
theorem dX10_begin_25 : decode cX10_begin 25 = .ok (.invokevirtual 80, 3) := by decide +kernel
theorem dX10_begin_28 : decode cX10_begin 28 = .ok (.ifCond .ne 25, 3) := by decide +kernel
theorem dX10_begin_31 : decode cX10_begin 31 = .ok (.aload_n 0, 1) := by decide +kernel
theorem dX10_begin_32 : decode cX10_begin 32 = .ok (.aload_n 0, 1) := by decide +kernel
theorem dX10_begin_33 : decode cX10_begin 33 = .ok (.getfield 237, 3) := by decide +kernel
theorem dX10_begin_36 : decode cX10_begin 36 = .ok (.bipush 8, 2) := by decide +kernel
theorem dX10_begin_38 : decode cX10_begin 38 = .ok (.if_icmp .ge 7, 3) := by decide +kernel
theorem dX10_begin_41 : decode cX10_begin 41 = .ok (.iconst 1, 1) := by decide +kernel
theorem dX10_begin_42 : decode cX10_begin 42 = .ok (.goto 4, 3) := by decide +kernel
theorem dX10_begin_45 : decode cX10_begin 45 = .ok (.iconst 0, 1) := by decide +kernel
theorem dX10_begin_46 : decode cX10_begin 46 = .ok (.iconst 2, 1) := by decide +kernel
theorem dX10_begin_47 : decode cX10_begin 47 = .ok (.invokevirtual 80, 3) := by decide +kernel
theorem dX10_begin_50 : decode cX10_begin 50 = .ok (.ifCond .eq 5, 3) := by decide +kernel
theorem dX10_begin_53 : decode cX10_begin 53 = .ok (.iconst 0, 1) := by decide +kernel
theorem dX10_begin_54 : decode cX10_begin 54 = .ok (.ireturn, 1) := by decide +kernel
theorem dX10_begin_55 : decode cX10_begin 55 = .ok (.aload_n 0, 1) := by decide +kernel
theorem dX10_begin_56 : decode cX10_begin 56 = .ok (.getfield 45, 3) := by decide +kernel
theorem dX10_begin_59 : decode cX10_begin 59 = .ok (.bipush 7, 2) := by decide +kernel
theorem dX10_begin_61 : decode cX10_begin 61 = .ok (.aload_n 0, 1) := by decide +kernel
theorem dX10_begin_62 : decode cX10_begin 62 = .ok (.getfield 237, 3) := by decide +kernel
theorem dX10_begin_65 : decode cX10_begin 65 = .ok (.imul, 1) := by decide +kernel
theorem dX10_begin_66 : decode cX10_begin 66 = .ok (.iload_n 1, 1) := by decide +kernel
theorem dX10_begin_67 : decode cX10_begin 67 = .ok (.iastore, 1) := by decide +kernel
theorem dX10_begin_68 : decode cX10_begin 68 = .ok (.aload_n 0, 1) := by decide +kernel
theorem dX10_begin_69 : decode cX10_begin 69 = .ok (.getfield 48, 3) := by decide +kernel
theorem dX10_begin_72 : decode cX10_begin 72 = .ok (.aload_n 0, 1) := by decide +kernel
theorem dX10_begin_73 : decode cX10_begin 73 = .ok (.getfield 237, 3) := by decide +kernel
theorem dX10_begin_76 : decode cX10_begin 76 = .ok (.iconst 0, 1) := by decide +kernel
theorem dX10_begin_77 : decode cX10_begin 77 = .ok (.iastore, 1) := by decide +kernel
theorem dX10_begin_78 : decode cX10_begin 78 = .ok (.aload_n 0, 1) := by decide +kernel
theorem dX10_begin_79 : decode cX10_begin 79 = .ok (.dup, 1) := by decide +kernel
theorem dX10_begin_80 : decode cX10_begin 80 = .ok (.getfield 237, 3) := by decide +kernel
theorem dX10_begin_83 : decode cX10_begin 83 = .ok (.dup_x1, 1) := by decide +kernel
theorem dX10_begin_84 : decode cX10_begin 84 = .ok (.iconst 1, 1) := by decide +kernel
theorem dX10_begin_85 : decode cX10_begin 85 = .ok (.iadd, 1) := by decide +kernel
theorem dX10_begin_86 : decode cX10_begin 86 = .ok (.putfield 237, 3) := by decide +kernel
theorem dX10_begin_89 : decode cX10_begin 89 = .ok (.ireturn, 1) := by decide +kernel
theorem dX10_noPolynomial_0 : decode cX10_noPolynomial 0 = .ok (.aload_n 0, 1) := by decide +kernel
theorem dX10_noPolynomial_1 : decode cX10_noPolynomial 1 = .ok (.iload_n 1, 1) := by decide +kernel
theorem dX10_noPolynomial_2 : decode cX10_noPolynomial 2 = .ok (.i2l, 1) := by decide +kernel
theorem dX10_noPolynomial_3 : decode cX10_noPolynomial 3 = .ok (.lconst 0, 1) := by decide +kernel
theorem dX10_noPolynomial_4 : decode cX10_noPolynomial 4 = .ok (.aload_n 0, 1) := by decide +kernel
theorem dX10_noPolynomial_5 : decode cX10_noPolynomial 5 = .ok (.getfield 237, 3) := by decide +kernel
theorem dX10_noPolynomial_8 : decode cX10_noPolynomial 8 = .ok (.iconst 1, 1) := by decide +kernel
theorem dX10_noPolynomial_9 : decode cX10_noPolynomial 9 = .ok (.isub, 1) := by decide +kernel
theorem dX10_noPolynomial_10 : decode cX10_noPolynomial 10 = .ok (.i2l, 1) := by decide +kernel
theorem dX10_noPolynomial_11 : decode cX10_noPolynomial 11 = .ok (.invokestatic 76, 3) := by decide +kernel
theorem dX10_noPolynomial_14 : decode cX10_noPolynomial 14 = .ok (.iconst 1, 1) := by decide +kernel
theorem dX10_noPolynomial_15 : decode cX10_noPolynomial 15 = .ok (.invokevirtual 80, 3) := by decide +kernel
theorem dX10_noPolynomial_18 : decode cX10_noPolynomial 18 = .ok (.ireturn, 1) := by decide +kernel
theorem dX10_term_0 : decode cX10_term 0 = .ok (.aload_n 0, 1) := by decide +kernel
theorem dX10_term_1 : decode cX10_term 1 = .ok (.iload_n 1, 1) := by decide +kernel
theorem dX10_term_2 : decode cX10_term 2 = .ok (.invokevirtual 240, 3) := by decide +kernel
theorem dX10_term_5 : decode cX10_term 5 = .ok (.ifCond .ne 54, 3) := by decide +kernel
theorem dX10_term_8 : decode cX10_term 8 = .ok (.aload_n 0, 1) := by decide +kernel
theorem dX10_term_9 : decode cX10_term 9 = .ok (.iload_n 2, 1) := by decide +kernel
theorem dX10_term_10 : decode cX10_term 10 = .ok (.i2l, 1) := by decide +kernel
theorem dX10_term_11 : decode cX10_term 11 = .ok (.aload_n 0, 1) := by decide +kernel
theorem dX10_term_12 : decode cX10_term 12 = .ok (.getfield 48, 3) := by decide +kernel
theorem dX10_term_15 : decode cX10_term 15 = .ok (.iload_n 1, 1) := by decide +kernel
theorem dX10_term_16 : decode cX10_term 16 = .ok (.iaload, 1) := by decide +kernel
theorem dX10_term_17 : decode cX10_term 17 = .ok (.iconst 1, 1) := by decide +kernel
theorem dX10_term_18 : decode cX10_term 18 = .ok (.iadd, 1) := by decide +kernel
theorem dX10_term_19 : decode cX10_term 19 = .ok (.i2l, 1) := by decide +kernel
theorem dX10_term_20 : decode cX10_term 20 = .ok (.ldc2_w 243, 3) := by decide +kernel
theorem dX10_term_23 : decode cX10_term 23 = .ok (.invokestatic 76, 3) := by decide +kernel
theorem dX10_term_26 : decode cX10_term 26 = .ok (.ifCond .eq 25, 3) := by decide +kernel
theorem dX10_term_29 : decode cX10_term 29 = .ok (.iload_n 3, 1) := by decide +kernel
theorem dX10_term_30 : decode cX10_term 30 = .ok (.i2l, 1) := by decide +kernel
theorem dX10_term_31 : decode cX10_term 31 = .ok (.ldc2_w 233, 3) := by decide +kernel
theorem dX10_term_34 : decode cX10_term 34 = .ok (.ldc2_w 235, 3) := by decide +kernel
theorem dX10_term_37 : decode cX10_term 37 = .ok (.invokestatic 76, 3) := by decide +kernel
theorem dX10_term_40 : decode cX10_term 40 = .ok (.ifCond .eq 11, 3) := by decide +kernel
theorem dX10_term_43 : decode cX10_term 43 = .ok (.iload_n 3, 1) := by decide +kernel
theorem dX10_term_44 : decode cX10_term 44 = .ok (.ifCond .eq 7, 3) := by decide +kernel
theorem dX10_term_47 : decode cX10_term 47 = .ok (.iconst 1, 1) := by decide +kernel
theorem dX10_term_48 : decode cX10_term 48 = .ok (.goto 4, 3) := by decide +kernel
theorem dX10_term_51 : decode cX10_term 51 = .ok (.iconst 0, 1) := by decide +kernel
theorem dX10_term_52 : decode cX10_term 52 = .ok (.iconst 2, 1) := by decide +kernel
theorem dX10_term_53 : decode cX10_term 53 = .ok (.invokevirtual 80, 3) := by decide +kernel
theorem dX10_term_56 : decode cX10_term 56 = .ok (.ifCond .eq 5, 3) := by decide +kernel
theorem dX10_term_59 : decode cX10_term 59 = .ok (.iconst 0, 1) := by decide +kernel
theorem dX10_term_60 : decode cX10_term 60 = .ok (.ireturn, 1) := by decide +kernel
theorem dX10_term_61 : decode cX10_term 61 = .ok (.aload_n 0, 1) := by decide +kernel
theorem dX10_term_62 : decode cX10_term 62 = .ok (.getfield 45, 3) := by decide +kernel
theorem dX10_term_65 : decode cX10_term 65 = .ok (.bipush 7, 2) := by decide +kernel
theorem dX10_term_67 : decode cX10_term 67 = .ok (.iload_n 1, 1) := by decide +kernel
theorem dX10_term_68 : decode cX10_term 68 = .ok (.imul, 1) := by decide +kernel
theorem dX10_term_69 : decode cX10_term 69 = .ok (.iload_n 2, 1) := by decide +kernel
theorem dX10_term_70 : decode cX10_term 70 = .ok (.iadd, 1) := by decide +kernel
theorem dX10_term_71 : decode cX10_term 71 = .ok (.iload_n 3, 1) := by decide +kernel
theorem dX10_term_72 : decode cX10_term 72 = .ok (.iastore, 1) := by decide +kernel
theorem dX10_term_73 : decode cX10_term 73 = .ok (.aload_n 0, 1) := by decide +kernel
theorem dX10_term_74 : decode cX10_term 74 = .ok (.getfield 48, 3) := by decide +kernel
theorem dX10_term_77 : decode cX10_term 77 = .ok (.iload_n 1, 1) := by decide +kernel
theorem dX10_term_78 : decode cX10_term 78 = .ok (.iload_n 2, 1) := by decide +kernel
theorem dX10_term_79 : decode cX10_term 79 = .ok (.iastore, 1) := by decide +kernel
theorem dX10_term_80 : decode cX10_term 80 = .ok (.iconst 0, 1) := by decide +kernel
theorem dX10_term_81 : decode cX10_term 81 = .ok (.istore 4, 2) := by decide +kernel
theorem dX10_term_83 : decode cX10_term 83 = .ok (.iconst 0, 1) := by decide +kernel
theorem dX10_term_84 : decode cX10_term 84 = .ok (.istore 5, 2) := by decide +kernel
theorem dX10_term_86 : decode cX10_term 86 = .ok (.iload 5, 2) := by decide +kernel
theorem dX10_term_88 : decode cX10_term 88 = .ok (.bipush 7, 2) := by decide +kernel
theorem dX10_term_90 : decode cX10_term 90 = .ok (.if_icmp .ge 34, 3) := by decide +kernel
theorem dX10_term_93 : decode cX10_term 93 = .ok (.iload 4, 2) := by decide +kernel
theorem dX10_term_95 : decode cX10_term 95 = .ok (.aload_n 0, 1) := by decide +kernel
theorem dX10_term_96 : decode cX10_term 96 = .ok (.getfield 45, 3) := by decide +kernel
theorem dX10_term_99 : decode cX10_term 99 = .ok (.bipush 7, 2) := by decide +kernel
theorem dX10_term_101 : decode cX10_term 101 = .ok (.iload_n 1, 1) := by decide +kernel
theorem dX10_term_102 : decode cX10_term 102 = .ok (.imul, 1) := by decide +kernel
theorem dX10_term_103 : decode cX10_term 103 = .ok (.iload 5, 2) := by decide +kernel
theorem dX10_term_105 : decode cX10_term 105 = .ok (.iadd, 1) := by decide +kernel
theorem dX10_term_106 : decode cX10_term 106 = .ok (.iaload, 1) := by decide +kernel
theorem dX10_term_107 : decode cX10_term 107 = .ok (.ifCond .ne 7, 3) := by decide +kernel
theorem dX10_term_110 : decode cX10_term 110 = .ok (.iconst 0, 1) := by decide +kernel
theorem dX10_term_111 : decode cX10_term 111 = .ok (.goto 4, 3) := by decide +kernel
theorem dX10_term_114 : decode cX10_term 114 = .ok (.iconst 1, 1) := by decide +kernel
theorem dX10_term_115 : decode cX10_term 115 = .ok (.iadd, 1) := by decide +kernel
theorem dX10_term_116 : decode cX10_term 116 = .ok (.istore 4, 2) := by decide +kernel
theorem dX10_term_118 : decode cX10_term 118 = .ok (.iinc 5 1, 3) := by decide +kernel
theorem dX10_term_121 : decode cX10_term 121 = .ok (.goto (-35), 3) := by decide +kernel
theorem dX10_term_124 : decode cX10_term 124 = .ok (.iload 4, 2) := by decide +kernel
theorem dX10_term_126 : decode cX10_term 126 = .ok (.ireturn, 1) := by decide +kernel
theorem dX10_lowerHull_0 : decode cX10_lowerHull 0 = .ok (.iconst 0, 1) := by decide +kernel
theorem dX10_lowerHull_1 : decode cX10_lowerHull 1 = .ok (.istore_n 2, 1) := by decide +kernel
theorem dX10_lowerHull_2 : decode cX10_lowerHull 2 = .ok (.aload_n 0, 1) := by decide +kernel
theorem dX10_lowerHull_3 : decode cX10_lowerHull 3 = .ok (.iconst 0, 1) := by decide +kernel
theorem dX10_lowerHull_4 : decode cX10_lowerHull 4 = .ok (.putfield 245, 3) := by decide +kernel
theorem dX10_lowerHull_7 : decode cX10_lowerHull 7 = .ok (.iload_n 2, 1) := by decide +kernel
theorem dX10_lowerHull_8 : decode cX10_lowerHull 8 = .ok (.aload_n 0, 1) := by decide +kernel
theorem dX10_lowerHull_9 : decode cX10_lowerHull 9 = .ok (.getfield 48, 3) := by decide +kernel
theorem dX10_lowerHull_12 : decode cX10_lowerHull 12 = .ok (.iload_n 1, 1) := by decide +kernel
theorem dX10_lowerHull_13 : decode cX10_lowerHull 13 = .ok (.iaload, 1) := by decide +kernel
theorem dX10_lowerHull_14 : decode cX10_lowerHull 14 = .ok (.if_icmp .ge 184, 3) := by decide +kernel
theorem dX10_lowerHull_17 : decode cX10_lowerHull 17 = .ok (.iconst (-1), 1) := by decide +kernel
theorem dX10_lowerHull_18 : decode cX10_lowerHull 18 = .ok (.istore_n 3, 1) := by decide +kernel
theorem dX10_lowerHull_19 : decode cX10_lowerHull 19 = .ok (.iload_n 2, 1) := by decide +kernel
theorem dX10_lowerHull_20 : decode cX10_lowerHull 20 = .ok (.iconst 1, 1) := by decide +kernel
theorem dX10_lowerHull_21 : decode cX10_lowerHull 21 = .ok (.iadd, 1) := by decide +kernel
theorem dX10_lowerHull_22 : decode cX10_lowerHull 22 = .ok (.istore 4, 2) := by decide +kernel
theorem dX10_lowerHull_24 : decode cX10_lowerHull 24 = .ok (.iload 4, 2) := by decide +kernel
theorem dX10_lowerHull_26 : decode cX10_lowerHull 26 = .ok (.aload_n 0, 1) := by decide +kernel
theorem dX10_lowerHull_27 : decode cX10_lowerHull 27 = .ok (.getfield 48, 3) := by decide +kernel
theorem dX10_lowerHull_30 : decode cX10_lowerHull 30 = .ok (.iload_n 1, 1) := by decide +kernel
theorem dX10_lowerHull_31 : decode cX10_lowerHull 31 = .ok (.iaload, 1) := by decide +kernel
theorem dX10_lowerHull_32 : decode cX10_lowerHull 32 = .ok (.if_icmp .gt 131, 3) := by decide +kernel
theorem dX10_lowerHull_35 : decode cX10_lowerHull 35 = .ok (.aload_n 0, 1) := by decide +kernel
theorem dX10_lowerHull_36 : decode cX10_lowerHull 36 = .ok (.getfield 45, 3) := by decide +kernel
theorem dX10_lowerHull_39 : decode cX10_lowerHull 39 = .ok (.bipush 7, 2) := by decide +kernel
theorem dX10_lowerHull_41 : decode cX10_lowerHull 41 = .ok (.iload_n 1, 1) := by decide +kernel
theorem dX10_lowerHull_42 : decode cX10_lowerHull 42 = .ok (.imul, 1) := by decide +kernel
theorem dX10_lowerHull_43 : decode cX10_lowerHull 43 = .ok (.iload 4, 2) := by decide +kernel
theorem dX10_lowerHull_45 : decode cX10_lowerHull 45 = .ok (.iadd, 1) := by decide +kernel
theorem dX10_lowerHull_46 : decode cX10_lowerHull 46 = .ok (.iaload, 1) := by decide +kernel
theorem dX10_lowerHull_47 : decode cX10_lowerHull 47 = .ok (.ifCond .ne 6, 3) := by decide +kernel
theorem dX10_lowerHull_50 : decode cX10_lowerHull 50 = .ok (.goto 107, 3) := by decide +kernel
theorem dX10_lowerHull_53 : decode cX10_lowerHull 53 = .ok (.aload_n 0, 1) := by decide +kernel
theorem dX10_lowerHull_54 : decode cX10_lowerHull 54 = .ok (.aload_n 0, 1) := by decide +kernel
theorem dX10_lowerHull_55 : decode cX10_lowerHull 55 = .ok (.getfield 45, 3) := by decide +kernel
theorem dX10_lowerHull_58 : decode cX10_lowerHull 58 = .ok (.bipush 7, 2) := by decide +kernel
theorem dX10_lowerHull_60 : decode cX10_lowerHull 60 = .ok (.iload_n 1, 1) := by decide +kernel
theorem dX10_lowerHull_61 : decode cX10_lowerHull 61 = .ok (.imul, 1) := by decide +kernel
theorem dX10_lowerHull_62 : decode cX10_lowerHull 62 = .ok (.iload 4, 2) := by decide +kernel
theorem dX10_lowerHull_64 : decode cX10_lowerHull 64 = .ok (.iadd, 1) := by decide +kernel
theorem dX10_lowerHull_65 : decode cX10_lowerHull 65 = .ok (.iaload, 1) := by decide +kernel
theorem dX10_lowerHull_66 : decode cX10_lowerHull 66 = .ok (.i2l, 1) := by decide +kernel
theorem dX10_lowerHull_67 : decode cX10_lowerHull 67 = .ok (.invokevirtual 120, 3) := by decide +kernel
theorem dX10_lowerHull_70 : decode cX10_lowerHull 70 = .ok (.aload_n 0, 1) := by decide +kernel
theorem dX10_lowerHull_71 : decode cX10_lowerHull 71 = .ok (.aload_n 0, 1) := by decide +kernel
theorem dX10_lowerHull_72 : decode cX10_lowerHull 72 = .ok (.getfield 45, 3) := by decide +kernel
theorem dX10_lowerHull_75 : decode cX10_lowerHull 75 = .ok (.bipush 7, 2) := by decide +kernel
theorem dX10_lowerHull_77 : decode cX10_lowerHull 77 = .ok (.iload_n 1, 1) := by decide +kernel
theorem dX10_lowerHull_78 : decode cX10_lowerHull 78 = .ok (.imul, 1) := by decide +kernel
theorem dX10_lowerHull_79 : decode cX10_lowerHull 79 = .ok (.iload_n 2, 1) := by decide +kernel
theorem dX10_lowerHull_80 : decode cX10_lowerHull 80 = .ok (.iadd, 1) := by decide +kernel
theorem dX10_lowerHull_81 : decode cX10_lowerHull 81 = .ok (.iaload, 1) := by decide +kernel
theorem dX10_lowerHull_82 : decode cX10_lowerHull 82 = .ok (.i2l, 1) := by decide +kernel
theorem dX10_lowerHull_83 : decode cX10_lowerHull 83 = .ok (.invokevirtual 120, 3) := by decide +kernel
theorem dX10_lowerHull_86 : decode cX10_lowerHull 86 = .ok (.isub, 1) := by decide +kernel
theorem dX10_lowerHull_87 : decode cX10_lowerHull 87 = .ok (.istore 5, 2) := by decide +kernel
theorem dX10_lowerHull_89 : decode cX10_lowerHull 89 = .ok (.iload_n 3, 1) := by decide +kernel
theorem dX10_lowerHull_90 : decode cX10_lowerHull 90 = .ok (.iconst (-1), 1) := by decide +kernel
theorem dX10_lowerHull_91 : decode cX10_lowerHull 91 = .ok (.if_icmp .ne 7, 3) := by decide +kernel
theorem dX10_lowerHull_94 : decode cX10_lowerHull 94 = .ok (.iconst 0, 1) := by decide +kernel
theorem dX10_lowerHull_95 : decode cX10_lowerHull 95 = .ok (.goto 36, 3) := by decide +kernel
theorem dX10_lowerHull_98 : decode cX10_lowerHull 98 = .ok (.aload_n 0, 1) := by decide +kernel
theorem dX10_lowerHull_99 : decode cX10_lowerHull 99 = .ok (.aload_n 0, 1) := by decide +kernel
theorem dX10_lowerHull_100 : decode cX10_lowerHull 100 = .ok (.getfield 45, 3) := by decide +kernel
theorem dX10_lowerHull_103 : decode cX10_lowerHull 103 = .ok (.bipush 7, 2) := by decide +kernel
theorem dX10_lowerHull_105 : decode cX10_lowerHull 105 = .ok (.iload_n 1, 1) := by decide +kernel
theorem dX10_lowerHull_106 : decode cX10_lowerHull 106 = .ok (.imul, 1) := by decide +kernel
theorem dX10_lowerHull_107 : decode cX10_lowerHull 107 = .ok (.iload_n 3, 1) := by decide +kernel
theorem dX10_lowerHull_108 : decode cX10_lowerHull 108 = .ok (.iadd, 1) := by decide +kernel
theorem dX10_lowerHull_109 : decode cX10_lowerHull 109 = .ok (.iaload, 1) := by decide +kernel
theorem dX10_lowerHull_110 : decode cX10_lowerHull 110 = .ok (.i2l, 1) := by decide +kernel
theorem dX10_lowerHull_111 : decode cX10_lowerHull 111 = .ok (.invokevirtual 120, 3) := by decide +kernel
theorem dX10_lowerHull_114 : decode cX10_lowerHull 114 = .ok (.aload_n 0, 1) := by decide +kernel
theorem dX10_lowerHull_115 : decode cX10_lowerHull 115 = .ok (.aload_n 0, 1) := by decide +kernel
theorem dX10_lowerHull_116 : decode cX10_lowerHull 116 = .ok (.getfield 45, 3) := by decide +kernel
theorem dX10_lowerHull_119 : decode cX10_lowerHull 119 = .ok (.bipush 7, 2) := by decide +kernel
theorem dX10_lowerHull_121 : decode cX10_lowerHull 121 = .ok (.iload_n 1, 1) := by decide +kernel
theorem dX10_lowerHull_122 : decode cX10_lowerHull 122 = .ok (.imul, 1) := by decide +kernel
theorem dX10_lowerHull_123 : decode cX10_lowerHull 123 = .ok (.iload_n 2, 1) := by decide +kernel
theorem dX10_lowerHull_124 : decode cX10_lowerHull 124 = .ok (.iadd, 1) := by decide +kernel
theorem dX10_lowerHull_125 : decode cX10_lowerHull 125 = .ok (.iaload, 1) := by decide +kernel
theorem dX10_lowerHull_126 : decode cX10_lowerHull 126 = .ok (.i2l, 1) := by decide +kernel
theorem dX10_lowerHull_127 : decode cX10_lowerHull 127 = .ok (.invokevirtual 120, 3) := by decide +kernel
theorem dX10_lowerHull_130 : decode cX10_lowerHull 130 = .ok (.isub, 1) := by decide +kernel
theorem dX10_lowerHull_131 : decode cX10_lowerHull 131 = .ok (.istore 6, 2) := by decide +kernel
theorem dX10_lowerHull_133 : decode cX10_lowerHull 133 = .ok (.iload_n 3, 1) := by decide +kernel
theorem dX10_lowerHull_134 : decode cX10_lowerHull 134 = .ok (.iconst (-1), 1) := by decide +kernel
theorem dX10_lowerHull_135 : decode cX10_lowerHull 135 = .ok (.if_icmp .eq 19, 3) := by decide +kernel
theorem dX10_lowerHull_138 : decode cX10_lowerHull 138 = .ok (.iload 5, 2) := by decide +kernel
theorem dX10_lowerHull_140 : decode cX10_lowerHull 140 = .ok (.iload_n 3, 1) := by decide +kernel
theorem dX10_lowerHull_141 : decode cX10_lowerHull 141 = .ok (.iload_n 2, 1) := by decide +kernel
theorem dX10_lowerHull_142 : decode cX10_lowerHull 142 = .ok (.isub, 1) := by decide +kernel
theorem dX10_lowerHull_143 : decode cX10_lowerHull 143 = .ok (.imul, 1) := by decide +kernel
theorem dX10_lowerHull_144 : decode cX10_lowerHull 144 = .ok (.iload 6, 2) := by decide +kernel
theorem dX10_lowerHull_146 : decode cX10_lowerHull 146 = .ok (.iload 4, 2) := by decide +kernel
theorem dX10_lowerHull_148 : decode cX10_lowerHull 148 = .ok (.iload_n 2, 1) := by decide +kernel
theorem dX10_lowerHull_149 : decode cX10_lowerHull 149 = .ok (.isub, 1) := by decide +kernel
theorem dX10_lowerHull_150 : decode cX10_lowerHull 150 = .ok (.imul, 1) := by decide +kernel
theorem dX10_lowerHull_151 : decode cX10_lowerHull 151 = .ok (.if_icmp .gt 6, 3) := by decide +kernel
theorem dX10_lowerHull_154 : decode cX10_lowerHull 154 = .ok (.iload 4, 2) := by decide +kernel
theorem dX10_lowerHull_156 : decode cX10_lowerHull 156 = .ok (.istore_n 3, 1) := by decide +kernel
theorem dX10_lowerHull_157 : decode cX10_lowerHull 157 = .ok (.iinc 4 1, 3) := by decide +kernel
theorem dX10_lowerHull_160 : decode cX10_lowerHull 160 = .ok (.goto (-136), 3) := by decide +kernel
theorem dX10_lowerHull_163 : decode cX10_lowerHull 163 = .ok (.aload_n 0, 1) := by decide +kernel
theorem dX10_lowerHull_164 : decode cX10_lowerHull 164 = .ok (.getfield 57, 3) := by decide +kernel
theorem dX10_lowerHull_167 : decode cX10_lowerHull 167 = .ok (.aload_n 0, 1) := by decide +kernel
theorem dX10_lowerHull_168 : decode cX10_lowerHull 168 = .ok (.getfield 245, 3) := by decide +kernel
theorem dX10_lowerHull_171 : decode cX10_lowerHull 171 = .ok (.iload_n 2, 1) := by decide +kernel
theorem dX10_lowerHull_172 : decode cX10_lowerHull 172 = .ok (.iastore, 1) := by decide +kernel
theorem dX10_lowerHull_173 : decode cX10_lowerHull 173 = .ok (.aload_n 0, 1) := by decide +kernel
theorem dX10_lowerHull_174 : decode cX10_lowerHull 174 = .ok (.getfield 60, 3) := by decide +kernel
theorem dX10_lowerHull_177 : decode cX10_lowerHull 177 = .ok (.aload_n 0, 1) := by decide +kernel
theorem dX10_lowerHull_178 : decode cX10_lowerHull 178 = .ok (.getfield 245, 3) := by decide +kernel
theorem dX10_lowerHull_181 : decode cX10_lowerHull 181 = .ok (.iload_n 3, 1) := by decide +kernel
theorem dX10_lowerHull_182 : decode cX10_lowerHull 182 = .ok (.iastore, 1) := by decide +kernel
theorem dX10_lowerHull_183 : decode cX10_lowerHull 183 = .ok (.aload_n 0, 1) := by decide +kernel
theorem dX10_lowerHull_184 : decode cX10_lowerHull 184 = .ok (.dup, 1) := by decide +kernel
theorem dX10_lowerHull_185 : decode cX10_lowerHull 185 = .ok (.getfield 245, 3) := by decide +kernel
theorem dX10_lowerHull_188 : decode cX10_lowerHull 188 = .ok (.iconst 1, 1) := by decide +kernel
theorem dX10_lowerHull_189 : decode cX10_lowerHull 189 = .ok (.iadd, 1) := by decide +kernel
theorem dX10_lowerHull_190 : decode cX10_lowerHull 190 = .ok (.putfield 245, 3) := by decide +kernel
theorem dX10_lowerHull_193 : decode cX10_lowerHull 193 = .ok (.iload_n 3, 1) := by decide +kernel
theorem dX10_lowerHull_194 : decode cX10_lowerHull 194 = .ok (.istore_n 2, 1) := by decide +kernel
theorem dX10_lowerHull_195 : decode cX10_lowerHull 195 = .ok (.goto (-188), 3) := by decide +kernel
theorem dX10_lowerHull_198 : decode cX10_lowerHull 198 = .ok (.return_, 1) := by decide +kernel
theorem dX10_sides_0 : decode cX10_sides 0 = .ok (.aload_n 0, 1) := by decide +kernel
theorem dX10_sides_1 : decode cX10_sides 1 = .ok (.iload_n 1, 1) := by decide +kernel
theorem dX10_sides_2 : decode cX10_sides 2 = .ok (.invokevirtual 240, 3) := by decide +kernel
theorem dX10_sides_5 : decode cX10_sides 5 = .ok (.ifCond .eq 5, 3) := by decide +kernel
theorem dX10_sides_8 : decode cX10_sides 8 = .ok (.iconst 0, 1) := by decide +kernel
theorem dX10_sides_9 : decode cX10_sides 9 = .ok (.ireturn, 1) := by decide +kernel
theorem dX10_sides_10 : decode cX10_sides 10 = .ok (.aload_n 0, 1) := by decide +kernel
theorem dX10_sides_11 : decode cX10_sides 11 = .ok (.iload_n 1, 1) := by decide +kernel
theorem dX10_sides_12 : decode cX10_sides 12 = .ok (.invokevirtual 248, 3) := by decide +kernel
theorem dX10_sides_15 : decode cX10_sides 15 = .ok (.aload_n 0, 1) := by decide +kernel
theorem dX10_sides_16 : decode cX10_sides 16 = .ok (.getfield 245, 3) := by decide +kernel
theorem dX10_sides_19 : decode cX10_sides 19 = .ok (.ireturn, 1) := by decide +kernel
theorem dX10_noSide_0 : decode cX10_noSide 0 = .ok (.aload_n 0, 1) := by decide +kernel
theorem dX10_noSide_1 : decode cX10_noSide 1 = .ok (.iload_n 1, 1) := by decide +kernel
theorem dX10_noSide_2 : decode cX10_noSide 2 = .ok (.invokevirtual 240, 3) := by decide +kernel
theorem dX10_noSide_5 : decode cX10_noSide 5 = .ok (.ifCond .eq 5, 3) := by decide +kernel
theorem dX10_noSide_8 : decode cX10_noSide 8 = .ok (.iconst 1, 1) := by decide +kernel
theorem dX10_noSide_9 : decode cX10_noSide 9 = .ok (.ireturn, 1) := by decide +kernel
theorem dX10_noSide_10 : decode cX10_noSide 10 = .ok (.aload_n 0, 1) := by decide +kernel
theorem dX10_noSide_11 : decode cX10_noSide 11 = .ok (.iload_n 1, 1) := by decide +kernel
theorem dX10_noSide_12 : decode cX10_noSide 12 = .ok (.invokevirtual 248, 3) := by decide +kernel
theorem dX10_noSide_15 : decode cX10_noSide 15 = .ok (.aload_n 0, 1) := by decide +kernel
theorem dX10_noSide_16 : decode cX10_noSide 16 = .ok (.iload_n 2, 1) := by decide +kernel
theorem dX10_noSide_17 : decode cX10_noSide 17 = .ok (.i2l, 1) := by decide +kernel
theorem dX10_noSide_18 : decode cX10_noSide 18 = .ok (.lconst 0, 1) := by decide +kernel
theorem dX10_noSide_19 : decode cX10_noSide 19 = .ok (.aload_n 0, 1) := by decide +kernel
theorem dX10_noSide_20 : decode cX10_noSide 20 = .ok (.getfield 245, 3) := by decide +kernel
theorem dX10_noSide_23 : decode cX10_noSide 23 = .ok (.iconst 1, 1) := by decide +kernel
theorem dX10_noSide_24 : decode cX10_noSide 24 = .ok (.isub, 1) := by decide +kernel
theorem dX10_noSide_25 : decode cX10_noSide 25 = .ok (.i2l, 1) := by decide +kernel
theorem dX10_noSide_26 : decode cX10_noSide 26 = .ok (.invokestatic 76, 3) := by decide +kernel
theorem dX10_noSide_29 : decode cX10_noSide 29 = .ok (.iconst 1, 1) := by decide +kernel
theorem dX10_noSide_30 : decode cX10_noSide 30 = .ok (.invokevirtual 80, 3) := by decide +kernel
theorem dX10_noSide_33 : decode cX10_noSide 33 = .ok (.ireturn, 1) := by decide +kernel
theorem dX10_length_0 : decode cX10_length 0 = .ok (.aload_n 0, 1) := by decide +kernel
theorem dX10_length_1 : decode cX10_length 1 = .ok (.iload_n 1, 1) := by decide +kernel
theorem dX10_length_2 : decode cX10_length 2 = .ok (.iload_n 2, 1) := by decide +kernel
theorem dX10_length_3 : decode cX10_length 3 = .ok (.invokevirtual 251, 3) := by decide +kernel
theorem dX10_length_6 : decode cX10_length 6 = .ok (.ifCond .eq 7, 3) := by decide +kernel
theorem dX10_length_9 : decode cX10_length 9 = .ok (.iconst 0, 1) := by decide +kernel
theorem dX10_length_10 : decode cX10_length 10 = .ok (.goto 16, 3) := by decide +kernel
theorem dX10_length_13 : decode cX10_length 13 = .ok (.aload_n 0, 1) := by decide +kernel
theorem dX10_length_14 : decode cX10_length 14 = .ok (.getfield 60, 3) := by decide +kernel
theorem dX10_length_17 : decode cX10_length 17 = .ok (.iload_n 2, 1) := by decide +kernel
theorem dX10_length_18 : decode cX10_length 18 = .ok (.iaload, 1) := by decide +kernel
theorem dX10_length_19 : decode cX10_length 19 = .ok (.aload_n 0, 1) := by decide +kernel
theorem dX10_length_20 : decode cX10_length 20 = .ok (.getfield 57, 3) := by decide +kernel
theorem dX10_length_23 : decode cX10_length 23 = .ok (.iload_n 2, 1) := by decide +kernel
theorem dX10_length_24 : decode cX10_length 24 = .ok (.iaload, 1) := by decide +kernel
theorem dX10_length_25 : decode cX10_length 25 = .ok (.isub, 1) := by decide +kernel
theorem dX10_length_26 : decode cX10_length 26 = .ok (.ireturn, 1) := by decide +kernel
theorem dX10_slope_0 : decode cX10_slope 0 = .ok (.aload_n 0, 1) := by decide +kernel
theorem dX10_slope_1 : decode cX10_slope 1 = .ok (.iload_n 1, 1) := by decide +kernel
theorem dX10_slope_2 : decode cX10_slope 2 = .ok (.iload_n 2, 1) := by decide +kernel
theorem dX10_slope_3 : decode cX10_slope 3 = .ok (.invokevirtual 251, 3) := by decide +kernel
theorem dX10_slope_6 : decode cX10_slope 6 = .ok (.ifCond .eq 5, 3) := by decide +kernel
theorem dX10_slope_9 : decode cX10_slope 9 = .ok (.iconst 0, 1) := by decide +kernel
theorem dX10_slope_10 : decode cX10_slope 10 = .ok (.ireturn, 1) := by decide +kernel
theorem dX10_slope_11 : decode cX10_slope 11 = .ok (.aload_n 0, 1) := by decide +kernel
theorem dX10_slope_12 : decode cX10_slope 12 = .ok (.getfield 60, 3) := by decide +kernel
theorem dX10_slope_15 : decode cX10_slope 15 = .ok (.iload_n 2, 1) := by decide +kernel
theorem dX10_slope_16 : decode cX10_slope 16 = .ok (.iaload, 1) := by decide +kernel
theorem dX10_slope_17 : decode cX10_slope 17 = .ok (.aload_n 0, 1) := by decide +kernel
theorem dX10_slope_18 : decode cX10_slope 18 = .ok (.getfield 57, 3) := by decide +kernel
theorem dX10_slope_21 : decode cX10_slope 21 = .ok (.iload_n 2, 1) := by decide +kernel
theorem dX10_slope_22 : decode cX10_slope 22 = .ok (.iaload, 1) := by decide +kernel
theorem dX10_slope_23 : decode cX10_slope 23 = .ok (.isub, 1) := by decide +kernel
theorem dX10_slope_24 : decode cX10_slope 24 = .ok (.istore_n 3, 1) := by decide +kernel
theorem dX10_slope_25 : decode cX10_slope 25 = .ok (.aload_n 0, 1) := by decide +kernel
theorem dX10_slope_26 : decode cX10_slope 26 = .ok (.aload_n 0, 1) := by decide +kernel
theorem dX10_slope_27 : decode cX10_slope 27 = .ok (.getfield 45, 3) := by decide +kernel
theorem dX10_slope_30 : decode cX10_slope 30 = .ok (.bipush 7, 2) := by decide +kernel
theorem dX10_slope_32 : decode cX10_slope 32 = .ok (.iload_n 1, 1) := by decide +kernel
theorem dX10_slope_33 : decode cX10_slope 33 = .ok (.imul, 1) := by decide +kernel
theorem dX10_slope_34 : decode cX10_slope 34 = .ok (.aload_n 0, 1) := by decide +kernel
theorem dX10_slope_35 : decode cX10_slope 35 = .ok (.getfield 60, 3) := by decide +kernel
theorem dX10_slope_38 : decode cX10_slope 38 = .ok (.iload_n 2, 1) := by decide +kernel
theorem dX10_slope_39 : decode cX10_slope 39 = .ok (.iaload, 1) := by decide +kernel
theorem dX10_slope_40 : decode cX10_slope 40 = .ok (.iadd, 1) := by decide +kernel
theorem dX10_slope_41 : decode cX10_slope 41 = .ok (.iaload, 1) := by decide +kernel
theorem dX10_slope_42 : decode cX10_slope 42 = .ok (.i2l, 1) := by decide +kernel
theorem dX10_slope_43 : decode cX10_slope 43 = .ok (.invokevirtual 120, 3) := by decide +kernel
theorem dX10_slope_46 : decode cX10_slope 46 = .ok (.aload_n 0, 1) := by decide +kernel
theorem dX10_slope_47 : decode cX10_slope 47 = .ok (.aload_n 0, 1) := by decide +kernel
theorem dX10_slope_48 : decode cX10_slope 48 = .ok (.getfield 45, 3) := by decide +kernel
theorem dX10_slope_51 : decode cX10_slope 51 = .ok (.bipush 7, 2) := by decide +kernel
theorem dX10_slope_53 : decode cX10_slope 53 = .ok (.iload_n 1, 1) := by decide +kernel
theorem dX10_slope_54 : decode cX10_slope 54 = .ok (.imul, 1) := by decide +kernel
theorem dX10_slope_55 : decode cX10_slope 55 = .ok (.aload_n 0, 1) := by decide +kernel
theorem dX10_slope_56 : decode cX10_slope 56 = .ok (.getfield 57, 3) := by decide +kernel
theorem dX10_slope_59 : decode cX10_slope 59 = .ok (.iload_n 2, 1) := by decide +kernel
theorem dX10_slope_60 : decode cX10_slope 60 = .ok (.iaload, 1) := by decide +kernel
theorem dX10_slope_61 : decode cX10_slope 61 = .ok (.iadd, 1) := by decide +kernel
theorem dX10_slope_62 : decode cX10_slope 62 = .ok (.iaload, 1) := by decide +kernel
theorem dX10_slope_63 : decode cX10_slope 63 = .ok (.i2l, 1) := by decide +kernel
theorem dX10_slope_64 : decode cX10_slope 64 = .ok (.invokevirtual 120, 3) := by decide +kernel
theorem dX10_slope_67 : decode cX10_slope 67 = .ok (.isub, 1) := by decide +kernel
theorem dX10_slope_68 : decode cX10_slope 68 = .ok (.istore 4, 2) := by decide +kernel
theorem dX10_slope_70 : decode cX10_slope 70 = .ok (.iload 4, 2) := by decide +kernel
theorem dX10_slope_72 : decode cX10_slope 72 = .ok (.i2l, 1) := by decide +kernel
theorem dX10_slope_73 : decode cX10_slope 73 = .ok (.iload_n 3, 1) := by decide +kernel
theorem dX10_slope_74 : decode cX10_slope 74 = .ok (.i2l, 1) := by decide +kernel
theorem dX10_slope_75 : decode cX10_slope 75 = .ok (.invokestatic 222, 3) := by decide +kernel
theorem dX10_slope_78 : decode cX10_slope 78 = .ok (.l2i, 1) := by decide +kernel
theorem dX10_slope_79 : decode cX10_slope 79 = .ok (.istore 5, 2) := by decide +kernel
theorem dX10_slope_81 : decode cX10_slope 81 = .ok (.bipush 100, 2) := by decide +kernel
theorem dX10_slope_83 : decode cX10_slope 83 = .ok (.iload 4, 2) := by decide +kernel
theorem dX10_slope_85 : decode cX10_slope 85 = .ok (.iload 5, 2) := by decide +kernel
theorem dX10_slope_87 : decode cX10_slope 87 = .ok (.idiv, 1) := by decide +kernel
theorem dX10_slope_88 : decode cX10_slope 88 = .ok (.imul, 1) := by decide +kernel
theorem dX10_slope_89 : decode cX10_slope 89 = .ok (.iload_n 3, 1) := by decide +kernel
theorem dX10_slope_90 : decode cX10_slope 90 = .ok (.iload 5, 2) := by decide +kernel
theorem dX10_slope_92 : decode cX10_slope 92 = .ok (.idiv, 1) := by decide +kernel
theorem dX10_slope_93 : decode cX10_slope 93 = .ok (.iadd, 1) := by decide +kernel
theorem dX10_slope_94 : decode cX10_slope 94 = .ok (.ireturn, 1) := by decide +kernel
theorem dX10_keeps_0 : decode cX10_keeps 0 = .ok (.iconst 0, 1) := by decide +kernel
theorem dX10_keeps_1 : decode cX10_keeps 1 = .ok (.istore_n 2, 1) := by decide +kernel
theorem dX10_keeps_2 : decode cX10_keeps 2 = .ok (.iload_n 2, 1) := by decide +kernel
theorem dX10_keeps_3 : decode cX10_keeps 3 = .ok (.bipush 7, 2) := by decide +kernel
theorem dX10_keeps_5 : decode cX10_keeps 5 = .ok (.if_icmp .ge 39, 3) := by decide +kernel
theorem dX10_keeps_8 : decode cX10_keeps 8 = .ok (.aload_n 0, 1) := by decide +kernel
theorem dX10_keeps_9 : decode cX10_keeps 9 = .ok (.getfield 42, 3) := by decide +kernel
theorem dX10_keeps_12 : decode cX10_keeps 12 = .ok (.bipush 7, 2) := by decide +kernel
theorem dX10_keeps_14 : decode cX10_keeps 14 = .ok (.bipush 39, 2) := by decide +kernel
theorem dX10_keeps_16 : decode cX10_keeps 16 = .ok (.aload_n 0, 1) := by decide +kernel
theorem dX10_keeps_17 : decode cX10_keeps 17 = .ok (.getfield 73, 3) := by decide +kernel
theorem dX10_keeps_20 : decode cX10_keeps 20 = .ok (.invokestatic 100, 3) := by decide +kernel
theorem dX10_keeps_23 : decode cX10_keeps 23 = .ok (.imul, 1) := by decide +kernel
theorem dX10_keeps_24 : decode cX10_keeps 24 = .ok (.iload_n 2, 1) := by decide +kernel
theorem dX10_keeps_25 : decode cX10_keeps 25 = .ok (.iadd, 1) := by decide +kernel
theorem dX10_keeps_26 : decode cX10_keeps 26 = .ok (.aload_n 0, 1) := by decide +kernel
theorem dX10_keeps_27 : decode cX10_keeps 27 = .ok (.getfield 45, 3) := by decide +kernel
theorem dX10_keeps_30 : decode cX10_keeps 30 = .ok (.bipush 7, 2) := by decide +kernel
theorem dX10_keeps_32 : decode cX10_keeps 32 = .ok (.iload_n 1, 1) := by decide +kernel
theorem dX10_keeps_33 : decode cX10_keeps 33 = .ok (.imul, 1) := by decide +kernel
theorem dX10_keeps_34 : decode cX10_keeps 34 = .ok (.iload_n 2, 1) := by decide +kernel
theorem dX10_keeps_35 : decode cX10_keeps 35 = .ok (.iadd, 1) := by decide +kernel
theorem dX10_keeps_36 : decode cX10_keeps 36 = .ok (.iaload, 1) := by decide +kernel
theorem dX10_keeps_37 : decode cX10_keeps 37 = .ok (.iastore, 1) := by decide +kernel
theorem dX10_keeps_38 : decode cX10_keeps 38 = .ok (.iinc 2 1, 3) := by decide +kernel
theorem dX10_keeps_41 : decode cX10_keeps 41 = .ok (.goto (-39), 3) := by decide +kernel
theorem dX10_keeps_44 : decode cX10_keeps 44 = .ok (.return_, 1) := by decide +kernel
theorem dX10_valueAt_0 : decode cX10_valueAt 0 = .ok (.lconst 0, 1) := by decide +kernel
theorem dX10_valueAt_1 : decode cX10_valueAt 1 = .ok (.lstore 7, 2) := by decide +kernel
theorem dX10_valueAt_3 : decode cX10_valueAt 3 = .ok (.bipush 6, 2) := by decide +kernel
theorem dX10_valueAt_5 : decode cX10_valueAt 5 = .ok (.istore 9, 2) := by decide +kernel
theorem dX10_valueAt_7 : decode cX10_valueAt 7 = .ok (.iload 9, 2) := by decide +kernel
theorem dX10_valueAt_9 : decode cX10_valueAt 9 = .ok (.iload 6, 2) := by decide +kernel
theorem dX10_valueAt_11 : decode cX10_valueAt 11 = .ok (.ifCond .eq 7, 3) := by decide +kernel
theorem dX10_valueAt_14 : decode cX10_valueAt 14 = .ok (.iconst 1, 1) := by decide +kernel
theorem dX10_valueAt_15 : decode cX10_valueAt 15 = .ok (.goto 4, 3) := by decide +kernel
theorem dX10_valueAt_18 : decode cX10_valueAt 18 = .ok (.iconst 0, 1) := by decide +kernel
theorem dX10_valueAt_19 : decode cX10_valueAt 19 = .ok (.if_icmp .lt 59, 3) := by decide +kernel
theorem dX10_valueAt_22 : decode cX10_valueAt 22 = .ok (.lload 7, 2) := by decide +kernel
theorem dX10_valueAt_24 : decode cX10_valueAt 24 = .ok (.lload_n 2, 1) := by decide +kernel
theorem dX10_valueAt_25 : decode cX10_valueAt 25 = .ok (.lmul, 1) := by decide +kernel
theorem dX10_valueAt_26 : decode cX10_valueAt 26 = .ok (.iload 6, 2) := by decide +kernel
theorem dX10_valueAt_28 : decode cX10_valueAt 28 = .ok (.ifCond .eq 23, 3) := by decide +kernel
theorem dX10_valueAt_31 : decode cX10_valueAt 31 = .ok (.iload 9, 2) := by decide +kernel
theorem dX10_valueAt_33 : decode cX10_valueAt 33 = .ok (.i2l, 1) := by decide +kernel
theorem dX10_valueAt_34 : decode cX10_valueAt 34 = .ok (.aload_n 0, 1) := by decide +kernel
theorem dX10_valueAt_35 : decode cX10_valueAt 35 = .ok (.getfield 45, 3) := by decide +kernel
theorem dX10_valueAt_38 : decode cX10_valueAt 38 = .ok (.bipush 7, 2) := by decide +kernel
theorem dX10_valueAt_40 : decode cX10_valueAt 40 = .ok (.iload_n 1, 1) := by decide +kernel
theorem dX10_valueAt_41 : decode cX10_valueAt 41 = .ok (.imul, 1) := by decide +kernel
theorem dX10_valueAt_42 : decode cX10_valueAt 42 = .ok (.iload 9, 2) := by decide +kernel
theorem dX10_valueAt_44 : decode cX10_valueAt 44 = .ok (.iadd, 1) := by decide +kernel
theorem dX10_valueAt_45 : decode cX10_valueAt 45 = .ok (.iaload, 1) := by decide +kernel
theorem dX10_valueAt_46 : decode cX10_valueAt 46 = .ok (.i2l, 1) := by decide +kernel
theorem dX10_valueAt_47 : decode cX10_valueAt 47 = .ok (.lmul, 1) := by decide +kernel
theorem dX10_valueAt_48 : decode cX10_valueAt 48 = .ok (.goto 16, 3) := by decide +kernel
theorem dX10_valueAt_51 : decode cX10_valueAt 51 = .ok (.aload_n 0, 1) := by decide +kernel
theorem dX10_valueAt_52 : decode cX10_valueAt 52 = .ok (.getfield 45, 3) := by decide +kernel
theorem dX10_valueAt_55 : decode cX10_valueAt 55 = .ok (.bipush 7, 2) := by decide +kernel
theorem dX10_valueAt_57 : decode cX10_valueAt 57 = .ok (.iload_n 1, 1) := by decide +kernel
theorem dX10_valueAt_58 : decode cX10_valueAt 58 = .ok (.imul, 1) := by decide +kernel
theorem dX10_valueAt_59 : decode cX10_valueAt 59 = .ok (.iload 9, 2) := by decide +kernel
theorem dX10_valueAt_61 : decode cX10_valueAt 61 = .ok (.iadd, 1) := by decide +kernel
theorem dX10_valueAt_62 : decode cX10_valueAt 62 = .ok (.iaload, 1) := by decide +kernel
theorem dX10_valueAt_63 : decode cX10_valueAt 63 = .ok (.i2l, 1) := by decide +kernel
theorem dX10_valueAt_64 : decode cX10_valueAt 64 = .ok (.ladd, 1) := by decide +kernel
theorem dX10_valueAt_65 : decode cX10_valueAt 65 = .ok (.lload 4, 2) := by decide +kernel
theorem dX10_valueAt_67 : decode cX10_valueAt 67 = .ok (.invokestatic 86, 3) := by decide +kernel
theorem dX10_valueAt_70 : decode cX10_valueAt 70 = .ok (.lstore 7, 2) := by decide +kernel
theorem dX10_valueAt_72 : decode cX10_valueAt 72 = .ok (.iinc 9 (-1), 3) := by decide +kernel
theorem dX10_valueAt_75 : decode cX10_valueAt 75 = .ok (.goto (-68), 3) := by decide +kernel
theorem dX10_valueAt_78 : decode cX10_valueAt 78 = .ok (.lload 7, 2) := by decide +kernel
theorem dX10_valueAt_80 : decode cX10_valueAt 80 = .ok (.lreturn, 1) := by decide +kernel
theorem dX10_residueOf_0 : decode cX10_residueOf 0 = .ok (.aload_n 0, 1) := by decide +kernel
theorem dX10_residueOf_1 : decode cX10_residueOf 1 = .ok (.iload_n 1, 1) := by decide +kernel
theorem dX10_residueOf_2 : decode cX10_residueOf 2 = .ok (.iload_n 2, 1) := by decide +kernel
theorem dX10_residueOf_3 : decode cX10_residueOf 3 = .ok (.i2l, 1) := by decide +kernel
theorem dX10_residueOf_4 : decode cX10_residueOf 4 = .ok (.aload_n 0, 1) := by decide +kernel
theorem dX10_residueOf_5 : decode cX10_residueOf 5 = .ok (.getfield 63, 3) := by decide +kernel
theorem dX10_residueOf_8 : decode cX10_residueOf 8 = .ok (.i2l, 1) := by decide +kernel
theorem dX10_residueOf_9 : decode cX10_residueOf 9 = .ok (.iconst 0, 1) := by decide +kernel
theorem dX10_residueOf_10 : decode cX10_residueOf 10 = .ok (.invokevirtual 254, 3) := by decide +kernel
theorem dX10_residueOf_13 : decode cX10_residueOf 13 = .ok (.lconst 0, 1) := by decide +kernel
theorem dX10_residueOf_14 : decode cX10_residueOf 14 = .ok (.lcmp, 1) := by decide +kernel
theorem dX10_residueOf_15 : decode cX10_residueOf 15 = .ok (.ifCond .eq 8, 3) := by decide +kernel
theorem dX10_residueOf_18 : decode cX10_residueOf 18 = .ok (.bipush 45, 2) := by decide +kernel
theorem dX10_residueOf_20 : decode cX10_residueOf 20 = .ok (.goto 28, 3) := by decide +kernel
theorem dX10_residueOf_23 : decode cX10_residueOf 23 = .ok (.aload_n 0, 1) := by decide +kernel
theorem dX10_residueOf_24 : decode cX10_residueOf 24 = .ok (.iload_n 1, 1) := by decide +kernel
theorem dX10_residueOf_25 : decode cX10_residueOf 25 = .ok (.iload_n 2, 1) := by decide +kernel
theorem dX10_residueOf_26 : decode cX10_residueOf 26 = .ok (.i2l, 1) := by decide +kernel
theorem dX10_residueOf_27 : decode cX10_residueOf 27 = .ok (.aload_n 0, 1) := by decide +kernel
theorem dX10_residueOf_28 : decode cX10_residueOf 28 = .ok (.getfield 63, 3) := by decide +kernel
theorem dX10_residueOf_31 : decode cX10_residueOf 31 = .ok (.i2l, 1) := by decide +kernel
theorem dX10_residueOf_32 : decode cX10_residueOf 32 = .ok (.iconst 1, 1) := by decide +kernel
theorem dX10_residueOf_33 : decode cX10_residueOf 33 = .ok (.invokevirtual 254, 3) := by decide +kernel
theorem dX10_residueOf_36 : decode cX10_residueOf 36 = .ok (.lconst 0, 1) := by decide +kernel
theorem dX10_residueOf_37 : decode cX10_residueOf 37 = .ok (.lcmp, 1) := by decide +kernel
theorem dX10_residueOf_38 : decode cX10_residueOf 38 = .ok (.ifCond .eq 8, 3) := by decide +kernel
theorem dX10_residueOf_41 : decode cX10_residueOf 41 = .ok (.bipush 115, 2) := by decide +kernel
theorem dX10_residueOf_43 : decode cX10_residueOf 43 = .ok (.goto 5, 3) := by decide +kernel
theorem dX10_residueOf_46 : decode cX10_residueOf 46 = .ok (.bipush 109, 2) := by decide +kernel
theorem dX10_residueOf_48 : decode cX10_residueOf 48 = .ok (.ireturn, 1) := by decide +kernel
theorem dX10_residue_0 : decode cX10_residue 0 = .ok (.aload_n 0, 1) := by decide +kernel
theorem dX10_residue_1 : decode cX10_residue 1 = .ok (.iload_n 1, 1) := by decide +kernel
theorem dX10_residue_2 : decode cX10_residue 2 = .ok (.invokevirtual 240, 3) := by decide +kernel
theorem dX10_residue_5 : decode cX10_residue 5 = .ok (.ifCond .ne 24, 3) := by decide +kernel
theorem dX10_residue_8 : decode cX10_residue 8 = .ok (.aload_n 0, 1) := by decide +kernel
theorem dX10_residue_9 : decode cX10_residue 9 = .ok (.iload_n 2, 1) := by decide +kernel
theorem dX10_residue_10 : decode cX10_residue 10 = .ok (.i2l, 1) := by decide +kernel
theorem dX10_residue_11 : decode cX10_residue 11 = .ok (.lconst 0, 1) := by decide +kernel
theorem dX10_residue_12 : decode cX10_residue 12 = .ok (.aload_n 0, 1) := by decide +kernel
theorem dX10_residue_13 : decode cX10_residue 13 = .ok (.getfield 63, 3) := by decide +kernel
theorem dX10_residue_16 : decode cX10_residue 16 = .ok (.iconst 1, 1) := by decide +kernel
theorem dX10_residue_17 : decode cX10_residue 17 = .ok (.isub, 1) := by decide +kernel
theorem dX10_residue_18 : decode cX10_residue 18 = .ok (.i2l, 1) := by decide +kernel
theorem dX10_residue_19 : decode cX10_residue 19 = .ok (.invokestatic 76, 3) := by decide +kernel
theorem dX10_residue_22 : decode cX10_residue 22 = .ok (.iconst 2, 1) := by decide +kernel
theorem dX10_residue_23 : decode cX10_residue 23 = .ok (.invokevirtual 80, 3) := by decide +kernel
theorem dX10_residue_26 : decode cX10_residue 26 = .ok (.ifCond .eq 8, 3) := by decide +kernel
theorem dX10_residue_29 : decode cX10_residue 29 = .ok (.bipush 45, 2) := by decide +kernel
theorem dX10_residue_31 : decode cX10_residue 31 = .ok (.goto 9, 3) := by decide +kernel
theorem dX10_residue_34 : decode cX10_residue 34 = .ok (.aload_n 0, 1) := by decide +kernel
theorem dX10_residue_35 : decode cX10_residue 35 = .ok (.iload_n 1, 1) := by decide +kernel
theorem dX10_residue_36 : decode cX10_residue 36 = .ok (.iload_n 2, 1) := by decide +kernel
theorem dX10_residue_37 : decode cX10_residue 37 = .ok (.invokevirtual 257, 3) := by decide +kernel
theorem dX10_residue_40 : decode cX10_residue 40 = .ok (.ireturn, 1) := by decide +kernel
theorem dX10_lift_0 : decode cX10_lift 0 = .ok (.aload_n 0, 1) := by decide +kernel
theorem dX10_lift_1 : decode cX10_lift 1 = .ok (.iload_n 1, 1) := by decide +kernel
theorem dX10_lift_2 : decode cX10_lift 2 = .ok (.invokevirtual 240, 3) := by decide +kernel
theorem dX10_lift_5 : decode cX10_lift 5 = .ok (.ifCond .ne 78, 3) := by decide +kernel
theorem dX10_lift_8 : decode cX10_lift 8 = .ok (.aload_n 0, 1) := by decide +kernel
theorem dX10_lift_9 : decode cX10_lift 9 = .ok (.iload_n 2, 1) := by decide +kernel
theorem dX10_lift_10 : decode cX10_lift 10 = .ok (.i2l, 1) := by decide +kernel
theorem dX10_lift_11 : decode cX10_lift 11 = .ok (.lconst 0, 1) := by decide +kernel
theorem dX10_lift_12 : decode cX10_lift 12 = .ok (.aload_n 0, 1) := by decide +kernel
theorem dX10_lift_13 : decode cX10_lift 13 = .ok (.getfield 63, 3) := by decide +kernel
theorem dX10_lift_16 : decode cX10_lift 16 = .ok (.iconst 1, 1) := by decide +kernel
theorem dX10_lift_17 : decode cX10_lift 17 = .ok (.isub, 1) := by decide +kernel
theorem dX10_lift_18 : decode cX10_lift 18 = .ok (.i2l, 1) := by decide +kernel
theorem dX10_lift_19 : decode cX10_lift 19 = .ok (.invokestatic 76, 3) := by decide +kernel
theorem dX10_lift_22 : decode cX10_lift 22 = .ok (.ifCond .eq 21, 3) := by decide +kernel
theorem dX10_lift_25 : decode cX10_lift 25 = .ok (.iload_n 3, 1) := by decide +kernel
theorem dX10_lift_26 : decode cX10_lift 26 = .ok (.i2l, 1) := by decide +kernel
theorem dX10_lift_27 : decode cX10_lift 27 = .ok (.lconst 1, 1) := by decide +kernel
theorem dX10_lift_28 : decode cX10_lift 28 = .ok (.aload_n 0, 1) := by decide +kernel
theorem dX10_lift_29 : decode cX10_lift 29 = .ok (.invokevirtual 124, 3) := by decide +kernel
theorem dX10_lift_32 : decode cX10_lift 32 = .ok (.i2l, 1) := by decide +kernel
theorem dX10_lift_33 : decode cX10_lift 33 = .ok (.invokestatic 76, 3) := by decide +kernel
theorem dX10_lift_36 : decode cX10_lift 36 = .ok (.ifCond .eq 7, 3) := by decide +kernel
theorem dX10_lift_39 : decode cX10_lift 39 = .ok (.iconst 1, 1) := by decide +kernel
theorem dX10_lift_40 : decode cX10_lift 40 = .ok (.goto 4, 3) := by decide +kernel
theorem dX10_lift_43 : decode cX10_lift 43 = .ok (.iconst 0, 1) := by decide +kernel
theorem dX10_lift_44 : decode cX10_lift 44 = .ok (.iconst 2, 1) := by decide +kernel
theorem dX10_lift_45 : decode cX10_lift 45 = .ok (.invokevirtual 80, 3) := by decide +kernel
theorem dX10_lift_48 : decode cX10_lift 48 = .ok (.ifCond .ne 35, 3) := by decide +kernel
theorem dX10_lift_51 : decode cX10_lift 51 = .ok (.aload_n 0, 1) := by decide +kernel
theorem dX10_lift_52 : decode cX10_lift 52 = .ok (.aload_n 0, 1) := by decide +kernel
theorem dX10_lift_53 : decode cX10_lift 53 = .ok (.iload_n 1, 1) := by decide +kernel
theorem dX10_lift_54 : decode cX10_lift 54 = .ok (.iload_n 2, 1) := by decide +kernel
theorem dX10_lift_55 : decode cX10_lift 55 = .ok (.invokevirtual 257, 3) := by decide +kernel
theorem dX10_lift_58 : decode cX10_lift 58 = .ok (.bipush 115, 2) := by decide +kernel
theorem dX10_lift_60 : decode cX10_lift 60 = .ok (.if_icmp .ne 7, 3) := by decide +kernel
theorem dX10_lift_63 : decode cX10_lift 63 = .ok (.iconst 1, 1) := by decide +kernel
theorem dX10_lift_64 : decode cX10_lift 64 = .ok (.goto 4, 3) := by decide +kernel
theorem dX10_lift_67 : decode cX10_lift 67 = .ok (.iconst 0, 1) := by decide +kernel
theorem dX10_lift_68 : decode cX10_lift 68 = .ok (.iconst 3, 1) := by decide +kernel
theorem dX10_lift_69 : decode cX10_lift 69 = .ok (.invokevirtual 80, 3) := by decide +kernel
theorem dX10_lift_72 : decode cX10_lift 72 = .ok (.ifCond .ne 11, 3) := by decide +kernel
theorem dX10_lift_75 : decode cX10_lift 75 = .ok (.aload_n 0, 1) := by decide +kernel
theorem dX10_lift_76 : decode cX10_lift 76 = .ok (.iconst 4, 1) := by decide +kernel
theorem dX10_lift_77 : decode cX10_lift 77 = .ok (.invokevirtual 202, 3) := by decide +kernel
theorem dX10_lift_80 : decode cX10_lift 80 = .ok (.ifCond .eq 5, 3) := by decide +kernel
theorem dX10_lift_83 : decode cX10_lift 83 = .ok (.iconst 0, 1) := by decide +kernel
theorem dX10_lift_84 : decode cX10_lift 84 = .ok (.ireturn, 1) := by decide +kernel
theorem dX10_lift_85 : decode cX10_lift 85 = .ok (.aload_n 0, 1) := by decide +kernel
theorem dX10_lift_86 : decode cX10_lift 86 = .ok (.iload_n 1, 1) := by decide +kernel
theorem dX10_lift_87 : decode cX10_lift 87 = .ok (.invokevirtual 261, 3) := by decide +kernel
theorem dX10_lift_90 : decode cX10_lift 90 = .ok (.aload_n 0, 1) := by decide +kernel
theorem dX10_lift_91 : decode cX10_lift 91 = .ok (.bipush 7, 2) := by decide +kernel
theorem dX10_lift_93 : decode cX10_lift 93 = .ok (.iload_n 2, 1) := by decide +kernel
theorem dX10_lift_94 : decode cX10_lift 94 = .ok (.iconst 0, 1) := by decide +kernel
theorem dX10_lift_95 : decode cX10_lift 95 = .ok (.iload_n 3, 1) := by decide +kernel
theorem dX10_lift_96 : decode cX10_lift 96 = .ok (.invokevirtual 205, 3) := by decide +kernel
theorem dX10_lift_99 : decode cX10_lift 99 = .ok (.ireturn, 1) := by decide +kernel
theorem dX10_rootsModulo_0 : decode cX10_rootsModulo 0 = .ok (.aload_n 0, 1) := by decide +kernel
theorem dX10_rootsModulo_1 : decode cX10_rootsModulo 1 = .ok (.iload_n 1, 1) := by decide +kernel
theorem dX10_rootsModulo_2 : decode cX10_rootsModulo 2 = .ok (.invokevirtual 240, 3) := by decide +kernel
theorem dX10_rootsModulo_5 : decode cX10_rootsModulo 5 = .ok (.ifCond .eq 5, 3) := by decide +kernel
theorem dX10_rootsModulo_8 : decode cX10_rootsModulo 8 = .ok (.iconst 0, 1) := by decide +kernel
theorem dX10_rootsModulo_9 : decode cX10_rootsModulo 9 = .ok (.ireturn, 1) := by decide +kernel
theorem dX10_rootsModulo_10 : decode cX10_rootsModulo 10 = .ok (.lconst 1, 1) := by decide +kernel
theorem dX10_rootsModulo_11 : decode cX10_rootsModulo 11 = .ok (.lstore_n 3, 1) := by decide +kernel
theorem dX10_rootsModulo_12 : decode cX10_rootsModulo 12 = .ok (.iconst 0, 1) := by decide +kernel
theorem dX10_rootsModulo_13 : decode cX10_rootsModulo 13 = .ok (.istore 5, 2) := by decide +kernel
theorem dX10_rootsModulo_15 : decode cX10_rootsModulo 15 = .ok (.iload 5, 2) := by decide +kernel
theorem dX10_rootsModulo_17 : decode cX10_rootsModulo 17 = .ok (.iload_n 2, 1) := by decide +kernel
theorem dX10_rootsModulo_18 : decode cX10_rootsModulo 18 = .ok (.if_icmp .ge 25, 3) := by decide +kernel
theorem dX10_rootsModulo_21 : decode cX10_rootsModulo 21 = .ok (.lload_n 3, 1) := by decide +kernel
theorem dX10_rootsModulo_22 : decode cX10_rootsModulo 22 = .ok (.ldc2_w 235, 3) := by decide +kernel
theorem dX10_rootsModulo_25 : decode cX10_rootsModulo 25 = .ok (.lcmp, 1) := by decide +kernel
theorem dX10_rootsModulo_26 : decode cX10_rootsModulo 26 = .ok (.ifCond .gt 17, 3) := by decide +kernel
theorem dX10_rootsModulo_29 : decode cX10_rootsModulo 29 = .ok (.lload_n 3, 1) := by decide +kernel
theorem dX10_rootsModulo_30 : decode cX10_rootsModulo 30 = .ok (.aload_n 0, 1) := by decide +kernel
theorem dX10_rootsModulo_31 : decode cX10_rootsModulo 31 = .ok (.getfield 63, 3) := by decide +kernel
theorem dX10_rootsModulo_34 : decode cX10_rootsModulo 34 = .ok (.i2l, 1) := by decide +kernel
theorem dX10_rootsModulo_35 : decode cX10_rootsModulo 35 = .ok (.lmul, 1) := by decide +kernel
theorem dX10_rootsModulo_36 : decode cX10_rootsModulo 36 = .ok (.lstore_n 3, 1) := by decide +kernel
theorem dX10_rootsModulo_37 : decode cX10_rootsModulo 37 = .ok (.iinc 5 1, 3) := by decide +kernel
theorem dX10_rootsModulo_40 : decode cX10_rootsModulo 40 = .ok (.goto (-25), 3) := by decide +kernel
theorem dX10_rootsModulo_43 : decode cX10_rootsModulo 43 = .ok (.aload_n 0, 1) := by decide +kernel
theorem dX10_rootsModulo_44 : decode cX10_rootsModulo 44 = .ok (.iload_n 2, 1) := by decide +kernel
theorem dX10_rootsModulo_45 : decode cX10_rootsModulo 45 = .ok (.iconst 1, 1) := by decide +kernel
theorem dX10_rootsModulo_46 : decode cX10_rootsModulo 46 = .ok (.if_icmp .lt 15, 3) := by decide +kernel
theorem dX10_rootsModulo_49 : decode cX10_rootsModulo 49 = .ok (.lload_n 3, 1) := by decide +kernel
theorem dX10_rootsModulo_50 : decode cX10_rootsModulo 50 = .ok (.ldc2_w 235, 3) := by decide +kernel
theorem dX10_rootsModulo_53 : decode cX10_rootsModulo 53 = .ok (.lcmp, 1) := by decide +kernel
theorem dX10_rootsModulo_54 : decode cX10_rootsModulo 54 = .ok (.ifCond .gt 7, 3) := by decide +kernel
theorem dX10_rootsModulo_57 : decode cX10_rootsModulo 57 = .ok (.iconst 1, 1) := by decide +kernel
theorem dX10_rootsModulo_58 : decode cX10_rootsModulo 58 = .ok (.goto 4, 3) := by decide +kernel
theorem dX10_rootsModulo_61 : decode cX10_rootsModulo 61 = .ok (.iconst 0, 1) := by decide +kernel
theorem dX10_rootsModulo_62 : decode cX10_rootsModulo 62 = .ok (.iconst 2, 1) := by decide +kernel
theorem dX10_rootsModulo_63 : decode cX10_rootsModulo 63 = .ok (.invokevirtual 80, 3) := by decide +kernel
theorem dX10_rootsModulo_66 : decode cX10_rootsModulo 66 = .ok (.ifCond .eq 5, 3) := by decide +kernel
theorem dX10_rootsModulo_69 : decode cX10_rootsModulo 69 = .ok (.iconst 0, 1) := by decide +kernel
theorem dX10_rootsModulo_70 : decode cX10_rootsModulo 70 = .ok (.ireturn, 1) := by decide +kernel
theorem dX10_rootsModulo_71 : decode cX10_rootsModulo 71 = .ok (.iconst 0, 1) := by decide +kernel
theorem dX10_rootsModulo_72 : decode cX10_rootsModulo 72 = .ok (.istore 5, 2) := by decide +kernel
theorem dX10_rootsModulo_74 : decode cX10_rootsModulo 74 = .ok (.lconst 0, 1) := by decide +kernel
theorem dX10_rootsModulo_75 : decode cX10_rootsModulo 75 = .ok (.lstore 6, 2) := by decide +kernel
theorem dX10_rootsModulo_77 : decode cX10_rootsModulo 77 = .ok (.lload 6, 2) := by decide +kernel
theorem dX10_rootsModulo_79 : decode cX10_rootsModulo 79 = .ok (.lload_n 3, 1) := by decide +kernel
theorem dX10_rootsModulo_80 : decode cX10_rootsModulo 80 = .ok (.lcmp, 1) := by decide +kernel
theorem dX10_rootsModulo_81 : decode cX10_rootsModulo 81 = .ok (.ifCond .ge 36, 3) := by decide +kernel
theorem dX10_rootsModulo_84 : decode cX10_rootsModulo 84 = .ok (.iload 5, 2) := by decide +kernel
theorem dX10_rootsModulo_86 : decode cX10_rootsModulo 86 = .ok (.aload_n 0, 1) := by decide +kernel
theorem dX10_rootsModulo_87 : decode cX10_rootsModulo 87 = .ok (.iload_n 1, 1) := by decide +kernel
theorem dX10_rootsModulo_88 : decode cX10_rootsModulo 88 = .ok (.lload 6, 2) := by decide +kernel
theorem dX10_rootsModulo_90 : decode cX10_rootsModulo 90 = .ok (.lload_n 3, 1) := by decide +kernel
theorem dX10_rootsModulo_91 : decode cX10_rootsModulo 91 = .ok (.iconst 0, 1) := by decide +kernel
theorem dX10_rootsModulo_92 : decode cX10_rootsModulo 92 = .ok (.invokevirtual 254, 3) := by decide +kernel
theorem dX10_rootsModulo_95 : decode cX10_rootsModulo 95 = .ok (.lconst 0, 1) := by decide +kernel
theorem dX10_rootsModulo_96 : decode cX10_rootsModulo 96 = .ok (.lcmp, 1) := by decide +kernel
theorem dX10_rootsModulo_97 : decode cX10_rootsModulo 97 = .ok (.ifCond .ne 7, 3) := by decide +kernel
theorem dX10_rootsModulo_100 : decode cX10_rootsModulo 100 = .ok (.iconst 1, 1) := by decide +kernel
theorem dX10_rootsModulo_101 : decode cX10_rootsModulo 101 = .ok (.goto 4, 3) := by decide +kernel
theorem dX10_rootsModulo_104 : decode cX10_rootsModulo 104 = .ok (.iconst 0, 1) := by decide +kernel
theorem dX10_rootsModulo_105 : decode cX10_rootsModulo 105 = .ok (.iadd, 1) := by decide +kernel
theorem dX10_rootsModulo_106 : decode cX10_rootsModulo 106 = .ok (.istore 5, 2) := by decide +kernel
theorem dX10_rootsModulo_108 : decode cX10_rootsModulo 108 = .ok (.lload 6, 2) := by decide +kernel
theorem dX10_rootsModulo_110 : decode cX10_rootsModulo 110 = .ok (.lconst 1, 1) := by decide +kernel
theorem dX10_rootsModulo_111 : decode cX10_rootsModulo 111 = .ok (.ladd, 1) := by decide +kernel
theorem dX10_rootsModulo_112 : decode cX10_rootsModulo 112 = .ok (.lstore 6, 2) := by decide +kernel
theorem dX10_rootsModulo_114 : decode cX10_rootsModulo 114 = .ok (.goto (-37), 3) := by decide +kernel
theorem dX10_rootsModulo_117 : decode cX10_rootsModulo 117 = .ok (.iload 5, 2) := by decide +kernel
theorem dX10_rootsModulo_119 : decode cX10_rootsModulo 119 = .ok (.ireturn, 1) := by decide +kernel
theorem dX10_residueSymbol_0 : decode cX10_residueSymbol 0 = .ok (.lload_n 0, 1) := by decide +kernel
theorem dX10_residueSymbol_1 : decode cX10_residueSymbol 1 = .ok (.iload_n 2, 1) := by decide +kernel
theorem dX10_residueSymbol_2 : decode cX10_residueSymbol 2 = .ok (.iconst 1, 1) := by decide +kernel
theorem dX10_residueSymbol_3 : decode cX10_residueSymbol 3 = .ok (.isub, 1) := by decide +kernel
theorem dX10_residueSymbol_4 : decode cX10_residueSymbol 4 = .ok (.iconst 2, 1) := by decide +kernel
theorem dX10_residueSymbol_5 : decode cX10_residueSymbol 5 = .ok (.idiv, 1) := by decide +kernel
theorem dX10_residueSymbol_6 : decode cX10_residueSymbol 6 = .ok (.i2l, 1) := by decide +kernel
theorem dX10_residueSymbol_7 : decode cX10_residueSymbol 7 = .ok (.iload_n 2, 1) := by decide +kernel
theorem dX10_residueSymbol_8 : decode cX10_residueSymbol 8 = .ok (.i2l, 1) := by decide +kernel
theorem dX10_residueSymbol_9 : decode cX10_residueSymbol 9 = .ok (.invokestatic 96, 3) := by decide +kernel
theorem dX10_residueSymbol_12 : decode cX10_residueSymbol 12 = .ok (.lconst 1, 1) := by decide +kernel
theorem dX10_residueSymbol_13 : decode cX10_residueSymbol 13 = .ok (.lcmp, 1) := by decide +kernel
theorem dX10_residueSymbol_14 : decode cX10_residueSymbol 14 = .ok (.ifCond .ne 7, 3) := by decide +kernel
theorem dX10_residueSymbol_17 : decode cX10_residueSymbol 17 = .ok (.iconst 1, 1) := by decide +kernel
theorem dX10_residueSymbol_18 : decode cX10_residueSymbol 18 = .ok (.goto 4, 3) := by decide +kernel
theorem dX10_residueSymbol_21 : decode cX10_residueSymbol 21 = .ok (.iconst (-1), 1) := by decide +kernel
theorem dX10_residueSymbol_22 : decode cX10_residueSymbol 22 = .ok (.ireturn, 1) := by decide +kernel
theorem dX10_symbolAt_0 : decode cX10_symbolAt 0 = .ok (.iload_n 2, 1) := by decide +kernel
theorem dX10_symbolAt_1 : decode cX10_symbolAt 1 = .ok (.ifCond .ne 17, 3) := by decide +kernel
theorem dX10_symbolAt_4 : decode cX10_symbolAt 4 = .ok (.iload_n 0, 1) := by decide +kernel
theorem dX10_symbolAt_5 : decode cX10_symbolAt 5 = .ok (.ifCond .ge 11, 3) := by decide +kernel
theorem dX10_symbolAt_8 : decode cX10_symbolAt 8 = .ok (.iload_n 1, 1) := by decide +kernel
theorem dX10_symbolAt_9 : decode cX10_symbolAt 9 = .ok (.ifCond .ge 7, 3) := by decide +kernel
theorem dX10_symbolAt_12 : decode cX10_symbolAt 12 = .ok (.iconst (-1), 1) := by decide +kernel
theorem dX10_symbolAt_13 : decode cX10_symbolAt 13 = .ok (.goto 4, 3) := by decide +kernel
theorem dX10_symbolAt_16 : decode cX10_symbolAt 16 = .ok (.iconst 1, 1) := by decide +kernel
theorem dX10_symbolAt_17 : decode cX10_symbolAt 17 = .ok (.ireturn, 1) := by decide +kernel
theorem dX10_symbolAt_18 : decode cX10_symbolAt 18 = .ok (.iconst 0, 1) := by decide +kernel
theorem dX10_symbolAt_19 : decode cX10_symbolAt 19 = .ok (.istore_n 3, 1) := by decide +kernel
theorem dX10_symbolAt_20 : decode cX10_symbolAt 20 = .ok (.iconst 0, 1) := by decide +kernel
theorem dX10_symbolAt_21 : decode cX10_symbolAt 21 = .ok (.istore 4, 2) := by decide +kernel
theorem dX10_symbolAt_23 : decode cX10_symbolAt 23 = .ok (.iload_n 0, 1) := by decide +kernel
theorem dX10_symbolAt_24 : decode cX10_symbolAt 24 = .ok (.istore 5, 2) := by decide +kernel
theorem dX10_symbolAt_26 : decode cX10_symbolAt 26 = .ok (.iload_n 1, 1) := by decide +kernel
theorem dX10_symbolAt_27 : decode cX10_symbolAt 27 = .ok (.istore 6, 2) := by decide +kernel
theorem dX10_symbolAt_29 : decode cX10_symbolAt 29 = .ok (.iload 5, 2) := by decide +kernel
theorem dX10_symbolAt_31 : decode cX10_symbolAt 31 = .ok (.iload_n 2, 1) := by decide +kernel
theorem dX10_symbolAt_32 : decode cX10_symbolAt 32 = .ok (.irem, 1) := by decide +kernel
theorem dX10_symbolAt_33 : decode cX10_symbolAt 33 = .ok (.ifCond .ne 15, 3) := by decide +kernel
theorem dX10_symbolAt_36 : decode cX10_symbolAt 36 = .ok (.iinc 3 1, 3) := by decide +kernel
theorem dX10_symbolAt_39 : decode cX10_symbolAt 39 = .ok (.iload 5, 2) := by decide +kernel
theorem dX10_symbolAt_41 : decode cX10_symbolAt 41 = .ok (.iload_n 2, 1) := by decide +kernel
theorem dX10_symbolAt_42 : decode cX10_symbolAt 42 = .ok (.idiv, 1) := by decide +kernel
theorem dX10_symbolAt_43 : decode cX10_symbolAt 43 = .ok (.istore 5, 2) := by decide +kernel
theorem dX10_symbolAt_45 : decode cX10_symbolAt 45 = .ok (.goto (-16), 3) := by decide +kernel
theorem dX10_symbolAt_48 : decode cX10_symbolAt 48 = .ok (.iload 6, 2) := by decide +kernel
theorem dX10_symbolAt_50 : decode cX10_symbolAt 50 = .ok (.iload_n 2, 1) := by decide +kernel
theorem dX10_symbolAt_51 : decode cX10_symbolAt 51 = .ok (.irem, 1) := by decide +kernel
theorem dX10_symbolAt_52 : decode cX10_symbolAt 52 = .ok (.ifCond .ne 15, 3) := by decide +kernel
theorem dX10_symbolAt_55 : decode cX10_symbolAt 55 = .ok (.iinc 4 1, 3) := by decide +kernel
theorem dX10_symbolAt_58 : decode cX10_symbolAt 58 = .ok (.iload 6, 2) := by decide +kernel
theorem dX10_symbolAt_60 : decode cX10_symbolAt 60 = .ok (.iload_n 2, 1) := by decide +kernel
theorem dX10_symbolAt_61 : decode cX10_symbolAt 61 = .ok (.idiv, 1) := by decide +kernel
theorem dX10_symbolAt_62 : decode cX10_symbolAt 62 = .ok (.istore 6, 2) := by decide +kernel
theorem dX10_symbolAt_64 : decode cX10_symbolAt 64 = .ok (.goto (-16), 3) := by decide +kernel
theorem dX10_symbolAt_67 : decode cX10_symbolAt 67 = .ok (.iload_n 2, 1) := by decide +kernel
theorem dX10_symbolAt_68 : decode cX10_symbolAt 68 = .ok (.iconst 2, 1) := by decide +kernel
theorem dX10_symbolAt_69 : decode cX10_symbolAt 69 = .ok (.if_icmp .ne 124, 3) := by decide +kernel
theorem dX10_symbolAt_72 : decode cX10_symbolAt 72 = .ok (.iload 5, 2) := by decide +kernel
theorem dX10_symbolAt_74 : decode cX10_symbolAt 74 = .ok (.i2l, 1) := by decide +kernel
theorem dX10_symbolAt_75 : decode cX10_symbolAt 75 = .ok (.ldc2_w 136, 3) := by decide +kernel
theorem dX10_symbolAt_78 : decode cX10_symbolAt 78 = .ok (.invokestatic 86, 3) := by decide +kernel
theorem dX10_symbolAt_81 : decode cX10_symbolAt 81 = .ok (.lstore 7, 2) := by decide +kernel
theorem dX10_symbolAt_83 : decode cX10_symbolAt 83 = .ok (.iload 6, 2) := by decide +kernel
theorem dX10_symbolAt_85 : decode cX10_symbolAt 85 = .ok (.i2l, 1) := by decide +kernel
theorem dX10_symbolAt_86 : decode cX10_symbolAt 86 = .ok (.ldc2_w 136, 3) := by decide +kernel
theorem dX10_symbolAt_89 : decode cX10_symbolAt 89 = .ok (.invokestatic 86, 3) := by decide +kernel
theorem dX10_symbolAt_92 : decode cX10_symbolAt 92 = .ok (.lstore 9, 2) := by decide +kernel
theorem dX10_symbolAt_94 : decode cX10_symbolAt 94 = .ok (.lload 7, 2) := by decide +kernel
theorem dX10_symbolAt_96 : decode cX10_symbolAt 96 = .ok (.ldc2_w 264, 3) := by decide +kernel
theorem dX10_symbolAt_99 : decode cX10_symbolAt 99 = .ok (.lrem, 1) := by decide +kernel
theorem dX10_symbolAt_100 : decode cX10_symbolAt 100 = .ok (.ldc2_w 266, 3) := by decide +kernel
theorem dX10_symbolAt_103 : decode cX10_symbolAt 103 = .ok (.lcmp, 1) := by decide +kernel
theorem dX10_symbolAt_104 : decode cX10_symbolAt 104 = .ok (.ifCond .ne 20, 3) := by decide +kernel
theorem dX10_symbolAt_107 : decode cX10_symbolAt 107 = .ok (.lload 9, 2) := by decide +kernel
theorem dX10_symbolAt_109 : decode cX10_symbolAt 109 = .ok (.ldc2_w 264, 3) := by decide +kernel
theorem dX10_symbolAt_112 : decode cX10_symbolAt 112 = .ok (.lrem, 1) := by decide +kernel
theorem dX10_symbolAt_113 : decode cX10_symbolAt 113 = .ok (.ldc2_w 266, 3) := by decide +kernel
theorem dX10_symbolAt_116 : decode cX10_symbolAt 116 = .ok (.lcmp, 1) := by decide +kernel
theorem dX10_symbolAt_117 : decode cX10_symbolAt 117 = .ok (.ifCond .ne 7, 3) := by decide +kernel
theorem dX10_symbolAt_120 : decode cX10_symbolAt 120 = .ok (.iconst 1, 1) := by decide +kernel
theorem dX10_symbolAt_121 : decode cX10_symbolAt 121 = .ok (.goto 4, 3) := by decide +kernel
theorem dX10_symbolAt_124 : decode cX10_symbolAt 124 = .ok (.iconst 0, 1) := by decide +kernel
theorem dX10_symbolAt_125 : decode cX10_symbolAt 125 = .ok (.iload_n 3, 1) := by decide +kernel
theorem dX10_symbolAt_126 : decode cX10_symbolAt 126 = .ok (.lload 9, 2) := by decide +kernel
theorem dX10_symbolAt_128 : decode cX10_symbolAt 128 = .ok (.ldc2_w 266, 3) := by decide +kernel
theorem dX10_symbolAt_131 : decode cX10_symbolAt 131 = .ok (.lcmp, 1) := by decide +kernel
theorem dX10_symbolAt_132 : decode cX10_symbolAt 132 = .ok (.ifCond .eq 12, 3) := by decide +kernel
theorem dX10_symbolAt_135 : decode cX10_symbolAt 135 = .ok (.lload 9, 2) := by decide +kernel
theorem dX10_symbolAt_137 : decode cX10_symbolAt 137 = .ok (.ldc2_w 268, 3) := by decide +kernel
theorem dX10_symbolAt_140 : decode cX10_symbolAt 140 = .ok (.lcmp, 1) := by decide +kernel
theorem dX10_symbolAt_141 : decode cX10_symbolAt 141 = .ok (.ifCond .ne 7, 3) := by decide +kernel
theorem dX10_symbolAt_144 : decode cX10_symbolAt 144 = .ok (.iconst 1, 1) := by decide +kernel
theorem dX10_symbolAt_145 : decode cX10_symbolAt 145 = .ok (.goto 4, 3) := by decide +kernel
theorem dX10_symbolAt_148 : decode cX10_symbolAt 148 = .ok (.iconst 0, 1) := by decide +kernel
theorem dX10_symbolAt_149 : decode cX10_symbolAt 149 = .ok (.imul, 1) := by decide +kernel
theorem dX10_symbolAt_150 : decode cX10_symbolAt 150 = .ok (.iadd, 1) := by decide +kernel
theorem dX10_symbolAt_151 : decode cX10_symbolAt 151 = .ok (.iload 4, 2) := by decide +kernel
theorem dX10_symbolAt_153 : decode cX10_symbolAt 153 = .ok (.lload 7, 2) := by decide +kernel
theorem dX10_symbolAt_155 : decode cX10_symbolAt 155 = .ok (.ldc2_w 266, 3) := by decide +kernel
theorem dX10_symbolAt_158 : decode cX10_symbolAt 158 = .ok (.lcmp, 1) := by decide +kernel
theorem dX10_symbolAt_159 : decode cX10_symbolAt 159 = .ok (.ifCond .eq 12, 3) := by decide +kernel
theorem dX10_symbolAt_162 : decode cX10_symbolAt 162 = .ok (.lload 7, 2) := by decide +kernel
theorem dX10_symbolAt_164 : decode cX10_symbolAt 164 = .ok (.ldc2_w 268, 3) := by decide +kernel
theorem dX10_symbolAt_167 : decode cX10_symbolAt 167 = .ok (.lcmp, 1) := by decide +kernel
theorem dX10_symbolAt_168 : decode cX10_symbolAt 168 = .ok (.ifCond .ne 7, 3) := by decide +kernel
theorem dX10_symbolAt_171 : decode cX10_symbolAt 171 = .ok (.iconst 1, 1) := by decide +kernel
theorem dX10_symbolAt_172 : decode cX10_symbolAt 172 = .ok (.goto 4, 3) := by decide +kernel
theorem dX10_symbolAt_175 : decode cX10_symbolAt 175 = .ok (.iconst 0, 1) := by decide +kernel
theorem dX10_symbolAt_176 : decode cX10_symbolAt 176 = .ok (.imul, 1) := by decide +kernel
theorem dX10_symbolAt_177 : decode cX10_symbolAt 177 = .ok (.iadd, 1) := by decide +kernel
theorem dX10_symbolAt_178 : decode cX10_symbolAt 178 = .ok (.istore 11, 2) := by decide +kernel
theorem dX10_symbolAt_180 : decode cX10_symbolAt 180 = .ok (.iload 11, 2) := by decide +kernel
theorem dX10_symbolAt_182 : decode cX10_symbolAt 182 = .ok (.iconst 2, 1) := by decide +kernel
theorem dX10_symbolAt_183 : decode cX10_symbolAt 183 = .ok (.irem, 1) := by decide +kernel
theorem dX10_symbolAt_184 : decode cX10_symbolAt 184 = .ok (.ifCond .ne 7, 3) := by decide +kernel
theorem dX10_symbolAt_187 : decode cX10_symbolAt 187 = .ok (.iconst 1, 1) := by decide +kernel
theorem dX10_symbolAt_188 : decode cX10_symbolAt 188 = .ok (.goto 4, 3) := by decide +kernel
theorem dX10_symbolAt_191 : decode cX10_symbolAt 191 = .ok (.iconst (-1), 1) := by decide +kernel
theorem dX10_symbolAt_192 : decode cX10_symbolAt 192 = .ok (.ireturn, 1) := by decide +kernel
theorem dX10_symbolAt_193 : decode cX10_symbolAt 193 = .ok (.iload_n 3, 1) := by decide +kernel
theorem dX10_symbolAt_194 : decode cX10_symbolAt 194 = .ok (.iload 4, 2) := by decide +kernel
theorem dX10_symbolAt_196 : decode cX10_symbolAt 196 = .ok (.imul, 1) := by decide +kernel
theorem dX10_symbolAt_197 : decode cX10_symbolAt 197 = .ok (.iconst 2, 1) := by decide +kernel
theorem dX10_symbolAt_198 : decode cX10_symbolAt 198 = .ok (.irem, 1) := by decide +kernel
theorem dX10_symbolAt_199 : decode cX10_symbolAt 199 = .ok (.iconst 1, 1) := by decide +kernel
theorem dX10_symbolAt_200 : decode cX10_symbolAt 200 = .ok (.if_icmp .ne 14, 3) := by decide +kernel
theorem dX10_symbolAt_203 : decode cX10_symbolAt 203 = .ok (.iload_n 2, 1) := by decide +kernel
theorem dX10_symbolAt_204 : decode cX10_symbolAt 204 = .ok (.iconst 4, 1) := by decide +kernel
theorem dX10_symbolAt_205 : decode cX10_symbolAt 205 = .ok (.irem, 1) := by decide +kernel
theorem dX10_symbolAt_206 : decode cX10_symbolAt 206 = .ok (.iconst 3, 1) := by decide +kernel
theorem dX10_symbolAt_207 : decode cX10_symbolAt 207 = .ok (.if_icmp .ne 7, 3) := by decide +kernel
theorem dX10_symbolAt_210 : decode cX10_symbolAt 210 = .ok (.iconst (-1), 1) := by decide +kernel
theorem dX10_symbolAt_211 : decode cX10_symbolAt 211 = .ok (.goto 4, 3) := by decide +kernel
theorem dX10_symbolAt_214 : decode cX10_symbolAt 214 = .ok (.iconst 1, 1) := by decide +kernel
theorem dX10_symbolAt_215 : decode cX10_symbolAt 215 = .ok (.istore 7, 2) := by decide +kernel
theorem dX10_symbolAt_217 : decode cX10_symbolAt 217 = .ok (.iload 4, 2) := by decide +kernel
theorem dX10_symbolAt_219 : decode cX10_symbolAt 219 = .ok (.iconst 2, 1) := by decide +kernel
theorem dX10_symbolAt_220 : decode cX10_symbolAt 220 = .ok (.irem, 1) := by decide +kernel
theorem dX10_symbolAt_221 : decode cX10_symbolAt 221 = .ok (.iconst 1, 1) := by decide +kernel
theorem dX10_symbolAt_222 : decode cX10_symbolAt 222 = .ok (.if_icmp .ne 15, 3) := by decide +kernel
theorem dX10_symbolAt_225 : decode cX10_symbolAt 225 = .ok (.iload 7, 2) := by decide +kernel
theorem dX10_symbolAt_227 : decode cX10_symbolAt 227 = .ok (.iload 5, 2) := by decide +kernel
theorem dX10_symbolAt_229 : decode cX10_symbolAt 229 = .ok (.i2l, 1) := by decide +kernel
theorem dX10_symbolAt_230 : decode cX10_symbolAt 230 = .ok (.iload_n 2, 1) := by decide +kernel
theorem dX10_symbolAt_231 : decode cX10_symbolAt 231 = .ok (.invokestatic 270, 3) := by decide +kernel
theorem dX10_symbolAt_234 : decode cX10_symbolAt 234 = .ok (.imul, 1) := by decide +kernel
theorem dX10_symbolAt_235 : decode cX10_symbolAt 235 = .ok (.istore 7, 2) := by decide +kernel
theorem dX10_symbolAt_237 : decode cX10_symbolAt 237 = .ok (.iload_n 3, 1) := by decide +kernel
theorem dX10_symbolAt_238 : decode cX10_symbolAt 238 = .ok (.iconst 2, 1) := by decide +kernel
theorem dX10_symbolAt_239 : decode cX10_symbolAt 239 = .ok (.irem, 1) := by decide +kernel
theorem dX10_symbolAt_240 : decode cX10_symbolAt 240 = .ok (.iconst 1, 1) := by decide +kernel
theorem dX10_symbolAt_241 : decode cX10_symbolAt 241 = .ok (.if_icmp .ne 15, 3) := by decide +kernel
theorem dX10_symbolAt_244 : decode cX10_symbolAt 244 = .ok (.iload 7, 2) := by decide +kernel
theorem dX10_symbolAt_246 : decode cX10_symbolAt 246 = .ok (.iload 6, 2) := by decide +kernel
theorem dX10_symbolAt_248 : decode cX10_symbolAt 248 = .ok (.i2l, 1) := by decide +kernel
theorem dX10_symbolAt_249 : decode cX10_symbolAt 249 = .ok (.iload_n 2, 1) := by decide +kernel
theorem dX10_symbolAt_250 : decode cX10_symbolAt 250 = .ok (.invokestatic 270, 3) := by decide +kernel
theorem dX10_symbolAt_253 : decode cX10_symbolAt 253 = .ok (.imul, 1) := by decide +kernel
theorem dX10_symbolAt_254 : decode cX10_symbolAt 254 = .ok (.istore 7, 2) := by decide +kernel
theorem dX10_symbolAt_256 : decode cX10_symbolAt 256 = .ok (.iload 7, 2) := by decide +kernel
theorem dX10_symbolAt_258 : decode cX10_symbolAt 258 = .ok (.ireturn, 1) := by decide +kernel
theorem dX10_isTold_0 : decode cX10_isTold 0 = .ok (.iload_n 0, 1) := by decide +kernel
theorem dX10_isTold_1 : decode cX10_isTold 1 = .ok (.i2l, 1) := by decide +kernel
theorem dX10_isTold_2 : decode cX10_isTold 2 = .ok (.ldc2_w 233, 3) := by decide +kernel
theorem dX10_isTold_5 : decode cX10_isTold 5 = .ok (.ldc2_w 235, 3) := by decide +kernel
theorem dX10_isTold_8 : decode cX10_isTold 8 = .ok (.invokestatic 76, 3) := by decide +kernel
theorem dX10_isTold_11 : decode cX10_isTold 11 = .ok (.ifCond .eq 11, 3) := by decide +kernel
theorem dX10_isTold_14 : decode cX10_isTold 14 = .ok (.iload_n 0, 1) := by decide +kernel
theorem dX10_isTold_15 : decode cX10_isTold 15 = .ok (.ifCond .eq 7, 3) := by decide +kernel
theorem dX10_isTold_18 : decode cX10_isTold 18 = .ok (.iconst 1, 1) := by decide +kernel
theorem dX10_isTold_19 : decode cX10_isTold 19 = .ok (.goto 4, 3) := by decide +kernel
theorem dX10_isTold_22 : decode cX10_isTold 22 = .ok (.iconst 0, 1) := by decide +kernel
theorem dX10_isTold_23 : decode cX10_isTold 23 = .ok (.ireturn, 1) := by decide +kernel
theorem dX10_symbol_0 : decode cX10_symbol 0 = .ok (.aload_n 0, 1) := by decide +kernel
theorem dX10_symbol_1 : decode cX10_symbol 1 = .ok (.iload_n 1, 1) := by decide +kernel
theorem dX10_symbol_2 : decode cX10_symbol 2 = .ok (.invokestatic 274, 3) := by decide +kernel
theorem dX10_symbol_5 : decode cX10_symbol 5 = .ok (.ifCond .eq 39, 3) := by decide +kernel
theorem dX10_symbol_8 : decode cX10_symbol 8 = .ok (.iload_n 2, 1) := by decide +kernel
theorem dX10_symbol_9 : decode cX10_symbol 9 = .ok (.invokestatic 274, 3) := by decide +kernel
theorem dX10_symbol_12 : decode cX10_symbol 12 = .ok (.ifCond .eq 32, 3) := by decide +kernel
theorem dX10_symbol_15 : decode cX10_symbol 15 = .ok (.iload_n 3, 1) := by decide +kernel
theorem dX10_symbol_16 : decode cX10_symbol 16 = .ok (.ifCond .eq 24, 3) := by decide +kernel
theorem dX10_symbol_19 : decode cX10_symbol 19 = .ok (.iload_n 3, 1) := by decide +kernel
theorem dX10_symbol_20 : decode cX10_symbol 20 = .ok (.i2l, 1) := by decide +kernel
theorem dX10_symbol_21 : decode cX10_symbol 21 = .ok (.ldc2_w 90, 3) := by decide +kernel
theorem dX10_symbol_24 : decode cX10_symbol 24 = .ok (.ldc2_w 235, 3) := by decide +kernel
theorem dX10_symbol_27 : decode cX10_symbol 27 = .ok (.invokestatic 76, 3) := by decide +kernel
theorem dX10_symbol_30 : decode cX10_symbol 30 = .ok (.ifCond .eq 14, 3) := by decide +kernel
theorem dX10_symbol_33 : decode cX10_symbol 33 = .ok (.iload_n 3, 1) := by decide +kernel
theorem dX10_symbol_34 : decode cX10_symbol 34 = .ok (.invokestatic 190, 3) := by decide +kernel
theorem dX10_symbol_37 : decode cX10_symbol 37 = .ok (.ifCond .eq 7, 3) := by decide +kernel
theorem dX10_symbol_40 : decode cX10_symbol 40 = .ok (.iconst 1, 1) := by decide +kernel
theorem dX10_symbol_41 : decode cX10_symbol 41 = .ok (.goto 4, 3) := by decide +kernel
theorem dX10_symbol_44 : decode cX10_symbol 44 = .ok (.iconst 0, 1) := by decide +kernel
theorem dX10_symbol_45 : decode cX10_symbol 45 = .ok (.iconst 1, 1) := by decide +kernel
theorem dX10_symbol_46 : decode cX10_symbol 46 = .ok (.invokevirtual 80, 3) := by decide +kernel
theorem dX10_symbol_49 : decode cX10_symbol 49 = .ok (.ifCond .eq 7, 3) := by decide +kernel
theorem dX10_symbol_52 : decode cX10_symbol 52 = .ok (.iconst 0, 1) := by decide +kernel
theorem dX10_symbol_53 : decode cX10_symbol 53 = .ok (.goto 9, 3) := by decide +kernel
theorem dX10_symbol_56 : decode cX10_symbol 56 = .ok (.iload_n 1, 1) := by decide +kernel
theorem dX10_symbol_57 : decode cX10_symbol 57 = .ok (.iload_n 2, 1) := by decide +kernel
theorem dX10_symbol_58 : decode cX10_symbol 58 = .ok (.iload_n 3, 1) := by decide +kernel
theorem dX10_symbol_59 : decode cX10_symbol 59 = .ok (.invokestatic 277, 3) := by decide +kernel
theorem dX10_symbol_62 : decode cX10_symbol 62 = .ok (.ireturn, 1) := by decide +kernel
theorem dX10_obstacle_0 : decode cX10_obstacle 0 = .ok (.aload_n 0, 1) := by decide +kernel
theorem dX10_obstacle_1 : decode cX10_obstacle 1 = .ok (.iload_n 1, 1) := by decide +kernel
theorem dX10_obstacle_2 : decode cX10_obstacle 2 = .ok (.invokestatic 274, 3) := by decide +kernel
theorem dX10_obstacle_5 : decode cX10_obstacle 5 = .ok (.ifCond .eq 14, 3) := by decide +kernel
theorem dX10_obstacle_8 : decode cX10_obstacle 8 = .ok (.iload_n 2, 1) := by decide +kernel
theorem dX10_obstacle_9 : decode cX10_obstacle 9 = .ok (.invokestatic 274, 3) := by decide +kernel
theorem dX10_obstacle_12 : decode cX10_obstacle 12 = .ok (.ifCond .eq 7, 3) := by decide +kernel
theorem dX10_obstacle_15 : decode cX10_obstacle 15 = .ok (.iconst 1, 1) := by decide +kernel
theorem dX10_obstacle_16 : decode cX10_obstacle 16 = .ok (.goto 4, 3) := by decide +kernel
theorem dX10_obstacle_19 : decode cX10_obstacle 19 = .ok (.iconst 0, 1) := by decide +kernel
theorem dX10_obstacle_20 : decode cX10_obstacle 20 = .ok (.iconst 1, 1) := by decide +kernel
theorem dX10_obstacle_21 : decode cX10_obstacle 21 = .ok (.invokevirtual 80, 3) := by decide +kernel
theorem dX10_obstacle_24 : decode cX10_obstacle 24 = .ok (.ifCond .eq 5, 3) := by decide +kernel
theorem dX10_obstacle_27 : decode cX10_obstacle 27 = .ok (.iconst 0, 1) := by decide +kernel
theorem dX10_obstacle_28 : decode cX10_obstacle 28 = .ok (.ireturn, 1) := by decide +kernel
theorem dX10_obstacle_29 : decode cX10_obstacle 29 = .ok (.iconst 0, 1) := by decide +kernel
theorem dX10_obstacle_30 : decode cX10_obstacle 30 = .ok (.istore_n 3, 1) := by decide +kernel
theorem dX10_obstacle_31 : decode cX10_obstacle 31 = .ok (.iload_n 3, 1) := by decide +kernel
theorem dX10_obstacle_32 : decode cX10_obstacle 32 = .ok (.sipush 10000, 3) := by decide +kernel
theorem dX10_obstacle_35 : decode cX10_obstacle 35 = .ok (.if_icmp .gt 61, 3) := by decide +kernel
theorem dX10_obstacle_38 : decode cX10_obstacle 38 = .ok (.iload_n 3, 1) := by decide +kernel
theorem dX10_obstacle_39 : decode cX10_obstacle 39 = .ok (.ifCond .eq 27, 3) := by decide +kernel
theorem dX10_obstacle_42 : decode cX10_obstacle 42 = .ok (.iload_n 3, 1) := by decide +kernel
theorem dX10_obstacle_43 : decode cX10_obstacle 43 = .ok (.invokestatic 190, 3) := by decide +kernel
theorem dX10_obstacle_46 : decode cX10_obstacle 46 = .ok (.ifCond .eq 24, 3) := by decide +kernel
theorem dX10_obstacle_49 : decode cX10_obstacle 49 = .ok (.iload_n 3, 1) := by decide +kernel
theorem dX10_obstacle_50 : decode cX10_obstacle 50 = .ok (.iconst 2, 1) := by decide +kernel
theorem dX10_obstacle_51 : decode cX10_obstacle 51 = .ok (.if_icmp .eq 15, 3) := by decide +kernel
theorem dX10_obstacle_54 : decode cX10_obstacle 54 = .ok (.iload_n 1, 1) := by decide +kernel
theorem dX10_obstacle_55 : decode cX10_obstacle 55 = .ok (.iload_n 3, 1) := by decide +kernel
theorem dX10_obstacle_56 : decode cX10_obstacle 56 = .ok (.irem, 1) := by decide +kernel
theorem dX10_obstacle_57 : decode cX10_obstacle 57 = .ok (.ifCond .eq 9, 3) := by decide +kernel
theorem dX10_obstacle_60 : decode cX10_obstacle 60 = .ok (.iload_n 2, 1) := by decide +kernel
theorem dX10_obstacle_61 : decode cX10_obstacle 61 = .ok (.iload_n 3, 1) := by decide +kernel
theorem dX10_obstacle_62 : decode cX10_obstacle 62 = .ok (.irem, 1) := by decide +kernel
theorem dX10_obstacle_63 : decode cX10_obstacle 63 = .ok (.ifCond .ne 7, 3) := by decide +kernel
theorem dX10_obstacle_66 : decode cX10_obstacle 66 = .ok (.iconst 1, 1) := by decide +kernel
theorem dX10_obstacle_67 : decode cX10_obstacle 67 = .ok (.goto 4, 3) := by decide +kernel
theorem dX10_obstacle_70 : decode cX10_obstacle 70 = .ok (.iconst 0, 1) := by decide +kernel
theorem dX10_obstacle_71 : decode cX10_obstacle 71 = .ok (.istore 4, 2) := by decide +kernel
theorem dX10_obstacle_73 : decode cX10_obstacle 73 = .ok (.iload 4, 2) := by decide +kernel
theorem dX10_obstacle_75 : decode cX10_obstacle 75 = .ok (.ifCond .eq 15, 3) := by decide +kernel
theorem dX10_obstacle_78 : decode cX10_obstacle 78 = .ok (.iload_n 1, 1) := by decide +kernel
theorem dX10_obstacle_79 : decode cX10_obstacle 79 = .ok (.iload_n 2, 1) := by decide +kernel
theorem dX10_obstacle_80 : decode cX10_obstacle 80 = .ok (.iload_n 3, 1) := by decide +kernel
theorem dX10_obstacle_81 : decode cX10_obstacle 81 = .ok (.invokestatic 277, 3) := by decide +kernel
theorem dX10_obstacle_84 : decode cX10_obstacle 84 = .ok (.iconst (-1), 1) := by decide +kernel
theorem dX10_obstacle_85 : decode cX10_obstacle 85 = .ok (.if_icmp .ne 5, 3) := by decide +kernel
theorem dX10_obstacle_88 : decode cX10_obstacle 88 = .ok (.iload_n 3, 1) := by decide +kernel
theorem dX10_obstacle_89 : decode cX10_obstacle 89 = .ok (.ireturn, 1) := by decide +kernel
theorem dX10_obstacle_90 : decode cX10_obstacle 90 = .ok (.iinc 3 1, 3) := by decide +kernel
theorem dX10_obstacle_93 : decode cX10_obstacle 93 = .ok (.goto (-62), 3) := by decide +kernel
theorem dX10_obstacle_96 : decode cX10_obstacle 96 = .ok (.aload_n 0, 1) := by decide +kernel
theorem dX10_obstacle_97 : decode cX10_obstacle 97 = .ok (.iconst 2, 1) := by decide +kernel
theorem dX10_obstacle_98 : decode cX10_obstacle 98 = .ok (.putfield 70, 3) := by decide +kernel
theorem dX10_obstacle_101 : decode cX10_obstacle 101 = .ok (.iconst 0, 1) := by decide +kernel
theorem dX10_obstacle_102 : decode cX10_obstacle 102 = .ok (.ireturn, 1) := by decide +kernel
theorem dX10_setSize_0 : decode cX10_setSize 0 = .ok (.aload_n 0, 1) := by decide +kernel
theorem dX10_setSize_1 : decode cX10_setSize 1 = .ok (.iload_n 1, 1) := by decide +kernel
theorem dX10_setSize_2 : decode cX10_setSize 2 = .ok (.i2l, 1) := by decide +kernel
theorem dX10_setSize_3 : decode cX10_setSize 3 = .ok (.lconst 1, 1) := by decide +kernel
theorem dX10_setSize_4 : decode cX10_setSize 4 = .ok (.ldc2_w 264, 3) := by decide +kernel
theorem dX10_setSize_7 : decode cX10_setSize 7 = .ok (.invokestatic 76, 3) := by decide +kernel
theorem dX10_setSize_10 : decode cX10_setSize 10 = .ok (.iconst 1, 1) := by decide +kernel
theorem dX10_setSize_11 : decode cX10_setSize 11 = .ok (.invokevirtual 80, 3) := by decide +kernel
theorem dX10_setSize_14 : decode cX10_setSize 14 = .ok (.ifCond .eq 5, 3) := by decide +kernel
theorem dX10_setSize_17 : decode cX10_setSize 17 = .ok (.iconst 0, 1) := by decide +kernel
theorem dX10_setSize_18 : decode cX10_setSize 18 = .ok (.ireturn, 1) := by decide +kernel
theorem dX10_setSize_19 : decode cX10_setSize 19 = .ok (.aload_n 0, 1) := by decide +kernel
theorem dX10_setSize_20 : decode cX10_setSize 20 = .ok (.getfield 67, 3) := by decide +kernel
theorem dX10_setSize_23 : decode cX10_setSize 23 = .ok (.istore_n 2, 1) := by decide +kernel
theorem dX10_setSize_24 : decode cX10_setSize 24 = .ok (.aload_n 0, 1) := by decide +kernel
theorem dX10_setSize_25 : decode cX10_setSize 25 = .ok (.iload_n 1, 1) := by decide +kernel
theorem dX10_setSize_26 : decode cX10_setSize 26 = .ok (.putfield 67, 3) := by decide +kernel
theorem dX10_setSize_29 : decode cX10_setSize 29 = .ok (.iconst 0, 1) := by decide +kernel
theorem dX10_setSize_30 : decode cX10_setSize 30 = .ok (.istore_n 3, 1) := by decide +kernel
theorem dX10_setSize_31 : decode cX10_setSize 31 = .ok (.iload_n 3, 1) := by decide +kernel
theorem dX10_setSize_32 : decode cX10_setSize 32 = .ok (.bipush 16, 2) := by decide +kernel
theorem dX10_setSize_34 : decode cX10_setSize 34 = .ok (.if_icmp .ge 16, 3) := by decide +kernel
theorem dX10_setSize_37 : decode cX10_setSize 37 = .ok (.aload_n 0, 1) := by decide +kernel
theorem dX10_setSize_38 : decode cX10_setSize 38 = .ok (.getfield 54, 3) := by decide +kernel
theorem dX10_setSize_41 : decode cX10_setSize 41 = .ok (.iload_n 3, 1) := by decide +kernel
theorem dX10_setSize_42 : decode cX10_setSize 42 = .ok (.iconst 0, 1) := by decide +kernel
theorem dX10_setSize_43 : decode cX10_setSize 43 = .ok (.iastore, 1) := by decide +kernel
theorem dX10_setSize_44 : decode cX10_setSize 44 = .ok (.iinc 3 1, 3) := by decide +kernel
theorem dX10_setSize_47 : decode cX10_setSize 47 = .ok (.goto (-16), 3) := by decide +kernel
theorem dX10_setSize_50 : decode cX10_setSize 50 = .ok (.iload_n 2, 1) := by decide +kernel
theorem dX10_setSize_51 : decode cX10_setSize 51 = .ok (.ireturn, 1) := by decide +kernel
theorem dX10_setEntry_0 : decode cX10_setEntry 0 = .ok (.aload_n 0, 1) := by decide +kernel
theorem dX10_setEntry_1 : decode cX10_setEntry 1 = .ok (.iload_n 1, 1) := by decide +kernel
theorem dX10_setEntry_2 : decode cX10_setEntry 2 = .ok (.i2l, 1) := by decide +kernel
theorem dX10_setEntry_3 : decode cX10_setEntry 3 = .ok (.lconst 0, 1) := by decide +kernel
theorem dX10_setEntry_4 : decode cX10_setEntry 4 = .ok (.aload_n 0, 1) := by decide +kernel
theorem dX10_setEntry_5 : decode cX10_setEntry 5 = .ok (.getfield 67, 3) := by decide +kernel
theorem dX10_setEntry_8 : decode cX10_setEntry 8 = .ok (.iconst 1, 1) := by decide +kernel
theorem dX10_setEntry_9 : decode cX10_setEntry 9 = .ok (.isub, 1) := by decide +kernel
theorem dX10_setEntry_10 : decode cX10_setEntry 10 = .ok (.i2l, 1) := by decide +kernel
theorem dX10_setEntry_11 : decode cX10_setEntry 11 = .ok (.invokestatic 76, 3) := by decide +kernel
theorem dX10_setEntry_14 : decode cX10_setEntry 14 = .ok (.ifCond .eq 23, 3) := by decide +kernel
theorem dX10_setEntry_17 : decode cX10_setEntry 17 = .ok (.iload_n 2, 1) := by decide +kernel
theorem dX10_setEntry_18 : decode cX10_setEntry 18 = .ok (.i2l, 1) := by decide +kernel
theorem dX10_setEntry_19 : decode cX10_setEntry 19 = .ok (.lconst 0, 1) := by decide +kernel
theorem dX10_setEntry_20 : decode cX10_setEntry 20 = .ok (.aload_n 0, 1) := by decide +kernel
theorem dX10_setEntry_21 : decode cX10_setEntry 21 = .ok (.getfield 67, 3) := by decide +kernel
theorem dX10_setEntry_24 : decode cX10_setEntry 24 = .ok (.iconst 1, 1) := by decide +kernel
theorem dX10_setEntry_25 : decode cX10_setEntry 25 = .ok (.isub, 1) := by decide +kernel
theorem dX10_setEntry_26 : decode cX10_setEntry 26 = .ok (.i2l, 1) := by decide +kernel
theorem dX10_setEntry_27 : decode cX10_setEntry 27 = .ok (.invokestatic 76, 3) := by decide +kernel
theorem dX10_setEntry_30 : decode cX10_setEntry 30 = .ok (.ifCond .eq 7, 3) := by decide +kernel
theorem dX10_setEntry_33 : decode cX10_setEntry 33 = .ok (.iconst 1, 1) := by decide +kernel
theorem dX10_setEntry_34 : decode cX10_setEntry 34 = .ok (.goto 4, 3) := by decide +kernel
theorem dX10_setEntry_37 : decode cX10_setEntry 37 = .ok (.iconst 0, 1) := by decide +kernel
theorem dX10_setEntry_38 : decode cX10_setEntry 38 = .ok (.iconst 1, 1) := by decide +kernel
theorem dX10_setEntry_39 : decode cX10_setEntry 39 = .ok (.invokevirtual 80, 3) := by decide +kernel
theorem dX10_setEntry_42 : decode cX10_setEntry 42 = .ok (.ifCond .ne 22, 3) := by decide +kernel
theorem dX10_setEntry_45 : decode cX10_setEntry 45 = .ok (.aload_n 0, 1) := by decide +kernel
theorem dX10_setEntry_46 : decode cX10_setEntry 46 = .ok (.iload_n 3, 1) := by decide +kernel
theorem dX10_setEntry_47 : decode cX10_setEntry 47 = .ok (.i2l, 1) := by decide +kernel
theorem dX10_setEntry_48 : decode cX10_setEntry 48 = .ok (.ldc2_w 281, 3) := by decide +kernel
theorem dX10_setEntry_51 : decode cX10_setEntry 51 = .ok (.ldc2_w 283, 3) := by decide +kernel
theorem dX10_setEntry_54 : decode cX10_setEntry 54 = .ok (.invokestatic 76, 3) := by decide +kernel
theorem dX10_setEntry_57 : decode cX10_setEntry 57 = .ok (.iconst 2, 1) := by decide +kernel
theorem dX10_setEntry_58 : decode cX10_setEntry 58 = .ok (.invokevirtual 80, 3) := by decide +kernel
theorem dX10_setEntry_61 : decode cX10_setEntry 61 = .ok (.ifCond .eq 5, 3) := by decide +kernel
theorem dX10_setEntry_64 : decode cX10_setEntry 64 = .ok (.iconst 0, 1) := by decide +kernel
theorem dX10_setEntry_65 : decode cX10_setEntry 65 = .ok (.ireturn, 1) := by decide +kernel
theorem dX10_setEntry_66 : decode cX10_setEntry 66 = .ok (.aload_n 0, 1) := by decide +kernel
theorem dX10_setEntry_67 : decode cX10_setEntry 67 = .ok (.getfield 54, 3) := by decide +kernel
theorem dX10_setEntry_70 : decode cX10_setEntry 70 = .ok (.iconst 4, 1) := by decide +kernel
theorem dX10_setEntry_71 : decode cX10_setEntry 71 = .ok (.iload_n 1, 1) := by decide +kernel
theorem dX10_setEntry_72 : decode cX10_setEntry 72 = .ok (.imul, 1) := by decide +kernel
theorem dX10_setEntry_73 : decode cX10_setEntry 73 = .ok (.iload_n 2, 1) := by decide +kernel
theorem dX10_setEntry_74 : decode cX10_setEntry 74 = .ok (.iadd, 1) := by decide +kernel
theorem dX10_setEntry_75 : decode cX10_setEntry 75 = .ok (.iaload, 1) := by decide +kernel
theorem dX10_setEntry_76 : decode cX10_setEntry 76 = .ok (.istore 4, 2) := by decide +kernel
theorem dX10_setEntry_78 : decode cX10_setEntry 78 = .ok (.aload_n 0, 1) := by decide +kernel
theorem dX10_setEntry_79 : decode cX10_setEntry 79 = .ok (.getfield 54, 3) := by decide +kernel
theorem dX10_setEntry_82 : decode cX10_setEntry 82 = .ok (.iconst 4, 1) := by decide +kernel
theorem dX10_setEntry_83 : decode cX10_setEntry 83 = .ok (.iload_n 1, 1) := by decide +kernel
theorem dX10_setEntry_84 : decode cX10_setEntry 84 = .ok (.imul, 1) := by decide +kernel
theorem dX10_setEntry_85 : decode cX10_setEntry 85 = .ok (.iload_n 2, 1) := by decide +kernel
theorem dX10_setEntry_86 : decode cX10_setEntry 86 = .ok (.iadd, 1) := by decide +kernel
theorem dX10_setEntry_87 : decode cX10_setEntry 87 = .ok (.iload_n 3, 1) := by decide +kernel
theorem dX10_setEntry_88 : decode cX10_setEntry 88 = .ok (.iastore, 1) := by decide +kernel
theorem dX10_setEntry_89 : decode cX10_setEntry 89 = .ok (.iload 4, 2) := by decide +kernel
theorem dX10_setEntry_91 : decode cX10_setEntry 91 = .ok (.ireturn, 1) := by decide +kernel
theorem dX10_bits_0 : decode cX10_bits 0 = .ok (.iconst 0, 1) := by decide +kernel
theorem dX10_bits_1 : decode cX10_bits 1 = .ok (.istore_n 1, 1) := by decide +kernel
theorem dX10_bits_2 : decode cX10_bits 2 = .ok (.iload_n 0, 1) := by decide +kernel
theorem dX10_bits_3 : decode cX10_bits 3 = .ok (.istore_n 2, 1) := by decide +kernel
theorem dX10_bits_4 : decode cX10_bits 4 = .ok (.iload_n 2, 1) := by decide +kernel
theorem dX10_bits_5 : decode cX10_bits 5 = .ok (.ifCond .le 16, 3) := by decide +kernel
theorem dX10_bits_8 : decode cX10_bits 8 = .ok (.iload_n 1, 1) := by decide +kernel
theorem dX10_bits_9 : decode cX10_bits 9 = .ok (.iload_n 2, 1) := by decide +kernel
theorem dX10_bits_10 : decode cX10_bits 10 = .ok (.iconst 2, 1) := by decide +kernel
theorem dX10_bits_11 : decode cX10_bits 11 = .ok (.irem, 1) := by decide +kernel
theorem dX10_bits_12 : decode cX10_bits 12 = .ok (.iadd, 1) := by decide +kernel
theorem dX10_bits_13 : decode cX10_bits 13 = .ok (.istore_n 1, 1) := by decide +kernel
theorem dX10_bits_14 : decode cX10_bits 14 = .ok (.iload_n 2, 1) := by decide +kernel
theorem dX10_bits_15 : decode cX10_bits 15 = .ok (.iconst 2, 1) := by decide +kernel
theorem dX10_bits_16 : decode cX10_bits 16 = .ok (.idiv, 1) := by decide +kernel
theorem dX10_bits_17 : decode cX10_bits 17 = .ok (.istore_n 2, 1) := by decide +kernel
theorem dX10_bits_18 : decode cX10_bits 18 = .ok (.goto (-14), 3) := by decide +kernel
theorem dX10_bits_21 : decode cX10_bits 21 = .ok (.iload_n 1, 1) := by decide +kernel
theorem dX10_bits_22 : decode cX10_bits 22 = .ok (.ireturn, 1) := by decide +kernel
theorem dX10_place_0 : decode cX10_place 0 = .ok (.iload_n 1, 1) := by decide +kernel
theorem dX10_place_1 : decode cX10_place 1 = .ok (.istore_n 2, 1) := by decide +kernel
theorem dX10_place_2 : decode cX10_place 2 = .ok (.iconst 0, 1) := by decide +kernel
theorem dX10_place_3 : decode cX10_place 3 = .ok (.istore_n 3, 1) := by decide +kernel
theorem dX10_place_4 : decode cX10_place 4 = .ok (.iload_n 3, 1) := by decide +kernel
theorem dX10_place_5 : decode cX10_place 5 = .ok (.iconst 4, 1) := by decide +kernel
theorem dX10_place_6 : decode cX10_place 6 = .ok (.if_icmp .ge 27, 3) := by decide +kernel
theorem dX10_place_9 : decode cX10_place 9 = .ok (.iload_n 0, 1) := by decide +kernel
theorem dX10_place_10 : decode cX10_place 10 = .ok (.iload_n 3, 1) := by decide +kernel
theorem dX10_place_11 : decode cX10_place 11 = .ok (.ishr, 1) := by decide +kernel
theorem dX10_place_12 : decode cX10_place 12 = .ok (.iconst 1, 1) := by decide +kernel
theorem dX10_place_13 : decode cX10_place 13 = .ok (.iand, 1) := by decide +kernel
theorem dX10_place_14 : decode cX10_place 14 = .ok (.iconst 1, 1) := by decide +kernel
theorem dX10_place_15 : decode cX10_place 15 = .ok (.if_icmp .ne 12, 3) := by decide +kernel
theorem dX10_place_18 : decode cX10_place 18 = .ok (.iload_n 2, 1) := by decide +kernel
theorem dX10_place_19 : decode cX10_place 19 = .ok (.iinc 2 (-1), 3) := by decide +kernel
theorem dX10_place_22 : decode cX10_place 22 = .ok (.ifCond .ne 5, 3) := by decide +kernel
theorem dX10_place_25 : decode cX10_place 25 = .ok (.iload_n 3, 1) := by decide +kernel
theorem dX10_place_26 : decode cX10_place 26 = .ok (.ireturn, 1) := by decide +kernel
theorem dX10_place_27 : decode cX10_place 27 = .ok (.iinc 3 1, 3) := by decide +kernel
theorem dX10_place_30 : decode cX10_place 30 = .ok (.goto (-26), 3) := by decide +kernel
theorem dX10_place_33 : decode cX10_place 33 = .ok (.iconst 0, 1) := by decide +kernel
theorem dX10_place_34 : decode cX10_place 34 = .ok (.ireturn, 1) := by decide +kernel
theorem dX10_minor_0 : decode cX10_minor 0 = .ok (.iload_n 1, 1) := by decide +kernel
theorem dX10_minor_1 : decode cX10_minor 1 = .ok (.invokestatic 285, 3) := by decide +kernel
theorem dX10_minor_4 : decode cX10_minor 4 = .ok (.istore_n 3, 1) := by decide +kernel
theorem dX10_minor_5 : decode cX10_minor 5 = .ok (.lconst 0, 1) := by decide +kernel
theorem dX10_minor_6 : decode cX10_minor 6 = .ok (.lstore 4, 2) := by decide +kernel
theorem dX10_minor_8 : decode cX10_minor 8 = .ok (.iconst 0, 1) := by decide +kernel
theorem dX10_minor_9 : decode cX10_minor 9 = .ok (.istore 6, 2) := by decide +kernel
theorem dX10_minor_11 : decode cX10_minor 11 = .ok (.iload 6, 2) := by decide +kernel
theorem dX10_minor_13 : decode cX10_minor 13 = .ok (.sipush 256, 3) := by decide +kernel
theorem dX10_minor_16 : decode cX10_minor 16 = .ok (.if_icmp .ge 365, 3) := by decide +kernel
theorem dX10_minor_19 : decode cX10_minor 19 = .ok (.iload 6, 2) := by decide +kernel
theorem dX10_minor_21 : decode cX10_minor 21 = .ok (.iconst 4, 1) := by decide +kernel
theorem dX10_minor_22 : decode cX10_minor 22 = .ok (.irem, 1) := by decide +kernel
theorem dX10_minor_23 : decode cX10_minor 23 = .ok (.istore 7, 2) := by decide +kernel
theorem dX10_minor_25 : decode cX10_minor 25 = .ok (.iload 6, 2) := by decide +kernel
theorem dX10_minor_27 : decode cX10_minor 27 = .ok (.iconst 4, 1) := by decide +kernel
theorem dX10_minor_28 : decode cX10_minor 28 = .ok (.idiv, 1) := by decide +kernel
theorem dX10_minor_29 : decode cX10_minor 29 = .ok (.iconst 4, 1) := by decide +kernel
theorem dX10_minor_30 : decode cX10_minor 30 = .ok (.irem, 1) := by decide +kernel
theorem dX10_minor_31 : decode cX10_minor 31 = .ok (.istore 8, 2) := by decide +kernel
theorem dX10_minor_33 : decode cX10_minor 33 = .ok (.iload 6, 2) := by decide +kernel
theorem dX10_minor_35 : decode cX10_minor 35 = .ok (.bipush 16, 2) := by decide +kernel
theorem dX10_minor_37 : decode cX10_minor 37 = .ok (.idiv, 1) := by decide +kernel
theorem dX10_minor_38 : decode cX10_minor 38 = .ok (.iconst 4, 1) := by decide +kernel
theorem dX10_minor_39 : decode cX10_minor 39 = .ok (.irem, 1) := by decide +kernel
theorem dX10_minor_40 : decode cX10_minor 40 = .ok (.istore 9, 2) := by decide +kernel
theorem dX10_minor_42 : decode cX10_minor 42 = .ok (.iload 6, 2) := by decide +kernel
theorem dX10_minor_44 : decode cX10_minor 44 = .ok (.bipush 64, 2) := by decide +kernel
theorem dX10_minor_46 : decode cX10_minor 46 = .ok (.idiv, 1) := by decide +kernel
theorem dX10_minor_47 : decode cX10_minor 47 = .ok (.istore 10, 2) := by decide +kernel
theorem dX10_minor_49 : decode cX10_minor 49 = .ok (.iload 7, 2) := by decide +kernel
theorem dX10_minor_51 : decode cX10_minor 51 = .ok (.iload_n 3, 1) := by decide +kernel
theorem dX10_minor_52 : decode cX10_minor 52 = .ok (.if_icmp .ge 95, 3) := by decide +kernel
theorem dX10_minor_55 : decode cX10_minor 55 = .ok (.iload_n 3, 1) := by decide +kernel
theorem dX10_minor_56 : decode cX10_minor 56 = .ok (.iconst 2, 1) := by decide +kernel
theorem dX10_minor_57 : decode cX10_minor 57 = .ok (.if_icmp .ge 24, 3) := by decide +kernel
theorem dX10_minor_60 : decode cX10_minor 60 = .ok (.iload 8, 2) := by decide +kernel
theorem dX10_minor_62 : decode cX10_minor 62 = .ok (.iconst 1, 1) := by decide +kernel
theorem dX10_minor_63 : decode cX10_minor 63 = .ok (.if_icmp .ne 84, 3) := by decide +kernel
theorem dX10_minor_66 : decode cX10_minor 66 = .ok (.iload 9, 2) := by decide +kernel
theorem dX10_minor_68 : decode cX10_minor 68 = .ok (.iconst 2, 1) := by decide +kernel
theorem dX10_minor_69 : decode cX10_minor 69 = .ok (.if_icmp .ne 78, 3) := by decide +kernel
theorem dX10_minor_72 : decode cX10_minor 72 = .ok (.iload 10, 2) := by decide +kernel
theorem dX10_minor_74 : decode cX10_minor 74 = .ok (.iconst 3, 1) := by decide +kernel
theorem dX10_minor_75 : decode cX10_minor 75 = .ok (.if_icmp .ne 72, 3) := by decide +kernel
theorem dX10_minor_78 : decode cX10_minor 78 = .ok (.goto 9, 3) := by decide +kernel
theorem dX10_minor_81 : decode cX10_minor 81 = .ok (.iload 8, 2) := by decide +kernel
theorem dX10_minor_83 : decode cX10_minor 83 = .ok (.iload_n 3, 1) := by decide +kernel
theorem dX10_minor_84 : decode cX10_minor 84 = .ok (.if_icmp .ge 63, 3) := by decide +kernel
theorem dX10_minor_87 : decode cX10_minor 87 = .ok (.iload_n 3, 1) := by decide +kernel
theorem dX10_minor_88 : decode cX10_minor 88 = .ok (.iconst 2, 1) := by decide +kernel
theorem dX10_minor_89 : decode cX10_minor 89 = .ok (.if_icmp .lt 29, 3) := by decide +kernel
theorem dX10_minor_92 : decode cX10_minor 92 = .ok (.iload_n 3, 1) := by decide +kernel
theorem dX10_minor_93 : decode cX10_minor 93 = .ok (.iconst 3, 1) := by decide +kernel
theorem dX10_minor_94 : decode cX10_minor 94 = .ok (.if_icmp .ge 18, 3) := by decide +kernel
theorem dX10_minor_97 : decode cX10_minor 97 = .ok (.iload 9, 2) := by decide +kernel
theorem dX10_minor_99 : decode cX10_minor 99 = .ok (.iconst 2, 1) := by decide +kernel
theorem dX10_minor_100 : decode cX10_minor 100 = .ok (.if_icmp .ne 47, 3) := by decide +kernel
theorem dX10_minor_103 : decode cX10_minor 103 = .ok (.iload 10, 2) := by decide +kernel
theorem dX10_minor_105 : decode cX10_minor 105 = .ok (.iconst 3, 1) := by decide +kernel
theorem dX10_minor_106 : decode cX10_minor 106 = .ok (.if_icmp .ne 41, 3) := by decide +kernel
theorem dX10_minor_109 : decode cX10_minor 109 = .ok (.goto 9, 3) := by decide +kernel
theorem dX10_minor_112 : decode cX10_minor 112 = .ok (.iload 9, 2) := by decide +kernel
theorem dX10_minor_114 : decode cX10_minor 114 = .ok (.iload_n 3, 1) := by decide +kernel
theorem dX10_minor_115 : decode cX10_minor 115 = .ok (.if_icmp .ge 32, 3) := by decide +kernel
theorem dX10_minor_118 : decode cX10_minor 118 = .ok (.iload_n 3, 1) := by decide +kernel
theorem dX10_minor_119 : decode cX10_minor 119 = .ok (.iconst 3, 1) := by decide +kernel
theorem dX10_minor_120 : decode cX10_minor 120 = .ok (.if_icmp .lt 23, 3) := by decide +kernel
theorem dX10_minor_123 : decode cX10_minor 123 = .ok (.iload_n 3, 1) := by decide +kernel
theorem dX10_minor_124 : decode cX10_minor 124 = .ok (.iconst 4, 1) := by decide +kernel
theorem dX10_minor_125 : decode cX10_minor 125 = .ok (.if_icmp .ge 12, 3) := by decide +kernel
theorem dX10_minor_128 : decode cX10_minor 128 = .ok (.iload 10, 2) := by decide +kernel
theorem dX10_minor_130 : decode cX10_minor 130 = .ok (.iconst 3, 1) := by decide +kernel
theorem dX10_minor_131 : decode cX10_minor 131 = .ok (.if_icmp .ne 16, 3) := by decide +kernel
theorem dX10_minor_134 : decode cX10_minor 134 = .ok (.goto 9, 3) := by decide +kernel
theorem dX10_minor_137 : decode cX10_minor 137 = .ok (.iload 10, 2) := by decide +kernel
theorem dX10_minor_139 : decode cX10_minor 139 = .ok (.iload_n 3, 1) := by decide +kernel
theorem dX10_minor_140 : decode cX10_minor 140 = .ok (.if_icmp .ge 7, 3) := by decide +kernel
theorem dX10_minor_143 : decode cX10_minor 143 = .ok (.iconst 1, 1) := by decide +kernel
theorem dX10_minor_144 : decode cX10_minor 144 = .ok (.goto 4, 3) := by decide +kernel
theorem dX10_minor_147 : decode cX10_minor 147 = .ok (.iconst 0, 1) := by decide +kernel
theorem dX10_minor_148 : decode cX10_minor 148 = .ok (.istore 11, 2) := by decide +kernel
theorem dX10_minor_150 : decode cX10_minor 150 = .ok (.iload 11, 2) := by decide +kernel
theorem dX10_minor_152 : decode cX10_minor 152 = .ok (.ifCond .eq 223, 3) := by decide +kernel
theorem dX10_minor_155 : decode cX10_minor 155 = .ok (.iload 7, 2) := by decide +kernel
theorem dX10_minor_157 : decode cX10_minor 157 = .ok (.iload 8, 2) := by decide +kernel
theorem dX10_minor_159 : decode cX10_minor 159 = .ok (.if_icmp .eq 216, 3) := by decide +kernel
theorem dX10_minor_162 : decode cX10_minor 162 = .ok (.iload 7, 2) := by decide +kernel
theorem dX10_minor_164 : decode cX10_minor 164 = .ok (.iload 9, 2) := by decide +kernel
theorem dX10_minor_166 : decode cX10_minor 166 = .ok (.if_icmp .eq 209, 3) := by decide +kernel
theorem dX10_minor_169 : decode cX10_minor 169 = .ok (.iload 7, 2) := by decide +kernel
theorem dX10_minor_171 : decode cX10_minor 171 = .ok (.iload 10, 2) := by decide +kernel
theorem dX10_minor_173 : decode cX10_minor 173 = .ok (.if_icmp .eq 202, 3) := by decide +kernel
theorem dX10_minor_176 : decode cX10_minor 176 = .ok (.iload 8, 2) := by decide +kernel
theorem dX10_minor_178 : decode cX10_minor 178 = .ok (.iload 9, 2) := by decide +kernel
theorem dX10_minor_180 : decode cX10_minor 180 = .ok (.if_icmp .eq 195, 3) := by decide +kernel
theorem dX10_minor_183 : decode cX10_minor 183 = .ok (.iload 8, 2) := by decide +kernel
theorem dX10_minor_185 : decode cX10_minor 185 = .ok (.iload 10, 2) := by decide +kernel
theorem dX10_minor_187 : decode cX10_minor 187 = .ok (.if_icmp .eq 188, 3) := by decide +kernel
theorem dX10_minor_190 : decode cX10_minor 190 = .ok (.iload 9, 2) := by decide +kernel
theorem dX10_minor_192 : decode cX10_minor 192 = .ok (.iload 10, 2) := by decide +kernel
theorem dX10_minor_194 : decode cX10_minor 194 = .ok (.if_icmp .ne 6, 3) := by decide +kernel
theorem dX10_minor_197 : decode cX10_minor 197 = .ok (.goto 178, 3) := by decide +kernel
theorem dX10_minor_200 : decode cX10_minor 200 = .ok (.iload 7, 2) := by decide +kernel
theorem dX10_minor_202 : decode cX10_minor 202 = .ok (.iload 8, 2) := by decide +kernel
theorem dX10_minor_204 : decode cX10_minor 204 = .ok (.if_icmp .le 7, 3) := by decide +kernel
theorem dX10_minor_207 : decode cX10_minor 207 = .ok (.iconst 1, 1) := by decide +kernel
theorem dX10_minor_208 : decode cX10_minor 208 = .ok (.goto 4, 3) := by decide +kernel
theorem dX10_minor_211 : decode cX10_minor 211 = .ok (.iconst 0, 1) := by decide +kernel
theorem dX10_minor_212 : decode cX10_minor 212 = .ok (.iload 7, 2) := by decide +kernel
theorem dX10_minor_214 : decode cX10_minor 214 = .ok (.iload 9, 2) := by decide +kernel
theorem dX10_minor_216 : decode cX10_minor 216 = .ok (.if_icmp .le 7, 3) := by decide +kernel
theorem dX10_minor_219 : decode cX10_minor 219 = .ok (.iconst 1, 1) := by decide +kernel
theorem dX10_minor_220 : decode cX10_minor 220 = .ok (.goto 4, 3) := by decide +kernel
theorem dX10_minor_223 : decode cX10_minor 223 = .ok (.iconst 0, 1) := by decide +kernel
theorem dX10_minor_224 : decode cX10_minor 224 = .ok (.iadd, 1) := by decide +kernel
theorem dX10_minor_225 : decode cX10_minor 225 = .ok (.iload 7, 2) := by decide +kernel
theorem dX10_minor_227 : decode cX10_minor 227 = .ok (.iload 10, 2) := by decide +kernel
theorem dX10_minor_229 : decode cX10_minor 229 = .ok (.if_icmp .le 7, 3) := by decide +kernel
theorem dX10_minor_232 : decode cX10_minor 232 = .ok (.iconst 1, 1) := by decide +kernel
theorem dX10_minor_233 : decode cX10_minor 233 = .ok (.goto 4, 3) := by decide +kernel
theorem dX10_minor_236 : decode cX10_minor 236 = .ok (.iconst 0, 1) := by decide +kernel
theorem dX10_minor_237 : decode cX10_minor 237 = .ok (.iadd, 1) := by decide +kernel
theorem dX10_minor_238 : decode cX10_minor 238 = .ok (.iload 8, 2) := by decide +kernel
theorem dX10_minor_240 : decode cX10_minor 240 = .ok (.iload 9, 2) := by decide +kernel
theorem dX10_minor_242 : decode cX10_minor 242 = .ok (.if_icmp .le 7, 3) := by decide +kernel
theorem dX10_minor_245 : decode cX10_minor 245 = .ok (.iconst 1, 1) := by decide +kernel
theorem dX10_minor_246 : decode cX10_minor 246 = .ok (.goto 4, 3) := by decide +kernel
theorem dX10_minor_249 : decode cX10_minor 249 = .ok (.iconst 0, 1) := by decide +kernel
theorem dX10_minor_250 : decode cX10_minor 250 = .ok (.iadd, 1) := by decide +kernel
theorem dX10_minor_251 : decode cX10_minor 251 = .ok (.iload 8, 2) := by decide +kernel
theorem dX10_minor_253 : decode cX10_minor 253 = .ok (.iload 10, 2) := by decide +kernel
theorem dX10_minor_255 : decode cX10_minor 255 = .ok (.if_icmp .le 7, 3) := by decide +kernel
theorem dX10_minor_258 : decode cX10_minor 258 = .ok (.iconst 1, 1) := by decide +kernel
theorem dX10_minor_259 : decode cX10_minor 259 = .ok (.goto 4, 3) := by decide +kernel
theorem dX10_minor_262 : decode cX10_minor 262 = .ok (.iconst 0, 1) := by decide +kernel
theorem dX10_minor_263 : decode cX10_minor 263 = .ok (.iadd, 1) := by decide +kernel
theorem dX10_minor_264 : decode cX10_minor 264 = .ok (.iload 9, 2) := by decide +kernel
theorem dX10_minor_266 : decode cX10_minor 266 = .ok (.iload 10, 2) := by decide +kernel
theorem dX10_minor_268 : decode cX10_minor 268 = .ok (.if_icmp .le 7, 3) := by decide +kernel
theorem dX10_minor_271 : decode cX10_minor 271 = .ok (.iconst 1, 1) := by decide +kernel
theorem dX10_minor_272 : decode cX10_minor 272 = .ok (.goto 4, 3) := by decide +kernel
theorem dX10_minor_275 : decode cX10_minor 275 = .ok (.iconst 0, 1) := by decide +kernel
theorem dX10_minor_276 : decode cX10_minor 276 = .ok (.iadd, 1) := by decide +kernel
theorem dX10_minor_277 : decode cX10_minor 277 = .ok (.istore 12, 2) := by decide +kernel
theorem dX10_minor_279 : decode cX10_minor 279 = .ok (.iload 12, 2) := by decide +kernel
theorem dX10_minor_281 : decode cX10_minor 281 = .ok (.iconst 2, 1) := by decide +kernel
theorem dX10_minor_282 : decode cX10_minor 282 = .ok (.irem, 1) := by decide +kernel
theorem dX10_minor_283 : decode cX10_minor 283 = .ok (.ifCond .ne 7, 3) := by decide +kernel
theorem dX10_minor_286 : decode cX10_minor 286 = .ok (.lconst 1, 1) := by decide +kernel
theorem dX10_minor_287 : decode cX10_minor 287 = .ok (.goto 6, 3) := by decide +kernel
theorem dX10_minor_290 : decode cX10_minor 290 = .ok (.ldc2_w 288, 3) := by decide +kernel
theorem dX10_minor_293 : decode cX10_minor 293 = .ok (.lstore 13, 2) := by decide +kernel
theorem dX10_minor_295 : decode cX10_minor 295 = .ok (.iconst 0, 1) := by decide +kernel
theorem dX10_minor_296 : decode cX10_minor 296 = .ok (.istore 15, 2) := by decide +kernel
theorem dX10_minor_298 : decode cX10_minor 298 = .ok (.iload 15, 2) := by decide +kernel
theorem dX10_minor_300 : decode cX10_minor 300 = .ok (.iload_n 3, 1) := by decide +kernel
theorem dX10_minor_301 : decode cX10_minor 301 = .ok (.if_icmp .ge 67, 3) := by decide +kernel
theorem dX10_minor_304 : decode cX10_minor 304 = .ok (.lload 13, 2) := by decide +kernel
theorem dX10_minor_306 : decode cX10_minor 306 = .ok (.aload_n 0, 1) := by decide +kernel
theorem dX10_minor_307 : decode cX10_minor 307 = .ok (.getfield 54, 3) := by decide +kernel
theorem dX10_minor_310 : decode cX10_minor 310 = .ok (.iconst 4, 1) := by decide +kernel
theorem dX10_minor_311 : decode cX10_minor 311 = .ok (.iload_n 1, 1) := by decide +kernel
theorem dX10_minor_312 : decode cX10_minor 312 = .ok (.iload 15, 2) := by decide +kernel
theorem dX10_minor_314 : decode cX10_minor 314 = .ok (.invokestatic 290, 3) := by decide +kernel
theorem dX10_minor_317 : decode cX10_minor 317 = .ok (.imul, 1) := by decide +kernel
theorem dX10_minor_318 : decode cX10_minor 318 = .ok (.iload_n 2, 1) := by decide +kernel
theorem dX10_minor_319 : decode cX10_minor 319 = .ok (.iload 15, 2) := by decide +kernel
theorem dX10_minor_321 : decode cX10_minor 321 = .ok (.ifCond .ne 8, 3) := by decide +kernel
theorem dX10_minor_324 : decode cX10_minor 324 = .ok (.iload 7, 2) := by decide +kernel
theorem dX10_minor_326 : decode cX10_minor 326 = .ok (.goto 27, 3) := by decide +kernel
theorem dX10_minor_329 : decode cX10_minor 329 = .ok (.iload 15, 2) := by decide +kernel
theorem dX10_minor_331 : decode cX10_minor 331 = .ok (.iconst 1, 1) := by decide +kernel
theorem dX10_minor_332 : decode cX10_minor 332 = .ok (.if_icmp .ne 8, 3) := by decide +kernel
theorem dX10_minor_335 : decode cX10_minor 335 = .ok (.iload 8, 2) := by decide +kernel
theorem dX10_minor_337 : decode cX10_minor 337 = .ok (.goto 16, 3) := by decide +kernel
theorem dX10_minor_340 : decode cX10_minor 340 = .ok (.iload 15, 2) := by decide +kernel
theorem dX10_minor_342 : decode cX10_minor 342 = .ok (.iconst 2, 1) := by decide +kernel
theorem dX10_minor_343 : decode cX10_minor 343 = .ok (.if_icmp .ne 8, 3) := by decide +kernel
theorem dX10_minor_346 : decode cX10_minor 346 = .ok (.iload 9, 2) := by decide +kernel
theorem dX10_minor_348 : decode cX10_minor 348 = .ok (.goto 5, 3) := by decide +kernel
theorem dX10_minor_351 : decode cX10_minor 351 = .ok (.iload 10, 2) := by decide +kernel
theorem dX10_minor_353 : decode cX10_minor 353 = .ok (.invokestatic 290, 3) := by decide +kernel
theorem dX10_minor_356 : decode cX10_minor 356 = .ok (.iadd, 1) := by decide +kernel
theorem dX10_minor_357 : decode cX10_minor 357 = .ok (.iaload, 1) := by decide +kernel
theorem dX10_minor_358 : decode cX10_minor 358 = .ok (.i2l, 1) := by decide +kernel
theorem dX10_minor_359 : decode cX10_minor 359 = .ok (.lmul, 1) := by decide +kernel
theorem dX10_minor_360 : decode cX10_minor 360 = .ok (.lstore 13, 2) := by decide +kernel
theorem dX10_minor_362 : decode cX10_minor 362 = .ok (.iinc 15 1, 3) := by decide +kernel
theorem dX10_minor_365 : decode cX10_minor 365 = .ok (.goto (-67), 3) := by decide +kernel
theorem dX10_minor_368 : decode cX10_minor 368 = .ok (.lload 4, 2) := by decide +kernel
theorem dX10_minor_370 : decode cX10_minor 370 = .ok (.lload 13, 2) := by decide +kernel
theorem dX10_minor_372 : decode cX10_minor 372 = .ok (.ladd, 1) := by decide +kernel
theorem dX10_minor_373 : decode cX10_minor 373 = .ok (.lstore 4, 2) := by decide +kernel
theorem dX10_minor_375 : decode cX10_minor 375 = .ok (.iinc 6 1, 3) := by decide +kernel
theorem dX10_minor_378 : decode cX10_minor 378 = .ok (.goto (-367), 3) := by decide +kernel
theorem dX10_minor_381 : decode cX10_minor 381 = .ok (.lload 4, 2) := by decide +kernel
theorem dX10_minor_383 : decode cX10_minor 383 = .ok (.lreturn, 1) := by decide +kernel
theorem dX10_least_0 : decode cX10_least 0 = .ok (.iload_n 1, 1) := by decide +kernel
theorem dX10_least_1 : decode cX10_least 1 = .ok (.ifCond .ne 7, 3) := by decide +kernel
theorem dX10_least_4 : decode cX10_least 4 = .ok (.iconst 0, 1) := by decide +kernel
theorem dX10_least_5 : decode cX10_least 5 = .ok (.goto 4, 3) := by decide +kernel
theorem dX10_least_8 : decode cX10_least 8 = .ok (.iconst (-1), 1) := by decide +kernel
theorem dX10_least_9 : decode cX10_least 9 = .ok (.istore_n 2, 1) := by decide +kernel
theorem dX10_least_10 : decode cX10_least 10 = .ok (.iconst 1, 1) := by decide +kernel
theorem dX10_least_11 : decode cX10_least 11 = .ok (.istore_n 3, 1) := by decide +kernel
theorem dX10_least_12 : decode cX10_least 12 = .ok (.iload_n 3, 1) := by decide +kernel
theorem dX10_least_13 : decode cX10_least 13 = .ok (.iconst 1, 1) := by decide +kernel
theorem dX10_least_14 : decode cX10_least 14 = .ok (.aload_n 0, 1) := by decide +kernel
theorem dX10_least_15 : decode cX10_least 15 = .ok (.getfield 67, 3) := by decide +kernel
theorem dX10_least_18 : decode cX10_least 18 = .ok (.ishl, 1) := by decide +kernel
theorem dX10_least_19 : decode cX10_least 19 = .ok (.if_icmp .ge 91, 3) := by decide +kernel
theorem dX10_least_22 : decode cX10_least 22 = .ok (.iload_n 1, 1) := by decide +kernel
theorem dX10_least_23 : decode cX10_least 23 = .ok (.ifCond .le 87, 3) := by decide +kernel
theorem dX10_least_26 : decode cX10_least 26 = .ok (.iconst 1, 1) := by decide +kernel
theorem dX10_least_27 : decode cX10_least 27 = .ok (.istore 4, 2) := by decide +kernel
theorem dX10_least_29 : decode cX10_least 29 = .ok (.iload 4, 2) := by decide +kernel
theorem dX10_least_31 : decode cX10_least 31 = .ok (.iconst 1, 1) := by decide +kernel
theorem dX10_least_32 : decode cX10_least 32 = .ok (.aload_n 0, 1) := by decide +kernel
theorem dX10_least_33 : decode cX10_least 33 = .ok (.getfield 67, 3) := by decide +kernel
theorem dX10_least_36 : decode cX10_least 36 = .ok (.ishl, 1) := by decide +kernel
theorem dX10_least_37 : decode cX10_least 37 = .ok (.if_icmp .ge 67, 3) := by decide +kernel
theorem dX10_least_40 : decode cX10_least 40 = .ok (.iload_n 3, 1) := by decide +kernel
theorem dX10_least_41 : decode cX10_least 41 = .ok (.invokestatic 285, 3) := by decide +kernel
theorem dX10_least_44 : decode cX10_least 44 = .ok (.iload_n 1, 1) := by decide +kernel
theorem dX10_least_45 : decode cX10_least 45 = .ok (.if_icmp .ne 53, 3) := by decide +kernel
theorem dX10_least_48 : decode cX10_least 48 = .ok (.iload 4, 2) := by decide +kernel
theorem dX10_least_50 : decode cX10_least 50 = .ok (.invokestatic 285, 3) := by decide +kernel
theorem dX10_least_53 : decode cX10_least 53 = .ok (.iload_n 1, 1) := by decide +kernel
theorem dX10_least_54 : decode cX10_least 54 = .ok (.if_icmp .eq 6, 3) := by decide +kernel
theorem dX10_least_57 : decode cX10_least 57 = .ok (.goto 41, 3) := by decide +kernel
theorem dX10_least_60 : decode cX10_least 60 = .ok (.aload_n 0, 1) := by decide +kernel
theorem dX10_least_61 : decode cX10_least 61 = .ok (.iload_n 3, 1) := by decide +kernel
theorem dX10_least_62 : decode cX10_least 62 = .ok (.iload 4, 2) := by decide +kernel
theorem dX10_least_64 : decode cX10_least 64 = .ok (.invokevirtual 293, 3) := by decide +kernel
theorem dX10_least_67 : decode cX10_least 67 = .ok (.lstore 5, 2) := by decide +kernel
theorem dX10_least_69 : decode cX10_least 69 = .ok (.lload 5, 2) := by decide +kernel
theorem dX10_least_71 : decode cX10_least 71 = .ok (.lconst 0, 1) := by decide +kernel
theorem dX10_least_72 : decode cX10_least 72 = .ok (.lcmp, 1) := by decide +kernel
theorem dX10_least_73 : decode cX10_least 73 = .ok (.ifCond .eq 25, 3) := by decide +kernel
theorem dX10_least_76 : decode cX10_least 76 = .ok (.iload_n 2, 1) := by decide +kernel
theorem dX10_least_77 : decode cX10_least 77 = .ok (.iconst (-1), 1) := by decide +kernel
theorem dX10_least_78 : decode cX10_least 78 = .ok (.if_icmp .eq 13, 3) := by decide +kernel
theorem dX10_least_81 : decode cX10_least 81 = .ok (.aload_n 0, 1) := by decide +kernel
theorem dX10_least_82 : decode cX10_least 82 = .ok (.lload 5, 2) := by decide +kernel
theorem dX10_least_84 : decode cX10_least 84 = .ok (.invokevirtual 120, 3) := by decide +kernel
theorem dX10_least_87 : decode cX10_least 87 = .ok (.iload_n 2, 1) := by decide +kernel
theorem dX10_least_88 : decode cX10_least 88 = .ok (.if_icmp .ge 10, 3) := by decide +kernel
theorem dX10_least_91 : decode cX10_least 91 = .ok (.aload_n 0, 1) := by decide +kernel
theorem dX10_least_92 : decode cX10_least 92 = .ok (.lload 5, 2) := by decide +kernel
theorem dX10_least_94 : decode cX10_least 94 = .ok (.invokevirtual 120, 3) := by decide +kernel
theorem dX10_least_97 : decode cX10_least 97 = .ok (.istore_n 2, 1) := by decide +kernel
theorem dX10_least_98 : decode cX10_least 98 = .ok (.iinc 4 1, 3) := by decide +kernel
theorem dX10_least_101 : decode cX10_least 101 = .ok (.goto (-72), 3) := by decide +kernel
theorem dX10_least_104 : decode cX10_least 104 = .ok (.iinc 3 1, 3) := by decide +kernel
theorem dX10_least_107 : decode cX10_least 107 = .ok (.goto (-95), 3) := by decide +kernel
theorem dX10_least_110 : decode cX10_least 110 = .ok (.iload_n 2, 1) := by decide +kernel
theorem dX10_least_111 : decode cX10_least 111 = .ok (.ireturn, 1) := by decide +kernel
theorem dX10_determinant_0 : decode cX10_determinant 0 = .ok (.aload_n 0, 1) := by decide +kernel
theorem dX10_determinant_1 : decode cX10_determinant 1 = .ok (.iconst 1, 1) := by decide +kernel
theorem dX10_determinant_2 : decode cX10_determinant 2 = .ok (.aload_n 0, 1) := by decide +kernel
theorem dX10_determinant_3 : decode cX10_determinant 3 = .ok (.getfield 67, 3) := by decide +kernel
theorem dX10_determinant_6 : decode cX10_determinant 6 = .ok (.ishl, 1) := by decide +kernel
theorem dX10_determinant_7 : decode cX10_determinant 7 = .ok (.iconst 1, 1) := by decide +kernel
theorem dX10_determinant_8 : decode cX10_determinant 8 = .ok (.isub, 1) := by decide +kernel
theorem dX10_determinant_9 : decode cX10_determinant 9 = .ok (.iconst 1, 1) := by decide +kernel
theorem dX10_determinant_10 : decode cX10_determinant 10 = .ok (.aload_n 0, 1) := by decide +kernel
theorem dX10_determinant_11 : decode cX10_determinant 11 = .ok (.getfield 67, 3) := by decide +kernel
theorem dX10_determinant_14 : decode cX10_determinant 14 = .ok (.ishl, 1) := by decide +kernel
theorem dX10_determinant_15 : decode cX10_determinant 15 = .ok (.iconst 1, 1) := by decide +kernel
theorem dX10_determinant_16 : decode cX10_determinant 16 = .ok (.isub, 1) := by decide +kernel
theorem dX10_determinant_17 : decode cX10_determinant 17 = .ok (.invokevirtual 293, 3) := by decide +kernel
theorem dX10_determinant_20 : decode cX10_determinant 20 = .ok (.lreturn, 1) := by decide +kernel
theorem dX10_rankOf_0 : decode cX10_rankOf 0 = .ok (.iconst 0, 1) := by decide +kernel
theorem dX10_rankOf_1 : decode cX10_rankOf 1 = .ok (.istore_n 1, 1) := by decide +kernel
theorem dX10_rankOf_2 : decode cX10_rankOf 2 = .ok (.iload_n 1, 1) := by decide +kernel
theorem dX10_rankOf_3 : decode cX10_rankOf 3 = .ok (.aload_n 0, 1) := by decide +kernel
theorem dX10_rankOf_4 : decode cX10_rankOf 4 = .ok (.getfield 67, 3) := by decide +kernel
theorem dX10_rankOf_7 : decode cX10_rankOf 7 = .ok (.if_icmp .ge 20, 3) := by decide +kernel
theorem dX10_rankOf_10 : decode cX10_rankOf 10 = .ok (.aload_n 0, 1) := by decide +kernel
theorem dX10_rankOf_11 : decode cX10_rankOf 11 = .ok (.iload_n 1, 1) := by decide +kernel
theorem dX10_rankOf_12 : decode cX10_rankOf 12 = .ok (.iconst 1, 1) := by decide +kernel
theorem dX10_rankOf_13 : decode cX10_rankOf 13 = .ok (.iadd, 1) := by decide +kernel
theorem dX10_rankOf_14 : decode cX10_rankOf 14 = .ok (.invokevirtual 297, 3) := by decide +kernel
theorem dX10_rankOf_17 : decode cX10_rankOf 17 = .ok (.iconst (-1), 1) := by decide +kernel
theorem dX10_rankOf_18 : decode cX10_rankOf 18 = .ok (.if_icmp .eq 9, 3) := by decide +kernel
theorem dX10_rankOf_21 : decode cX10_rankOf 21 = .ok (.iinc 1 1, 3) := by decide +kernel
theorem dX10_rankOf_24 : decode cX10_rankOf 24 = .ok (.goto (-22), 3) := by decide +kernel
theorem dX10_rankOf_27 : decode cX10_rankOf 27 = .ok (.iload_n 1, 1) := by decide +kernel
theorem dX10_rankOf_28 : decode cX10_rankOf 28 = .ok (.ireturn, 1) := by decide +kernel
theorem dX10_rank_0 : decode cX10_rank 0 = .ok (.aload_n 0, 1) := by decide +kernel
theorem dX10_rank_1 : decode cX10_rank 1 = .ok (.invokevirtual 300, 3) := by decide +kernel
theorem dX10_rank_4 : decode cX10_rank 4 = .ok (.ireturn, 1) := by decide +kernel
theorem dX10_shape_0 : decode cX10_shape 0 = .ok (.aload_n 0, 1) := by decide +kernel
theorem dX10_shape_1 : decode cX10_shape 1 = .ok (.iload_n 1, 1) := by decide +kernel
theorem dX10_shape_2 : decode cX10_shape 2 = .ok (.i2l, 1) := by decide +kernel
theorem dX10_shape_3 : decode cX10_shape 3 = .ok (.lconst 0, 1) := by decide +kernel
theorem dX10_shape_4 : decode cX10_shape 4 = .ok (.aload_n 0, 1) := by decide +kernel
theorem dX10_shape_5 : decode cX10_shape 5 = .ok (.invokevirtual 300, 3) := by decide +kernel
theorem dX10_shape_8 : decode cX10_shape 8 = .ok (.iconst 1, 1) := by decide +kernel
theorem dX10_shape_9 : decode cX10_shape 9 = .ok (.isub, 1) := by decide +kernel
theorem dX10_shape_10 : decode cX10_shape 10 = .ok (.i2l, 1) := by decide +kernel
theorem dX10_shape_11 : decode cX10_shape 11 = .ok (.invokestatic 76, 3) := by decide +kernel
theorem dX10_shape_14 : decode cX10_shape 14 = .ok (.iconst 1, 1) := by decide +kernel
theorem dX10_shape_15 : decode cX10_shape 15 = .ok (.invokevirtual 80, 3) := by decide +kernel
theorem dX10_shape_18 : decode cX10_shape 18 = .ok (.ifCond .eq 7, 3) := by decide +kernel
theorem dX10_shape_21 : decode cX10_shape 21 = .ok (.iconst 0, 1) := by decide +kernel
theorem dX10_shape_22 : decode cX10_shape 22 = .ok (.goto 16, 3) := by decide +kernel
theorem dX10_shape_25 : decode cX10_shape 25 = .ok (.aload_n 0, 1) := by decide +kernel
theorem dX10_shape_26 : decode cX10_shape 26 = .ok (.iload_n 1, 1) := by decide +kernel
theorem dX10_shape_27 : decode cX10_shape 27 = .ok (.iconst 1, 1) := by decide +kernel
theorem dX10_shape_28 : decode cX10_shape 28 = .ok (.iadd, 1) := by decide +kernel
theorem dX10_shape_29 : decode cX10_shape 29 = .ok (.invokevirtual 297, 3) := by decide +kernel
theorem dX10_shape_32 : decode cX10_shape 32 = .ok (.aload_n 0, 1) := by decide +kernel
theorem dX10_shape_33 : decode cX10_shape 33 = .ok (.iload_n 1, 1) := by decide +kernel
theorem dX10_shape_34 : decode cX10_shape 34 = .ok (.invokevirtual 297, 3) := by decide +kernel
theorem dX10_shape_37 : decode cX10_shape 37 = .ok (.isub, 1) := by decide +kernel
theorem dX10_shape_38 : decode cX10_shape 38 = .ok (.ireturn, 1) := by decide +kernel
theorem dX10_value_0 : decode cX10_value 0 = .ok (.aload_n 0, 1) := by decide +kernel
theorem dX10_value_1 : decode cX10_value 1 = .ok (.iload_n 1, 1) := by decide +kernel
theorem dX10_value_2 : decode cX10_value 2 = .ok (.i2l, 1) := by decide +kernel
theorem dX10_value_3 : decode cX10_value 3 = .ok (.ldc2_w 233, 3) := by decide +kernel
theorem dX10_value_6 : decode cX10_value 6 = .ok (.ldc2_w 235, 3) := by decide +kernel
theorem dX10_value_9 : decode cX10_value 9 = .ok (.invokestatic 76, 3) := by decide +kernel
theorem dX10_value_12 : decode cX10_value 12 = .ok (.iconst 1, 1) := by decide +kernel
theorem dX10_value_13 : decode cX10_value 13 = .ok (.invokevirtual 80, 3) := by decide +kernel
theorem dX10_value_16 : decode cX10_value 16 = .ok (.ifCond .ne 25, 3) := by decide +kernel
theorem dX10_value_19 : decode cX10_value 19 = .ok (.aload_n 0, 1) := by decide +kernel
theorem dX10_value_20 : decode cX10_value 20 = .ok (.aload_n 0, 1) := by decide +kernel
theorem dX10_value_21 : decode cX10_value 21 = .ok (.getfield 303, 3) := by decide +kernel
theorem dX10_value_24 : decode cX10_value 24 = .ok (.bipush 12, 2) := by decide +kernel
theorem dX10_value_26 : decode cX10_value 26 = .ok (.if_icmp .ge 7, 3) := by decide +kernel
theorem dX10_value_29 : decode cX10_value 29 = .ok (.iconst 1, 1) := by decide +kernel
theorem dX10_value_30 : decode cX10_value 30 = .ok (.goto 4, 3) := by decide +kernel
theorem dX10_value_33 : decode cX10_value 33 = .ok (.iconst 0, 1) := by decide +kernel
theorem dX10_value_34 : decode cX10_value 34 = .ok (.iconst 2, 1) := by decide +kernel
theorem dX10_value_35 : decode cX10_value 35 = .ok (.invokevirtual 80, 3) := by decide +kernel
theorem dX10_value_38 : decode cX10_value 38 = .ok (.ifCond .eq 5, 3) := by decide +kernel
theorem dX10_value_41 : decode cX10_value 41 = .ok (.iconst 0, 1) := by decide +kernel
theorem dX10_value_42 : decode cX10_value 42 = .ok (.ireturn, 1) := by decide +kernel
theorem dX10_value_43 : decode cX10_value 43 = .ok (.aload_n 0, 1) := by decide +kernel
theorem dX10_value_44 : decode cX10_value 44 = .ok (.getfield 51, 3) := by decide +kernel
theorem dX10_value_47 : decode cX10_value 47 = .ok (.aload_n 0, 1) := by decide +kernel
theorem dX10_value_48 : decode cX10_value 48 = .ok (.getfield 303, 3) := by decide +kernel
theorem dX10_value_51 : decode cX10_value 51 = .ok (.iload_n 1, 1) := by decide +kernel
theorem dX10_value_52 : decode cX10_value 52 = .ok (.iastore, 1) := by decide +kernel
theorem dX10_value_53 : decode cX10_value 53 = .ok (.aload_n 0, 1) := by decide +kernel
theorem dX10_value_54 : decode cX10_value 54 = .ok (.dup, 1) := by decide +kernel
theorem dX10_value_55 : decode cX10_value 55 = .ok (.getfield 303, 3) := by decide +kernel
theorem dX10_value_58 : decode cX10_value 58 = .ok (.iconst 1, 1) := by decide +kernel
theorem dX10_value_59 : decode cX10_value 59 = .ok (.iadd, 1) := by decide +kernel
theorem dX10_value_60 : decode cX10_value 60 = .ok (.dup_x1, 1) := by decide +kernel
theorem dX10_value_61 : decode cX10_value 61 = .ok (.putfield 303, 3) := by decide +kernel
theorem dX10_value_64 : decode cX10_value 64 = .ok (.ireturn, 1) := by decide +kernel
theorem dX10_difference_0 : decode cX10_difference 0 = .ok (.aload_n 0, 1) := by decide +kernel
theorem dX10_difference_1 : decode cX10_difference 1 = .ok (.iload_n 1, 1) := by decide +kernel
theorem dX10_difference_2 : decode cX10_difference 2 = .ok (.i2l, 1) := by decide +kernel
theorem dX10_difference_3 : decode cX10_difference 3 = .ok (.lconst 0, 1) := by decide +kernel
theorem dX10_difference_4 : decode cX10_difference 4 = .ok (.aload_n 0, 1) := by decide +kernel
theorem dX10_difference_5 : decode cX10_difference 5 = .ok (.getfield 303, 3) := by decide +kernel
theorem dX10_difference_8 : decode cX10_difference 8 = .ok (.iconst 1, 1) := by decide +kernel
theorem dX10_difference_9 : decode cX10_difference 9 = .ok (.isub, 1) := by decide +kernel
theorem dX10_difference_10 : decode cX10_difference 10 = .ok (.i2l, 1) := by decide +kernel
theorem dX10_difference_11 : decode cX10_difference 11 = .ok (.invokestatic 76, 3) := by decide +kernel
theorem dX10_difference_14 : decode cX10_difference 14 = .ok (.iconst 1, 1) := by decide +kernel
theorem dX10_difference_15 : decode cX10_difference 15 = .ok (.invokevirtual 80, 3) := by decide +kernel
theorem dX10_difference_18 : decode cX10_difference 18 = .ok (.ifCond .eq 5, 3) := by decide +kernel
theorem dX10_difference_21 : decode cX10_difference 21 = .ok (.iconst 0, 1) := by decide +kernel
theorem dX10_difference_22 : decode cX10_difference 22 = .ok (.ireturn, 1) := by decide +kernel
theorem dX10_difference_23 : decode cX10_difference 23 = .ok (.iconst 0, 1) := by decide +kernel
theorem dX10_difference_24 : decode cX10_difference 24 = .ok (.istore_n 2, 1) := by decide +kernel
theorem dX10_difference_25 : decode cX10_difference 25 = .ok (.iconst 0, 1) := by decide +kernel
theorem dX10_difference_26 : decode cX10_difference 26 = .ok (.istore_n 3, 1) := by decide +kernel
theorem dX10_difference_27 : decode cX10_difference 27 = .ok (.iload_n 3, 1) := by decide +kernel
theorem dX10_difference_28 : decode cX10_difference 28 = .ok (.iload_n 1, 1) := by decide +kernel
theorem dX10_difference_29 : decode cX10_difference 29 = .ok (.if_icmp .gt 38, 3) := by decide +kernel
theorem dX10_difference_32 : decode cX10_difference 32 = .ok (.iload_n 2, 1) := by decide +kernel
theorem dX10_difference_33 : decode cX10_difference 33 = .ok (.aload_n 0, 1) := by decide +kernel
theorem dX10_difference_34 : decode cX10_difference 34 = .ok (.getfield 51, 3) := by decide +kernel
theorem dX10_difference_37 : decode cX10_difference 37 = .ok (.iload_n 3, 1) := by decide +kernel
theorem dX10_difference_38 : decode cX10_difference 38 = .ok (.iaload, 1) := by decide +kernel
theorem dX10_difference_39 : decode cX10_difference 39 = .ok (.iload_n 1, 1) := by decide +kernel
theorem dX10_difference_40 : decode cX10_difference 40 = .ok (.iload_n 3, 1) := by decide +kernel
theorem dX10_difference_41 : decode cX10_difference 41 = .ok (.invokestatic 152, 3) := by decide +kernel
theorem dX10_difference_44 : decode cX10_difference 44 = .ok (.imul, 1) := by decide +kernel
theorem dX10_difference_45 : decode cX10_difference 45 = .ok (.iload_n 1, 1) := by decide +kernel
theorem dX10_difference_46 : decode cX10_difference 46 = .ok (.iload_n 3, 1) := by decide +kernel
theorem dX10_difference_47 : decode cX10_difference 47 = .ok (.isub, 1) := by decide +kernel
theorem dX10_difference_48 : decode cX10_difference 48 = .ok (.iconst 2, 1) := by decide +kernel
theorem dX10_difference_49 : decode cX10_difference 49 = .ok (.irem, 1) := by decide +kernel
theorem dX10_difference_50 : decode cX10_difference 50 = .ok (.ifCond .ne 7, 3) := by decide +kernel
theorem dX10_difference_53 : decode cX10_difference 53 = .ok (.iconst 1, 1) := by decide +kernel
theorem dX10_difference_54 : decode cX10_difference 54 = .ok (.goto 4, 3) := by decide +kernel
theorem dX10_difference_57 : decode cX10_difference 57 = .ok (.iconst (-1), 1) := by decide +kernel
theorem dX10_difference_58 : decode cX10_difference 58 = .ok (.imul, 1) := by decide +kernel
theorem dX10_difference_59 : decode cX10_difference 59 = .ok (.iadd, 1) := by decide +kernel
theorem dX10_difference_60 : decode cX10_difference 60 = .ok (.istore_n 2, 1) := by decide +kernel
theorem dX10_difference_61 : decode cX10_difference 61 = .ok (.iinc 3 1, 3) := by decide +kernel
theorem dX10_difference_64 : decode cX10_difference 64 = .ok (.goto (-37), 3) := by decide +kernel
theorem dX10_difference_67 : decode cX10_difference 67 = .ok (.iload_n 2, 1) := by decide +kernel
theorem dX10_difference_68 : decode cX10_difference 68 = .ok (.ireturn, 1) := by decide +kernel
theorem dX10_at_0 : decode cX10_at 0 = .ok (.aload_n 0, 1) := by decide +kernel
theorem dX10_at_1 : decode cX10_at 1 = .ok (.iload_n 1, 1) := by decide +kernel
theorem dX10_at_2 : decode cX10_at 2 = .ok (.invokevirtual 213, 3) := by decide +kernel
theorem dX10_at_5 : decode cX10_at 5 = .ok (.ifCond .ne 45, 3) := by decide +kernel
theorem dX10_at_8 : decode cX10_at 8 = .ok (.aload_n 0, 1) := by decide +kernel
theorem dX10_at_9 : decode cX10_at 9 = .ok (.aload_n 0, 1) := by decide +kernel
theorem dX10_at_10 : decode cX10_at 10 = .ok (.getfield 7, 3) := by decide +kernel
theorem dX10_at_13 : decode cX10_at 13 = .ok (.iload_n 1, 1) := by decide +kernel
theorem dX10_at_14 : decode cX10_at 14 = .ok (.iaload, 1) := by decide +kernel
theorem dX10_at_15 : decode cX10_at 15 = .ok (.ifCond .lt 19, 3) := by decide +kernel
theorem dX10_at_18 : decode cX10_at 18 = .ok (.aload_n 0, 1) := by decide +kernel
theorem dX10_at_19 : decode cX10_at 19 = .ok (.iload_n 1, 1) := by decide +kernel
theorem dX10_at_20 : decode cX10_at 20 = .ok (.aload_n 0, 1) := by decide +kernel
theorem dX10_at_21 : decode cX10_at 21 = .ok (.getfield 303, 3) := by decide +kernel
theorem dX10_at_24 : decode cX10_at 24 = .ok (.invokevirtual 149, 3) := by decide +kernel
theorem dX10_at_27 : decode cX10_at 27 = .ok (.ifCond .le 7, 3) := by decide +kernel
theorem dX10_at_30 : decode cX10_at 30 = .ok (.iconst 1, 1) := by decide +kernel
theorem dX10_at_31 : decode cX10_at 31 = .ok (.goto 4, 3) := by decide +kernel
theorem dX10_at_34 : decode cX10_at 34 = .ok (.iconst 0, 1) := by decide +kernel
theorem dX10_at_35 : decode cX10_at 35 = .ok (.iconst 2, 1) := by decide +kernel
theorem dX10_at_36 : decode cX10_at 36 = .ok (.invokevirtual 80, 3) := by decide +kernel
theorem dX10_at_39 : decode cX10_at 39 = .ok (.ifCond .ne 11, 3) := by decide +kernel
theorem dX10_at_42 : decode cX10_at 42 = .ok (.aload_n 0, 1) := by decide +kernel
theorem dX10_at_43 : decode cX10_at 43 = .ok (.iconst 3, 1) := by decide +kernel
theorem dX10_at_44 : decode cX10_at 44 = .ok (.invokevirtual 202, 3) := by decide +kernel
theorem dX10_at_47 : decode cX10_at 47 = .ok (.ifCond .eq 5, 3) := by decide +kernel
theorem dX10_at_50 : decode cX10_at 50 = .ok (.iconst 0, 1) := by decide +kernel
theorem dX10_at_51 : decode cX10_at 51 = .ok (.ireturn, 1) := by decide +kernel
theorem dX10_at_52 : decode cX10_at 52 = .ok (.iconst 0, 1) := by decide +kernel
theorem dX10_at_53 : decode cX10_at 53 = .ok (.istore_n 2, 1) := by decide +kernel
theorem dX10_at_54 : decode cX10_at 54 = .ok (.iload_n 2, 1) := by decide +kernel
theorem dX10_at_55 : decode cX10_at 55 = .ok (.bipush 12, 2) := by decide +kernel
theorem dX10_at_57 : decode cX10_at 57 = .ok (.if_icmp .ge 29, 3) := by decide +kernel
theorem dX10_at_60 : decode cX10_at 60 = .ok (.aload_n 0, 1) := by decide +kernel
theorem dX10_at_61 : decode cX10_at 61 = .ok (.getfield 39, 3) := by decide +kernel
theorem dX10_at_64 : decode cX10_at 64 = .ok (.bipush 12, 2) := by decide +kernel
theorem dX10_at_66 : decode cX10_at 66 = .ok (.aload_n 0, 1) := by decide +kernel
theorem dX10_at_67 : decode cX10_at 67 = .ok (.getfield 73, 3) := by decide +kernel
theorem dX10_at_70 : decode cX10_at 70 = .ok (.imul, 1) := by decide +kernel
theorem dX10_at_71 : decode cX10_at 71 = .ok (.iload_n 2, 1) := by decide +kernel
theorem dX10_at_72 : decode cX10_at 72 = .ok (.iadd, 1) := by decide +kernel
theorem dX10_at_73 : decode cX10_at 73 = .ok (.aload_n 0, 1) := by decide +kernel
theorem dX10_at_74 : decode cX10_at 74 = .ok (.getfield 51, 3) := by decide +kernel
theorem dX10_at_77 : decode cX10_at 77 = .ok (.iload_n 2, 1) := by decide +kernel
theorem dX10_at_78 : decode cX10_at 78 = .ok (.iaload, 1) := by decide +kernel
theorem dX10_at_79 : decode cX10_at 79 = .ok (.iastore, 1) := by decide +kernel
theorem dX10_at_80 : decode cX10_at 80 = .ok (.iinc 2 1, 3) := by decide +kernel
theorem dX10_at_83 : decode cX10_at 83 = .ok (.goto (-29), 3) := by decide +kernel
theorem dX10_at_86 : decode cX10_at 86 = .ok (.aload_n 0, 1) := by decide +kernel
theorem dX10_at_87 : decode cX10_at 87 = .ok (.getfield 28, 3) := by decide +kernel
theorem dX10_at_90 : decode cX10_at 90 = .ok (.aload_n 0, 1) := by decide +kernel
theorem dX10_at_91 : decode cX10_at 91 = .ok (.getfield 73, 3) := by decide +kernel
theorem dX10_at_94 : decode cX10_at 94 = .ok (.aload_n 0, 1) := by decide +kernel
theorem dX10_at_95 : decode cX10_at 95 = .ok (.getfield 303, 3) := by decide +kernel
theorem dX10_at_98 : decode cX10_at 98 = .ok (.iastore, 1) := by decide +kernel
theorem dX10_at_99 : decode cX10_at 99 = .ok (.aload_n 0, 1) := by decide +kernel
theorem dX10_at_100 : decode cX10_at 100 = .ok (.bipush 8, 2) := by decide +kernel
theorem dX10_at_102 : decode cX10_at 102 = .ok (.iload_n 1, 1) := by decide +kernel
theorem dX10_at_103 : decode cX10_at 103 = .ok (.iconst 0, 1) := by decide +kernel
theorem dX10_at_104 : decode cX10_at 104 = .ok (.iconst 0, 1) := by decide +kernel
theorem dX10_at_105 : decode cX10_at 105 = .ok (.invokevirtual 205, 3) := by decide +kernel
theorem dX10_at_108 : decode cX10_at 108 = .ok (.ireturn, 1) := by decide +kernel
theorem dX10_nothingShare_0 : decode cX10_nothingShare 0 = .ok (.aload_n 0, 1) := by decide +kernel
theorem dX10_nothingShare_1 : decode cX10_nothingShare 1 = .ok (.aload_n 0, 1) := by decide +kernel
theorem dX10_nothingShare_2 : decode cX10_nothingShare 2 = .ok (.getfield 73, 3) := by decide +kernel
theorem dX10_nothingShare_5 : decode cX10_nothingShare 5 = .ok (.ifCond .le 7, 3) := by decide +kernel
theorem dX10_nothingShare_8 : decode cX10_nothingShare 8 = .ok (.iconst 1, 1) := by decide +kernel
theorem dX10_nothingShare_9 : decode cX10_nothingShare 9 = .ok (.goto 4, 3) := by decide +kernel
theorem dX10_nothingShare_12 : decode cX10_nothingShare 12 = .ok (.iconst 0, 1) := by decide +kernel
theorem dX10_nothingShare_13 : decode cX10_nothingShare 13 = .ok (.iconst 1, 1) := by decide +kernel
theorem dX10_nothingShare_14 : decode cX10_nothingShare 14 = .ok (.invokevirtual 80, 3) := by decide +kernel
theorem dX10_nothingShare_17 : decode cX10_nothingShare 17 = .ok (.ifCond .eq 5, 3) := by decide +kernel
theorem dX10_nothingShare_20 : decode cX10_nothingShare 20 = .ok (.fconst 0, 1) := by decide +kernel
theorem dX10_nothingShare_21 : decode cX10_nothingShare 21 = .ok (.freturn, 1) := by decide +kernel
theorem dX10_nothingShare_22 : decode cX10_nothingShare 22 = .ok (.iconst 0, 1) := by decide +kernel
theorem dX10_nothingShare_23 : decode cX10_nothingShare 23 = .ok (.istore_n 1, 1) := by decide +kernel
theorem dX10_nothingShare_24 : decode cX10_nothingShare 24 = .ok (.iconst 0, 1) := by decide +kernel
theorem dX10_nothingShare_25 : decode cX10_nothingShare 25 = .ok (.istore_n 2, 1) := by decide +kernel
theorem dX10_nothingShare_26 : decode cX10_nothingShare 26 = .ok (.iload_n 2, 1) := by decide +kernel
theorem dX10_nothingShare_27 : decode cX10_nothingShare 27 = .ok (.aload_n 0, 1) := by decide +kernel
theorem dX10_nothingShare_28 : decode cX10_nothingShare 28 = .ok (.getfield 73, 3) := by decide +kernel
theorem dX10_nothingShare_31 : decode cX10_nothingShare 31 = .ok (.if_icmp .ge 28, 3) := by decide +kernel
theorem dX10_nothingShare_34 : decode cX10_nothingShare 34 = .ok (.iload_n 1, 1) := by decide +kernel
theorem dX10_nothingShare_35 : decode cX10_nothingShare 35 = .ok (.aload_n 0, 1) := by decide +kernel
theorem dX10_nothingShare_36 : decode cX10_nothingShare 36 = .ok (.getfield 31, 3) := by decide +kernel
theorem dX10_nothingShare_39 : decode cX10_nothingShare 39 = .ok (.iload_n 2, 1) := by decide +kernel
theorem dX10_nothingShare_40 : decode cX10_nothingShare 40 = .ok (.laload, 1) := by decide +kernel
theorem dX10_nothingShare_41 : decode cX10_nothingShare 41 = .ok (.lconst 0, 1) := by decide +kernel
theorem dX10_nothingShare_42 : decode cX10_nothingShare 42 = .ok (.lcmp, 1) := by decide +kernel
theorem dX10_nothingShare_43 : decode cX10_nothingShare 43 = .ok (.ifCond .ne 7, 3) := by decide +kernel
theorem dX10_nothingShare_46 : decode cX10_nothingShare 46 = .ok (.iconst 1, 1) := by decide +kernel
theorem dX10_nothingShare_47 : decode cX10_nothingShare 47 = .ok (.goto 4, 3) := by decide +kernel
theorem dX10_nothingShare_50 : decode cX10_nothingShare 50 = .ok (.iconst 0, 1) := by decide +kernel
theorem dX10_nothingShare_51 : decode cX10_nothingShare 51 = .ok (.iadd, 1) := by decide +kernel
theorem dX10_nothingShare_52 : decode cX10_nothingShare 52 = .ok (.istore_n 1, 1) := by decide +kernel
theorem dX10_nothingShare_53 : decode cX10_nothingShare 53 = .ok (.iinc 2 1, 3) := by decide +kernel
theorem dX10_nothingShare_56 : decode cX10_nothingShare 56 = .ok (.goto (-30), 3) := by decide +kernel
theorem dX10_nothingShare_59 : decode cX10_nothingShare 59 = .ok (.iload_n 1, 1) := by decide +kernel
theorem dX10_nothingShare_60 : decode cX10_nothingShare 60 = .ok (.i2f, 1) := by decide +kernel
theorem dX10_nothingShare_61 : decode cX10_nothingShare 61 = .ok (.aload_n 0, 1) := by decide +kernel
theorem dX10_nothingShare_62 : decode cX10_nothingShare 62 = .ok (.getfield 73, 3) := by decide +kernel
theorem dX10_nothingShare_65 : decode cX10_nothingShare 65 = .ok (.i2f, 1) := by decide +kernel
theorem dX10_nothingShare_66 : decode cX10_nothingShare 66 = .ok (.fdiv, 1) := by decide +kernel
theorem dX10_nothingShare_67 : decode cX10_nothingShare 67 = .ok (.freturn, 1) := by decide +kernel
theorem dX10_meanDigits_0 : decode cX10_meanDigits 0 = .ok (.aload_n 0, 1) := by decide +kernel
theorem dX10_meanDigits_1 : decode cX10_meanDigits 1 = .ok (.aload_n 0, 1) := by decide +kernel
theorem dX10_meanDigits_2 : decode cX10_meanDigits 2 = .ok (.getfield 73, 3) := by decide +kernel
theorem dX10_meanDigits_5 : decode cX10_meanDigits 5 = .ok (.ifCond .le 7, 3) := by decide +kernel
theorem dX10_meanDigits_8 : decode cX10_meanDigits 8 = .ok (.iconst 1, 1) := by decide +kernel
theorem dX10_meanDigits_9 : decode cX10_meanDigits 9 = .ok (.goto 4, 3) := by decide +kernel
theorem dX10_meanDigits_12 : decode cX10_meanDigits 12 = .ok (.iconst 0, 1) := by decide +kernel
theorem dX10_meanDigits_13 : decode cX10_meanDigits 13 = .ok (.iconst 1, 1) := by decide +kernel
theorem dX10_meanDigits_14 : decode cX10_meanDigits 14 = .ok (.invokevirtual 80, 3) := by decide +kernel
theorem dX10_meanDigits_17 : decode cX10_meanDigits 17 = .ok (.ifCond .eq 5, 3) := by decide +kernel
theorem dX10_meanDigits_20 : decode cX10_meanDigits 20 = .ok (.dconst 0, 1) := by decide +kernel
theorem dX10_meanDigits_21 : decode cX10_meanDigits 21 = .ok (.dreturn, 1) := by decide +kernel
theorem dX10_meanDigits_22 : decode cX10_meanDigits 22 = .ok (.iconst 0, 1) := by decide +kernel
theorem dX10_meanDigits_23 : decode cX10_meanDigits 23 = .ok (.istore_n 1, 1) := by decide +kernel
theorem dX10_meanDigits_24 : decode cX10_meanDigits 24 = .ok (.iconst 0, 1) := by decide +kernel
theorem dX10_meanDigits_25 : decode cX10_meanDigits 25 = .ok (.istore_n 2, 1) := by decide +kernel
theorem dX10_meanDigits_26 : decode cX10_meanDigits 26 = .ok (.iload_n 2, 1) := by decide +kernel
theorem dX10_meanDigits_27 : decode cX10_meanDigits 27 = .ok (.aload_n 0, 1) := by decide +kernel
theorem dX10_meanDigits_28 : decode cX10_meanDigits 28 = .ok (.getfield 73, 3) := by decide +kernel
theorem dX10_meanDigits_31 : decode cX10_meanDigits 31 = .ok (.if_icmp .ge 25, 3) := by decide +kernel
theorem dX10_meanDigits_34 : decode cX10_meanDigits 34 = .ok (.iload_n 1, 1) := by decide +kernel
theorem dX10_meanDigits_35 : decode cX10_meanDigits 35 = .ok (.aload_n 0, 1) := by decide +kernel
theorem dX10_meanDigits_36 : decode cX10_meanDigits 36 = .ok (.getfield 13, 3) := by decide +kernel
theorem dX10_meanDigits_39 : decode cX10_meanDigits 39 = .ok (.iload_n 2, 1) := by decide +kernel
theorem dX10_meanDigits_40 : decode cX10_meanDigits 40 = .ok (.iaload, 1) := by decide +kernel
theorem dX10_meanDigits_41 : decode cX10_meanDigits 41 = .ok (.aload_n 0, 1) := by decide +kernel
theorem dX10_meanDigits_42 : decode cX10_meanDigits 42 = .ok (.getfield 7, 3) := by decide +kernel
theorem dX10_meanDigits_45 : decode cX10_meanDigits 45 = .ok (.iload_n 2, 1) := by decide +kernel
theorem dX10_meanDigits_46 : decode cX10_meanDigits 46 = .ok (.iaload, 1) := by decide +kernel
theorem dX10_meanDigits_47 : decode cX10_meanDigits 47 = .ok (.isub, 1) := by decide +kernel
theorem dX10_meanDigits_48 : decode cX10_meanDigits 48 = .ok (.iadd, 1) := by decide +kernel
theorem dX10_meanDigits_49 : decode cX10_meanDigits 49 = .ok (.istore_n 1, 1) := by decide +kernel
theorem dX10_meanDigits_50 : decode cX10_meanDigits 50 = .ok (.iinc 2 1, 3) := by decide +kernel
theorem dX10_meanDigits_53 : decode cX10_meanDigits 53 = .ok (.goto (-27), 3) := by decide +kernel
theorem dX10_meanDigits_56 : decode cX10_meanDigits 56 = .ok (.iload_n 1, 1) := by decide +kernel
theorem dX10_meanDigits_57 : decode cX10_meanDigits 57 = .ok (.i2d, 1) := by decide +kernel
theorem dX10_meanDigits_58 : decode cX10_meanDigits 58 = .ok (.aload_n 0, 1) := by decide +kernel
theorem dX10_meanDigits_59 : decode cX10_meanDigits 59 = .ok (.getfield 73, 3) := by decide +kernel
theorem dX10_meanDigits_62 : decode cX10_meanDigits 62 = .ok (.i2d, 1) := by decide +kernel
theorem dX10_meanDigits_63 : decode cX10_meanDigits 63 = .ok (.ddiv, 1) := by decide +kernel
theorem dX10_meanDigits_64 : decode cX10_meanDigits 64 = .ok (.dreturn, 1) := by decide +kernel
theorem dX10_isSound_0 : decode cX10_isSound 0 = .ok (.iconst 1, 1) := by decide +kernel
theorem dX10_isSound_1 : decode cX10_isSound 1 = .ok (.ireturn, 1) := by decide +kernel
