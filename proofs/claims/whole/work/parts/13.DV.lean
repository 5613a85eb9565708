theorem d_DV_init_0 : decode b_DV_init 0 = .ok (.aload_n 0, 1) := by decide +kernel
theorem d_DV_init_1 : decode b_DV_init 1 = .ok (.invokespecial 3, 3) := by decide +kernel
theorem d_DV_init_4 : decode b_DV_init 4 = .ok (.aload_n 0, 1) := by decide +kernel
theorem d_DV_init_5 : decode b_DV_init 5 = .ok (.new 9, 3) := by decide +kernel
theorem d_DV_init_8 : decode b_DV_init 8 = .ok (.dup, 1) := by decide +kernel
theorem d_DV_init_9 : decode b_DV_init 9 = .ok (.invokespecial 11, 3) := by decide +kernel
theorem d_DV_init_12 : decode b_DV_init 12 = .ok (.putfield 12, 3) := by decide +kernel
theorem d_DV_init_15 : decode b_DV_init 15 = .ok (.aload_n 0, 1) := by decide +kernel
theorem d_DV_init_16 : decode b_DV_init 16 = .ok (.new 9, 3) := by decide +kernel
theorem d_DV_init_19 : decode b_DV_init 19 = .ok (.dup, 1) := by decide +kernel
theorem d_DV_init_20 : decode b_DV_init 20 = .ok (.invokespecial 11, 3) := by decide +kernel
theorem d_DV_init_23 : decode b_DV_init 23 = .ok (.putfield 18, 3) := by decide +kernel
theorem d_DV_init_26 : decode b_DV_init 26 = .ok (.aload_n 0, 1) := by decide +kernel
theorem d_DV_init_27 : decode b_DV_init 27 = .ok (.new 9, 3) := by decide +kernel
theorem d_DV_init_30 : decode b_DV_init 30 = .ok (.dup, 1) := by decide +kernel
theorem d_DV_init_31 : decode b_DV_init 31 = .ok (.invokespecial 11, 3) := by decide +kernel
theorem d_DV_init_34 : decode b_DV_init 34 = .ok (.putfield 21, 3) := by decide +kernel
theorem d_DV_init_37 : decode b_DV_init 37 = .ok (.return_, 1) := by decide +kernel
theorem d_DV_unsignedQuotient_0 : decode b_DV_unsignedQuotient 0 = .ok (.lload_n 2, 1) := by decide +kernel
theorem d_DV_unsignedQuotient_1 : decode b_DV_unsignedQuotient 1 = .ok (.lconst 0, 1) := by decide +kernel
theorem d_DV_unsignedQuotient_2 : decode b_DV_unsignedQuotient 2 = .ok (.lcmp, 1) := by decide +kernel
theorem d_DV_unsignedQuotient_3 : decode b_DV_unsignedQuotient 3 = .ok (.ifCond .gt 5, 3) := by decide +kernel
theorem d_DV_unsignedQuotient_6 : decode b_DV_unsignedQuotient 6 = .ok (.lconst 0, 1) := by decide +kernel
theorem d_DV_unsignedQuotient_7 : decode b_DV_unsignedQuotient 7 = .ok (.lreturn, 1) := by decide +kernel
theorem d_DV_unsignedQuotient_8 : decode b_DV_unsignedQuotient 8 = .ok (.lload_n 0, 1) := by decide +kernel
theorem d_DV_unsignedQuotient_9 : decode b_DV_unsignedQuotient 9 = .ok (.iconst 1, 1) := by decide +kernel
theorem d_DV_unsignedQuotient_10 : decode b_DV_unsignedQuotient 10 = .ok (.lushr, 1) := by decide +kernel
theorem d_DV_unsignedQuotient_11 : decode b_DV_unsignedQuotient 11 = .ok (.lload_n 2, 1) := by decide +kernel
theorem d_DV_unsignedQuotient_12 : decode b_DV_unsignedQuotient 12 = .ok (.ldiv, 1) := by decide +kernel
theorem d_DV_unsignedQuotient_13 : decode b_DV_unsignedQuotient 13 = .ok (.iconst 1, 1) := by decide +kernel
theorem d_DV_unsignedQuotient_14 : decode b_DV_unsignedQuotient 14 = .ok (.lshl, 1) := by decide +kernel
theorem d_DV_unsignedQuotient_15 : decode b_DV_unsignedQuotient 15 = .ok (.lstore 4, 2) := by decide +kernel
theorem d_DV_unsignedQuotient_17 : decode b_DV_unsignedQuotient 17 = .ok (.lload_n 0, 1) := by decide +kernel
theorem d_DV_unsignedQuotient_18 : decode b_DV_unsignedQuotient 18 = .ok (.lload 4, 2) := by decide +kernel
theorem d_DV_unsignedQuotient_20 : decode b_DV_unsignedQuotient 20 = .ok (.lload_n 2, 1) := by decide +kernel
theorem d_DV_unsignedQuotient_21 : decode b_DV_unsignedQuotient 21 = .ok (.lmul, 1) := by decide +kernel
theorem d_DV_unsignedQuotient_22 : decode b_DV_unsignedQuotient 22 = .ok (.lsub, 1) := by decide +kernel
theorem d_DV_unsignedQuotient_23 : decode b_DV_unsignedQuotient 23 = .ok (.lload_n 2, 1) := by decide +kernel
theorem d_DV_unsignedQuotient_24 : decode b_DV_unsignedQuotient 24 = .ok (.lcmp, 1) := by decide +kernel
theorem d_DV_unsignedQuotient_25 : decode b_DV_unsignedQuotient 25 = .ok (.ifCond .lt 10, 3) := by decide +kernel
theorem d_DV_unsignedQuotient_28 : decode b_DV_unsignedQuotient 28 = .ok (.lload 4, 2) := by decide +kernel
theorem d_DV_unsignedQuotient_30 : decode b_DV_unsignedQuotient 30 = .ok (.lconst 1, 1) := by decide +kernel
theorem d_DV_unsignedQuotient_31 : decode b_DV_unsignedQuotient 31 = .ok (.ladd, 1) := by decide +kernel
theorem d_DV_unsignedQuotient_32 : decode b_DV_unsignedQuotient 32 = .ok (.goto 5, 3) := by decide +kernel
theorem d_DV_unsignedQuotient_35 : decode b_DV_unsignedQuotient 35 = .ok (.lload 4, 2) := by decide +kernel
theorem d_DV_unsignedQuotient_37 : decode b_DV_unsignedQuotient 37 = .ok (.lreturn, 1) := by decide +kernel
theorem d_DV_guessLimb_0 : decode b_DV_guessLimb 0 = .ok (.iload_n 1, 1) := by decide +kernel
theorem d_DV_guessLimb_1 : decode b_DV_guessLimb 1 = .ok (.aload_n 0, 1) := by decide +kernel
theorem d_DV_guessLimb_2 : decode b_DV_guessLimb 2 = .ok (.getfield 21, 3) := by decide +kernel
theorem d_DV_guessLimb_5 : decode b_DV_guessLimb 5 = .ok (.getfield 32, 3) := by decide +kernel
theorem d_DV_guessLimb_8 : decode b_DV_guessLimb 8 = .ok (.iadd, 1) := by decide +kernel
theorem d_DV_guessLimb_9 : decode b_DV_guessLimb 9 = .ok (.istore_n 2, 1) := by decide +kernel
theorem d_DV_guessLimb_10 : decode b_DV_guessLimb 10 = .ok (.aload_n 0, 1) := by decide +kernel
theorem d_DV_guessLimb_11 : decode b_DV_guessLimb 11 = .ok (.getfield 21, 3) := by decide +kernel
theorem d_DV_guessLimb_14 : decode b_DV_guessLimb 14 = .ok (.aload_n 0, 1) := by decide +kernel
theorem d_DV_guessLimb_15 : decode b_DV_guessLimb 15 = .ok (.getfield 21, 3) := by decide +kernel
theorem d_DV_guessLimb_18 : decode b_DV_guessLimb 18 = .ok (.getfield 32, 3) := by decide +kernel
theorem d_DV_guessLimb_21 : decode b_DV_guessLimb 21 = .ok (.iconst 1, 1) := by decide +kernel
theorem d_DV_guessLimb_22 : decode b_DV_guessLimb 22 = .ok (.isub, 1) := by decide +kernel
theorem d_DV_guessLimb_23 : decode b_DV_guessLimb 23 = .ok (.invokevirtual 91, 3) := by decide +kernel
theorem d_DV_guessLimb_26 : decode b_DV_guessLimb 26 = .ok (.lstore_n 3, 1) := by decide +kernel
theorem d_DV_guessLimb_27 : decode b_DV_guessLimb 27 = .ok (.aload_n 0, 1) := by decide +kernel
theorem d_DV_guessLimb_28 : decode b_DV_guessLimb 28 = .ok (.getfield 21, 3) := by decide +kernel
theorem d_DV_guessLimb_31 : decode b_DV_guessLimb 31 = .ok (.aload_n 0, 1) := by decide +kernel
theorem d_DV_guessLimb_32 : decode b_DV_guessLimb 32 = .ok (.getfield 21, 3) := by decide +kernel
theorem d_DV_guessLimb_35 : decode b_DV_guessLimb 35 = .ok (.getfield 32, 3) := by decide +kernel
theorem d_DV_guessLimb_38 : decode b_DV_guessLimb 38 = .ok (.iconst 2, 1) := by decide +kernel
theorem d_DV_guessLimb_39 : decode b_DV_guessLimb 39 = .ok (.isub, 1) := by decide +kernel
theorem d_DV_guessLimb_40 : decode b_DV_guessLimb 40 = .ok (.invokevirtual 91, 3) := by decide +kernel
theorem d_DV_guessLimb_43 : decode b_DV_guessLimb 43 = .ok (.lstore 5, 2) := by decide +kernel
theorem d_DV_guessLimb_45 : decode b_DV_guessLimb 45 = .ok (.aload_n 0, 1) := by decide +kernel
theorem d_DV_guessLimb_46 : decode b_DV_guessLimb 46 = .ok (.getfield 18, 3) := by decide +kernel
theorem d_DV_guessLimb_49 : decode b_DV_guessLimb 49 = .ok (.iload_n 2, 1) := by decide +kernel
theorem d_DV_guessLimb_50 : decode b_DV_guessLimb 50 = .ok (.invokevirtual 91, 3) := by decide +kernel
theorem d_DV_guessLimb_53 : decode b_DV_guessLimb 53 = .ok (.lstore 7, 2) := by decide +kernel
theorem d_DV_guessLimb_55 : decode b_DV_guessLimb 55 = .ok (.lload 7, 2) := by decide +kernel
theorem d_DV_guessLimb_57 : decode b_DV_guessLimb 57 = .ok (.bipush 32, 2) := by decide +kernel
theorem d_DV_guessLimb_59 : decode b_DV_guessLimb 59 = .ok (.lshl, 1) := by decide +kernel
theorem d_DV_guessLimb_60 : decode b_DV_guessLimb 60 = .ok (.aload_n 0, 1) := by decide +kernel
theorem d_DV_guessLimb_61 : decode b_DV_guessLimb 61 = .ok (.getfield 18, 3) := by decide +kernel
theorem d_DV_guessLimb_64 : decode b_DV_guessLimb 64 = .ok (.iload_n 2, 1) := by decide +kernel
theorem d_DV_guessLimb_65 : decode b_DV_guessLimb 65 = .ok (.iconst 1, 1) := by decide +kernel
theorem d_DV_guessLimb_66 : decode b_DV_guessLimb 66 = .ok (.isub, 1) := by decide +kernel
theorem d_DV_guessLimb_67 : decode b_DV_guessLimb 67 = .ok (.invokevirtual 91, 3) := by decide +kernel
theorem d_DV_guessLimb_70 : decode b_DV_guessLimb 70 = .ok (.lor, 1) := by decide +kernel
theorem d_DV_guessLimb_71 : decode b_DV_guessLimb 71 = .ok (.lstore 9, 2) := by decide +kernel
theorem d_DV_guessLimb_73 : decode b_DV_guessLimb 73 = .ok (.lload 7, 2) := by decide +kernel
theorem d_DV_guessLimb_75 : decode b_DV_guessLimb 75 = .ok (.lload_n 3, 1) := by decide +kernel
theorem d_DV_guessLimb_76 : decode b_DV_guessLimb 76 = .ok (.lcmp, 1) := by decide +kernel
theorem d_DV_guessLimb_77 : decode b_DV_guessLimb 77 = .ok (.ifCond .lt 9, 3) := by decide +kernel
theorem d_DV_guessLimb_80 : decode b_DV_guessLimb 80 = .ok (.ldc2_w 94, 3) := by decide +kernel
theorem d_DV_guessLimb_83 : decode b_DV_guessLimb 83 = .ok (.goto 9, 3) := by decide +kernel
theorem d_DV_guessLimb_86 : decode b_DV_guessLimb 86 = .ok (.lload 9, 2) := by decide +kernel
theorem d_DV_guessLimb_88 : decode b_DV_guessLimb 88 = .ok (.lload_n 3, 1) := by decide +kernel
theorem d_DV_guessLimb_89 : decode b_DV_guessLimb 89 = .ok (.invokestatic 96, 3) := by decide +kernel
theorem d_DV_guessLimb_92 : decode b_DV_guessLimb 92 = .ok (.lstore 11, 2) := by decide +kernel
theorem d_DV_guessLimb_94 : decode b_DV_guessLimb 94 = .ok (.lload 9, 2) := by decide +kernel
theorem d_DV_guessLimb_96 : decode b_DV_guessLimb 96 = .ok (.lload 11, 2) := by decide +kernel
theorem d_DV_guessLimb_98 : decode b_DV_guessLimb 98 = .ok (.lload_n 3, 1) := by decide +kernel
theorem d_DV_guessLimb_99 : decode b_DV_guessLimb 99 = .ok (.lmul, 1) := by decide +kernel
theorem d_DV_guessLimb_100 : decode b_DV_guessLimb 100 = .ok (.lsub, 1) := by decide +kernel
theorem d_DV_guessLimb_101 : decode b_DV_guessLimb 101 = .ok (.lstore 13, 2) := by decide +kernel
theorem d_DV_guessLimb_103 : decode b_DV_guessLimb 103 = .ok (.iconst 0, 1) := by decide +kernel
theorem d_DV_guessLimb_104 : decode b_DV_guessLimb 104 = .ok (.istore 15, 2) := by decide +kernel
theorem d_DV_guessLimb_106 : decode b_DV_guessLimb 106 = .ok (.iload 15, 2) := by decide +kernel
theorem d_DV_guessLimb_108 : decode b_DV_guessLimb 108 = .ok (.iconst 2, 1) := by decide +kernel
theorem d_DV_guessLimb_109 : decode b_DV_guessLimb 109 = .ok (.if_icmp .ge 70, 3) := by decide +kernel
theorem d_DV_guessLimb_112 : decode b_DV_guessLimb 112 = .ok (.lload 13, 2) := by decide +kernel
theorem d_DV_guessLimb_114 : decode b_DV_guessLimb 114 = .ok (.ldc2_w 94, 3) := by decide +kernel
theorem d_DV_guessLimb_117 : decode b_DV_guessLimb 117 = .ok (.lcmp, 1) := by decide +kernel
theorem d_DV_guessLimb_118 : decode b_DV_guessLimb 118 = .ok (.ifCond .gt 61, 3) := by decide +kernel
theorem d_DV_guessLimb_121 : decode b_DV_guessLimb 121 = .ok (.lload 13, 2) := by decide +kernel
theorem d_DV_guessLimb_123 : decode b_DV_guessLimb 123 = .ok (.bipush 32, 2) := by decide +kernel
theorem d_DV_guessLimb_125 : decode b_DV_guessLimb 125 = .ok (.lshl, 1) := by decide +kernel
theorem d_DV_guessLimb_126 : decode b_DV_guessLimb 126 = .ok (.aload_n 0, 1) := by decide +kernel
theorem d_DV_guessLimb_127 : decode b_DV_guessLimb 127 = .ok (.getfield 18, 3) := by decide +kernel
theorem d_DV_guessLimb_130 : decode b_DV_guessLimb 130 = .ok (.iload_n 2, 1) := by decide +kernel
theorem d_DV_guessLimb_131 : decode b_DV_guessLimb 131 = .ok (.iconst 2, 1) := by decide +kernel
theorem d_DV_guessLimb_132 : decode b_DV_guessLimb 132 = .ok (.isub, 1) := by decide +kernel
theorem d_DV_guessLimb_133 : decode b_DV_guessLimb 133 = .ok (.invokevirtual 91, 3) := by decide +kernel
theorem d_DV_guessLimb_136 : decode b_DV_guessLimb 136 = .ok (.lor, 1) := by decide +kernel
theorem d_DV_guessLimb_137 : decode b_DV_guessLimb 137 = .ok (.lstore 16, 2) := by decide +kernel
theorem d_DV_guessLimb_139 : decode b_DV_guessLimb 139 = .ok (.lload 11, 2) := by decide +kernel
theorem d_DV_guessLimb_141 : decode b_DV_guessLimb 141 = .ok (.lload 5, 2) := by decide +kernel
theorem d_DV_guessLimb_143 : decode b_DV_guessLimb 143 = .ok (.lmul, 1) := by decide +kernel
theorem d_DV_guessLimb_144 : decode b_DV_guessLimb 144 = .ok (.ldc2_w 102, 3) := by decide +kernel
theorem d_DV_guessLimb_147 : decode b_DV_guessLimb 147 = .ok (.ladd, 1) := by decide +kernel
theorem d_DV_guessLimb_148 : decode b_DV_guessLimb 148 = .ok (.lload 16, 2) := by decide +kernel
theorem d_DV_guessLimb_150 : decode b_DV_guessLimb 150 = .ok (.ldc2_w 102, 3) := by decide +kernel
theorem d_DV_guessLimb_153 : decode b_DV_guessLimb 153 = .ok (.ladd, 1) := by decide +kernel
theorem d_DV_guessLimb_154 : decode b_DV_guessLimb 154 = .ok (.lcmp, 1) := by decide +kernel
theorem d_DV_guessLimb_155 : decode b_DV_guessLimb 155 = .ok (.ifCond .gt 6, 3) := by decide +kernel
theorem d_DV_guessLimb_158 : decode b_DV_guessLimb 158 = .ok (.goto 21, 3) := by decide +kernel
theorem d_DV_guessLimb_161 : decode b_DV_guessLimb 161 = .ok (.lload 11, 2) := by decide +kernel
theorem d_DV_guessLimb_163 : decode b_DV_guessLimb 163 = .ok (.lconst 1, 1) := by decide +kernel
theorem d_DV_guessLimb_164 : decode b_DV_guessLimb 164 = .ok (.lsub, 1) := by decide +kernel
theorem d_DV_guessLimb_165 : decode b_DV_guessLimb 165 = .ok (.lstore 11, 2) := by decide +kernel
theorem d_DV_guessLimb_167 : decode b_DV_guessLimb 167 = .ok (.lload 13, 2) := by decide +kernel
theorem d_DV_guessLimb_169 : decode b_DV_guessLimb 169 = .ok (.lload_n 3, 1) := by decide +kernel
theorem d_DV_guessLimb_170 : decode b_DV_guessLimb 170 = .ok (.ladd, 1) := by decide +kernel
theorem d_DV_guessLimb_171 : decode b_DV_guessLimb 171 = .ok (.lstore 13, 2) := by decide +kernel
theorem d_DV_guessLimb_173 : decode b_DV_guessLimb 173 = .ok (.iinc 15 1, 3) := by decide +kernel
theorem d_DV_guessLimb_176 : decode b_DV_guessLimb 176 = .ok (.goto (-70), 3) := by decide +kernel
theorem d_DV_guessLimb_179 : decode b_DV_guessLimb 179 = .ok (.lload 11, 2) := by decide +kernel
theorem d_DV_guessLimb_181 : decode b_DV_guessLimb 181 = .ok (.lreturn, 1) := by decide +kernel
theorem d_DV_takeAway_0 : decode b_DV_takeAway 0 = .ok (.aload_n 0, 1) := by decide +kernel
theorem d_DV_takeAway_1 : decode b_DV_takeAway 1 = .ok (.getfield 18, 3) := by decide +kernel
theorem d_DV_takeAway_4 : decode b_DV_takeAway 4 = .ok (.getfield 52, 3) := by decide +kernel
theorem d_DV_takeAway_7 : decode b_DV_takeAway 7 = .ok (.astore 4, 2) := by decide +kernel
theorem d_DV_takeAway_9 : decode b_DV_takeAway 9 = .ok (.aload_n 0, 1) := by decide +kernel
theorem d_DV_takeAway_10 : decode b_DV_takeAway 10 = .ok (.getfield 21, 3) := by decide +kernel
theorem d_DV_takeAway_13 : decode b_DV_takeAway 13 = .ok (.getfield 52, 3) := by decide +kernel
theorem d_DV_takeAway_16 : decode b_DV_takeAway 16 = .ok (.astore 5, 2) := by decide +kernel
theorem d_DV_takeAway_18 : decode b_DV_takeAway 18 = .ok (.aload_n 0, 1) := by decide +kernel
theorem d_DV_takeAway_19 : decode b_DV_takeAway 19 = .ok (.getfield 21, 3) := by decide +kernel
theorem d_DV_takeAway_22 : decode b_DV_takeAway 22 = .ok (.getfield 32, 3) := by decide +kernel
theorem d_DV_takeAway_25 : decode b_DV_takeAway 25 = .ok (.istore 6, 2) := by decide +kernel
theorem d_DV_takeAway_27 : decode b_DV_takeAway 27 = .ok (.lconst 0, 1) := by decide +kernel
theorem d_DV_takeAway_28 : decode b_DV_takeAway 28 = .ok (.lstore 7, 2) := by decide +kernel
theorem d_DV_takeAway_30 : decode b_DV_takeAway 30 = .ok (.iconst 0, 1) := by decide +kernel
theorem d_DV_takeAway_31 : decode b_DV_takeAway 31 = .ok (.istore 9, 2) := by decide +kernel
theorem d_DV_takeAway_33 : decode b_DV_takeAway 33 = .ok (.iload 9, 2) := by decide +kernel
theorem d_DV_takeAway_35 : decode b_DV_takeAway 35 = .ok (.iload 6, 2) := by decide +kernel
theorem d_DV_takeAway_37 : decode b_DV_takeAway 37 = .ok (.if_icmp .ge 63, 3) := by decide +kernel
theorem d_DV_takeAway_40 : decode b_DV_takeAway 40 = .ok (.lload_n 2, 1) := by decide +kernel
theorem d_DV_takeAway_41 : decode b_DV_takeAway 41 = .ok (.aload 5, 2) := by decide +kernel
theorem d_DV_takeAway_43 : decode b_DV_takeAway 43 = .ok (.iload 9, 2) := by decide +kernel
theorem d_DV_takeAway_45 : decode b_DV_takeAway 45 = .ok (.laload, 1) := by decide +kernel
theorem d_DV_takeAway_46 : decode b_DV_takeAway 46 = .ok (.lmul, 1) := by decide +kernel
theorem d_DV_takeAway_47 : decode b_DV_takeAway 47 = .ok (.lload 7, 2) := by decide +kernel
theorem d_DV_takeAway_49 : decode b_DV_takeAway 49 = .ok (.ladd, 1) := by decide +kernel
theorem d_DV_takeAway_50 : decode b_DV_takeAway 50 = .ok (.lstore 10, 2) := by decide +kernel
theorem d_DV_takeAway_52 : decode b_DV_takeAway 52 = .ok (.aload 4, 2) := by decide +kernel
theorem d_DV_takeAway_54 : decode b_DV_takeAway 54 = .ok (.iload 9, 2) := by decide +kernel
theorem d_DV_takeAway_56 : decode b_DV_takeAway 56 = .ok (.iload_n 1, 1) := by decide +kernel
theorem d_DV_takeAway_57 : decode b_DV_takeAway 57 = .ok (.iadd, 1) := by decide +kernel
theorem d_DV_takeAway_58 : decode b_DV_takeAway 58 = .ok (.laload, 1) := by decide +kernel
theorem d_DV_takeAway_59 : decode b_DV_takeAway 59 = .ok (.lload 10, 2) := by decide +kernel
theorem d_DV_takeAway_61 : decode b_DV_takeAway 61 = .ok (.ldc2_w 94, 3) := by decide +kernel
theorem d_DV_takeAway_64 : decode b_DV_takeAway 64 = .ok (.land, 1) := by decide +kernel
theorem d_DV_takeAway_65 : decode b_DV_takeAway 65 = .ok (.lsub, 1) := by decide +kernel
theorem d_DV_takeAway_66 : decode b_DV_takeAway 66 = .ok (.lstore 12, 2) := by decide +kernel
theorem d_DV_takeAway_68 : decode b_DV_takeAway 68 = .ok (.aload 4, 2) := by decide +kernel
theorem d_DV_takeAway_70 : decode b_DV_takeAway 70 = .ok (.iload 9, 2) := by decide +kernel
theorem d_DV_takeAway_72 : decode b_DV_takeAway 72 = .ok (.iload_n 1, 1) := by decide +kernel
theorem d_DV_takeAway_73 : decode b_DV_takeAway 73 = .ok (.iadd, 1) := by decide +kernel
theorem d_DV_takeAway_74 : decode b_DV_takeAway 74 = .ok (.lload 12, 2) := by decide +kernel
theorem d_DV_takeAway_76 : decode b_DV_takeAway 76 = .ok (.ldc2_w 94, 3) := by decide +kernel
theorem d_DV_takeAway_79 : decode b_DV_takeAway 79 = .ok (.land, 1) := by decide +kernel
theorem d_DV_takeAway_80 : decode b_DV_takeAway 80 = .ok (.lastore, 1) := by decide +kernel
theorem d_DV_takeAway_81 : decode b_DV_takeAway 81 = .ok (.lload 10, 2) := by decide +kernel
theorem d_DV_takeAway_83 : decode b_DV_takeAway 83 = .ok (.bipush 32, 2) := by decide +kernel
theorem d_DV_takeAway_85 : decode b_DV_takeAway 85 = .ok (.lushr, 1) := by decide +kernel
theorem d_DV_takeAway_86 : decode b_DV_takeAway 86 = .ok (.lload 12, 2) := by decide +kernel
theorem d_DV_takeAway_88 : decode b_DV_takeAway 88 = .ok (.bipush 63, 2) := by decide +kernel
theorem d_DV_takeAway_90 : decode b_DV_takeAway 90 = .ok (.lushr, 1) := by decide +kernel
theorem d_DV_takeAway_91 : decode b_DV_takeAway 91 = .ok (.ladd, 1) := by decide +kernel
theorem d_DV_takeAway_92 : decode b_DV_takeAway 92 = .ok (.lstore 7, 2) := by decide +kernel
theorem d_DV_takeAway_94 : decode b_DV_takeAway 94 = .ok (.iinc 9 1, 3) := by decide +kernel
theorem d_DV_takeAway_97 : decode b_DV_takeAway 97 = .ok (.goto (-64), 3) := by decide +kernel
theorem d_DV_takeAway_100 : decode b_DV_takeAway 100 = .ok (.aload 4, 2) := by decide +kernel
theorem d_DV_takeAway_102 : decode b_DV_takeAway 102 = .ok (.iload_n 1, 1) := by decide +kernel
theorem d_DV_takeAway_103 : decode b_DV_takeAway 103 = .ok (.iload 6, 2) := by decide +kernel
theorem d_DV_takeAway_105 : decode b_DV_takeAway 105 = .ok (.iadd, 1) := by decide +kernel
theorem d_DV_takeAway_106 : decode b_DV_takeAway 106 = .ok (.laload, 1) := by decide +kernel
theorem d_DV_takeAway_107 : decode b_DV_takeAway 107 = .ok (.lload 7, 2) := by decide +kernel
theorem d_DV_takeAway_109 : decode b_DV_takeAway 109 = .ok (.lsub, 1) := by decide +kernel
theorem d_DV_takeAway_110 : decode b_DV_takeAway 110 = .ok (.lstore 9, 2) := by decide +kernel
theorem d_DV_takeAway_112 : decode b_DV_takeAway 112 = .ok (.aload 4, 2) := by decide +kernel
theorem d_DV_takeAway_114 : decode b_DV_takeAway 114 = .ok (.iload_n 1, 1) := by decide +kernel
theorem d_DV_takeAway_115 : decode b_DV_takeAway 115 = .ok (.iload 6, 2) := by decide +kernel
theorem d_DV_takeAway_117 : decode b_DV_takeAway 117 = .ok (.iadd, 1) := by decide +kernel
theorem d_DV_takeAway_118 : decode b_DV_takeAway 118 = .ok (.lload 9, 2) := by decide +kernel
theorem d_DV_takeAway_120 : decode b_DV_takeAway 120 = .ok (.ldc2_w 94, 3) := by decide +kernel
theorem d_DV_takeAway_123 : decode b_DV_takeAway 123 = .ok (.land, 1) := by decide +kernel
theorem d_DV_takeAway_124 : decode b_DV_takeAway 124 = .ok (.lastore, 1) := by decide +kernel
theorem d_DV_takeAway_125 : decode b_DV_takeAway 125 = .ok (.lload 9, 2) := by decide +kernel
theorem d_DV_takeAway_127 : decode b_DV_takeAway 127 = .ok (.lconst 0, 1) := by decide +kernel
theorem d_DV_takeAway_128 : decode b_DV_takeAway 128 = .ok (.lcmp, 1) := by decide +kernel
theorem d_DV_takeAway_129 : decode b_DV_takeAway 129 = .ok (.ifCond .ge 7, 3) := by decide +kernel
theorem d_DV_takeAway_132 : decode b_DV_takeAway 132 = .ok (.iconst 1, 1) := by decide +kernel
theorem d_DV_takeAway_133 : decode b_DV_takeAway 133 = .ok (.goto 4, 3) := by decide +kernel
theorem d_DV_takeAway_136 : decode b_DV_takeAway 136 = .ok (.iconst 0, 1) := by decide +kernel
theorem d_DV_takeAway_137 : decode b_DV_takeAway 137 = .ok (.ireturn, 1) := by decide +kernel
theorem d_DV_putBack_0 : decode b_DV_putBack 0 = .ok (.aload_n 0, 1) := by decide +kernel
theorem d_DV_putBack_1 : decode b_DV_putBack 1 = .ok (.getfield 18, 3) := by decide +kernel
theorem d_DV_putBack_4 : decode b_DV_putBack 4 = .ok (.getfield 52, 3) := by decide +kernel
theorem d_DV_putBack_7 : decode b_DV_putBack 7 = .ok (.astore_n 2, 1) := by decide +kernel
theorem d_DV_putBack_8 : decode b_DV_putBack 8 = .ok (.aload_n 0, 1) := by decide +kernel
theorem d_DV_putBack_9 : decode b_DV_putBack 9 = .ok (.getfield 21, 3) := by decide +kernel
theorem d_DV_putBack_12 : decode b_DV_putBack 12 = .ok (.getfield 32, 3) := by decide +kernel
theorem d_DV_putBack_15 : decode b_DV_putBack 15 = .ok (.istore_n 3, 1) := by decide +kernel
theorem d_DV_putBack_16 : decode b_DV_putBack 16 = .ok (.lconst 0, 1) := by decide +kernel
theorem d_DV_putBack_17 : decode b_DV_putBack 17 = .ok (.lstore 4, 2) := by decide +kernel
theorem d_DV_putBack_19 : decode b_DV_putBack 19 = .ok (.iconst 0, 1) := by decide +kernel
theorem d_DV_putBack_20 : decode b_DV_putBack 20 = .ok (.istore 6, 2) := by decide +kernel
theorem d_DV_putBack_22 : decode b_DV_putBack 22 = .ok (.iload 6, 2) := by decide +kernel
theorem d_DV_putBack_24 : decode b_DV_putBack 24 = .ok (.iload_n 3, 1) := by decide +kernel
theorem d_DV_putBack_25 : decode b_DV_putBack 25 = .ok (.if_icmp .ge 50, 3) := by decide +kernel
theorem d_DV_putBack_28 : decode b_DV_putBack 28 = .ok (.aload_n 2, 1) := by decide +kernel
theorem d_DV_putBack_29 : decode b_DV_putBack 29 = .ok (.iload 6, 2) := by decide +kernel
theorem d_DV_putBack_31 : decode b_DV_putBack 31 = .ok (.iload_n 1, 1) := by decide +kernel
theorem d_DV_putBack_32 : decode b_DV_putBack 32 = .ok (.iadd, 1) := by decide +kernel
theorem d_DV_putBack_33 : decode b_DV_putBack 33 = .ok (.laload, 1) := by decide +kernel
theorem d_DV_putBack_34 : decode b_DV_putBack 34 = .ok (.aload_n 0, 1) := by decide +kernel
theorem d_DV_putBack_35 : decode b_DV_putBack 35 = .ok (.getfield 21, 3) := by decide +kernel
theorem d_DV_putBack_38 : decode b_DV_putBack 38 = .ok (.getfield 52, 3) := by decide +kernel
theorem d_DV_putBack_41 : decode b_DV_putBack 41 = .ok (.iload 6, 2) := by decide +kernel
theorem d_DV_putBack_43 : decode b_DV_putBack 43 = .ok (.laload, 1) := by decide +kernel
theorem d_DV_putBack_44 : decode b_DV_putBack 44 = .ok (.ladd, 1) := by decide +kernel
theorem d_DV_putBack_45 : decode b_DV_putBack 45 = .ok (.lload 4, 2) := by decide +kernel
theorem d_DV_putBack_47 : decode b_DV_putBack 47 = .ok (.ladd, 1) := by decide +kernel
theorem d_DV_putBack_48 : decode b_DV_putBack 48 = .ok (.lstore 7, 2) := by decide +kernel
theorem d_DV_putBack_50 : decode b_DV_putBack 50 = .ok (.aload_n 2, 1) := by decide +kernel
theorem d_DV_putBack_51 : decode b_DV_putBack 51 = .ok (.iload 6, 2) := by decide +kernel
theorem d_DV_putBack_53 : decode b_DV_putBack 53 = .ok (.iload_n 1, 1) := by decide +kernel
theorem d_DV_putBack_54 : decode b_DV_putBack 54 = .ok (.iadd, 1) := by decide +kernel
theorem d_DV_putBack_55 : decode b_DV_putBack 55 = .ok (.lload 7, 2) := by decide +kernel
theorem d_DV_putBack_57 : decode b_DV_putBack 57 = .ok (.ldc2_w 94, 3) := by decide +kernel
theorem d_DV_putBack_60 : decode b_DV_putBack 60 = .ok (.land, 1) := by decide +kernel
theorem d_DV_putBack_61 : decode b_DV_putBack 61 = .ok (.lastore, 1) := by decide +kernel
theorem d_DV_putBack_62 : decode b_DV_putBack 62 = .ok (.lload 7, 2) := by decide +kernel
theorem d_DV_putBack_64 : decode b_DV_putBack 64 = .ok (.bipush 32, 2) := by decide +kernel
theorem d_DV_putBack_66 : decode b_DV_putBack 66 = .ok (.lushr, 1) := by decide +kernel
theorem d_DV_putBack_67 : decode b_DV_putBack 67 = .ok (.lstore 4, 2) := by decide +kernel
theorem d_DV_putBack_69 : decode b_DV_putBack 69 = .ok (.iinc 6 1, 3) := by decide +kernel
theorem d_DV_putBack_72 : decode b_DV_putBack 72 = .ok (.goto (-50), 3) := by decide +kernel
theorem d_DV_putBack_75 : decode b_DV_putBack 75 = .ok (.aload_n 2, 1) := by decide +kernel
theorem d_DV_putBack_76 : decode b_DV_putBack 76 = .ok (.iload_n 1, 1) := by decide +kernel
theorem d_DV_putBack_77 : decode b_DV_putBack 77 = .ok (.iload_n 3, 1) := by decide +kernel
theorem d_DV_putBack_78 : decode b_DV_putBack 78 = .ok (.iadd, 1) := by decide +kernel
theorem d_DV_putBack_79 : decode b_DV_putBack 79 = .ok (.aload_n 2, 1) := by decide +kernel
theorem d_DV_putBack_80 : decode b_DV_putBack 80 = .ok (.iload_n 1, 1) := by decide +kernel
theorem d_DV_putBack_81 : decode b_DV_putBack 81 = .ok (.iload_n 3, 1) := by decide +kernel
theorem d_DV_putBack_82 : decode b_DV_putBack 82 = .ok (.iadd, 1) := by decide +kernel
theorem d_DV_putBack_83 : decode b_DV_putBack 83 = .ok (.laload, 1) := by decide +kernel
theorem d_DV_putBack_84 : decode b_DV_putBack 84 = .ok (.lload 4, 2) := by decide +kernel
theorem d_DV_putBack_86 : decode b_DV_putBack 86 = .ok (.ladd, 1) := by decide +kernel
theorem d_DV_putBack_87 : decode b_DV_putBack 87 = .ok (.ldc2_w 94, 3) := by decide +kernel
theorem d_DV_putBack_90 : decode b_DV_putBack 90 = .ok (.land, 1) := by decide +kernel
theorem d_DV_putBack_91 : decode b_DV_putBack 91 = .ok (.lastore, 1) := by decide +kernel
theorem d_DV_putBack_92 : decode b_DV_putBack 92 = .ok (.return_, 1) := by decide +kernel
theorem d_DV_nextLimb_0 : decode b_DV_nextLimb 0 = .ok (.aload_n 0, 1) := by decide +kernel
theorem d_DV_nextLimb_1 : decode b_DV_nextLimb 1 = .ok (.iload_n 1, 1) := by decide +kernel
theorem d_DV_nextLimb_2 : decode b_DV_nextLimb 2 = .ok (.invokevirtual 81, 3) := by decide +kernel
theorem d_DV_nextLimb_5 : decode b_DV_nextLimb 5 = .ok (.lstore_n 2, 1) := by decide +kernel
theorem d_DV_nextLimb_6 : decode b_DV_nextLimb 6 = .ok (.aload_n 0, 1) := by decide +kernel
theorem d_DV_nextLimb_7 : decode b_DV_nextLimb 7 = .ok (.iload_n 1, 1) := by decide +kernel
theorem d_DV_nextLimb_8 : decode b_DV_nextLimb 8 = .ok (.lload_n 2, 1) := by decide +kernel
theorem d_DV_nextLimb_9 : decode b_DV_nextLimb 9 = .ok (.invokevirtual 84, 3) := by decide +kernel
theorem d_DV_nextLimb_12 : decode b_DV_nextLimb 12 = .ok (.ifCond .eq 12, 3) := by decide +kernel
theorem d_DV_nextLimb_15 : decode b_DV_nextLimb 15 = .ok (.aload_n 0, 1) := by decide +kernel
theorem d_DV_nextLimb_16 : decode b_DV_nextLimb 16 = .ok (.iload_n 1, 1) := by decide +kernel
theorem d_DV_nextLimb_17 : decode b_DV_nextLimb 17 = .ok (.invokevirtual 88, 3) := by decide +kernel
theorem d_DV_nextLimb_20 : decode b_DV_nextLimb 20 = .ok (.lload_n 2, 1) := by decide +kernel
theorem d_DV_nextLimb_21 : decode b_DV_nextLimb 21 = .ok (.lconst 1, 1) := by decide +kernel
theorem d_DV_nextLimb_22 : decode b_DV_nextLimb 22 = .ok (.lsub, 1) := by decide +kernel
theorem d_DV_nextLimb_23 : decode b_DV_nextLimb 23 = .ok (.lstore_n 2, 1) := by decide +kernel
theorem d_DV_nextLimb_24 : decode b_DV_nextLimb 24 = .ok (.lload_n 2, 1) := by decide +kernel
theorem d_DV_nextLimb_25 : decode b_DV_nextLimb 25 = .ok (.lreturn, 1) := by decide +kernel
theorem d_DV_ofAbsolutes_0 : decode b_DV_ofAbsolutes 0 = .ok (.aload_n 0, 1) := by decide +kernel
theorem d_DV_ofAbsolutes_1 : decode b_DV_ofAbsolutes 1 = .ok (.getfield 12, 3) := by decide +kernel
theorem d_DV_ofAbsolutes_4 : decode b_DV_ofAbsolutes 4 = .ok (.invokevirtual 49, 3) := by decide +kernel
theorem d_DV_ofAbsolutes_7 : decode b_DV_ofAbsolutes 7 = .ok (.aload_n 0, 1) := by decide +kernel
theorem d_DV_ofAbsolutes_8 : decode b_DV_ofAbsolutes 8 = .ok (.getfield 18, 3) := by decide +kernel
theorem d_DV_ofAbsolutes_11 : decode b_DV_ofAbsolutes 11 = .ok (.invokevirtual 49, 3) := by decide +kernel
theorem d_DV_ofAbsolutes_14 : decode b_DV_ofAbsolutes 14 = .ok (.aload_n 2, 1) := by decide +kernel
theorem d_DV_ofAbsolutes_15 : decode b_DV_ofAbsolutes 15 = .ok (.getfield 32, 3) := by decide +kernel
theorem d_DV_ofAbsolutes_18 : decode b_DV_ofAbsolutes 18 = .ok (.ifCond .eq 13, 3) := by decide +kernel
theorem d_DV_ofAbsolutes_21 : decode b_DV_ofAbsolutes 21 = .ok (.aload_n 1, 1) := by decide +kernel
theorem d_DV_ofAbsolutes_22 : decode b_DV_ofAbsolutes 22 = .ok (.getfield 32, 3) := by decide +kernel
theorem d_DV_ofAbsolutes_25 : decode b_DV_ofAbsolutes 25 = .ok (.sipush 258, 3) := by decide +kernel
theorem d_DV_ofAbsolutes_28 : decode b_DV_ofAbsolutes 28 = .ok (.if_icmp .lt 4, 3) := by decide +kernel
theorem d_DV_ofAbsolutes_31 : decode b_DV_ofAbsolutes 31 = .ok (.return_, 1) := by decide +kernel
theorem d_DV_ofAbsolutes_32 : decode b_DV_ofAbsolutes 32 = .ok (.bipush 32, 2) := by decide +kernel
theorem d_DV_ofAbsolutes_34 : decode b_DV_ofAbsolutes 34 = .ok (.aload_n 2, 1) := by decide +kernel
theorem d_DV_ofAbsolutes_35 : decode b_DV_ofAbsolutes 35 = .ok (.getfield 52, 3) := by decide +kernel
theorem d_DV_ofAbsolutes_38 : decode b_DV_ofAbsolutes 38 = .ok (.aload_n 2, 1) := by decide +kernel
theorem d_DV_ofAbsolutes_39 : decode b_DV_ofAbsolutes 39 = .ok (.getfield 32, 3) := by decide +kernel
theorem d_DV_ofAbsolutes_42 : decode b_DV_ofAbsolutes 42 = .ok (.iconst 1, 1) := by decide +kernel
theorem d_DV_ofAbsolutes_43 : decode b_DV_ofAbsolutes 43 = .ok (.isub, 1) := by decide +kernel
theorem d_DV_ofAbsolutes_44 : decode b_DV_ofAbsolutes 44 = .ok (.laload, 1) := by decide +kernel
theorem d_DV_ofAbsolutes_45 : decode b_DV_ofAbsolutes 45 = .ok (.invokestatic 56, 3) := by decide +kernel
theorem d_DV_ofAbsolutes_48 : decode b_DV_ofAbsolutes 48 = .ok (.isub, 1) := by decide +kernel
theorem d_DV_ofAbsolutes_49 : decode b_DV_ofAbsolutes 49 = .ok (.istore_n 3, 1) := by decide +kernel
theorem d_DV_ofAbsolutes_50 : decode b_DV_ofAbsolutes 50 = .ok (.aload_n 0, 1) := by decide +kernel
theorem d_DV_ofAbsolutes_51 : decode b_DV_ofAbsolutes 51 = .ok (.getfield 18, 3) := by decide +kernel
theorem d_DV_ofAbsolutes_54 : decode b_DV_ofAbsolutes 54 = .ok (.aload_n 1, 1) := by decide +kernel
theorem d_DV_ofAbsolutes_55 : decode b_DV_ofAbsolutes 55 = .ok (.iload_n 3, 1) := by decide +kernel
theorem d_DV_ofAbsolutes_56 : decode b_DV_ofAbsolutes 56 = .ok (.invokevirtual 60, 3) := by decide +kernel
theorem d_DV_ofAbsolutes_59 : decode b_DV_ofAbsolutes 59 = .ok (.aload_n 0, 1) := by decide +kernel
theorem d_DV_ofAbsolutes_60 : decode b_DV_ofAbsolutes 60 = .ok (.getfield 21, 3) := by decide +kernel
theorem d_DV_ofAbsolutes_63 : decode b_DV_ofAbsolutes 63 = .ok (.aload_n 2, 1) := by decide +kernel
theorem d_DV_ofAbsolutes_64 : decode b_DV_ofAbsolutes 64 = .ok (.iload_n 3, 1) := by decide +kernel
theorem d_DV_ofAbsolutes_65 : decode b_DV_ofAbsolutes 65 = .ok (.invokevirtual 60, 3) := by decide +kernel
theorem d_DV_ofAbsolutes_68 : decode b_DV_ofAbsolutes 68 = .ok (.aload_n 1, 1) := by decide +kernel
theorem d_DV_ofAbsolutes_69 : decode b_DV_ofAbsolutes 69 = .ok (.getfield 32, 3) := by decide +kernel
theorem d_DV_ofAbsolutes_72 : decode b_DV_ofAbsolutes 72 = .ok (.aload_n 2, 1) := by decide +kernel
theorem d_DV_ofAbsolutes_73 : decode b_DV_ofAbsolutes 73 = .ok (.getfield 32, 3) := by decide +kernel
theorem d_DV_ofAbsolutes_76 : decode b_DV_ofAbsolutes 76 = .ok (.isub, 1) := by decide +kernel
theorem d_DV_ofAbsolutes_77 : decode b_DV_ofAbsolutes 77 = .ok (.istore 4, 2) := by decide +kernel
theorem d_DV_ofAbsolutes_79 : decode b_DV_ofAbsolutes 79 = .ok (.iload 4, 2) := by decide +kernel
theorem d_DV_ofAbsolutes_81 : decode b_DV_ofAbsolutes 81 = .ok (.istore 5, 2) := by decide +kernel
theorem d_DV_ofAbsolutes_83 : decode b_DV_ofAbsolutes 83 = .ok (.iload 5, 2) := by decide +kernel
theorem d_DV_ofAbsolutes_85 : decode b_DV_ofAbsolutes 85 = .ok (.ifCond .lt 25, 3) := by decide +kernel
theorem d_DV_ofAbsolutes_88 : decode b_DV_ofAbsolutes 88 = .ok (.aload_n 0, 1) := by decide +kernel
theorem d_DV_ofAbsolutes_89 : decode b_DV_ofAbsolutes 89 = .ok (.getfield 12, 3) := by decide +kernel
theorem d_DV_ofAbsolutes_92 : decode b_DV_ofAbsolutes 92 = .ok (.getfield 52, 3) := by decide +kernel
theorem d_DV_ofAbsolutes_95 : decode b_DV_ofAbsolutes 95 = .ok (.iload 5, 2) := by decide +kernel
theorem d_DV_ofAbsolutes_97 : decode b_DV_ofAbsolutes 97 = .ok (.aload_n 0, 1) := by decide +kernel
theorem d_DV_ofAbsolutes_98 : decode b_DV_ofAbsolutes 98 = .ok (.iload 5, 2) := by decide +kernel
theorem d_DV_ofAbsolutes_100 : decode b_DV_ofAbsolutes 100 = .ok (.invokevirtual 64, 3) := by decide +kernel
theorem d_DV_ofAbsolutes_103 : decode b_DV_ofAbsolutes 103 = .ok (.lastore, 1) := by decide +kernel
theorem d_DV_ofAbsolutes_104 : decode b_DV_ofAbsolutes 104 = .ok (.iinc 5 (-1), 3) := by decide +kernel
theorem d_DV_ofAbsolutes_107 : decode b_DV_ofAbsolutes 107 = .ok (.goto (-24), 3) := by decide +kernel
theorem d_DV_ofAbsolutes_110 : decode b_DV_ofAbsolutes 110 = .ok (.aload_n 0, 1) := by decide +kernel
theorem d_DV_ofAbsolutes_111 : decode b_DV_ofAbsolutes 111 = .ok (.getfield 12, 3) := by decide +kernel
theorem d_DV_ofAbsolutes_114 : decode b_DV_ofAbsolutes 114 = .ok (.iload 4, 2) := by decide +kernel
theorem d_DV_ofAbsolutes_116 : decode b_DV_ofAbsolutes 116 = .ok (.iconst 1, 1) := by decide +kernel
theorem d_DV_ofAbsolutes_117 : decode b_DV_ofAbsolutes 117 = .ok (.iadd, 1) := by decide +kernel
theorem d_DV_ofAbsolutes_118 : decode b_DV_ofAbsolutes 118 = .ok (.iconst 0, 1) := by decide +kernel
theorem d_DV_ofAbsolutes_119 : decode b_DV_ofAbsolutes 119 = .ok (.invokestatic 68, 3) := by decide +kernel
theorem d_DV_ofAbsolutes_122 : decode b_DV_ofAbsolutes 122 = .ok (.invokevirtual 74, 3) := by decide +kernel
theorem d_DV_ofAbsolutes_125 : decode b_DV_ofAbsolutes 125 = .ok (.aload_n 0, 1) := by decide +kernel
theorem d_DV_ofAbsolutes_126 : decode b_DV_ofAbsolutes 126 = .ok (.getfield 18, 3) := by decide +kernel
theorem d_DV_ofAbsolutes_129 : decode b_DV_ofAbsolutes 129 = .ok (.aload_n 0, 1) := by decide +kernel
theorem d_DV_ofAbsolutes_130 : decode b_DV_ofAbsolutes 130 = .ok (.getfield 18, 3) := by decide +kernel
theorem d_DV_ofAbsolutes_133 : decode b_DV_ofAbsolutes 133 = .ok (.iload_n 3, 1) := by decide +kernel
theorem d_DV_ofAbsolutes_134 : decode b_DV_ofAbsolutes 134 = .ok (.invokevirtual 78, 3) := by decide +kernel
theorem d_DV_ofAbsolutes_137 : decode b_DV_ofAbsolutes 137 = .ok (.return_, 1) := by decide +kernel
theorem d_DV_downwards_0 : decode b_DV_downwards 0 = .ok (.aload_n 0, 1) := by decide +kernel
theorem d_DV_downwards_1 : decode b_DV_downwards 1 = .ok (.aload_n 1, 1) := by decide +kernel
theorem d_DV_downwards_2 : decode b_DV_downwards 2 = .ok (.aload_n 2, 1) := by decide +kernel
theorem d_DV_downwards_3 : decode b_DV_downwards 3 = .ok (.invokevirtual 24, 3) := by decide +kernel
theorem d_DV_downwards_6 : decode b_DV_downwards 6 = .ok (.aload_n 1, 1) := by decide +kernel
theorem d_DV_downwards_7 : decode b_DV_downwards 7 = .ok (.getfield 28, 3) := by decide +kernel
theorem d_DV_downwards_10 : decode b_DV_downwards 10 = .ok (.aload_n 2, 1) := by decide +kernel
theorem d_DV_downwards_11 : decode b_DV_downwards 11 = .ok (.getfield 28, 3) := by decide +kernel
theorem d_DV_downwards_14 : decode b_DV_downwards 14 = .ok (.if_icmp .eq 7, 3) := by decide +kernel
theorem d_DV_downwards_17 : decode b_DV_downwards 17 = .ok (.iconst 1, 1) := by decide +kernel
theorem d_DV_downwards_18 : decode b_DV_downwards 18 = .ok (.goto 4, 3) := by decide +kernel
theorem d_DV_downwards_21 : decode b_DV_downwards 21 = .ok (.iconst 0, 1) := by decide +kernel
theorem d_DV_downwards_22 : decode b_DV_downwards 22 = .ok (.istore_n 3, 1) := by decide +kernel
theorem d_DV_downwards_23 : decode b_DV_downwards 23 = .ok (.iload_n 3, 1) := by decide +kernel
theorem d_DV_downwards_24 : decode b_DV_downwards 24 = .ok (.ifCond .eq 32, 3) := by decide +kernel
theorem d_DV_downwards_27 : decode b_DV_downwards 27 = .ok (.aload_n 0, 1) := by decide +kernel
theorem d_DV_downwards_28 : decode b_DV_downwards 28 = .ok (.getfield 18, 3) := by decide +kernel
theorem d_DV_downwards_31 : decode b_DV_downwards 31 = .ok (.getfield 32, 3) := by decide +kernel
theorem d_DV_downwards_34 : decode b_DV_downwards 34 = .ok (.ifCond .le 22, 3) := by decide +kernel
theorem d_DV_downwards_37 : decode b_DV_downwards 37 = .ok (.aload_n 0, 1) := by decide +kernel
theorem d_DV_downwards_38 : decode b_DV_downwards 38 = .ok (.getfield 12, 3) := by decide +kernel
theorem d_DV_downwards_41 : decode b_DV_downwards 41 = .ok (.invokevirtual 36, 3) := by decide +kernel
theorem d_DV_downwards_44 : decode b_DV_downwards 44 = .ok (.aload_n 0, 1) := by decide +kernel
theorem d_DV_downwards_45 : decode b_DV_downwards 45 = .ok (.getfield 18, 3) := by decide +kernel
theorem d_DV_downwards_48 : decode b_DV_downwards 48 = .ok (.aload_n 2, 1) := by decide +kernel
theorem d_DV_downwards_49 : decode b_DV_downwards 49 = .ok (.aload_n 0, 1) := by decide +kernel
theorem d_DV_downwards_50 : decode b_DV_downwards 50 = .ok (.getfield 18, 3) := by decide +kernel
theorem d_DV_downwards_53 : decode b_DV_downwards 53 = .ok (.invokestatic 39, 3) := by decide +kernel
theorem d_DV_downwards_56 : decode b_DV_downwards 56 = .ok (.aload_n 0, 1) := by decide +kernel
theorem d_DV_downwards_57 : decode b_DV_downwards 57 = .ok (.getfield 12, 3) := by decide +kernel
theorem d_DV_downwards_60 : decode b_DV_downwards 60 = .ok (.iload_n 3, 1) := by decide +kernel
theorem d_DV_downwards_61 : decode b_DV_downwards 61 = .ok (.invokevirtual 45, 3) := by decide +kernel
theorem d_DV_downwards_64 : decode b_DV_downwards 64 = .ok (.aload_n 0, 1) := by decide +kernel
theorem d_DV_downwards_65 : decode b_DV_downwards 65 = .ok (.getfield 18, 3) := by decide +kernel
theorem d_DV_downwards_68 : decode b_DV_downwards 68 = .ok (.aload_n 2, 1) := by decide +kernel
theorem d_DV_downwards_69 : decode b_DV_downwards 69 = .ok (.getfield 28, 3) := by decide +kernel
theorem d_DV_downwards_72 : decode b_DV_downwards 72 = .ok (.invokevirtual 45, 3) := by decide +kernel
theorem d_DV_downwards_75 : decode b_DV_downwards 75 = .ok (.return_, 1) := by decide +kernel
abbrev rm_DV_init : Room := { frames := 2, cells := 6, slots := 783, locals := 40 }
def w_DV_init (a1 : Nat) (h0 : ah_H) (K : ah_H → Prop) : Prop :=
  ∀ q2 : Nat, ah_T h0 q2 = 0 → ∀ h4 : ah_H, h4 = ah_new h0 q2 3 0 → w_WH_init q2 h4 (fun h7 => ah_m h4 h7 → ah_T h7 a1 = 2 ∧ ∀ h11 : ah_H, h11 = ah_sR h7 2 a1 (some q2) → ∀ q15 : Nat, ah_T h11 q15 = 0 → ∀ h17 : ah_H, h17 = ah_new h11 q15 3 0 → w_WH_init q15 h17 (fun h22 => ah_m h17 h22 → ∀ h27 : ah_H, h27 = ah_sR h22 3 a1 (some q15) → ∀ q32 : Nat, ah_T h27 q32 = 0 → ∀ h34 : ah_H, h34 = ah_new h27 q32 3 0 → w_WH_init q32 h34 (fun h40 => ah_m h34 h40 → ∀ h46 : ah_H, h46 = ah_sR h40 4 a1 (some q32) → K h46)))
abbrev rm_DV_unsignedQuotient : Room := { frames := 0, cells := 0, slots := 0, locals := 0 }
def bk_DV_unsignedQuotient_37  (K : Int64 → ah_H → Prop) (s7 : Int64) (h8 : ah_H) : Prop :=
  K s7 h8
def w_DV_unsignedQuotient (a1 : Int64) (a2 : Int64) (h0 : ah_H) (K : Int64 → ah_H → Prop) : Prop :=
  ((0 : Int64) < a2 → ((¬ a2 = 0) ∧ ∀ v5 : Int64, v5 = (((a1.toUInt64 >>> ((1 : Int32).toInt64.toUInt64 &&& Int64.toUInt64 63)).toInt64) / a2) <<< ((1 : Int32).toInt64 &&& 63) → ((a1 - (v5 * a2)) < a2 → (bk_DV_unsignedQuotient_37 K v5 h0)) ∧ (¬ (a1 - (v5 * a2)) < a2 → (bk_DV_unsignedQuotient_37 K (v5 + (1 : Int64)) h0)))) ∧ (¬ (0 : Int64) < a2 → (K (0 : Int64) h0))
abbrev rm_DV_guessLimb : Room := { frames := 1, cells := 0, slots := 0, locals := 25 }
def lp_DV_guessLimb_106 (xt_158 : Int64 → ah_H → Prop) (xt_179 : Int64 → ah_H → Prop) (K : Int64 → ah_H → Prop) : Nat → Nat → Int32 → Int64 → Int64 → Int64 → Int64 → Int32 → ah_H → Prop
  | 0, _, _, _, _, _, _, _, _ => False
  | n + 1, x84, x85, x86, x87, x88, x89, x90, h91 =>
    ((2 : Int32) ≤ x90 → (xt_179 x88 h91)) ∧ (¬ (2 : Int32) ≤ x90 → (((4294967295 : Int64) < x89 → (xt_179 x88 h91)) ∧ (¬ (4294967295 : Int64) < x89 → (ah_T h91 x84 = 2 ∧ ∃ q95, ah_R h91 3 x84 = some q95 ∧ ah_T h91 q95 = 3 ∧ w_WH_at q95 (x85 - (2 : Int32)) h91 (fun r99 h98 => ah_m h91 h98 → ∀ v103 : Int64, v103 = (x89 <<< ((32 : Int32).toInt64 &&& 63)) ||| r99 → ((v103 + (-9223372036854775808 : Int64)) < ((x88 * x87) + (-9223372036854775808 : Int64)) → (∀ v105 : Int64, v105 = x88 - (1 : Int64) → ∀ v106 : Int64, v106 = x89 + x86 → ∀ v107 : Int32, v107 = x90 + 1 → (lp_DV_guessLimb_106 xt_158 xt_179 K n) x84 x85 x86 x87 v105 v106 v107 h98)) ∧ (¬ (v103 + (-9223372036854775808 : Int64)) < ((x88 * x87) + (-9223372036854775808 : Int64)) → (xt_158 x88 h98)))))))
def bk_DV_guessLimb_179  (K : Int64 → ah_H → Prop) (x110 : Int64) (h111 : ah_H) : Prop :=
  K x110 h111
def bk_DV_guessLimb_92  (K : Int64 → ah_H → Prop) (x76 : Nat) (x77 : Int32) (x78 : Int64) (x79 : Int64) (x80 : Int64) (s81 : Int64) (h82 : ah_H) : Prop :=
  ∀ v83 : Int64, v83 = x80 - (s81 * x78) → ∃ k114, lp_DV_guessLimb_106 (fun (x108 : Int64) h109 => bk_DV_guessLimb_179 K x108 h109) (fun (x112 : Int64) h113 => bk_DV_guessLimb_179 K x112 h113) K k114 x76 x77 x78 x79 s81 v83 (0 : Int32) h82
def w_DV_guessLimb (a1 : Nat) (a2 : Int32) (h0 : ah_H) (K : Int64 → ah_H → Prop) : Prop :=
  ah_T h0 a1 = 2 ∧ ∃ q4, ah_R h0 4 a1 = some q4 ∧ ah_T h0 q4 = 3 ∧ ∀ v7 : Int32, v7 = a2 + (ah_I h0 0 q4) → ∃ q8, ah_R h0 4 a1 = some q8 ∧ ∃ q10, ah_R h0 4 a1 = some q10 ∧ ah_T h0 q10 = 3 ∧ ah_T h0 q8 = 3 ∧ w_WH_at q8 ((ah_I h0 0 q10) - (1 : Int32)) h0 (fun r15 h14 => ah_m h0 h14 → ∃ q21, ah_R h14 4 a1 = some q21 ∧ ∃ q23, ah_R h14 4 a1 = some q23 ∧ ah_T h14 q23 = 3 ∧ ah_T h14 q21 = 3 ∧ w_WH_at q21 ((ah_I h14 0 q23) - (2 : Int32)) h14 (fun r28 h27 => ah_m h14 h27 → ∃ q36, ah_R h27 3 a1 = some q36 ∧ ah_T h27 q36 = 3 ∧ w_WH_at q36 v7 h27 (fun r40 h39 => ah_m h27 h39 → ∃ q49, ah_R h39 3 a1 = some q49 ∧ ah_T h39 q49 = 3 ∧ w_WH_at q49 (v7 - (1 : Int32)) h39 (fun r53 h52 => ah_m h39 h52 → ∀ v63 : Int64, v63 = (r40 <<< ((32 : Int32).toInt64 &&& 63)) ||| r53 → (r40 < r15 → (w_DV_unsignedQuotient v63 r15 h52 (fun r66 h65 => ah_m h52 h65 → bk_DV_guessLimb_92 K a1 v7 r15 r28 v63 r66 h65))) ∧ (¬ r40 < r15 → (bk_DV_guessLimb_92 K a1 v7 r15 r28 v63 (4294967295 : Int64) h52))))))
abbrev rm_DV_takeAway : Room := { frames := 0, cells := 0, slots := 0, locals := 0 }
def lp_DV_takeAway_33 (xt_100 : Int32 → Nat → Int32 → Int64 → ah_H → Prop) (K : Int32 → ah_H → Prop) : Nat → Int32 → Int64 → Nat → Nat → Int32 → Int64 → Int32 → ah_H → Prop
  | 0, _, _, _, _, _, _, _, _ => False
  | n + 1, x19, x20, x21, x22, x23, x24, x25, h26 =>
    (x23 ≤ x25 → (xt_100 x19 x21 x23 x24 h26)) ∧ (¬ x23 ≤ x25 → (ah_T h26 x22 = 110 ∧ vp_in x25 (ah_N h26 x22) ∧ ∀ v30 : Int64, v30 = (x20 * (ah_bL h26 x22 x25.toNatClampNeg)) + x24 → ah_T h26 x21 = 110 ∧ vp_in (x25 + x19) (ah_N h26 x21) ∧ ∀ v33 : Int64, v33 = (ah_bL h26 x21 (x25 + x19).toNatClampNeg) - (v30 &&& (4294967295 : Int64)) → ∀ v34 : Int64, v34 = v33 &&& (4294967295 : Int64) → vp_in (x25 + x19) (ah_N h26 x21) ∧ ∀ h36 : ah_H, h36 = ah_cL h26 x21 (vp_updL (ah_bL h26 x21) (x25 + x19).toNatClampNeg v34) → ∀ v40 : Int64, v40 = ((v30.toUInt64 >>> ((32 : Int32).toInt64.toUInt64 &&& Int64.toUInt64 63)).toInt64) + ((v33.toUInt64 >>> ((63 : Int32).toInt64.toUInt64 &&& Int64.toUInt64 63)).toInt64) → ∀ v41 : Int32, v41 = x25 + 1 → (lp_DV_takeAway_33 xt_100 K n) x19 x20 x21 x22 x23 v40 v41 h36))
def bk_DV_takeAway_137  (K : Int32 → ah_H → Prop) (s56 : Int32) (h57 : ah_H) : Prop :=
  (s56 = 0 ∨ s56 = 1) ∧ K s56 h57
def w_DV_takeAway (a1 : Nat) (a2 : Int32) (a3 : Int64) (h0 : ah_H) (K : Int32 → ah_H → Prop) : Prop :=
  ah_T h0 a1 = 2 ∧ ∃ q5, ah_R h0 3 a1 = some q5 ∧ ah_T h0 q5 = 3 ∧ ∃ q8, ah_R h0 5 q5 = some q8 ∧ ∃ q10, ah_R h0 4 a1 = some q10 ∧ ah_T h0 q10 = 3 ∧ ∃ q13, ah_R h0 5 q10 = some q13 ∧ ∃ q15, ah_R h0 4 a1 = some q15 ∧ ah_T h0 q15 = 3 ∧ ∀ v18 : Int32, v18 = ah_I h0 0 q15 → ∃ k59, lp_DV_takeAway_33 (fun (x42 : Int32) (x43 : Nat) (x44 : Int32) (x45 : Int64) h46 => ah_T h46 x43 = 110 ∧ vp_in (x42 + x44) (ah_N h46 x43) ∧ ∀ v49 : Int64, v49 = (ah_bL h46 x43 (x42 + x44).toNatClampNeg) - x45 → ∀ v50 : Int64, v50 = v49 &&& (4294967295 : Int64) → vp_in (x42 + x44) (ah_N h46 x43) ∧ ∀ h52 : ah_H, h52 = ah_cL h46 x43 (vp_updL (ah_bL h46 x43) (x42 + x44).toNatClampNeg v50) → ((0 : Int64) ≤ v49 → (bk_DV_takeAway_137 K (0 : Int32) h52)) ∧ (¬ (0 : Int64) ≤ v49 → (bk_DV_takeAway_137 K (1 : Int32) h52))) K k59 a2 a3 q8 q13 v18 (0 : Int64) (0 : Int32) h0
abbrev rm_DV_putBack : Room := { frames := 0, cells := 0, slots := 0, locals := 0 }
def lp_DV_putBack_22 (xt_75 : Int32 → Nat → Int32 → Int64 → ah_H → Prop) (K : ah_H → Prop) : Nat → Nat → Int32 → Nat → Int32 → Int64 → Int32 → ah_H → Prop
  | 0, _, _, _, _, _, _, _ => False
  | n + 1, x13, x14, x15, x16, x17, x18, h19 =>
    (x16 ≤ x18 → (xt_75 x14 x15 x16 x17 h19)) ∧ (¬ x16 ≤ x18 → (ah_T h19 x15 = 110 ∧ vp_in (x18 + x14) (ah_N h19 x15) ∧ ah_T h19 x13 = 2 ∧ ∃ q24, ah_R h19 4 x13 = some q24 ∧ ah_T h19 q24 = 3 ∧ ∃ q27, ah_R h19 5 q24 = some q27 ∧ ah_T h19 q27 = 110 ∧ vp_in x18 (ah_N h19 q27) ∧ ∀ v31 : Int64, v31 = ((ah_bL h19 x15 (x18 + x14).toNatClampNeg) + (ah_bL h19 q27 x18.toNatClampNeg)) + x17 → ∀ v32 : Int64, v32 = v31 &&& (4294967295 : Int64) → vp_in (x18 + x14) (ah_N h19 x15) ∧ ∀ h34 : ah_H, h34 = ah_cL h19 x15 (vp_updL (ah_bL h19 x15) (x18 + x14).toNatClampNeg v32) → ∀ v40 : Int64, v40 = (v31.toUInt64 >>> ((32 : Int32).toInt64.toUInt64 &&& Int64.toUInt64 63)).toInt64 → ∀ v41 : Int32, v41 = x18 + 1 → (lp_DV_putBack_22 xt_75 K n) x13 x14 x15 x16 v40 v41 h34))
def w_DV_putBack (a1 : Nat) (a2 : Int32) (h0 : ah_H) (K : ah_H → Prop) : Prop :=
  ah_T h0 a1 = 2 ∧ ∃ q4, ah_R h0 3 a1 = some q4 ∧ ah_T h0 q4 = 3 ∧ ∃ q7, ah_R h0 5 q4 = some q7 ∧ ∃ q9, ah_R h0 4 a1 = some q9 ∧ ah_T h0 q9 = 3 ∧ ∀ v12 : Int32, v12 = ah_I h0 0 q9 → ∃ k54, lp_DV_putBack_22 (fun (x42 : Int32) (x43 : Nat) (x44 : Int32) (x45 : Int64) h46 => ah_T h46 x43 = 110 ∧ vp_in (x42 + x44) (ah_N h46 x43) ∧ ∀ v49 : Int64, v49 = ((ah_bL h46 x43 (x42 + x44).toNatClampNeg) + x45) &&& (4294967295 : Int64) → vp_in (x42 + x44) (ah_N h46 x43) ∧ ∀ h51 : ah_H, h51 = ah_cL h46 x43 (vp_updL (ah_bL h46 x43) (x42 + x44).toNatClampNeg v49) → K h51) K k54 a1 a2 q7 v12 (0 : Int64) (0 : Int32) h0
abbrev rm_DV_nextLimb : Room := { frames := 2, cells := 0, slots := 0, locals := 62 }
def bk_DV_nextLimb_24  (K : Int64 → ah_H → Prop) (x13 : Int64) (h14 : ah_H) : Prop :=
  K x13 h14
def w_DV_nextLimb (a1 : Nat) (a2 : Int32) (h0 : ah_H) (K : Int64 → ah_H → Prop) : Prop :=
  ah_T h0 a1 = 2 ∧ w_DV_guessLimb a1 a2 h0 (fun r5 h4 => ah_m h0 h4 → w_DV_takeAway a1 a2 r5 h4 (fun r9 h8 => ah_m h4 h8 → (r9 = 0 → (bk_DV_nextLimb_24 K r5 h8)) ∧ (¬ r9 = 0 → (w_DV_putBack a1 a2 h8 (fun h15 => ah_m h8 h15 → ∀ v18 : Int64, v18 = r5 - (1 : Int64) → bk_DV_nextLimb_24 K v18 h15)))))
abbrev rm_DV_ofAbsolutes : Room := { frames := 3, cells := 0, slots := 0, locals := 85 }
def bk_DV_ofAbsolutes_31  (K : ah_H → Prop)  (h22 : ah_H) : Prop :=
  K h22
def lp_DV_ofAbsolutes_83 (xt_110 : Nat → Int32 → Int32 → ah_H → Prop) (K : ah_H → Prop) : Nat → Nat → Int32 → Int32 → Int32 → ah_H → Prop
  | 0, _, _, _, _, _ => False
  | n + 1, x65, x66, x67, x68, h69 =>
    (x68 < 0 → (xt_110 x65 x66 x67 h69)) ∧ (¬ x68 < 0 → (ah_T h69 x65 = 2 ∧ ∃ q72, ah_R h69 2 x65 = some q72 ∧ ah_T h69 q72 = 3 ∧ ∃ q75, ah_R h69 5 q72 = some q75 ∧ w_DV_nextLimb x65 x68 h69 (fun r78 h77 => ah_m h69 h77 → ah_T h77 q75 = 110 ∧ vp_in x68 (ah_N h77 q75) ∧ ∀ h84 : ah_H, h84 = ah_cL h77 q75 (vp_updL (ah_bL h77 q75) x68.toNatClampNeg r78) → ∀ v89 : Int32, v89 = x68 + (-1) → (lp_DV_ofAbsolutes_83 xt_110 K n) x65 x66 x67 v89 h84)))
def w_DV_ofAbsolutes (a1 : Nat) (a2 : Nat) (a3 : Nat) (h0 : ah_H) (K : ah_H → Prop) : Prop :=
  ah_T h0 a1 = 2 ∧ ∃ q5, ah_R h0 2 a1 = some q5 ∧ ah_T h0 q5 = 3 ∧ w_WH_clear q5 h0 (fun h8 => ah_m h0 h8 → ∃ q12, ah_R h8 3 a1 = some q12 ∧ ah_T h8 q12 = 3 ∧ w_WH_clear q12 h8 (fun h15 => ah_m h8 h15 → ah_T h15 a3 = 3 ∧ ((ah_I h15 0 a3) = 0 → (bk_DV_ofAbsolutes_31 K h15)) ∧ (¬ (ah_I h15 0 a3) = 0 → (ah_T h15 a2 = 3 ∧ ((ah_I h15 0 a2) < (258 : Int32) → (∃ q25, ah_R h15 5 a3 = some q25 ∧ ah_T h15 q25 = 110 ∧ vp_in ((ah_I h15 0 a3) - (1 : Int32)) (ah_N h15 q25) ∧ w_WH_bitsOf (ah_bL h15 q25 ((ah_I h15 0 a3) - (1 : Int32)).toNatClampNeg) h15 (fun r30 h29 => ah_m h15 h29 → ∀ v38 : Int32, v38 = (32 : Int32) - r30 → ∃ q39, ah_R h29 3 a1 = some q39 ∧ ah_T h29 q39 = 3 ∧ w_WH_becomeShiftedUp q39 a2 v38 h29 (fun h42 => ah_m h29 h42 → ∃ q51, ah_R h42 4 a1 = some q51 ∧ ah_T h42 q51 = 3 ∧ w_WH_becomeShiftedUp q51 a3 v38 h42 (fun h54 => ah_m h42 h54 → ∀ v64 : Int32, v64 = (ah_I h54 0 a2) - (ah_I h54 0 a3) → ∃ k112, lp_DV_ofAbsolutes_83 (fun (x90 : Nat) (x91 : Int32) (x92 : Int32) h93 => ah_T h93 x90 = 2 ∧ ∃ q95, ah_R h93 2 x90 = some q95 ∧ ah_T h93 q95 = 3 ∧ w_WH_settle q95 (if (x92 + (1 : Int32)) < (0 : Int32) then (0 : Int32) else (x92 + (1 : Int32))) h93 (fun h98 => ah_m h93 h98 → ∃ q102, ah_R h98 3 x90 = some q102 ∧ ∃ q104, ah_R h98 3 x90 = some q104 ∧ ah_T h98 q102 = 3 ∧ w_WH_becomeShiftedDown q102 q104 x91 h98 (fun h107 => ah_m h98 h107 → K h107))) K k112 a1 v38 v64 v64 h54))))) ∧ (¬ (ah_I h15 0 a2) < (258 : Int32) → (bk_DV_ofAbsolutes_31 K h15))))))
abbrev rm_DV_downwards : Room := { frames := 4, cells := 0, slots := 0, locals := 110 }
def bk_DV_downwards_56  (K : ah_H → Prop) (x16 : Nat) (x17 : Nat) (x18 : Int32) (h19 : ah_H) : Prop :=
  ah_T h19 x16 = 2 ∧ ∃ q21, ah_R h19 2 x16 = some q21 ∧ ah_T h19 q21 = 3 ∧ w_WH_markSign q21 x18 h19 (fun h24 => ah_m h19 h24 → ∃ q28, ah_R h24 3 x16 = some q28 ∧ ah_T h24 x17 = 3 ∧ ah_T h24 q28 = 3 ∧ w_WH_markSign q28 (ah_I h24 1 x17) h24 (fun h32 => ah_m h24 h32 → K h32))
def bk_DV_downwards_22  (K : ah_H → Prop) (x11 : Nat) (x12 : Nat) (s13 : Int32) (h14 : ah_H) : Prop :=
  (s13 = 0 → (bk_DV_downwards_56 K x11 x12 s13 h14)) ∧ (¬ s13 = 0 → (ah_T h14 x11 = 2 ∧ ∃ q39, ah_R h14 3 x11 = some q39 ∧ ah_T h14 q39 = 3 ∧ ((ah_I h14 0 q39) ≤ 0 → (bk_DV_downwards_56 K x11 x12 s13 h14)) ∧ (¬ (ah_I h14 0 q39) ≤ 0 → (∃ q43, ah_R h14 2 x11 = some q43 ∧ ah_T h14 q43 = 3 ∧ w_WH_addOne q43 h14 (fun h46 => ah_m h14 h46 → ∃ q51, ah_R h46 3 x11 = some q51 ∧ ∃ q53, ah_R h46 3 x11 = some q53 ∧ w_SU_differenceOfAbsolutes q51 x12 q53 h46 (fun h55 => ah_m h46 h55 → bk_DV_downwards_56 K x11 x12 s13 h55))))))
def w_DV_downwards (a1 : Nat) (a2 : Nat) (a3 : Nat) (h0 : ah_H) (K : ah_H → Prop) : Prop :=
  ah_T h0 a1 = 2 ∧ w_DV_ofAbsolutes a1 a2 a3 h0 (fun h5 => ah_m h0 h5 → ah_T h5 a2 = 3 ∧ ah_T h5 a3 = 3 ∧ ((ah_I h5 1 a2) = (ah_I h5 1 a3) → (bk_DV_downwards_22 K a1 a3 (0 : Int32) h5)) ∧ (¬ (ah_I h5 1 a2) = (ah_I h5 1 a3) → (bk_DV_downwards_22 K a1 a3 (1 : Int32) h5)))
set_option maxHeartbeats 4000000 in
set_option maxRecDepth 100000 in
theorem m_DV_init {l : Launch} (G : zG) (a1 : Nat) (h0 : ah_H) {K : ah_H → Prop} (hst : l.stackTraces = false) (w : w_DV_init a1 h0 K) : Met l y_DV_init (Cond.code y_DV_init b_DV_init 1 none :: zx_T) rm_DV_init (va_Pc [.ref a1] (ah_B G h0)) (va_Qv (fun h9 => K h9 ∧ ah_m h0 h9) (ah_B G) (fun q => G.2.2 ≤ q)) 6 783 (fun q => G.2.2 ≤ q) := by
  refine Met.ofW (cc := b_DV_init) (maxL := 1) (ret := none) (by decide) rfl ?_
  intro p e s m args below meth c s₁ B hml hv
  have htb := cx_out B (atoms_spec B.pre _ List.mem_cons_self)
  obtain ⟨rfl, hB⟩ := hv
  have C : cx_C p l s m _ meth c G y_DV_init b_DV_init 1 none "BigDesk$Division" (Cond.code y_DV_init b_DV_init 1 none :: zx_T) [] := ⟨B.exec, B.bytes, B.returns, hml, findClass_of_methodNamed B.named, atoms_spec B.pre, cx_hd, B.notSynchronized, hB.2.2.1, hB.2.2.2, htb, fun z9 => (name_of_methodNamed B.named B.method).1.trans z9, hst⟩
  obtain ⟨hx, hb, hr, hml, hown, hts, hT, hlk, hK, hX, htb, hin, hst⟩ := id C
  have hw : ∀ {w9 : Cond}, w9 ∈ zx_T → w9.before _ s = true := fun h9 => hts _ (hT _ h9)
  have hW : ah_W G s.heap h0 s.heap [] := ⟨hB.1, hB.2.1, va_S.rf⟩
  have hm : ah_m h0 h0 := ah_m.rf
  have hcl : 0 + 6 ≤ 6 := by decide
  have hsl : 0 + 783 ≤ 783 := by decide
  have hl := lv_entry ([.ref a1]) (n := 1) (Nat.le_of_ble_eq_true rfl)
  rw [lg_entry_eq]
  generalize (lg_sl ([.ref a1]) ++ List.replicate (1 - (lg_sl ([.ref a1])).length) Slot.unset).toArray = ls at hl ⊢
  have hl : lv_has ls 1 [(0, .ref a1)] := hl
  unfold w_DV_init at w
  refine lv_aload_n hx hb d_DV_init_0 rfl (lv_at hl 0 rfl) ?_
  refine W.objInit hx hb hown (hw wd_61) (hw wd_24) (hw wd_25) rfl (by rw [hml]; exact hl.1) rfl d_DV_init_1 (Nat.le_of_ble_eq_true rfl) (Nat.le_of_ble_eq_true rfl) ?_
  refine W.eq (g2 := F0 m 4 ls []) rfl ?_
  refine lv_aload_n hx hb d_DV_init_4 rfl (lv_at hl 0 rfl) ?_
  refine hb_new (ci := 2) (C := "BigDesk$Whole") (T := T_WH) (N := 3) hx hb hts (fun w9 h9 => hT w9 (u_WH w9 h9)) t_WH o_WH hown (hw wd_62) (hw wd_28) (hw wd_2) hK hW rfl (by decide) f_WH (by show _ ≤ 6; omega) (by show _ ≤ 783; omega) d_DV_init_5 (fun q2 H z3 hW => ?_)
  obtain ⟨h4, eh4⟩ : ∃ z9, z9 = ah_new h0 q2 3 0 := ⟨_, rfl⟩
  rw [← eh4] at hW
  have w := w q2 z3 h4 eh4
  have mm5 : ah_m h0 h4 := (ah_m.rf.nw z3).eq eh4
  have hm := hm.tr mm5
  have t6 : ah_T h4 q2 = 3 := by rw [eh4]; exact va_up_self _ _ _
  refine lv_dup hx hb d_DV_init_8 rfl ?_
  refine hb_callv (va_runIN (As := []) (rest := [.ref q2, .ref a1]) ⟨hx, hb, hml, hown, hts⟩ (m_WH_init G q2 h4 hst w) ⟨va_cnB 0 hts (zx_gB hT wd_31) rfl rfl rfl (hX.1 _ (zx_nest_DV_11) rfl) (hw wd_2) (by decide +kernel) ⟨Nat.le_of_ble_eq_true rfl, Nat.le_of_ble_eq_true rfl⟩, rfl, hw wd_30⟩ (hb_preS hK hX hW) rfl rfl hl.1 rfl (lv_room (Nat.le_of_ble_eq_true rfl)) d_DV_init_9 ⟨(by show _ ≤ 6; omega), (by show _ ≤ 783; omega)⟩) hW (fun h7 H locs hk hW => ?_)
  obtain ⟨w, mm8⟩ := hk
  have w := w mm8
  have hm := hm.tr mm8
  have t9 := mm8.tg t6 (by decide)
  obtain ⟨t10, w⟩ := w
  refine hb_putF (ci := 1) (C := "BigDesk$Division") (T := T_DV) (N := 3) hx hb hts (fun w9 h9 => hT w9 (u_DV w9 h9)) t_DV o_DV n_DV hown hK hW t10 rfl (by decide) 0 (by decide) (hw wd_64) (fun _ h9 => h9) rfl (hin rfl) rfl (ty := t_DV 0) (by decide +kernel) (q := (2, 2)) rfl (by decide) (v := .ref q2) rfl rfl (ah_one_R h7 2 a1 (some q2)) d_DV_init_12 (fun H locs h11 eh11 hW => ?_)
  have w := w h11 eh11
  have mm12 : ah_m h7 h11 := ah_m.rf.st (by rw [eh11]; rfl) (by rw [eh11]; rfl)
  have hm := hm.tr mm12
  have t13 := mm12.tg t9 (by decide)
  have t14 := mm12.tg t10 (by decide)
  refine lv_aload_n hx hb d_DV_init_15 rfl (lv_at hl 0 rfl) ?_
  refine hb_new (ci := 2) (C := "BigDesk$Whole") (T := T_WH) (N := 3) hx hb hts (fun w9 h9 => hT w9 (u_WH w9 h9)) t_WH o_WH hown (hw wd_62) (hw wd_28) (hw wd_2) hK hW rfl (by decide) f_WH (by show _ ≤ 6; omega) (by show _ ≤ 783; omega) d_DV_init_16 (fun q15 H z16 hW => ?_)
  obtain ⟨h17, eh17⟩ : ∃ z9, z9 = ah_new h11 q15 3 0 := ⟨_, rfl⟩
  rw [← eh17] at hW
  have w := w q15 z16 h17 eh17
  have mm18 : ah_m h11 h17 := (ah_m.rf.nw z16).eq eh17
  have hm := hm.tr mm18
  have t19 := mm18.tg t13 (by decide)
  have t20 := mm18.tg t14 (by decide)
  have t21 : ah_T h17 q15 = 3 := by rw [eh17]; exact va_up_self _ _ _
  refine lv_dup hx hb d_DV_init_19 rfl ?_
  refine hb_callv (va_runIN (As := []) (rest := [.ref q15, .ref a1]) ⟨hx, hb, hml, hown, hts⟩ (m_WH_init G q15 h17 hst w) ⟨va_cnB 0 hts (zx_gB hT wd_31) rfl rfl rfl (hX.1 _ (zx_nest_DV_11) rfl) (hw wd_2) (by decide +kernel) ⟨Nat.le_of_ble_eq_true rfl, Nat.le_of_ble_eq_true rfl⟩, rfl, hw wd_30⟩ (hb_preS hK hX hW) rfl rfl hl.1 rfl (lv_room (Nat.le_of_ble_eq_true rfl)) d_DV_init_20 ⟨(by show _ ≤ 6; omega), (by show _ ≤ 783; omega)⟩) hW (fun h22 H locs hk hW => ?_)
  obtain ⟨w, mm23⟩ := hk
  have w := w mm23
  have hm := hm.tr mm23
  have t24 := mm23.tg t19 (by decide)
  have t25 := mm23.tg t20 (by decide)
  have t26 := mm23.tg t21 (by decide)
  refine hb_putF (ci := 1) (C := "BigDesk$Division") (T := T_DV) (N := 3) hx hb hts (fun w9 h9 => hT w9 (u_DV w9 h9)) t_DV o_DV n_DV hown hK hW t25 rfl (by decide) 1 (by decide) (hw wd_66) (fun _ h9 => h9) rfl (hin rfl) rfl (ty := t_DV 1) (by decide +kernel) (q := (2, 3)) rfl (by decide) (v := .ref q15) rfl rfl (ah_one_R h22 3 a1 (some q15)) d_DV_init_23 (fun H locs h27 eh27 hW => ?_)
  have w := w h27 eh27
  have mm28 : ah_m h22 h27 := ah_m.rf.st (by rw [eh27]; rfl) (by rw [eh27]; rfl)
  have hm := hm.tr mm28
  have t29 := mm28.tg t24 (by decide)
  have t30 := mm28.tg t25 (by decide)
  have t31 := mm28.tg t26 (by decide)
  refine lv_aload_n hx hb d_DV_init_26 rfl (lv_at hl 0 rfl) ?_
  refine hb_new (ci := 2) (C := "BigDesk$Whole") (T := T_WH) (N := 3) hx hb hts (fun w9 h9 => hT w9 (u_WH w9 h9)) t_WH o_WH hown (hw wd_62) (hw wd_28) (hw wd_2) hK hW rfl (by decide) f_WH (by show _ ≤ 6; omega) (by show _ ≤ 783; omega) d_DV_init_27 (fun q32 H z33 hW => ?_)
  obtain ⟨h34, eh34⟩ : ∃ z9, z9 = ah_new h27 q32 3 0 := ⟨_, rfl⟩
  rw [← eh34] at hW
  have w := w q32 z33 h34 eh34
  have mm35 : ah_m h27 h34 := (ah_m.rf.nw z33).eq eh34
  have hm := hm.tr mm35
  have t36 := mm35.tg t29 (by decide)
  have t37 := mm35.tg t30 (by decide)
  have t38 := mm35.tg t31 (by decide)
  have t39 : ah_T h34 q32 = 3 := by rw [eh34]; exact va_up_self _ _ _
  refine lv_dup hx hb d_DV_init_30 rfl ?_
  refine hb_callv (va_runIN (As := []) (rest := [.ref q32, .ref a1]) ⟨hx, hb, hml, hown, hts⟩ (m_WH_init G q32 h34 hst w) ⟨va_cnB 0 hts (zx_gB hT wd_31) rfl rfl rfl (hX.1 _ (zx_nest_DV_11) rfl) (hw wd_2) (by decide +kernel) ⟨Nat.le_of_ble_eq_true rfl, Nat.le_of_ble_eq_true rfl⟩, rfl, hw wd_30⟩ (hb_preS hK hX hW) rfl rfl hl.1 rfl (lv_room (Nat.le_of_ble_eq_true rfl)) d_DV_init_31 ⟨(by show _ ≤ 6; omega), (by show _ ≤ 783; omega)⟩) hW (fun h40 H locs hk hW => ?_)
  obtain ⟨w, mm41⟩ := hk
  have w := w mm41
  have hm := hm.tr mm41
  have t42 := mm41.tg t36 (by decide)
  have t43 := mm41.tg t37 (by decide)
  have t44 := mm41.tg t38 (by decide)
  have t45 := mm41.tg t39 (by decide)
  refine hb_putF (ci := 1) (C := "BigDesk$Division") (T := T_DV) (N := 3) hx hb hts (fun w9 h9 => hT w9 (u_DV w9 h9)) t_DV o_DV n_DV hown hK hW t43 rfl (by decide) 2 (by decide) (hw wd_69) (fun _ h9 => h9) rfl (hin rfl) rfl (ty := t_DV 2) (by decide +kernel) (q := (2, 4)) rfl (by decide) (v := .ref q32) rfl rfl (ah_one_R h40 4 a1 (some q32)) d_DV_init_34 (fun H locs h46 eh46 hW => ?_)
  have w := w h46 eh46
  have mm47 : ah_m h40 h46 := ah_m.rf.st (by rw [eh46]; rfl) (by rw [eh46]; rfl)
  have hm := hm.tr mm47
  have t48 := mm47.tg t42 (by decide)
  have t49 := mm47.tg t43 (by decide)
  have t50 := mm47.tg t44 (by decide)
  have t51 := mm47.tg t45 (by decide)
  exact hb_vret (K := fun h9 => K h9 ∧ ah_m h0 h9) hx hb hr hlk hK hX hW ⟨w, hm⟩ (by omega) (by omega) d_DV_init_37
set_option maxHeartbeats 4000000 in
set_option maxRecDepth 100000 in
theorem tb_DV_unsignedQuotient_37 {p : Program} {l : Launch} {e : Env} {s : State} {m : MethodId} {args : Array Value} {below : List Frame} {meth : Method} {c : Code} {G : zG} (C : cx_C p l s m args meth c G y_DV_unsignedQuotient b_DV_unsignedQuotient 6 (some .long) "BigDesk$Division" (Cond.code y_DV_unsignedQuotient b_DV_unsignedQuotient 6 (some .long) :: zx_T) []) {K : Int64 → ah_H → Prop} {h0 : ah_H} {cells slots : Nat} (hcl : cells + 0 ≤ 0) (hsl : slots + 0 ≤ 0)  (s7 : Int64) (h8 : ah_H) (H : Heap) (locs : List Loc) (ls : Array Slot) (w : bk_DV_unsignedQuotient_37 K s7 h8) (hm : ah_m h0 h8) (hW : ah_W G s.heap h8 H locs) (hl : lv_has ls 6 []) : W p l e rm_DV_unsignedQuotient s m args below meth c H locs cells slots (MQ below (va_Ql (fun r9 h9 => K r9 h9 ∧ ah_m h0 h9) (ah_B G) (fun q => G.2.2 ≤ q)) args s 0 0 (fun q => G.2.2 ≤ q)) (F0 m 37 ls [.long s7]) := by
  unfold bk_DV_unsignedQuotient_37 at w
  obtain ⟨hx, hb, hr, hml, hown, hts, hT, hlk, hK, hX, htb, hin, hst⟩ := id C
  have hw : ∀ {w9 : Cond}, w9 ∈ zx_T → w9.before _ s = true := fun h9 => hts _ (hT _ h9)
  exact hb_lret (K := fun r9 h9 => K r9 h9 ∧ ah_m h0 h9) hx hb hr hlk hK hX hW ⟨w, hm⟩ (by omega) (by omega) d_DV_unsignedQuotient_37
set_option maxHeartbeats 4000000 in
set_option maxRecDepth 100000 in
theorem m_DV_unsignedQuotient {l : Launch} (G : zG) (a1 : Int64) (a2 : Int64) (h0 : ah_H) {K : Int64 → ah_H → Prop} (hst : l.stackTraces = false) (w : w_DV_unsignedQuotient a1 a2 h0 K) : Met l y_DV_unsignedQuotient (Cond.code y_DV_unsignedQuotient b_DV_unsignedQuotient 6 (some .long) :: zx_T) rm_DV_unsignedQuotient (va_Pc [.long a1, .long a2] (ah_B G h0)) (va_Ql (fun r9 h9 => K r9 h9 ∧ ah_m h0 h9) (ah_B G) (fun q => G.2.2 ≤ q)) 0 0 (fun q => G.2.2 ≤ q) := by
  refine Met.ofW (cc := b_DV_unsignedQuotient) (maxL := 6) (ret := (some .long)) (by decide) rfl ?_
  intro p e s m args below meth c s₁ B hml hv
  have htb := cx_out B (atoms_spec B.pre _ List.mem_cons_self)
  obtain ⟨rfl, hB⟩ := hv
  have C : cx_C p l s m _ meth c G y_DV_unsignedQuotient b_DV_unsignedQuotient 6 (some .long) "BigDesk$Division" (Cond.code y_DV_unsignedQuotient b_DV_unsignedQuotient 6 (some .long) :: zx_T) [] := ⟨B.exec, B.bytes, B.returns, hml, findClass_of_methodNamed B.named, atoms_spec B.pre, cx_hd, B.notSynchronized, hB.2.2.1, hB.2.2.2, htb, fun z9 => (name_of_methodNamed B.named B.method).1.trans z9, hst⟩
  obtain ⟨hx, hb, hr, hml, hown, hts, hT, hlk, hK, hX, htb, hin, hst⟩ := id C
  have hw : ∀ {w9 : Cond}, w9 ∈ zx_T → w9.before _ s = true := fun h9 => hts _ (hT _ h9)
  have hW : ah_W G s.heap h0 s.heap [] := ⟨hB.1, hB.2.1, va_S.rf⟩
  have hm : ah_m h0 h0 := ah_m.rf
  have hcl : 0 + 0 ≤ 0 := by decide
  have hsl : 0 + 0 ≤ 0 := by decide
  have hl := lv_entry ([.long a1, .long a2]) (n := 6) (Nat.le_of_ble_eq_true rfl)
  rw [lg_entry_eq]
  generalize (lg_sl ([.long a1, .long a2]) ++ List.replicate (6 - (lg_sl ([.long a1, .long a2])).length) Slot.unset).toArray = ls at hl ⊢
  have hl : lv_has ls 6 [(0, .long a1), (2, .long a2)] := hl
  unfold w_DV_unsignedQuotient at w
  refine lv_lload_n hx hb d_DV_unsignedQuotient_0 rfl (lv_at hl 1 rfl) ?_
  refine lv_lconst (v := 0) hx hb d_DV_unsignedQuotient_1 (by decide) ?_
  refine hb_lcmp_gt (tgt := 8) hx hb d_DV_unsignedQuotient_2 d_DV_unsignedQuotient_3 (by decide) (fun c3 => ?_) (fun c3 => ?_)
  · have w := w.1 c3
    refine lv_lload_n hx hb d_DV_unsignedQuotient_8 rfl (lv_at hl 0 rfl) ?_
    refine lv_iconst (v := 1) hx hb d_DV_unsignedQuotient_9 (by decide) ?_
    refine lv_lushr hx hb d_DV_unsignedQuotient_10 rfl ?_
    refine lv_lload_n hx hb d_DV_unsignedQuotient_11 rfl (lv_at hl 1 rfl) ?_
    obtain ⟨ne4, w⟩ := w
    refine lv_ldiv hx hb d_DV_unsignedQuotient_12 ne4 ?_
    refine lv_iconst (v := 1) hx hb d_DV_unsignedQuotient_13 (by decide) ?_
    refine lv_lshl hx hb d_DV_unsignedQuotient_14 rfl ?_
    refine lv_topl (fun v5 ev5 => ?_)
    have w := w v5 ev5
    refine lv_lstore (lv' := [(4, .long v5), (0, .long a1), (2, .long a2)]) hx hb d_DV_unsignedQuotient_15 hl (by decide) rfl (fun ls hl => ?_)
    refine lv_lload_n hx hb d_DV_unsignedQuotient_17 rfl (lv_at hl 1 rfl) ?_
    refine lv_lload hx hb d_DV_unsignedQuotient_18 (lv_at hl 0 rfl) ?_
    refine lv_lload_n hx hb d_DV_unsignedQuotient_20 rfl (lv_at hl 2 rfl) ?_
    refine lv_lmul hx hb d_DV_unsignedQuotient_21 ?_
    refine lv_lsub hx hb d_DV_unsignedQuotient_22 ?_
    refine lv_lload_n hx hb d_DV_unsignedQuotient_23 rfl (lv_at hl 2 rfl) ?_
    refine hb_lcmp_lt (tgt := 35) hx hb d_DV_unsignedQuotient_24 d_DV_unsignedQuotient_25 (by decide) (fun c6 => ?_) (fun c6 => ?_)
    · have w := w.1 c6
      refine lv_lload hx hb d_DV_unsignedQuotient_35 (lv_at hl 0 rfl) ?_
      exact tb_DV_unsignedQuotient_37 C (by omega) (by omega)  v5 h0 _ _ _ w hm hW (lv_sub hl [] rfl)
    · have w := w.2 c6
      refine lv_lload hx hb d_DV_unsignedQuotient_28 (lv_at hl 0 rfl) ?_
      refine lv_lconst (v := 1) hx hb d_DV_unsignedQuotient_30 (by decide) ?_
      refine lv_ladd hx hb d_DV_unsignedQuotient_31 ?_
      refine lv_goto (tgt := 37) hx hb d_DV_unsignedQuotient_32 (by decide) ?_
      exact tb_DV_unsignedQuotient_37 C (by omega) (by omega)  (v5 + (1 : Int64)) h0 _ _ _ w hm hW (lv_sub hl [] rfl)
  · have w := w.2 c3
    refine lv_lconst (v := 0) hx hb d_DV_unsignedQuotient_6 (by decide) ?_
    exact hb_lret (K := fun r9 h9 => K r9 h9 ∧ ah_m h0 h9) hx hb hr hlk hK hX hW ⟨w, hm⟩ (by omega) (by omega) d_DV_unsignedQuotient_7
set_option maxHeartbeats 4000000 in
set_option maxRecDepth 100000 in
theorem tl_DV_guessLimb_106 {p : Program} {l : Launch} {e : Env} {s : State} {m : MethodId} {args : Array Value} {below : List Frame} {meth : Method} {c : Code} {G : zG} (C : cx_C p l s m args meth c G y_DV_guessLimb b_DV_guessLimb 18 (some .long) "BigDesk$Division" (Cond.code y_DV_guessLimb b_DV_guessLimb 18 (some .long) :: zx_T) []) {K : Int64 → ah_H → Prop} {h0 : ah_H} {cells slots : Nat} (hcl : cells + 0 ≤ 0) (hsl : slots + 0 ≤ 0) {xt_158 : Int64 → ah_H → Prop} {xt_179 : Int64 → ah_H → Prop} (hc_xt_158 : ∀ (z0 : Int64) (hz : ah_H) (H : Heap) (locs : List Loc) (ls : Array Slot), xt_158 z0 hz → ah_m h0 hz → ah_W G s.heap hz H locs → lv_has ls 18 [(11, .long z0)] → W p l e rm_DV_guessLimb s m args below meth c H locs cells slots (MQ below (va_Ql (fun r9 h9 => K r9 h9 ∧ ah_m h0 h9) (ah_B G) (fun q => G.2.2 ≤ q)) args s 0 0 (fun q => G.2.2 ≤ q)) (F0 m 158 ls [])) (hc_xt_179 : ∀ (z0 : Int64) (hz : ah_H) (H : Heap) (locs : List Loc) (ls : Array Slot), xt_179 z0 hz → ah_m h0 hz → ah_W G s.heap hz H locs → lv_has ls 18 [(11, .long z0)] → W p l e rm_DV_guessLimb s m args below meth c H locs cells slots (MQ below (va_Ql (fun r9 h9 => K r9 h9 ∧ ah_m h0 h9) (ah_B G) (fun q => G.2.2 ≤ q)) args s 0 0 (fun q => G.2.2 ≤ q)) (F0 m 179 ls [])) : ∀ (n : Nat) (x84 : Nat) (x85 : Int32) (x86 : Int64) (x87 : Int64) (x88 : Int64) (x89 : Int64) (x90 : Int32) (h91 : ah_H) (H : Heap) (locs : List Loc) (ls : Array Slot), lp_DV_guessLimb_106 xt_158 xt_179 K n x84 x85 x86 x87 x88 x89 x90 h91 → ah_m h0 h91 → ah_W G s.heap h91 H locs → lv_has ls 18 [(0, .ref x84), (2, .int x85), (3, .long x86), (5, .long x87), (11, .long x88), (13, .long x89), (15, .int x90)] → W p l e rm_DV_guessLimb s m args below meth c H locs cells slots (MQ below (va_Ql (fun r9 h9 => K r9 h9 ∧ ah_m h0 h9) (ah_B G) (fun q => G.2.2 ≤ q)) args s 0 0 (fun q => G.2.2 ≤ q)) (F0 m 106 ls []) := by
  obtain ⟨hx, hb, hr, hml, hown, hts, hT, hlk, hK, hX, htb, hin, hst⟩ := id C
  have hw : ∀ {w9 : Cond}, w9 ∈ zx_T → w9.before _ s = true := fun h9 => hts _ (hT _ h9)
  intro n
  induction n with
  | zero =>
    intro x84 x85 x86 x87 x88 x89 x90 h91 H locs ls w
    exact absurd w (by intro z9; exact z9)
  | succ n ih =>
    intro x84 x85 x86 x87 x88 x89 x90 h91 H locs ls w hm hW hl
    unfold lp_DV_guessLimb_106 at w
    refine lv_iload hx hb d_DV_guessLimb_106 (lv_at hl 6 rfl) ?_
    refine lv_iconst (v := 2) hx hb d_DV_guessLimb_108 (by decide) ?_
    refine lv_icmp_ge (tgt := 179) hx hb d_DV_guessLimb_109 (by decide) (fun c92 => ?_) (fun c92 => ?_)
    · have w := w.1 c92
      exact hc_xt_179 x88 h91 _ _ _ w hm hW (lv_sub hl [4] rfl)
    · have w := w.2 c92
      refine lv_lload hx hb d_DV_guessLimb_112 (lv_at hl 5 rfl) ?_
      refine lv_ldc2 (v := 4294967295) hx hb hown (hw wd_423) d_DV_guessLimb_114 ?_
      refine hb_lcmp_gt (tgt := 179) hx hb d_DV_guessLimb_117 d_DV_guessLimb_118 (by decide) (fun c93 => ?_) (fun c93 => ?_)
      · have w := w.1 c93
        exact hc_xt_179 x88 h91 _ _ _ w hm hW (lv_sub hl [4] rfl)
      · have w := w.2 c93
        refine lv_lload hx hb d_DV_guessLimb_121 (lv_at hl 5 rfl) ?_
        refine lv_bipush (v := 32) hx hb d_DV_guessLimb_123 (by decide) ?_
        refine lv_lshl hx hb d_DV_guessLimb_125 rfl ?_
        refine lv_aload_n hx hb d_DV_guessLimb_126 rfl (lv_at hl 0 rfl) ?_
        obtain ⟨t94, w⟩ := w
        obtain ⟨q95, e96, w⟩ := w
        refine hb_get (ci := 1) (C := "BigDesk$Division") (T := T_DV) (N := 3) hx hb hts (fun w9 h9 => hT w9 (u_DV w9 h9)) hown hK hW t94 rfl (by decide) 1 (by decide) (hw wd_66) (fun _ h9 => h9) (q := (2, 3)) rfl (v := .ref q95) (ah_f_R e96) d_DV_guessLimb_127 ?_
        refine lv_iload_n hx hb d_DV_guessLimb_130 rfl (lv_at hl 1 rfl) ?_
        refine lv_iconst (v := 2) hx hb d_DV_guessLimb_131 (by decide) ?_
        refine lv_isub hx hb d_DV_guessLimb_132 ?_
        obtain ⟨t97, w⟩ := w
        refine hb_calll (va_runV (As := [.int (x85 - (2 : Int32))]) (rest := [.long (x89 <<< ((32 : Int32).toInt64 &&& 63))]) ⟨hx, hb, hml, hown, hts⟩ (m_WH_at G q95 (x85 - (2 : Int32)) h91 hst w) (cwV 1 hts (zx_gV hT wd_422 wd_344 wd_345 wd_2 wd_346) rfl rfl rfl (by decide +kernel) ⟨Nat.le_of_ble_eq_true rfl, Nat.le_of_ble_eq_true rfl⟩) (hb_preV hK hX hW t97 (by decide) rfl) rfl rfl hl.1 rfl (lv_room (Nat.le_of_ble_eq_true rfl)) d_DV_guessLimb_133 ⟨(by show _ ≤ 0; omega), (by show _ ≤ 0; omega)⟩) hW (fun r99 h98 H locs hk hW => ?_)
        obtain ⟨w, mm100⟩ := hk
        have w := w mm100
        have hm := hm.tr mm100
        have t101 := mm100.tg t94 (by decide)
        have t102 := mm100.tg t97 (by decide)
        refine lv_lor hx hb d_DV_guessLimb_136 ?_
        refine lv_topl (fun v103 ev103 => ?_)
        have w := w v103 ev103
        refine lv_lstore (lv' := [(16, .long v103), (0, .ref x84), (2, .int x85), (3, .long x86), (5, .long x87), (11, .long x88), (13, .long x89), (15, .int x90)]) hx hb d_DV_guessLimb_137 hl (by decide) rfl (fun ls hl => ?_)
        refine lv_lload hx hb d_DV_guessLimb_139 (lv_at hl 5 rfl) ?_
        refine lv_lload hx hb d_DV_guessLimb_141 (lv_at hl 4 rfl) ?_
        refine lv_lmul hx hb d_DV_guessLimb_143 ?_
        refine lv_ldc2 (v := -9223372036854775808) hx hb hown (hw wd_427) d_DV_guessLimb_144 ?_
        refine lv_ladd hx hb d_DV_guessLimb_147 ?_
        refine lv_lload hx hb d_DV_guessLimb_148 (lv_at hl 0 rfl) ?_
        refine lv_ldc2 (v := -9223372036854775808) hx hb hown (hw wd_427) d_DV_guessLimb_150 ?_
        refine lv_ladd hx hb d_DV_guessLimb_153 ?_
        refine hb_lcmp_gt (tgt := 161) hx hb d_DV_guessLimb_154 d_DV_guessLimb_155 (by decide) (fun c104 => ?_) (fun c104 => ?_)
        · have w := w.1 c104
          refine lv_lload hx hb d_DV_guessLimb_161 (lv_at hl 5 rfl) ?_
          refine lv_lconst (v := 1) hx hb d_DV_guessLimb_163 (by decide) ?_
          refine lv_lsub hx hb d_DV_guessLimb_164 ?_
          refine lv_topl (fun v105 ev105 => ?_)
          have w := w v105 ev105
          refine lv_lstore (lv' := [(11, .long v105), (16, .long v103), (0, .ref x84), (2, .int x85), (3, .long x86), (5, .long x87), (13, .long x89), (15, .int x90)]) hx hb d_DV_guessLimb_165 hl (by decide) rfl (fun ls hl => ?_)
          refine lv_lload hx hb d_DV_guessLimb_167 (lv_at hl 6 rfl) ?_
          refine lv_lload_n hx hb d_DV_guessLimb_169 rfl (lv_at hl 4 rfl) ?_
          refine lv_ladd hx hb d_DV_guessLimb_170 ?_
          refine lv_topl (fun v106 ev106 => ?_)
          have w := w v106 ev106
          refine lv_lstore (lv' := [(13, .long v106), (11, .long v105), (16, .long v103), (0, .ref x84), (2, .int x85), (3, .long x86), (5, .long x87), (15, .int x90)]) hx hb d_DV_guessLimb_171 hl (by decide) rfl (fun ls hl => ?_)
          obtain ⟨v107, ev107⟩ : ∃ y9 : Int32, y9 = x90 + 1 := ⟨_, rfl⟩
          have w := w v107 ev107
          refine lv_iinc (v := v107) (lv' := [(15, .int v107), (13, .long v106), (11, .long v105), (16, .long v103), (0, .ref x84), (2, .int x85), (3, .long x86), (5, .long x87)]) hx hb d_DV_guessLimb_173 hl (k := 7) rfl (by rw [ev107]; rfl) (by decide) rfl (fun ls hl => ?_)
          refine lv_goto (tgt := 106) hx hb d_DV_guessLimb_176 (by decide) ?_
          exact ih x84 x85 x86 x87 v105 v106 v107 h98 _ _ _ w hm hW (lv_sub hl [4, 5, 6, 7, 2, 1, 0] rfl)
        · have w := w.2 c104
          exact hc_xt_158 x88 h98 _ _ _ w hm hW (lv_sub hl [5] rfl)
set_option maxHeartbeats 4000000 in
set_option maxRecDepth 100000 in
theorem tb_DV_guessLimb_179 {p : Program} {l : Launch} {e : Env} {s : State} {m : MethodId} {args : Array Value} {below : List Frame} {meth : Method} {c : Code} {G : zG} (C : cx_C p l s m args meth c G y_DV_guessLimb b_DV_guessLimb 18 (some .long) "BigDesk$Division" (Cond.code y_DV_guessLimb b_DV_guessLimb 18 (some .long) :: zx_T) []) {K : Int64 → ah_H → Prop} {h0 : ah_H} {cells slots : Nat} (hcl : cells + 0 ≤ 0) (hsl : slots + 0 ≤ 0)  (x110 : Int64) (h111 : ah_H) (H : Heap) (locs : List Loc) (ls : Array Slot) (w : bk_DV_guessLimb_179 K x110 h111) (hm : ah_m h0 h111) (hW : ah_W G s.heap h111 H locs) (hl : lv_has ls 18 [(11, .long x110)]) : W p l e rm_DV_guessLimb s m args below meth c H locs cells slots (MQ below (va_Ql (fun r9 h9 => K r9 h9 ∧ ah_m h0 h9) (ah_B G) (fun q => G.2.2 ≤ q)) args s 0 0 (fun q => G.2.2 ≤ q)) (F0 m 179 ls []) := by
  unfold bk_DV_guessLimb_179 at w
  obtain ⟨hx, hb, hr, hml, hown, hts, hT, hlk, hK, hX, htb, hin, hst⟩ := id C
  have hw : ∀ {w9 : Cond}, w9 ∈ zx_T → w9.before _ s = true := fun h9 => hts _ (hT _ h9)
  refine lv_lload hx hb d_DV_guessLimb_179 (lv_at hl 0 rfl) ?_
  exact hb_lret (K := fun r9 h9 => K r9 h9 ∧ ah_m h0 h9) hx hb hr hlk hK hX hW ⟨w, hm⟩ (by omega) (by omega) d_DV_guessLimb_181
set_option maxHeartbeats 4000000 in
set_option maxRecDepth 100000 in
theorem tb_DV_guessLimb_92 {p : Program} {l : Launch} {e : Env} {s : State} {m : MethodId} {args : Array Value} {below : List Frame} {meth : Method} {c : Code} {G : zG} (C : cx_C p l s m args meth c G y_DV_guessLimb b_DV_guessLimb 18 (some .long) "BigDesk$Division" (Cond.code y_DV_guessLimb b_DV_guessLimb 18 (some .long) :: zx_T) []) {K : Int64 → ah_H → Prop} {h0 : ah_H} {cells slots : Nat} (hcl : cells + 0 ≤ 0) (hsl : slots + 0 ≤ 0)  (x76 : Nat) (x77 : Int32) (x78 : Int64) (x79 : Int64) (x80 : Int64) (s81 : Int64) (h82 : ah_H) (H : Heap) (locs : List Loc) (ls : Array Slot) (w : bk_DV_guessLimb_92 K x76 x77 x78 x79 x80 s81 h82) (hm : ah_m h0 h82) (hW : ah_W G s.heap h82 H locs) (hl : lv_has ls 18 [(0, .ref x76), (2, .int x77), (3, .long x78), (5, .long x79), (9, .long x80)]) : W p l e rm_DV_guessLimb s m args below meth c H locs cells slots (MQ below (va_Ql (fun r9 h9 => K r9 h9 ∧ ah_m h0 h9) (ah_B G) (fun q => G.2.2 ≤ q)) args s 0 0 (fun q => G.2.2 ≤ q)) (F0 m 92 ls [.long s81]) := by
  unfold bk_DV_guessLimb_92 at w
  obtain ⟨hx, hb, hr, hml, hown, hts, hT, hlk, hK, hX, htb, hin, hst⟩ := id C
  have hw : ∀ {w9 : Cond}, w9 ∈ zx_T → w9.before _ s = true := fun h9 => hts _ (hT _ h9)
  refine lv_lstore (lv' := [(11, .long s81), (0, .ref x76), (2, .int x77), (3, .long x78), (5, .long x79), (9, .long x80)]) hx hb d_DV_guessLimb_92 hl (by decide) rfl (fun ls hl => ?_)
  refine lv_lload hx hb d_DV_guessLimb_94 (lv_at hl 5 rfl) ?_
  refine lv_lload hx hb d_DV_guessLimb_96 (lv_at hl 0 rfl) ?_
  refine lv_lload_n hx hb d_DV_guessLimb_98 rfl (lv_at hl 3 rfl) ?_
  refine lv_lmul hx hb d_DV_guessLimb_99 ?_
  refine lv_lsub hx hb d_DV_guessLimb_100 ?_
  refine lv_topl (fun v83 ev83 => ?_)
  have w := w v83 ev83
  refine lv_lstore (lv' := [(13, .long v83), (11, .long s81), (0, .ref x76), (2, .int x77), (3, .long x78), (5, .long x79), (9, .long x80)]) hx hb d_DV_guessLimb_101 hl (by decide) rfl (fun ls hl => ?_)
  refine lv_iconst (v := 0) hx hb d_DV_guessLimb_103 (by decide) ?_
  refine lv_istore (lv' := [(15, .int (0 : Int32)), (13, .long v83), (11, .long s81), (0, .ref x76), (2, .int x77), (3, .long x78), (5, .long x79), (9, .long x80)]) hx hb d_DV_guessLimb_104 hl (by decide) rfl (fun ls hl => ?_)
  obtain ⟨k114, w⟩ := w
  refine tl_DV_guessLimb_106 C (by omega) (by omega) (fun x108 h109 H locs ls w hm hW hl => ?_) (fun x112 h113 H locs ls w hm hW hl => ?_) k114 x76 x77 x78 x79 s81 v83 (0 : Int32) h82 _ _ _ w hm hW (lv_sub hl [3, 4, 5, 6, 2, 1, 0] rfl)
  · refine lv_goto (tgt := 179) hx hb d_DV_guessLimb_158 (by decide) ?_
    exact tb_DV_guessLimb_179 C (by omega) (by omega)  x108 h109 _ _ _ w hm hW (lv_sub hl [0] rfl)
  · exact tb_DV_guessLimb_179 C (by omega) (by omega)  x112 h113 _ _ _ w hm hW (lv_sub hl [0] rfl)
set_option maxHeartbeats 4000000 in
set_option maxRecDepth 100000 in
theorem m_DV_guessLimb {l : Launch} (G : zG) (a1 : Nat) (a2 : Int32) (h0 : ah_H) {K : Int64 → ah_H → Prop} (hst : l.stackTraces = false) (w : w_DV_guessLimb a1 a2 h0 K) : Met l y_DV_guessLimb (Cond.code y_DV_guessLimb b_DV_guessLimb 18 (some .long) :: zx_T) rm_DV_guessLimb (va_Pc [.ref a1, .int a2] (ah_B G h0)) (va_Ql (fun r9 h9 => K r9 h9 ∧ ah_m h0 h9) (ah_B G) (fun q => G.2.2 ≤ q)) 0 0 (fun q => G.2.2 ≤ q) := by
  refine Met.ofW (cc := b_DV_guessLimb) (maxL := 18) (ret := (some .long)) (by decide) rfl ?_
  intro p e s m args below meth c s₁ B hml hv
  have htb := cx_out B (atoms_spec B.pre _ List.mem_cons_self)
  obtain ⟨rfl, hB⟩ := hv
  have C : cx_C p l s m _ meth c G y_DV_guessLimb b_DV_guessLimb 18 (some .long) "BigDesk$Division" (Cond.code y_DV_guessLimb b_DV_guessLimb 18 (some .long) :: zx_T) [] := ⟨B.exec, B.bytes, B.returns, hml, findClass_of_methodNamed B.named, atoms_spec B.pre, cx_hd, B.notSynchronized, hB.2.2.1, hB.2.2.2, htb, fun z9 => (name_of_methodNamed B.named B.method).1.trans z9, hst⟩
  obtain ⟨hx, hb, hr, hml, hown, hts, hT, hlk, hK, hX, htb, hin, hst⟩ := id C
  have hw : ∀ {w9 : Cond}, w9 ∈ zx_T → w9.before _ s = true := fun h9 => hts _ (hT _ h9)
  have hW : ah_W G s.heap h0 s.heap [] := ⟨hB.1, hB.2.1, va_S.rf⟩
  have hm : ah_m h0 h0 := ah_m.rf
  have hcl : 0 + 0 ≤ 0 := by decide
  have hsl : 0 + 0 ≤ 0 := by decide
  have hl := lv_entry ([.ref a1, .int a2]) (n := 18) (Nat.le_of_ble_eq_true rfl)
  rw [lg_entry_eq]
  generalize (lg_sl ([.ref a1, .int a2]) ++ List.replicate (18 - (lg_sl ([.ref a1, .int a2])).length) Slot.unset).toArray = ls at hl ⊢
  have hl : lv_has ls 18 [(0, .ref a1), (1, .int a2)] := hl
  unfold w_DV_guessLimb at w
  refine lv_iload_n hx hb d_DV_guessLimb_0 rfl (lv_at hl 1 rfl) ?_
  refine lv_aload_n hx hb d_DV_guessLimb_1 rfl (lv_at hl 0 rfl) ?_
  obtain ⟨t3, w⟩ := w
  obtain ⟨q4, e5, w⟩ := w
  refine hb_get (ci := 1) (C := "BigDesk$Division") (T := T_DV) (N := 3) hx hb hts (fun w9 h9 => hT w9 (u_DV w9 h9)) hown hK hW t3 rfl (by decide) 2 (by decide) (hw wd_69) (fun _ h9 => h9) (q := (2, 4)) rfl (v := .ref q4) (ah_f_R e5) d_DV_guessLimb_2 ?_
  obtain ⟨t6, w⟩ := w
  refine hb_get (ci := 2) (C := "BigDesk$Whole") (T := T_WH) (N := 3) hx hb hts (fun w9 h9 => hT w9 (u_WH w9 h9)) hown hK hW t6 rfl (by decide) 1 (by decide) (hw wd_38) (fun _ h9 => h9) (q := (0, 0)) rfl (v := .int (ah_I h0 0 q4)) rfl d_DV_guessLimb_5 ?_
  refine lv_iadd hx hb d_DV_guessLimb_8 ?_
  refine lv_topi (fun v7 ev7 => ?_)
  have w := w v7 ev7
  refine lv_istore_n (lv' := [(2, .int v7), (0, .ref a1), (1, .int a2)]) hx hb d_DV_guessLimb_9 rfl hl (by decide) rfl (fun ls hl => ?_)
  refine lv_aload_n hx hb d_DV_guessLimb_10 rfl (lv_at hl 1 rfl) ?_
  obtain ⟨q8, e9, w⟩ := w
  refine hb_get (ci := 1) (C := "BigDesk$Division") (T := T_DV) (N := 3) hx hb hts (fun w9 h9 => hT w9 (u_DV w9 h9)) hown hK hW t3 rfl (by decide) 2 (by decide) (hw wd_69) (fun _ h9 => h9) (q := (2, 4)) rfl (v := .ref q8) (ah_f_R e9) d_DV_guessLimb_11 ?_
  refine lv_aload_n hx hb d_DV_guessLimb_14 rfl (lv_at hl 1 rfl) ?_
  obtain ⟨q10, e11, w⟩ := w
  refine hb_get (ci := 1) (C := "BigDesk$Division") (T := T_DV) (N := 3) hx hb hts (fun w9 h9 => hT w9 (u_DV w9 h9)) hown hK hW t3 rfl (by decide) 2 (by decide) (hw wd_69) (fun _ h9 => h9) (q := (2, 4)) rfl (v := .ref q10) (ah_f_R e11) d_DV_guessLimb_15 ?_
  obtain ⟨t12, w⟩ := w
  refine hb_get (ci := 2) (C := "BigDesk$Whole") (T := T_WH) (N := 3) hx hb hts (fun w9 h9 => hT w9 (u_WH w9 h9)) hown hK hW t12 rfl (by decide) 1 (by decide) (hw wd_38) (fun _ h9 => h9) (q := (0, 0)) rfl (v := .int (ah_I h0 0 q10)) rfl d_DV_guessLimb_18 ?_
  refine lv_iconst (v := 1) hx hb d_DV_guessLimb_21 (by decide) ?_
  refine lv_isub hx hb d_DV_guessLimb_22 ?_
  obtain ⟨t13, w⟩ := w
  refine hb_calll (va_runV (As := [.int ((ah_I h0 0 q10) - (1 : Int32))]) (rest := []) ⟨hx, hb, hml, hown, hts⟩ (m_WH_at G q8 ((ah_I h0 0 q10) - (1 : Int32)) h0 hst w) (cwV 1 hts (zx_gV hT wd_422 wd_344 wd_345 wd_2 wd_346) rfl rfl rfl (by decide +kernel) ⟨Nat.le_of_ble_eq_true rfl, Nat.le_of_ble_eq_true rfl⟩) (hb_preV hK hX hW t13 (by decide) rfl) rfl rfl hl.1 rfl (lv_room (Nat.le_of_ble_eq_true rfl)) d_DV_guessLimb_23 ⟨(by show _ ≤ 0; omega), (by show _ ≤ 0; omega)⟩) hW (fun r15 h14 H locs hk hW => ?_)
  obtain ⟨w, mm16⟩ := hk
  have w := w mm16
  have hm := hm.tr mm16
  have t17 := mm16.tg t3 (by decide)
  have t18 := mm16.tg t6 (by decide)
  have t19 := mm16.tg t12 (by decide)
  have t20 := mm16.tg t13 (by decide)
  refine lv_lstore_n (lv' := [(3, .long r15), (2, .int v7), (0, .ref a1), (1, .int a2)]) hx hb d_DV_guessLimb_26 rfl hl (by decide) rfl (fun ls hl => ?_)
  refine lv_aload_n hx hb d_DV_guessLimb_27 rfl (lv_at hl 2 rfl) ?_
  obtain ⟨q21, e22, w⟩ := w
  refine hb_get (ci := 1) (C := "BigDesk$Division") (T := T_DV) (N := 3) hx hb hts (fun w9 h9 => hT w9 (u_DV w9 h9)) hown hK hW t17 rfl (by decide) 2 (by decide) (hw wd_69) (fun _ h9 => h9) (q := (2, 4)) rfl (v := .ref q21) (ah_f_R e22) d_DV_guessLimb_28 ?_
  refine lv_aload_n hx hb d_DV_guessLimb_31 rfl (lv_at hl 2 rfl) ?_
  obtain ⟨q23, e24, w⟩ := w
  refine hb_get (ci := 1) (C := "BigDesk$Division") (T := T_DV) (N := 3) hx hb hts (fun w9 h9 => hT w9 (u_DV w9 h9)) hown hK hW t17 rfl (by decide) 2 (by decide) (hw wd_69) (fun _ h9 => h9) (q := (2, 4)) rfl (v := .ref q23) (ah_f_R e24) d_DV_guessLimb_32 ?_
  obtain ⟨t25, w⟩ := w
  refine hb_get (ci := 2) (C := "BigDesk$Whole") (T := T_WH) (N := 3) hx hb hts (fun w9 h9 => hT w9 (u_WH w9 h9)) hown hK hW t25 rfl (by decide) 1 (by decide) (hw wd_38) (fun _ h9 => h9) (q := (0, 0)) rfl (v := .int (ah_I h14 0 q23)) rfl d_DV_guessLimb_35 ?_
  refine lv_iconst (v := 2) hx hb d_DV_guessLimb_38 (by decide) ?_
  refine lv_isub hx hb d_DV_guessLimb_39 ?_
  obtain ⟨t26, w⟩ := w
  refine hb_calll (va_runV (As := [.int ((ah_I h14 0 q23) - (2 : Int32))]) (rest := []) ⟨hx, hb, hml, hown, hts⟩ (m_WH_at G q21 ((ah_I h14 0 q23) - (2 : Int32)) h14 hst w) (cwV 1 hts (zx_gV hT wd_422 wd_344 wd_345 wd_2 wd_346) rfl rfl rfl (by decide +kernel) ⟨Nat.le_of_ble_eq_true rfl, Nat.le_of_ble_eq_true rfl⟩) (hb_preV hK hX hW t26 (by decide) rfl) rfl rfl hl.1 rfl (lv_room (Nat.le_of_ble_eq_true rfl)) d_DV_guessLimb_40 ⟨(by show _ ≤ 0; omega), (by show _ ≤ 0; omega)⟩) hW (fun r28 h27 H locs hk hW => ?_)
  obtain ⟨w, mm29⟩ := hk
  have w := w mm29
  have hm := hm.tr mm29
  have t30 := mm29.tg t17 (by decide)
  have t31 := mm29.tg t18 (by decide)
  have t32 := mm29.tg t19 (by decide)
  have t33 := mm29.tg t20 (by decide)
  have t34 := mm29.tg t25 (by decide)
  have t35 := mm29.tg t26 (by decide)
  refine lv_lstore (lv' := [(5, .long r28), (3, .long r15), (2, .int v7), (0, .ref a1), (1, .int a2)]) hx hb d_DV_guessLimb_43 hl (by decide) rfl (fun ls hl => ?_)
  refine lv_aload_n hx hb d_DV_guessLimb_45 rfl (lv_at hl 3 rfl) ?_
  obtain ⟨q36, e37, w⟩ := w
  refine hb_get (ci := 1) (C := "BigDesk$Division") (T := T_DV) (N := 3) hx hb hts (fun w9 h9 => hT w9 (u_DV w9 h9)) hown hK hW t30 rfl (by decide) 1 (by decide) (hw wd_66) (fun _ h9 => h9) (q := (2, 3)) rfl (v := .ref q36) (ah_f_R e37) d_DV_guessLimb_46 ?_
  refine lv_iload_n hx hb d_DV_guessLimb_49 rfl (lv_at hl 2 rfl) ?_
  obtain ⟨t38, w⟩ := w
  refine hb_calll (va_runV (As := [.int v7]) (rest := []) ⟨hx, hb, hml, hown, hts⟩ (m_WH_at G q36 v7 h27 hst w) (cwV 1 hts (zx_gV hT wd_422 wd_344 wd_345 wd_2 wd_346) rfl rfl rfl (by decide +kernel) ⟨Nat.le_of_ble_eq_true rfl, Nat.le_of_ble_eq_true rfl⟩) (hb_preV hK hX hW t38 (by decide) rfl) rfl rfl hl.1 rfl (lv_room (Nat.le_of_ble_eq_true rfl)) d_DV_guessLimb_50 ⟨(by show _ ≤ 0; omega), (by show _ ≤ 0; omega)⟩) hW (fun r40 h39 H locs hk hW => ?_)
  obtain ⟨w, mm41⟩ := hk
  have w := w mm41
  have hm := hm.tr mm41
  have t42 := mm41.tg t30 (by decide)
  have t43 := mm41.tg t31 (by decide)
  have t44 := mm41.tg t32 (by decide)
  have t45 := mm41.tg t33 (by decide)
  have t46 := mm41.tg t34 (by decide)
  have t47 := mm41.tg t35 (by decide)
  have t48 := mm41.tg t38 (by decide)
  refine lv_lstore (lv' := [(7, .long r40), (5, .long r28), (3, .long r15), (2, .int v7), (0, .ref a1), (1, .int a2)]) hx hb d_DV_guessLimb_53 hl (by decide) rfl (fun ls hl => ?_)
  refine lv_lload hx hb d_DV_guessLimb_55 (lv_at hl 0 rfl) ?_
  refine lv_bipush (v := 32) hx hb d_DV_guessLimb_57 (by decide) ?_
  refine lv_lshl hx hb d_DV_guessLimb_59 rfl ?_
  refine lv_aload_n hx hb d_DV_guessLimb_60 rfl (lv_at hl 4 rfl) ?_
  obtain ⟨q49, e50, w⟩ := w
  refine hb_get (ci := 1) (C := "BigDesk$Division") (T := T_DV) (N := 3) hx hb hts (fun w9 h9 => hT w9 (u_DV w9 h9)) hown hK hW t42 rfl (by decide) 1 (by decide) (hw wd_66) (fun _ h9 => h9) (q := (2, 3)) rfl (v := .ref q49) (ah_f_R e50) d_DV_guessLimb_61 ?_
  refine lv_iload_n hx hb d_DV_guessLimb_64 rfl (lv_at hl 3 rfl) ?_
  refine lv_iconst (v := 1) hx hb d_DV_guessLimb_65 (by decide) ?_
  refine lv_isub hx hb d_DV_guessLimb_66 ?_
  obtain ⟨t51, w⟩ := w
  refine hb_calll (va_runV (As := [.int (v7 - (1 : Int32))]) (rest := [.long (r40 <<< ((32 : Int32).toInt64 &&& 63))]) ⟨hx, hb, hml, hown, hts⟩ (m_WH_at G q49 (v7 - (1 : Int32)) h39 hst w) (cwV 1 hts (zx_gV hT wd_422 wd_344 wd_345 wd_2 wd_346) rfl rfl rfl (by decide +kernel) ⟨Nat.le_of_ble_eq_true rfl, Nat.le_of_ble_eq_true rfl⟩) (hb_preV hK hX hW t51 (by decide) rfl) rfl rfl hl.1 rfl (lv_room (Nat.le_of_ble_eq_true rfl)) d_DV_guessLimb_67 ⟨(by show _ ≤ 0; omega), (by show _ ≤ 0; omega)⟩) hW (fun r53 h52 H locs hk hW => ?_)
  obtain ⟨w, mm54⟩ := hk
  have w := w mm54
  have hm := hm.tr mm54
  have t55 := mm54.tg t42 (by decide)
  have t56 := mm54.tg t43 (by decide)
  have t57 := mm54.tg t44 (by decide)
  have t58 := mm54.tg t45 (by decide)
  have t59 := mm54.tg t46 (by decide)
  have t60 := mm54.tg t47 (by decide)
  have t61 := mm54.tg t48 (by decide)
  have t62 := mm54.tg t51 (by decide)
  refine lv_lor hx hb d_DV_guessLimb_70 ?_
  refine lv_topl (fun v63 ev63 => ?_)
  have w := w v63 ev63
  refine lv_lstore (lv' := [(9, .long v63), (7, .long r40), (5, .long r28), (3, .long r15), (2, .int v7), (0, .ref a1), (1, .int a2)]) hx hb d_DV_guessLimb_71 hl (by decide) rfl (fun ls hl => ?_)
  refine lv_lload hx hb d_DV_guessLimb_73 (lv_at hl 1 rfl) ?_
  refine lv_lload_n hx hb d_DV_guessLimb_75 rfl (lv_at hl 3 rfl) ?_
  refine hb_lcmp_lt (tgt := 86) hx hb d_DV_guessLimb_76 d_DV_guessLimb_77 (by decide) (fun c64 => ?_) (fun c64 => ?_)
  · have w := w.1 c64
    refine lv_lload hx hb d_DV_guessLimb_86 (lv_at hl 0 rfl) ?_
    refine lv_lload_n hx hb d_DV_guessLimb_88 rfl (lv_at hl 3 rfl) ?_
    refine hb_calll (va_runS (As := [.long v63, .long r15]) (rest := []) ⟨hx, hb, hml, hown, hts⟩ (m_DV_unsignedQuotient G v63 r15 h52 hst w) (va_cwS 2 hts (zx_gS hT wd_424 wd_425 wd_3 wd_426) rfl rfl rfl (by decide +kernel) ⟨Nat.le_of_ble_eq_true rfl, Nat.le_of_ble_eq_true rfl⟩) (hb_preS hK hX hW) rfl rfl hl.1 rfl (lv_room (Nat.le_of_ble_eq_true rfl)) d_DV_guessLimb_89 ⟨(by show _ ≤ 0; omega), (by show _ ≤ 0; omega)⟩) hW (fun r66 h65 H locs hk hW => ?_)
    obtain ⟨w, mm67⟩ := hk
    have w := w mm67
    have hm := hm.tr mm67
    have t68 := mm67.tg t55 (by decide)
    have t69 := mm67.tg t56 (by decide)
    have t70 := mm67.tg t57 (by decide)
    have t71 := mm67.tg t58 (by decide)
    have t72 := mm67.tg t59 (by decide)
    have t73 := mm67.tg t60 (by decide)
    have t74 := mm67.tg t61 (by decide)
    have t75 := mm67.tg t62 (by decide)
    exact tb_DV_guessLimb_92 C (by omega) (by omega)  a1 v7 r15 r28 v63 r66 h65 _ _ _ w hm hW (lv_sub hl [5, 4, 3, 2, 0] rfl)
  · have w := w.2 c64
    refine lv_ldc2 (v := 4294967295) hx hb hown (hw wd_423) d_DV_guessLimb_80 ?_
    refine lv_goto (tgt := 92) hx hb d_DV_guessLimb_83 (by decide) ?_
    exact tb_DV_guessLimb_92 C (by omega) (by omega)  a1 v7 r15 r28 v63 (4294967295 : Int64) h52 _ _ _ w hm hW (lv_sub hl [5, 4, 3, 2, 0] rfl)
set_option maxHeartbeats 4000000 in
set_option maxRecDepth 100000 in
theorem tl_DV_takeAway_33 {p : Program} {l : Launch} {e : Env} {s : State} {m : MethodId} {args : Array Value} {below : List Frame} {meth : Method} {c : Code} {G : zG} (C : cx_C p l s m args meth c G y_DV_takeAway b_DV_takeAway 14 (some .boolean) "BigDesk$Division" (Cond.code y_DV_takeAway b_DV_takeAway 14 (some .boolean) :: zx_T) []) {K : Int32 → ah_H → Prop} {h0 : ah_H} {cells slots : Nat} (hcl : cells + 0 ≤ 0) (hsl : slots + 0 ≤ 0) {xt_100 : Int32 → Nat → Int32 → Int64 → ah_H → Prop} (hc_xt_100 : ∀ (z0 : Int32) (z1 : Nat) (z2 : Int32) (z3 : Int64) (hz : ah_H) (H : Heap) (locs : List Loc) (ls : Array Slot), xt_100 z0 z1 z2 z3 hz → ah_m h0 hz → ah_W G s.heap hz H locs → lv_has ls 14 [(1, .int z0), (4, .ref z1), (6, .int z2), (7, .long z3)] → W p l e rm_DV_takeAway s m args below meth c H locs cells slots (MQ below (va_Qi (fun r9 h9 => K r9 h9 ∧ ah_m h0 h9) (ah_B G) (fun q => G.2.2 ≤ q)) args s 0 0 (fun q => G.2.2 ≤ q)) (F0 m 100 ls [])) : ∀ (n : Nat) (x19 : Int32) (x20 : Int64) (x21 : Nat) (x22 : Nat) (x23 : Int32) (x24 : Int64) (x25 : Int32) (h26 : ah_H) (H : Heap) (locs : List Loc) (ls : Array Slot), lp_DV_takeAway_33 xt_100 K n x19 x20 x21 x22 x23 x24 x25 h26 → ah_m h0 h26 → ah_W G s.heap h26 H locs → lv_has ls 14 [(1, .int x19), (2, .long x20), (4, .ref x21), (5, .ref x22), (6, .int x23), (7, .long x24), (9, .int x25)] → W p l e rm_DV_takeAway s m args below meth c H locs cells slots (MQ below (va_Qi (fun r9 h9 => K r9 h9 ∧ ah_m h0 h9) (ah_B G) (fun q => G.2.2 ≤ q)) args s 0 0 (fun q => G.2.2 ≤ q)) (F0 m 33 ls []) := by
  obtain ⟨hx, hb, hr, hml, hown, hts, hT, hlk, hK, hX, htb, hin, hst⟩ := id C
  have hw : ∀ {w9 : Cond}, w9 ∈ zx_T → w9.before _ s = true := fun h9 => hts _ (hT _ h9)
  intro n
  induction n with
  | zero =>
    intro x19 x20 x21 x22 x23 x24 x25 h26 H locs ls w
    exact absurd w (by intro z9; exact z9)
  | succ n ih =>
    intro x19 x20 x21 x22 x23 x24 x25 h26 H locs ls w hm hW hl
    unfold lp_DV_takeAway_33 at w
    refine lv_iload hx hb d_DV_takeAway_33 (lv_at hl 6 rfl) ?_
    refine lv_iload hx hb d_DV_takeAway_35 (lv_at hl 4 rfl) ?_
    refine lv_icmp_ge (tgt := 100) hx hb d_DV_takeAway_37 (by decide) (fun c27 => ?_) (fun c27 => ?_)
    · have w := w.1 c27
      exact hc_xt_100 x19 x21 x23 x24 h26 _ _ _ w hm hW (lv_sub hl [0, 2, 4, 5] rfl)
    · have w := w.2 c27
      refine lv_lload_n hx hb d_DV_takeAway_40 rfl (lv_at hl 1 rfl) ?_
      refine lv_aload hx hb d_DV_takeAway_41 (lv_at hl 3 rfl) ?_
      refine lv_iload hx hb d_DV_takeAway_43 (lv_at hl 6 rfl) ?_
      obtain ⟨t28, w⟩ := w
      obtain ⟨i29, w⟩ := w
      refine hb_lald hx hb hK hW t28 (by decide) (by decide) 2 rfl i29 d_DV_takeAway_45 ?_
      refine lv_lmul hx hb d_DV_takeAway_46 ?_
      refine lv_lload hx hb d_DV_takeAway_47 (lv_at hl 5 rfl) ?_
      refine lv_ladd hx hb d_DV_takeAway_49 ?_
      refine lv_topl (fun v30 ev30 => ?_)
      have w := w v30 ev30
      refine lv_lstore (lv' := [(10, .long v30), (1, .int x19), (2, .long x20), (4, .ref x21), (5, .ref x22), (6, .int x23), (7, .long x24), (9, .int x25)]) hx hb d_DV_takeAway_50 hl (by decide) rfl (fun ls hl => ?_)
      refine lv_aload hx hb d_DV_takeAway_52 (lv_at hl 3 rfl) ?_
      refine lv_iload hx hb d_DV_takeAway_54 (lv_at hl 7 rfl) ?_
      refine lv_iload_n hx hb d_DV_takeAway_56 rfl (lv_at hl 1 rfl) ?_
      refine lv_iadd hx hb d_DV_takeAway_57 ?_
      obtain ⟨t31, w⟩ := w
      obtain ⟨i32, w⟩ := w
      refine hb_lald hx hb hK hW t31 (by decide) (by decide) 2 rfl i32 d_DV_takeAway_58 ?_
      refine lv_lload hx hb d_DV_takeAway_59 (lv_at hl 0 rfl) ?_
      refine lv_ldc2 (v := 4294967295) hx hb hown (hw wd_423) d_DV_takeAway_61 ?_
      refine lv_land hx hb d_DV_takeAway_64 ?_
      refine lv_lsub hx hb d_DV_takeAway_65 ?_
      refine lv_topl (fun v33 ev33 => ?_)
      have w := w v33 ev33
      refine lv_lstore (lv' := [(12, .long v33), (10, .long v30), (1, .int x19), (2, .long x20), (4, .ref x21), (5, .ref x22), (6, .int x23), (7, .long x24), (9, .int x25)]) hx hb d_DV_takeAway_66 hl (by decide) rfl (fun ls hl => ?_)
      refine lv_aload hx hb d_DV_takeAway_68 (lv_at hl 4 rfl) ?_
      refine lv_iload hx hb d_DV_takeAway_70 (lv_at hl 8 rfl) ?_
      refine lv_iload_n hx hb d_DV_takeAway_72 rfl (lv_at hl 2 rfl) ?_
      refine lv_iadd hx hb d_DV_takeAway_73 ?_
      refine lv_lload hx hb d_DV_takeAway_74 (lv_at hl 0 rfl) ?_
      refine lv_ldc2 (v := 4294967295) hx hb hown (hw wd_423) d_DV_takeAway_76 ?_
      refine lv_land hx hb d_DV_takeAway_79 ?_
      refine lv_topl (fun v34 ev34 => ?_)
      have w := w v34 ev34
      obtain ⟨i35, w⟩ := w
      refine hb_last hx hb hK hW t31 (by decide) (by decide) 2 rfl i35 d_DV_takeAway_80 (fun H locs h36 eh36 hW => ?_)
      have w := w h36 eh36
      have mm37 : ah_m h26 h36 := ah_m.rf.st (by rw [eh36]; rfl) (by rw [eh36]; rfl)
      have hm := hm.tr mm37
      have t38 := mm37.tg t28 (by decide)
      have t39 := mm37.tg t31 (by decide)
      refine lv_lload hx hb d_DV_takeAway_81 (lv_at hl 1 rfl) ?_
      refine lv_bipush (v := 32) hx hb d_DV_takeAway_83 (by decide) ?_
      refine lv_lushr hx hb d_DV_takeAway_85 rfl ?_
      refine lv_lload hx hb d_DV_takeAway_86 (lv_at hl 0 rfl) ?_
      refine lv_bipush (v := 63) hx hb d_DV_takeAway_88 (by decide) ?_
      refine lv_lushr hx hb d_DV_takeAway_90 rfl ?_
      refine lv_ladd hx hb d_DV_takeAway_91 ?_
      refine lv_topl (fun v40 ev40 => ?_)
      have w := w v40 ev40
      refine lv_lstore (lv' := [(7, .long v40), (12, .long v33), (10, .long v30), (1, .int x19), (2, .long x20), (4, .ref x21), (5, .ref x22), (6, .int x23), (9, .int x25)]) hx hb d_DV_takeAway_92 hl (by decide) rfl (fun ls hl => ?_)
      obtain ⟨v41, ev41⟩ : ∃ y9 : Int32, y9 = x25 + 1 := ⟨_, rfl⟩
      have w := w v41 ev41
      refine lv_iinc (v := v41) (lv' := [(9, .int v41), (7, .long v40), (12, .long v33), (10, .long v30), (1, .int x19), (2, .long x20), (4, .ref x21), (5, .ref x22), (6, .int x23)]) hx hb d_DV_takeAway_94 hl (k := 8) rfl (by rw [ev41]; rfl) (by decide) rfl (fun ls hl => ?_)
      refine lv_goto (tgt := 33) hx hb d_DV_takeAway_97 (by decide) ?_
      exact ih x19 x20 x21 x22 x23 v40 v41 h36 _ _ _ w hm hW (lv_sub hl [4, 5, 6, 7, 8, 1, 0] rfl)
set_option maxHeartbeats 4000000 in
set_option maxRecDepth 100000 in
theorem tb_DV_takeAway_137 {p : Program} {l : Launch} {e : Env} {s : State} {m : MethodId} {args : Array Value} {below : List Frame} {meth : Method} {c : Code} {G : zG} (C : cx_C p l s m args meth c G y_DV_takeAway b_DV_takeAway 14 (some .boolean) "BigDesk$Division" (Cond.code y_DV_takeAway b_DV_takeAway 14 (some .boolean) :: zx_T) []) {K : Int32 → ah_H → Prop} {h0 : ah_H} {cells slots : Nat} (hcl : cells + 0 ≤ 0) (hsl : slots + 0 ≤ 0)  (s56 : Int32) (h57 : ah_H) (H : Heap) (locs : List Loc) (ls : Array Slot) (w : bk_DV_takeAway_137 K s56 h57) (hm : ah_m h0 h57) (hW : ah_W G s.heap h57 H locs) (hl : lv_has ls 14 []) : W p l e rm_DV_takeAway s m args below meth c H locs cells slots (MQ below (va_Qi (fun r9 h9 => K r9 h9 ∧ ah_m h0 h9) (ah_B G) (fun q => G.2.2 ≤ q)) args s 0 0 (fun q => G.2.2 ≤ q)) (F0 m 137 ls [.int s56]) := by
  unfold bk_DV_takeAway_137 at w
  obtain ⟨hx, hb, hr, hml, hown, hts, hT, hlk, hK, hX, htb, hin, hst⟩ := id C
  have hw : ∀ {w9 : Cond}, w9 ∈ zx_T → w9.before _ s = true := fun h9 => hts _ (hT _ h9)
  obtain ⟨z58, w⟩ := w
  exact hb_zret (K := fun r9 h9 => K r9 h9 ∧ ah_m h0 h9) hx hb hr hlk z58 hK hX hW ⟨w, hm⟩ (by omega) (by omega) d_DV_takeAway_137
set_option maxHeartbeats 4000000 in
set_option maxRecDepth 100000 in
theorem m_DV_takeAway {l : Launch} (G : zG) (a1 : Nat) (a2 : Int32) (a3 : Int64) (h0 : ah_H) {K : Int32 → ah_H → Prop} (hst : l.stackTraces = false) (w : w_DV_takeAway a1 a2 a3 h0 K) : Met l y_DV_takeAway (Cond.code y_DV_takeAway b_DV_takeAway 14 (some .boolean) :: zx_T) rm_DV_takeAway (va_Pc [.ref a1, .int a2, .long a3] (ah_B G h0)) (va_Qi (fun r9 h9 => K r9 h9 ∧ ah_m h0 h9) (ah_B G) (fun q => G.2.2 ≤ q)) 0 0 (fun q => G.2.2 ≤ q) := by
  refine Met.ofW (cc := b_DV_takeAway) (maxL := 14) (ret := (some .boolean)) (by decide) rfl ?_
  intro p e s m args below meth c s₁ B hml hv
  have htb := cx_out B (atoms_spec B.pre _ List.mem_cons_self)
  obtain ⟨rfl, hB⟩ := hv
  have C : cx_C p l s m _ meth c G y_DV_takeAway b_DV_takeAway 14 (some .boolean) "BigDesk$Division" (Cond.code y_DV_takeAway b_DV_takeAway 14 (some .boolean) :: zx_T) [] := ⟨B.exec, B.bytes, B.returns, hml, findClass_of_methodNamed B.named, atoms_spec B.pre, cx_hd, B.notSynchronized, hB.2.2.1, hB.2.2.2, htb, fun z9 => (name_of_methodNamed B.named B.method).1.trans z9, hst⟩
  obtain ⟨hx, hb, hr, hml, hown, hts, hT, hlk, hK, hX, htb, hin, hst⟩ := id C
  have hw : ∀ {w9 : Cond}, w9 ∈ zx_T → w9.before _ s = true := fun h9 => hts _ (hT _ h9)
  have hW : ah_W G s.heap h0 s.heap [] := ⟨hB.1, hB.2.1, va_S.rf⟩
  have hm : ah_m h0 h0 := ah_m.rf
  have hcl : 0 + 0 ≤ 0 := by decide
  have hsl : 0 + 0 ≤ 0 := by decide
  have hl := lv_entry ([.ref a1, .int a2, .long a3]) (n := 14) (Nat.le_of_ble_eq_true rfl)
  rw [lg_entry_eq]
  generalize (lg_sl ([.ref a1, .int a2, .long a3]) ++ List.replicate (14 - (lg_sl ([.ref a1, .int a2, .long a3])).length) Slot.unset).toArray = ls at hl ⊢
  have hl : lv_has ls 14 [(0, .ref a1), (1, .int a2), (2, .long a3)] := hl
  unfold w_DV_takeAway at w
  refine lv_aload_n hx hb d_DV_takeAway_0 rfl (lv_at hl 0 rfl) ?_
  obtain ⟨t4, w⟩ := w
  obtain ⟨q5, e6, w⟩ := w
  refine hb_get (ci := 1) (C := "BigDesk$Division") (T := T_DV) (N := 3) hx hb hts (fun w9 h9 => hT w9 (u_DV w9 h9)) hown hK hW t4 rfl (by decide) 1 (by decide) (hw wd_66) (fun _ h9 => h9) (q := (2, 3)) rfl (v := .ref q5) (ah_f_R e6) d_DV_takeAway_1 ?_
  obtain ⟨t7, w⟩ := w
  obtain ⟨q8, e9, w⟩ := w
  refine hb_get (ci := 2) (C := "BigDesk$Whole") (T := T_WH) (N := 3) hx hb hts (fun w9 h9 => hT w9 (u_WH w9 h9)) hown hK hW t7 rfl (by decide) 0 (by decide) (hw wd_34) (fun _ h9 => h9) (q := (2, 5)) rfl (v := .ref q8) (ah_f_R e9) d_DV_takeAway_4 ?_
  refine lv_astore (lv' := [(4, .ref q8), (0, .ref a1), (1, .int a2), (2, .long a3)]) hx hb d_DV_takeAway_7 hl (by decide) rfl (fun ls hl => ?_)
  refine lv_aload_n hx hb d_DV_takeAway_9 rfl (lv_at hl 1 rfl) ?_
  obtain ⟨q10, e11, w⟩ := w
  refine hb_get (ci := 1) (C := "BigDesk$Division") (T := T_DV) (N := 3) hx hb hts (fun w9 h9 => hT w9 (u_DV w9 h9)) hown hK hW t4 rfl (by decide) 2 (by decide) (hw wd_69) (fun _ h9 => h9) (q := (2, 4)) rfl (v := .ref q10) (ah_f_R e11) d_DV_takeAway_10 ?_
  obtain ⟨t12, w⟩ := w
  obtain ⟨q13, e14, w⟩ := w
  refine hb_get (ci := 2) (C := "BigDesk$Whole") (T := T_WH) (N := 3) hx hb hts (fun w9 h9 => hT w9 (u_WH w9 h9)) hown hK hW t12 rfl (by decide) 0 (by decide) (hw wd_34) (fun _ h9 => h9) (q := (2, 5)) rfl (v := .ref q13) (ah_f_R e14) d_DV_takeAway_13 ?_
  refine lv_astore (lv' := [(5, .ref q13), (4, .ref q8), (0, .ref a1), (1, .int a2), (2, .long a3)]) hx hb d_DV_takeAway_16 hl (by decide) rfl (fun ls hl => ?_)
  refine lv_aload_n hx hb d_DV_takeAway_18 rfl (lv_at hl 2 rfl) ?_
  obtain ⟨q15, e16, w⟩ := w
  refine hb_get (ci := 1) (C := "BigDesk$Division") (T := T_DV) (N := 3) hx hb hts (fun w9 h9 => hT w9 (u_DV w9 h9)) hown hK hW t4 rfl (by decide) 2 (by decide) (hw wd_69) (fun _ h9 => h9) (q := (2, 4)) rfl (v := .ref q15) (ah_f_R e16) d_DV_takeAway_19 ?_
  obtain ⟨t17, w⟩ := w
  refine hb_get (ci := 2) (C := "BigDesk$Whole") (T := T_WH) (N := 3) hx hb hts (fun w9 h9 => hT w9 (u_WH w9 h9)) hown hK hW t17 rfl (by decide) 1 (by decide) (hw wd_38) (fun _ h9 => h9) (q := (0, 0)) rfl (v := .int (ah_I h0 0 q15)) rfl d_DV_takeAway_22 ?_
  refine lv_topi (fun v18 ev18 => ?_)
  have w := w v18 ev18
  refine lv_istore (lv' := [(6, .int v18), (5, .ref q13), (4, .ref q8), (0, .ref a1), (1, .int a2), (2, .long a3)]) hx hb d_DV_takeAway_25 hl (by decide) rfl (fun ls hl => ?_)
  refine lv_lconst (v := 0) hx hb d_DV_takeAway_27 (by decide) ?_
  refine lv_lstore (lv' := [(7, .long (0 : Int64)), (6, .int v18), (5, .ref q13), (4, .ref q8), (0, .ref a1), (1, .int a2), (2, .long a3)]) hx hb d_DV_takeAway_28 hl (by decide) rfl (fun ls hl => ?_)
  refine lv_iconst (v := 0) hx hb d_DV_takeAway_30 (by decide) ?_
  refine lv_istore (lv' := [(9, .int (0 : Int32)), (7, .long (0 : Int64)), (6, .int v18), (5, .ref q13), (4, .ref q8), (0, .ref a1), (1, .int a2), (2, .long a3)]) hx hb d_DV_takeAway_31 hl (by decide) rfl (fun ls hl => ?_)
  obtain ⟨k59, w⟩ := w
  refine tl_DV_takeAway_33 C (by omega) (by omega) (fun x42 x43 x44 x45 h46 H locs ls w hm hW hl => ?_) k59 a2 a3 q8 q13 v18 (0 : Int64) (0 : Int32) h0 _ _ _ w hm hW (lv_sub hl [6, 7, 4, 3, 2, 1, 0] rfl)
  · refine lv_aload hx hb d_DV_takeAway_100 (lv_at hl 1 rfl) ?_
    refine lv_iload_n hx hb d_DV_takeAway_102 rfl (lv_at hl 0 rfl) ?_
    refine lv_iload hx hb d_DV_takeAway_103 (lv_at hl 2 rfl) ?_
    refine lv_iadd hx hb d_DV_takeAway_105 ?_
    obtain ⟨t47, w⟩ := w
    obtain ⟨i48, w⟩ := w
    refine hb_lald hx hb hK hW t47 (by decide) (by decide) 2 rfl i48 d_DV_takeAway_106 ?_
    refine lv_lload hx hb d_DV_takeAway_107 (lv_at hl 3 rfl) ?_
    refine lv_lsub hx hb d_DV_takeAway_109 ?_
    refine lv_topl (fun v49 ev49 => ?_)
    have w := w v49 ev49
    refine lv_lstore (lv' := [(9, .long v49), (1, .int x42), (4, .ref x43), (6, .int x44), (7, .long x45)]) hx hb d_DV_takeAway_110 hl (by decide) rfl (fun ls hl => ?_)
    refine lv_aload hx hb d_DV_takeAway_112 (lv_at hl 2 rfl) ?_
    refine lv_iload_n hx hb d_DV_takeAway_114 rfl (lv_at hl 1 rfl) ?_
    refine lv_iload hx hb d_DV_takeAway_115 (lv_at hl 3 rfl) ?_
    refine lv_iadd hx hb d_DV_takeAway_117 ?_
    refine lv_lload hx hb d_DV_takeAway_118 (lv_at hl 0 rfl) ?_
    refine lv_ldc2 (v := 4294967295) hx hb hown (hw wd_423) d_DV_takeAway_120 ?_
    refine lv_land hx hb d_DV_takeAway_123 ?_
    refine lv_topl (fun v50 ev50 => ?_)
    have w := w v50 ev50
    obtain ⟨i51, w⟩ := w
    refine hb_last hx hb hK hW t47 (by decide) (by decide) 2 rfl i51 d_DV_takeAway_124 (fun H locs h52 eh52 hW => ?_)
    have w := w h52 eh52
    have mm53 : ah_m h46 h52 := ah_m.rf.st (by rw [eh52]; rfl) (by rw [eh52]; rfl)
    have hm := hm.tr mm53
    have t54 := mm53.tg t47 (by decide)
    refine lv_lload hx hb d_DV_takeAway_125 (lv_at hl 0 rfl) ?_
    refine lv_lconst (v := 0) hx hb d_DV_takeAway_127 (by decide) ?_
    refine hb_lcmp_ge (tgt := 136) hx hb d_DV_takeAway_128 d_DV_takeAway_129 (by decide) (fun c55 => ?_) (fun c55 => ?_)
    · have w := w.1 c55
      refine lv_iconst (v := 0) hx hb d_DV_takeAway_136 (by decide) ?_
      exact tb_DV_takeAway_137 C (by omega) (by omega)  (0 : Int32) h52 _ _ _ w hm hW (lv_sub hl [] rfl)
    · have w := w.2 c55
      refine lv_iconst (v := 1) hx hb d_DV_takeAway_132 (by decide) ?_
      refine lv_goto (tgt := 137) hx hb d_DV_takeAway_133 (by decide) ?_
      exact tb_DV_takeAway_137 C (by omega) (by omega)  (1 : Int32) h52 _ _ _ w hm hW (lv_sub hl [] rfl)
set_option maxHeartbeats 4000000 in
set_option maxRecDepth 100000 in
theorem tl_DV_putBack_22 {p : Program} {l : Launch} {e : Env} {s : State} {m : MethodId} {args : Array Value} {below : List Frame} {meth : Method} {c : Code} {G : zG} (C : cx_C p l s m args meth c G y_DV_putBack b_DV_putBack 9 none "BigDesk$Division" (Cond.code y_DV_putBack b_DV_putBack 9 none :: zx_T) []) {K : ah_H → Prop} {h0 : ah_H} {cells slots : Nat} (hcl : cells + 0 ≤ 0) (hsl : slots + 0 ≤ 0) {xt_75 : Int32 → Nat → Int32 → Int64 → ah_H → Prop} (hc_xt_75 : ∀ (z0 : Int32) (z1 : Nat) (z2 : Int32) (z3 : Int64) (hz : ah_H) (H : Heap) (locs : List Loc) (ls : Array Slot), xt_75 z0 z1 z2 z3 hz → ah_m h0 hz → ah_W G s.heap hz H locs → lv_has ls 9 [(1, .int z0), (2, .ref z1), (3, .int z2), (4, .long z3)] → W p l e rm_DV_putBack s m args below meth c H locs cells slots (MQ below (va_Qv (fun h9 => K h9 ∧ ah_m h0 h9) (ah_B G) (fun q => G.2.2 ≤ q)) args s 0 0 (fun q => G.2.2 ≤ q)) (F0 m 75 ls [])) : ∀ (n : Nat) (x13 : Nat) (x14 : Int32) (x15 : Nat) (x16 : Int32) (x17 : Int64) (x18 : Int32) (h19 : ah_H) (H : Heap) (locs : List Loc) (ls : Array Slot), lp_DV_putBack_22 xt_75 K n x13 x14 x15 x16 x17 x18 h19 → ah_m h0 h19 → ah_W G s.heap h19 H locs → lv_has ls 9 [(0, .ref x13), (1, .int x14), (2, .ref x15), (3, .int x16), (4, .long x17), (6, .int x18)] → W p l e rm_DV_putBack s m args below meth c H locs cells slots (MQ below (va_Qv (fun h9 => K h9 ∧ ah_m h0 h9) (ah_B G) (fun q => G.2.2 ≤ q)) args s 0 0 (fun q => G.2.2 ≤ q)) (F0 m 22 ls []) := by
  obtain ⟨hx, hb, hr, hml, hown, hts, hT, hlk, hK, hX, htb, hin, hst⟩ := id C
  have hw : ∀ {w9 : Cond}, w9 ∈ zx_T → w9.before _ s = true := fun h9 => hts _ (hT _ h9)
  intro n
  induction n with
  | zero =>
    intro x13 x14 x15 x16 x17 x18 h19 H locs ls w
    exact absurd w (by intro z9; exact z9)
  | succ n ih =>
    intro x13 x14 x15 x16 x17 x18 h19 H locs ls w hm hW hl
    unfold lp_DV_putBack_22 at w
    refine lv_iload hx hb d_DV_putBack_22 (lv_at hl 5 rfl) ?_
    refine lv_iload_n hx hb d_DV_putBack_24 rfl (lv_at hl 3 rfl) ?_
    refine lv_icmp_ge (tgt := 75) hx hb d_DV_putBack_25 (by decide) (fun c20 => ?_) (fun c20 => ?_)
    · have w := w.1 c20
      exact hc_xt_75 x14 x15 x16 x17 h19 _ _ _ w hm hW (lv_sub hl [1, 2, 3, 4] rfl)
    · have w := w.2 c20
      refine lv_aload_n hx hb d_DV_putBack_28 rfl (lv_at hl 2 rfl) ?_
      refine lv_iload hx hb d_DV_putBack_29 (lv_at hl 5 rfl) ?_
      refine lv_iload_n hx hb d_DV_putBack_31 rfl (lv_at hl 1 rfl) ?_
      refine lv_iadd hx hb d_DV_putBack_32 ?_
      obtain ⟨t21, w⟩ := w
      obtain ⟨i22, w⟩ := w
      refine hb_lald hx hb hK hW t21 (by decide) (by decide) 2 rfl i22 d_DV_putBack_33 ?_
      refine lv_aload_n hx hb d_DV_putBack_34 rfl (lv_at hl 0 rfl) ?_
      obtain ⟨t23, w⟩ := w
      obtain ⟨q24, e25, w⟩ := w
      refine hb_get (ci := 1) (C := "BigDesk$Division") (T := T_DV) (N := 3) hx hb hts (fun w9 h9 => hT w9 (u_DV w9 h9)) hown hK hW t23 rfl (by decide) 2 (by decide) (hw wd_69) (fun _ h9 => h9) (q := (2, 4)) rfl (v := .ref q24) (ah_f_R e25) d_DV_putBack_35 ?_
      obtain ⟨t26, w⟩ := w
      obtain ⟨q27, e28, w⟩ := w
      refine hb_get (ci := 2) (C := "BigDesk$Whole") (T := T_WH) (N := 3) hx hb hts (fun w9 h9 => hT w9 (u_WH w9 h9)) hown hK hW t26 rfl (by decide) 0 (by decide) (hw wd_34) (fun _ h9 => h9) (q := (2, 5)) rfl (v := .ref q27) (ah_f_R e28) d_DV_putBack_38 ?_
      refine lv_iload hx hb d_DV_putBack_41 (lv_at hl 5 rfl) ?_
      obtain ⟨t29, w⟩ := w
      obtain ⟨i30, w⟩ := w
      refine hb_lald hx hb hK hW t29 (by decide) (by decide) 2 rfl i30 d_DV_putBack_43 ?_
      refine lv_ladd hx hb d_DV_putBack_44 ?_
      refine lv_lload hx hb d_DV_putBack_45 (lv_at hl 4 rfl) ?_
      refine lv_ladd hx hb d_DV_putBack_47 ?_
      refine lv_topl (fun v31 ev31 => ?_)
      have w := w v31 ev31
      refine lv_lstore (lv' := [(7, .long v31), (0, .ref x13), (1, .int x14), (2, .ref x15), (3, .int x16), (4, .long x17), (6, .int x18)]) hx hb d_DV_putBack_48 hl (by decide) rfl (fun ls hl => ?_)
      refine lv_aload_n hx hb d_DV_putBack_50 rfl (lv_at hl 3 rfl) ?_
      refine lv_iload hx hb d_DV_putBack_51 (lv_at hl 6 rfl) ?_
      refine lv_iload_n hx hb d_DV_putBack_53 rfl (lv_at hl 2 rfl) ?_
      refine lv_iadd hx hb d_DV_putBack_54 ?_
      refine lv_lload hx hb d_DV_putBack_55 (lv_at hl 0 rfl) ?_
      refine lv_ldc2 (v := 4294967295) hx hb hown (hw wd_423) d_DV_putBack_57 ?_
      refine lv_land hx hb d_DV_putBack_60 ?_
      refine lv_topl (fun v32 ev32 => ?_)
      have w := w v32 ev32
      obtain ⟨i33, w⟩ := w
      refine hb_last hx hb hK hW t21 (by decide) (by decide) 2 rfl i33 d_DV_putBack_61 (fun H locs h34 eh34 hW => ?_)
      have w := w h34 eh34
      have mm35 : ah_m h19 h34 := ah_m.rf.st (by rw [eh34]; rfl) (by rw [eh34]; rfl)
      have hm := hm.tr mm35
      have t36 := mm35.tg t21 (by decide)
      have t37 := mm35.tg t23 (by decide)
      have t38 := mm35.tg t26 (by decide)
      have t39 := mm35.tg t29 (by decide)
      refine lv_lload hx hb d_DV_putBack_62 (lv_at hl 0 rfl) ?_
      refine lv_bipush (v := 32) hx hb d_DV_putBack_64 (by decide) ?_
      refine lv_lushr hx hb d_DV_putBack_66 rfl ?_
      refine lv_topl (fun v40 ev40 => ?_)
      have w := w v40 ev40
      refine lv_lstore (lv' := [(4, .long v40), (7, .long v31), (0, .ref x13), (1, .int x14), (2, .ref x15), (3, .int x16), (6, .int x18)]) hx hb d_DV_putBack_67 hl (by decide) rfl (fun ls hl => ?_)
      obtain ⟨v41, ev41⟩ : ∃ y9 : Int32, y9 = x18 + 1 := ⟨_, rfl⟩
      have w := w v41 ev41
      refine lv_iinc (v := v41) (lv' := [(6, .int v41), (4, .long v40), (7, .long v31), (0, .ref x13), (1, .int x14), (2, .ref x15), (3, .int x16)]) hx hb d_DV_putBack_69 hl (k := 6) rfl (by rw [ev41]; rfl) (by decide) rfl (fun ls hl => ?_)
      refine lv_goto (tgt := 22) hx hb d_DV_putBack_72 (by decide) ?_
      exact ih x13 x14 x15 x16 v40 v41 h34 _ _ _ w hm hW (lv_sub hl [3, 4, 5, 6, 1, 0] rfl)
set_option maxHeartbeats 4000000 in
set_option maxRecDepth 100000 in
theorem m_DV_putBack {l : Launch} (G : zG) (a1 : Nat) (a2 : Int32) (h0 : ah_H) {K : ah_H → Prop} (hst : l.stackTraces = false) (w : w_DV_putBack a1 a2 h0 K) : Met l y_DV_putBack (Cond.code y_DV_putBack b_DV_putBack 9 none :: zx_T) rm_DV_putBack (va_Pc [.ref a1, .int a2] (ah_B G h0)) (va_Qv (fun h9 => K h9 ∧ ah_m h0 h9) (ah_B G) (fun q => G.2.2 ≤ q)) 0 0 (fun q => G.2.2 ≤ q) := by
  refine Met.ofW (cc := b_DV_putBack) (maxL := 9) (ret := none) (by decide) rfl ?_
  intro p e s m args below meth c s₁ B hml hv
  have htb := cx_out B (atoms_spec B.pre _ List.mem_cons_self)
  obtain ⟨rfl, hB⟩ := hv
  have C : cx_C p l s m _ meth c G y_DV_putBack b_DV_putBack 9 none "BigDesk$Division" (Cond.code y_DV_putBack b_DV_putBack 9 none :: zx_T) [] := ⟨B.exec, B.bytes, B.returns, hml, findClass_of_methodNamed B.named, atoms_spec B.pre, cx_hd, B.notSynchronized, hB.2.2.1, hB.2.2.2, htb, fun z9 => (name_of_methodNamed B.named B.method).1.trans z9, hst⟩
  obtain ⟨hx, hb, hr, hml, hown, hts, hT, hlk, hK, hX, htb, hin, hst⟩ := id C
  have hw : ∀ {w9 : Cond}, w9 ∈ zx_T → w9.before _ s = true := fun h9 => hts _ (hT _ h9)
  have hW : ah_W G s.heap h0 s.heap [] := ⟨hB.1, hB.2.1, va_S.rf⟩
  have hm : ah_m h0 h0 := ah_m.rf
  have hcl : 0 + 0 ≤ 0 := by decide
  have hsl : 0 + 0 ≤ 0 := by decide
  have hl := lv_entry ([.ref a1, .int a2]) (n := 9) (Nat.le_of_ble_eq_true rfl)
  rw [lg_entry_eq]
  generalize (lg_sl ([.ref a1, .int a2]) ++ List.replicate (9 - (lg_sl ([.ref a1, .int a2])).length) Slot.unset).toArray = ls at hl ⊢
  have hl : lv_has ls 9 [(0, .ref a1), (1, .int a2)] := hl
  unfold w_DV_putBack at w
  refine lv_aload_n hx hb d_DV_putBack_0 rfl (lv_at hl 0 rfl) ?_
  obtain ⟨t3, w⟩ := w
  obtain ⟨q4, e5, w⟩ := w
  refine hb_get (ci := 1) (C := "BigDesk$Division") (T := T_DV) (N := 3) hx hb hts (fun w9 h9 => hT w9 (u_DV w9 h9)) hown hK hW t3 rfl (by decide) 1 (by decide) (hw wd_66) (fun _ h9 => h9) (q := (2, 3)) rfl (v := .ref q4) (ah_f_R e5) d_DV_putBack_1 ?_
  obtain ⟨t6, w⟩ := w
  obtain ⟨q7, e8, w⟩ := w
  refine hb_get (ci := 2) (C := "BigDesk$Whole") (T := T_WH) (N := 3) hx hb hts (fun w9 h9 => hT w9 (u_WH w9 h9)) hown hK hW t6 rfl (by decide) 0 (by decide) (hw wd_34) (fun _ h9 => h9) (q := (2, 5)) rfl (v := .ref q7) (ah_f_R e8) d_DV_putBack_4 ?_
  refine lv_astore_n (lv' := [(2, .ref q7), (0, .ref a1), (1, .int a2)]) hx hb d_DV_putBack_7 rfl hl (by decide) rfl (fun ls hl => ?_)
  refine lv_aload_n hx hb d_DV_putBack_8 rfl (lv_at hl 1 rfl) ?_
  obtain ⟨q9, e10, w⟩ := w
  refine hb_get (ci := 1) (C := "BigDesk$Division") (T := T_DV) (N := 3) hx hb hts (fun w9 h9 => hT w9 (u_DV w9 h9)) hown hK hW t3 rfl (by decide) 2 (by decide) (hw wd_69) (fun _ h9 => h9) (q := (2, 4)) rfl (v := .ref q9) (ah_f_R e10) d_DV_putBack_9 ?_
  obtain ⟨t11, w⟩ := w
  refine hb_get (ci := 2) (C := "BigDesk$Whole") (T := T_WH) (N := 3) hx hb hts (fun w9 h9 => hT w9 (u_WH w9 h9)) hown hK hW t11 rfl (by decide) 1 (by decide) (hw wd_38) (fun _ h9 => h9) (q := (0, 0)) rfl (v := .int (ah_I h0 0 q9)) rfl d_DV_putBack_12 ?_
  refine lv_topi (fun v12 ev12 => ?_)
  have w := w v12 ev12
  refine lv_istore_n (lv' := [(3, .int v12), (2, .ref q7), (0, .ref a1), (1, .int a2)]) hx hb d_DV_putBack_15 rfl hl (by decide) rfl (fun ls hl => ?_)
  refine lv_lconst (v := 0) hx hb d_DV_putBack_16 (by decide) ?_
  refine lv_lstore (lv' := [(4, .long (0 : Int64)), (3, .int v12), (2, .ref q7), (0, .ref a1), (1, .int a2)]) hx hb d_DV_putBack_17 hl (by decide) rfl (fun ls hl => ?_)
  refine lv_iconst (v := 0) hx hb d_DV_putBack_19 (by decide) ?_
  refine lv_istore (lv' := [(6, .int (0 : Int32)), (4, .long (0 : Int64)), (3, .int v12), (2, .ref q7), (0, .ref a1), (1, .int a2)]) hx hb d_DV_putBack_20 hl (by decide) rfl (fun ls hl => ?_)
  obtain ⟨k54, w⟩ := w
  refine tl_DV_putBack_22 C (by omega) (by omega) (fun x42 x43 x44 x45 h46 H locs ls w hm hW hl => ?_) k54 a1 a2 q7 v12 (0 : Int64) (0 : Int32) h0 _ _ _ w hm hW (lv_sub hl [4, 5, 3, 2, 1, 0] rfl)
  · refine lv_aload_n hx hb d_DV_putBack_75 rfl (lv_at hl 1 rfl) ?_
    refine lv_iload_n hx hb d_DV_putBack_76 rfl (lv_at hl 0 rfl) ?_
    refine lv_iload_n hx hb d_DV_putBack_77 rfl (lv_at hl 2 rfl) ?_
    refine lv_iadd hx hb d_DV_putBack_78 ?_
    refine lv_aload_n hx hb d_DV_putBack_79 rfl (lv_at hl 1 rfl) ?_
    refine lv_iload_n hx hb d_DV_putBack_80 rfl (lv_at hl 0 rfl) ?_
    refine lv_iload_n hx hb d_DV_putBack_81 rfl (lv_at hl 2 rfl) ?_
    refine lv_iadd hx hb d_DV_putBack_82 ?_
    obtain ⟨t47, w⟩ := w
    obtain ⟨i48, w⟩ := w
    refine hb_lald hx hb hK hW t47 (by decide) (by decide) 2 rfl i48 d_DV_putBack_83 ?_
    refine lv_lload hx hb d_DV_putBack_84 (lv_at hl 3 rfl) ?_
    refine lv_ladd hx hb d_DV_putBack_86 ?_
    refine lv_ldc2 (v := 4294967295) hx hb hown (hw wd_423) d_DV_putBack_87 ?_
    refine lv_land hx hb d_DV_putBack_90 ?_
    refine lv_topl (fun v49 ev49 => ?_)
    have w := w v49 ev49
    obtain ⟨i50, w⟩ := w
    refine hb_last hx hb hK hW t47 (by decide) (by decide) 2 rfl i50 d_DV_putBack_91 (fun H locs h51 eh51 hW => ?_)
    have w := w h51 eh51
    have mm52 : ah_m h46 h51 := ah_m.rf.st (by rw [eh51]; rfl) (by rw [eh51]; rfl)
    have hm := hm.tr mm52
    have t53 := mm52.tg t47 (by decide)
    exact hb_vret (K := fun h9 => K h9 ∧ ah_m h0 h9) hx hb hr hlk hK hX hW ⟨w, hm⟩ (by omega) (by omega) d_DV_putBack_92
set_option maxHeartbeats 4000000 in
set_option maxRecDepth 100000 in
theorem tb_DV_nextLimb_24 {p : Program} {l : Launch} {e : Env} {s : State} {m : MethodId} {args : Array Value} {below : List Frame} {meth : Method} {c : Code} {G : zG} (C : cx_C p l s m args meth c G y_DV_nextLimb b_DV_nextLimb 4 (some .long) "BigDesk$Division" (Cond.code y_DV_nextLimb b_DV_nextLimb 4 (some .long) :: zx_T) []) {K : Int64 → ah_H → Prop} {h0 : ah_H} {cells slots : Nat} (hcl : cells + 0 ≤ 0) (hsl : slots + 0 ≤ 0)  (x13 : Int64) (h14 : ah_H) (H : Heap) (locs : List Loc) (ls : Array Slot) (w : bk_DV_nextLimb_24 K x13 h14) (hm : ah_m h0 h14) (hW : ah_W G s.heap h14 H locs) (hl : lv_has ls 4 [(2, .long x13)]) : W p l e rm_DV_nextLimb s m args below meth c H locs cells slots (MQ below (va_Ql (fun r9 h9 => K r9 h9 ∧ ah_m h0 h9) (ah_B G) (fun q => G.2.2 ≤ q)) args s 0 0 (fun q => G.2.2 ≤ q)) (F0 m 24 ls []) := by
  unfold bk_DV_nextLimb_24 at w
  obtain ⟨hx, hb, hr, hml, hown, hts, hT, hlk, hK, hX, htb, hin, hst⟩ := id C
  have hw : ∀ {w9 : Cond}, w9 ∈ zx_T → w9.before _ s = true := fun h9 => hts _ (hT _ h9)
  refine lv_lload_n hx hb d_DV_nextLimb_24 rfl (lv_at hl 0 rfl) ?_
  exact hb_lret (K := fun r9 h9 => K r9 h9 ∧ ah_m h0 h9) hx hb hr hlk hK hX hW ⟨w, hm⟩ (by omega) (by omega) d_DV_nextLimb_25
set_option maxHeartbeats 4000000 in
set_option maxRecDepth 100000 in
theorem m_DV_nextLimb {l : Launch} (G : zG) (a1 : Nat) (a2 : Int32) (h0 : ah_H) {K : Int64 → ah_H → Prop} (hst : l.stackTraces = false) (w : w_DV_nextLimb a1 a2 h0 K) : Met l y_DV_nextLimb (Cond.code y_DV_nextLimb b_DV_nextLimb 4 (some .long) :: zx_T) rm_DV_nextLimb (va_Pc [.ref a1, .int a2] (ah_B G h0)) (va_Ql (fun r9 h9 => K r9 h9 ∧ ah_m h0 h9) (ah_B G) (fun q => G.2.2 ≤ q)) 0 0 (fun q => G.2.2 ≤ q) := by
  refine Met.ofW (cc := b_DV_nextLimb) (maxL := 4) (ret := (some .long)) (by decide) rfl ?_
  intro p e s m args below meth c s₁ B hml hv
  have htb := cx_out B (atoms_spec B.pre _ List.mem_cons_self)
  obtain ⟨rfl, hB⟩ := hv
  have C : cx_C p l s m _ meth c G y_DV_nextLimb b_DV_nextLimb 4 (some .long) "BigDesk$Division" (Cond.code y_DV_nextLimb b_DV_nextLimb 4 (some .long) :: zx_T) [] := ⟨B.exec, B.bytes, B.returns, hml, findClass_of_methodNamed B.named, atoms_spec B.pre, cx_hd, B.notSynchronized, hB.2.2.1, hB.2.2.2, htb, fun z9 => (name_of_methodNamed B.named B.method).1.trans z9, hst⟩
  obtain ⟨hx, hb, hr, hml, hown, hts, hT, hlk, hK, hX, htb, hin, hst⟩ := id C
  have hw : ∀ {w9 : Cond}, w9 ∈ zx_T → w9.before _ s = true := fun h9 => hts _ (hT _ h9)
  have hW : ah_W G s.heap h0 s.heap [] := ⟨hB.1, hB.2.1, va_S.rf⟩
  have hm : ah_m h0 h0 := ah_m.rf
  have hcl : 0 + 0 ≤ 0 := by decide
  have hsl : 0 + 0 ≤ 0 := by decide
  have hl := lv_entry ([.ref a1, .int a2]) (n := 4) (Nat.le_of_ble_eq_true rfl)
  rw [lg_entry_eq]
  generalize (lg_sl ([.ref a1, .int a2]) ++ List.replicate (4 - (lg_sl ([.ref a1, .int a2])).length) Slot.unset).toArray = ls at hl ⊢
  have hl : lv_has ls 4 [(0, .ref a1), (1, .int a2)] := hl
  unfold w_DV_nextLimb at w
  refine lv_aload_n hx hb d_DV_nextLimb_0 rfl (lv_at hl 0 rfl) ?_
  refine lv_iload_n hx hb d_DV_nextLimb_1 rfl (lv_at hl 1 rfl) ?_
  obtain ⟨t3, w⟩ := w
  refine hb_calll (va_runV (As := [.int a2]) (rest := []) ⟨hx, hb, hml, hown, hts⟩ (m_DV_guessLimb G a1 a2 h0 hst w) (cwV 1 hts (zx_gV hT wd_418 wd_420 wd_s5 wd_3 wd_421) rfl rfl rfl (by decide +kernel) ⟨Nat.le_of_ble_eq_true rfl, Nat.le_of_ble_eq_true rfl⟩) (hb_preV hK hX hW t3 (by decide) rfl) rfl rfl hl.1 rfl (lv_room (Nat.le_of_ble_eq_true rfl)) d_DV_nextLimb_2 ⟨(by show _ ≤ 0; omega), (by show _ ≤ 0; omega)⟩) hW (fun r5 h4 H locs hk hW => ?_)
  obtain ⟨w, mm6⟩ := hk
  have w := w mm6
  have hm := hm.tr mm6
  have t7 := mm6.tg t3 (by decide)
  refine lv_lstore_n (lv' := [(2, .long r5), (0, .ref a1), (1, .int a2)]) hx hb d_DV_nextLimb_5 rfl hl (by decide) rfl (fun ls hl => ?_)
  refine lv_aload_n hx hb d_DV_nextLimb_6 rfl (lv_at hl 1 rfl) ?_
  refine lv_iload_n hx hb d_DV_nextLimb_7 rfl (lv_at hl 2 rfl) ?_
  refine lv_lload_n hx hb d_DV_nextLimb_8 rfl (lv_at hl 0 rfl) ?_
  refine hb_calli (va_runV (As := [.int a2, .long r5]) (rest := []) ⟨hx, hb, hml, hown, hts⟩ (m_DV_takeAway G a1 a2 r5 h4 hst w) (cwV 2 hts (zx_gV hT wd_428 wd_430 wd_s6 wd_3 wd_431) rfl rfl rfl (by decide +kernel) ⟨Nat.le_of_ble_eq_true rfl, Nat.le_of_ble_eq_true rfl⟩) (hb_preV hK hX hW t7 (by decide) rfl) rfl rfl hl.1 rfl (lv_room (Nat.le_of_ble_eq_true rfl)) d_DV_nextLimb_9 ⟨(by show _ ≤ 0; omega), (by show _ ≤ 0; omega)⟩) hW (fun r9 h8 H locs hk hW => ?_)
  obtain ⟨w, mm10⟩ := hk
  have w := w mm10
  have hm := hm.tr mm10
  have t11 := mm10.tg t7 (by decide)
  refine lv_if_eq (tgt := 24) hx hb d_DV_nextLimb_12 (by decide) (fun c12 => ?_) (fun c12 => ?_)
  · have w := w.1 c12
    exact tb_DV_nextLimb_24 C (by omega) (by omega)  r5 h8 _ _ _ w hm hW (lv_sub hl [0] rfl)
  · have w := w.2 c12
    refine lv_aload_n hx hb d_DV_nextLimb_15 rfl (lv_at hl 1 rfl) ?_
    refine lv_iload_n hx hb d_DV_nextLimb_16 rfl (lv_at hl 2 rfl) ?_
    refine hb_callv (va_runV (As := [.int a2]) (rest := []) ⟨hx, hb, hml, hown, hts⟩ (m_DV_putBack G a1 a2 h8 hst w) (cwV 1 hts (zx_gV hT wd_432 wd_434 wd_s7 wd_3 wd_435) rfl rfl rfl (by decide +kernel) ⟨Nat.le_of_ble_eq_true rfl, Nat.le_of_ble_eq_true rfl⟩) (hb_preV hK hX hW t11 (by decide) rfl) rfl rfl hl.1 rfl (lv_room (Nat.le_of_ble_eq_true rfl)) d_DV_nextLimb_17 ⟨(by show _ ≤ 0; omega), (by show _ ≤ 0; omega)⟩) hW (fun h15 H locs hk hW => ?_)
    obtain ⟨w, mm16⟩ := hk
    have w := w mm16
    have hm := hm.tr mm16
    have t17 := mm16.tg t11 (by decide)
    refine lv_lload_n hx hb d_DV_nextLimb_20 rfl (lv_at hl 0 rfl) ?_
    refine lv_lconst (v := 1) hx hb d_DV_nextLimb_21 (by decide) ?_
    refine lv_lsub hx hb d_DV_nextLimb_22 ?_
    refine lv_topl (fun v18 ev18 => ?_)
    have w := w v18 ev18
    refine lv_lstore_n (lv' := [(2, .long v18), (0, .ref a1), (1, .int a2)]) hx hb d_DV_nextLimb_23 rfl hl (by decide) rfl (fun ls hl => ?_)
    exact tb_DV_nextLimb_24 C (by omega) (by omega)  v18 h15 _ _ _ w hm hW (lv_sub hl [0] rfl)
set_option maxHeartbeats 4000000 in
set_option maxRecDepth 100000 in
theorem tb_DV_ofAbsolutes_31 {p : Program} {l : Launch} {e : Env} {s : State} {m : MethodId} {args : Array Value} {below : List Frame} {meth : Method} {c : Code} {G : zG} (C : cx_C p l s m args meth c G y_DV_ofAbsolutes b_DV_ofAbsolutes 6 none "BigDesk$Division" (Cond.code y_DV_ofAbsolutes b_DV_ofAbsolutes 6 none :: zx_T) []) {K : ah_H → Prop} {h0 : ah_H} {cells slots : Nat} (hcl : cells + 0 ≤ 0) (hsl : slots + 0 ≤ 0)   (h22 : ah_H) (H : Heap) (locs : List Loc) (ls : Array Slot) (w : bk_DV_ofAbsolutes_31 K h22) (hm : ah_m h0 h22) (hW : ah_W G s.heap h22 H locs) (hl : lv_has ls 6 []) : W p l e rm_DV_ofAbsolutes s m args below meth c H locs cells slots (MQ below (va_Qv (fun h9 => K h9 ∧ ah_m h0 h9) (ah_B G) (fun q => G.2.2 ≤ q)) args s 0 0 (fun q => G.2.2 ≤ q)) (F0 m 31 ls []) := by
  unfold bk_DV_ofAbsolutes_31 at w
  obtain ⟨hx, hb, hr, hml, hown, hts, hT, hlk, hK, hX, htb, hin, hst⟩ := id C
  have hw : ∀ {w9 : Cond}, w9 ∈ zx_T → w9.before _ s = true := fun h9 => hts _ (hT _ h9)
  exact hb_vret (K := fun h9 => K h9 ∧ ah_m h0 h9) hx hb hr hlk hK hX hW ⟨w, hm⟩ (by omega) (by omega) d_DV_ofAbsolutes_31
set_option maxHeartbeats 4000000 in
set_option maxRecDepth 100000 in
theorem tl_DV_ofAbsolutes_83 {p : Program} {l : Launch} {e : Env} {s : State} {m : MethodId} {args : Array Value} {below : List Frame} {meth : Method} {c : Code} {G : zG} (C : cx_C p l s m args meth c G y_DV_ofAbsolutes b_DV_ofAbsolutes 6 none "BigDesk$Division" (Cond.code y_DV_ofAbsolutes b_DV_ofAbsolutes 6 none :: zx_T) []) {K : ah_H → Prop} {h0 : ah_H} {cells slots : Nat} (hcl : cells + 0 ≤ 0) (hsl : slots + 0 ≤ 0) {xt_110 : Nat → Int32 → Int32 → ah_H → Prop} (hc_xt_110 : ∀ (z0 : Nat) (z1 : Int32) (z2 : Int32) (hz : ah_H) (H : Heap) (locs : List Loc) (ls : Array Slot), xt_110 z0 z1 z2 hz → ah_m h0 hz → ah_W G s.heap hz H locs → lv_has ls 6 [(0, .ref z0), (3, .int z1), (4, .int z2)] → W p l e rm_DV_ofAbsolutes s m args below meth c H locs cells slots (MQ below (va_Qv (fun h9 => K h9 ∧ ah_m h0 h9) (ah_B G) (fun q => G.2.2 ≤ q)) args s 0 0 (fun q => G.2.2 ≤ q)) (F0 m 110 ls [])) : ∀ (n : Nat) (x65 : Nat) (x66 : Int32) (x67 : Int32) (x68 : Int32) (h69 : ah_H) (H : Heap) (locs : List Loc) (ls : Array Slot), lp_DV_ofAbsolutes_83 xt_110 K n x65 x66 x67 x68 h69 → ah_m h0 h69 → ah_W G s.heap h69 H locs → lv_has ls 6 [(0, .ref x65), (3, .int x66), (4, .int x67), (5, .int x68)] → W p l e rm_DV_ofAbsolutes s m args below meth c H locs cells slots (MQ below (va_Qv (fun h9 => K h9 ∧ ah_m h0 h9) (ah_B G) (fun q => G.2.2 ≤ q)) args s 0 0 (fun q => G.2.2 ≤ q)) (F0 m 83 ls []) := by
  obtain ⟨hx, hb, hr, hml, hown, hts, hT, hlk, hK, hX, htb, hin, hst⟩ := id C
  have hw : ∀ {w9 : Cond}, w9 ∈ zx_T → w9.before _ s = true := fun h9 => hts _ (hT _ h9)
  intro n
  induction n with
  | zero =>
    intro x65 x66 x67 x68 h69 H locs ls w
    exact absurd w (by intro z9; exact z9)
  | succ n ih =>
    intro x65 x66 x67 x68 h69 H locs ls w hm hW hl
    unfold lp_DV_ofAbsolutes_83 at w
    refine lv_iload hx hb d_DV_ofAbsolutes_83 (lv_at hl 3 rfl) ?_
    refine lv_if_lt (tgt := 110) hx hb d_DV_ofAbsolutes_85 (by decide) (fun c70 => ?_) (fun c70 => ?_)
    · have w := w.1 c70
      exact hc_xt_110 x65 x66 x67 h69 _ _ _ w hm hW (lv_sub hl [0, 1, 2] rfl)
    · have w := w.2 c70
      refine lv_aload_n hx hb d_DV_ofAbsolutes_88 rfl (lv_at hl 0 rfl) ?_
      obtain ⟨t71, w⟩ := w
      obtain ⟨q72, e73, w⟩ := w
      refine hb_get (ci := 1) (C := "BigDesk$Division") (T := T_DV) (N := 3) hx hb hts (fun w9 h9 => hT w9 (u_DV w9 h9)) hown hK hW t71 rfl (by decide) 0 (by decide) (hw wd_64) (fun _ h9 => h9) (q := (2, 2)) rfl (v := .ref q72) (ah_f_R e73) d_DV_ofAbsolutes_89 ?_
      obtain ⟨t74, w⟩ := w
      obtain ⟨q75, e76, w⟩ := w
      refine hb_get (ci := 2) (C := "BigDesk$Whole") (T := T_WH) (N := 3) hx hb hts (fun w9 h9 => hT w9 (u_WH w9 h9)) hown hK hW t74 rfl (by decide) 0 (by decide) (hw wd_34) (fun _ h9 => h9) (q := (2, 5)) rfl (v := .ref q75) (ah_f_R e76) d_DV_ofAbsolutes_92 ?_
      refine lv_iload hx hb d_DV_ofAbsolutes_95 (lv_at hl 3 rfl) ?_
      refine lv_aload_n hx hb d_DV_ofAbsolutes_97 rfl (lv_at hl 0 rfl) ?_
      refine lv_iload hx hb d_DV_ofAbsolutes_98 (lv_at hl 3 rfl) ?_
      refine hb_calll (va_runV (As := [.int x68]) (rest := [.int x68, .ref q75]) ⟨hx, hb, hml, hown, hts⟩ (m_DV_nextLimb G x65 x68 h69 hst w) (cwV 1 hts (zx_gV hT wd_414 wd_416 wd_s4 wd_3 wd_417) rfl rfl rfl (by decide +kernel) ⟨Nat.le_of_ble_eq_true rfl, Nat.le_of_ble_eq_true rfl⟩) (hb_preV hK hX hW t71 (by decide) rfl) rfl rfl hl.1 rfl (lv_room (Nat.le_of_ble_eq_true rfl)) d_DV_ofAbsolutes_100 ⟨(by show _ ≤ 0; omega), (by show _ ≤ 0; omega)⟩) hW (fun r78 h77 H locs hk hW => ?_)
      obtain ⟨w, mm79⟩ := hk
      have w := w mm79
      have hm := hm.tr mm79
      have t80 := mm79.tg t71 (by decide)
      have t81 := mm79.tg t74 (by decide)
      obtain ⟨t82, w⟩ := w
      obtain ⟨i83, w⟩ := w
      refine hb_last hx hb hK hW t82 (by decide) (by decide) 2 rfl i83 d_DV_ofAbsolutes_103 (fun H locs h84 eh84 hW => ?_)
      have w := w h84 eh84
      have mm85 : ah_m h77 h84 := ah_m.rf.st (by rw [eh84]; rfl) (by rw [eh84]; rfl)
      have hm := hm.tr mm85
      have t86 := mm85.tg t80 (by decide)
      have t87 := mm85.tg t81 (by decide)
      have t88 := mm85.tg t82 (by decide)
      obtain ⟨v89, ev89⟩ : ∃ y9 : Int32, y9 = x68 + (-1) := ⟨_, rfl⟩
      have w := w v89 ev89
      refine lv_iinc (v := v89) (lv' := [(5, .int v89), (0, .ref x65), (3, .int x66), (4, .int x67)]) hx hb d_DV_ofAbsolutes_104 hl (k := 3) rfl (by rw [ev89]; rfl) (by decide) rfl (fun ls hl => ?_)
      refine lv_goto (tgt := 83) hx hb d_DV_ofAbsolutes_107 (by decide) ?_
      exact ih x65 x66 x67 v89 h84 _ _ _ w hm hW (lv_sub hl [1, 2, 3, 0] rfl)
set_option maxHeartbeats 4000000 in
set_option maxRecDepth 100000 in
theorem m_DV_ofAbsolutes {l : Launch} (G : zG) (a1 : Nat) (a2 : Nat) (a3 : Nat) (h0 : ah_H) {K : ah_H → Prop} (hst : l.stackTraces = false) (w : w_DV_ofAbsolutes a1 a2 a3 h0 K) : Met l y_DV_ofAbsolutes (Cond.code y_DV_ofAbsolutes b_DV_ofAbsolutes 6 none :: zx_T) rm_DV_ofAbsolutes (va_Pc [.ref a1, .ref a2, .ref a3] (ah_B G h0)) (va_Qv (fun h9 => K h9 ∧ ah_m h0 h9) (ah_B G) (fun q => G.2.2 ≤ q)) 0 0 (fun q => G.2.2 ≤ q) := by
  refine Met.ofW (cc := b_DV_ofAbsolutes) (maxL := 6) (ret := none) (by decide) rfl ?_
  intro p e s m args below meth c s₁ B hml hv
  have htb := cx_out B (atoms_spec B.pre _ List.mem_cons_self)
  obtain ⟨rfl, hB⟩ := hv
  have C : cx_C p l s m _ meth c G y_DV_ofAbsolutes b_DV_ofAbsolutes 6 none "BigDesk$Division" (Cond.code y_DV_ofAbsolutes b_DV_ofAbsolutes 6 none :: zx_T) [] := ⟨B.exec, B.bytes, B.returns, hml, findClass_of_methodNamed B.named, atoms_spec B.pre, cx_hd, B.notSynchronized, hB.2.2.1, hB.2.2.2, htb, fun z9 => (name_of_methodNamed B.named B.method).1.trans z9, hst⟩
  obtain ⟨hx, hb, hr, hml, hown, hts, hT, hlk, hK, hX, htb, hin, hst⟩ := id C
  have hw : ∀ {w9 : Cond}, w9 ∈ zx_T → w9.before _ s = true := fun h9 => hts _ (hT _ h9)
  have hW : ah_W G s.heap h0 s.heap [] := ⟨hB.1, hB.2.1, va_S.rf⟩
  have hm : ah_m h0 h0 := ah_m.rf
  have hcl : 0 + 0 ≤ 0 := by decide
  have hsl : 0 + 0 ≤ 0 := by decide
  have hl := lv_entry ([.ref a1, .ref a2, .ref a3]) (n := 6) (Nat.le_of_ble_eq_true rfl)
  rw [lg_entry_eq]
  generalize (lg_sl ([.ref a1, .ref a2, .ref a3]) ++ List.replicate (6 - (lg_sl ([.ref a1, .ref a2, .ref a3])).length) Slot.unset).toArray = ls at hl ⊢
  have hl : lv_has ls 6 [(0, .ref a1), (1, .ref a2), (2, .ref a3)] := hl
  unfold w_DV_ofAbsolutes at w
  refine lv_aload_n hx hb d_DV_ofAbsolutes_0 rfl (lv_at hl 0 rfl) ?_
  obtain ⟨t4, w⟩ := w
  obtain ⟨q5, e6, w⟩ := w
  refine hb_get (ci := 1) (C := "BigDesk$Division") (T := T_DV) (N := 3) hx hb hts (fun w9 h9 => hT w9 (u_DV w9 h9)) hown hK hW t4 rfl (by decide) 0 (by decide) (hw wd_64) (fun _ h9 => h9) (q := (2, 2)) rfl (v := .ref q5) (ah_f_R e6) d_DV_ofAbsolutes_1 ?_
  obtain ⟨t7, w⟩ := w
  refine hb_callv (va_runV (As := []) (rest := []) ⟨hx, hb, hml, hown, hts⟩ (m_WH_clear G q5 h0 hst w) (cwV 0 hts (zx_gV hT wd_408 wd_409 wd_410 wd_2 wd_411) rfl rfl rfl (by decide +kernel) ⟨Nat.le_of_ble_eq_true rfl, Nat.le_of_ble_eq_true rfl⟩) (hb_preV hK hX hW t7 (by decide) rfl) rfl rfl hl.1 rfl (lv_room (Nat.le_of_ble_eq_true rfl)) d_DV_ofAbsolutes_4 ⟨(by show _ ≤ 0; omega), (by show _ ≤ 0; omega)⟩) hW (fun h8 H locs hk hW => ?_)
  obtain ⟨w, mm9⟩ := hk
  have w := w mm9
  have hm := hm.tr mm9
  have t10 := mm9.tg t4 (by decide)
  have t11 := mm9.tg t7 (by decide)
  refine lv_aload_n hx hb d_DV_ofAbsolutes_7 rfl (lv_at hl 0 rfl) ?_
  obtain ⟨q12, e13, w⟩ := w
  refine hb_get (ci := 1) (C := "BigDesk$Division") (T := T_DV) (N := 3) hx hb hts (fun w9 h9 => hT w9 (u_DV w9 h9)) hown hK hW t10 rfl (by decide) 1 (by decide) (hw wd_66) (fun _ h9 => h9) (q := (2, 3)) rfl (v := .ref q12) (ah_f_R e13) d_DV_ofAbsolutes_8 ?_
  obtain ⟨t14, w⟩ := w
  refine hb_callv (va_runV (As := []) (rest := []) ⟨hx, hb, hml, hown, hts⟩ (m_WH_clear G q12 h8 hst w) (cwV 0 hts (zx_gV hT wd_408 wd_409 wd_410 wd_2 wd_411) rfl rfl rfl (by decide +kernel) ⟨Nat.le_of_ble_eq_true rfl, Nat.le_of_ble_eq_true rfl⟩) (hb_preV hK hX hW t14 (by decide) rfl) rfl rfl hl.1 rfl (lv_room (Nat.le_of_ble_eq_true rfl)) d_DV_ofAbsolutes_11 ⟨(by show _ ≤ 0; omega), (by show _ ≤ 0; omega)⟩) hW (fun h15 H locs hk hW => ?_)
  obtain ⟨w, mm16⟩ := hk
  have w := w mm16
  have hm := hm.tr mm16
  have t17 := mm16.tg t10 (by decide)
  have t18 := mm16.tg t11 (by decide)
  have t19 := mm16.tg t14 (by decide)
  refine lv_aload_n hx hb d_DV_ofAbsolutes_14 rfl (lv_at hl 2 rfl) ?_
  obtain ⟨t20, w⟩ := w
  refine hb_get (ci := 2) (C := "BigDesk$Whole") (T := T_WH) (N := 3) hx hb hts (fun w9 h9 => hT w9 (u_WH w9 h9)) hown hK hW t20 rfl (by decide) 1 (by decide) (hw wd_38) (fun _ h9 => h9) (q := (0, 0)) rfl (v := .int (ah_I h15 0 a3)) rfl d_DV_ofAbsolutes_15 ?_
  refine lv_if_eq (tgt := 31) hx hb d_DV_ofAbsolutes_18 (by decide) (fun c21 => ?_) (fun c21 => ?_)
  · have w := w.1 c21
    exact tb_DV_ofAbsolutes_31 C (by omega) (by omega)   h15 _ _ _ w hm hW (lv_sub hl [] rfl)
  · have w := w.2 c21
    refine lv_aload_n hx hb d_DV_ofAbsolutes_21 rfl (lv_at hl 1 rfl) ?_
    obtain ⟨t23, w⟩ := w
    refine hb_get (ci := 2) (C := "BigDesk$Whole") (T := T_WH) (N := 3) hx hb hts (fun w9 h9 => hT w9 (u_WH w9 h9)) hown hK hW t23 rfl (by decide) 1 (by decide) (hw wd_38) (fun _ h9 => h9) (q := (0, 0)) rfl (v := .int (ah_I h15 0 a2)) rfl d_DV_ofAbsolutes_22 ?_
    refine lv_sipush (v := 258) hx hb d_DV_ofAbsolutes_25 (by decide) ?_
    refine lv_icmp_lt (tgt := 32) hx hb d_DV_ofAbsolutes_28 (by decide) (fun c24 => ?_) (fun c24 => ?_)
    · have w := w.1 c24
      refine lv_bipush (v := 32) hx hb d_DV_ofAbsolutes_32 (by decide) ?_
      refine lv_aload_n hx hb d_DV_ofAbsolutes_34 rfl (lv_at hl 2 rfl) ?_
      obtain ⟨q25, e26, w⟩ := w
      refine hb_get (ci := 2) (C := "BigDesk$Whole") (T := T_WH) (N := 3) hx hb hts (fun w9 h9 => hT w9 (u_WH w9 h9)) hown hK hW t20 rfl (by decide) 0 (by decide) (hw wd_34) (fun _ h9 => h9) (q := (2, 5)) rfl (v := .ref q25) (ah_f_R e26) d_DV_ofAbsolutes_35 ?_
      refine lv_aload_n hx hb d_DV_ofAbsolutes_38 rfl (lv_at hl 2 rfl) ?_
      refine hb_get (ci := 2) (C := "BigDesk$Whole") (T := T_WH) (N := 3) hx hb hts (fun w9 h9 => hT w9 (u_WH w9 h9)) hown hK hW t20 rfl (by decide) 1 (by decide) (hw wd_38) (fun _ h9 => h9) (q := (0, 0)) rfl (v := .int (ah_I h15 0 a3)) rfl d_DV_ofAbsolutes_39 ?_
      refine lv_iconst (v := 1) hx hb d_DV_ofAbsolutes_42 (by decide) ?_
      refine lv_isub hx hb d_DV_ofAbsolutes_43 ?_
      obtain ⟨t27, w⟩ := w
      obtain ⟨i28, w⟩ := w
      refine hb_lald hx hb hK hW t27 (by decide) (by decide) 2 rfl i28 d_DV_ofAbsolutes_44 ?_
      refine hb_calli (va_runS (As := [.long (ah_bL h15 q25 ((ah_I h15 0 a3) - (1 : Int32)).toNatClampNeg)]) (rest := [.int (32 : Int32)]) ⟨hx, hb, hml, hown, hts⟩ (m_WH_bitsOf G (ah_bL h15 q25 ((ah_I h15 0 a3) - (1 : Int32)).toNatClampNeg) h15 hst w) (va_cwS 1 hts (zx_gS hT wd_412 wd_278 wd_2 wd_279) rfl rfl rfl (by decide +kernel) ⟨Nat.le_of_ble_eq_true rfl, Nat.le_of_ble_eq_true rfl⟩) (hb_preS hK hX hW) rfl rfl hl.1 rfl (lv_room (Nat.le_of_ble_eq_true rfl)) d_DV_ofAbsolutes_45 ⟨(by show _ ≤ 0; omega), (by show _ ≤ 0; omega)⟩) hW (fun r30 h29 H locs hk hW => ?_)
      obtain ⟨w, mm31⟩ := hk
      have w := w mm31
      have hm := hm.tr mm31
      have t32 := mm31.tg t17 (by decide)
      have t33 := mm31.tg t18 (by decide)
      have t34 := mm31.tg t19 (by decide)
      have t35 := mm31.tg t20 (by decide)
      have t36 := mm31.tg t23 (by decide)
      have t37 := mm31.tg t27 (by decide)
      refine lv_isub hx hb d_DV_ofAbsolutes_48 ?_
      refine lv_topi (fun v38 ev38 => ?_)
      have w := w v38 ev38
      refine lv_istore_n (lv' := [(3, .int v38), (0, .ref a1), (1, .ref a2), (2, .ref a3)]) hx hb d_DV_ofAbsolutes_49 rfl hl (by decide) rfl (fun ls hl => ?_)
      refine lv_aload_n hx hb d_DV_ofAbsolutes_50 rfl (lv_at hl 1 rfl) ?_
      obtain ⟨q39, e40, w⟩ := w
      refine hb_get (ci := 1) (C := "BigDesk$Division") (T := T_DV) (N := 3) hx hb hts (fun w9 h9 => hT w9 (u_DV w9 h9)) hown hK hW t32 rfl (by decide) 1 (by decide) (hw wd_66) (fun _ h9 => h9) (q := (2, 3)) rfl (v := .ref q39) (ah_f_R e40) d_DV_ofAbsolutes_51 ?_
      refine lv_aload_n hx hb d_DV_ofAbsolutes_54 rfl (lv_at hl 2 rfl) ?_
      refine lv_iload_n hx hb d_DV_ofAbsolutes_55 rfl (lv_at hl 0 rfl) ?_
      obtain ⟨t41, w⟩ := w
      refine hb_callv (va_runV (As := [.ref a2, .int v38]) (rest := []) ⟨hx, hb, hml, hown, hts⟩ (m_WH_becomeShiftedUp G q39 a2 v38 h29 hst w) (cwV 2 hts (zx_gV hT wd_413 wd_339 wd_340 wd_2 wd_341) rfl rfl rfl (by decide +kernel) ⟨Nat.le_of_ble_eq_true rfl, Nat.le_of_ble_eq_true rfl⟩) (hb_preV hK hX hW t41 (by decide) rfl) rfl rfl hl.1 rfl (lv_room (Nat.le_of_ble_eq_true rfl)) d_DV_ofAbsolutes_56 ⟨(by show _ ≤ 0; omega), (by show _ ≤ 0; omega)⟩) hW (fun h42 H locs hk hW => ?_)
      obtain ⟨w, mm43⟩ := hk
      have w := w mm43
      have hm := hm.tr mm43
      have t44 := mm43.tg t32 (by decide)
      have t45 := mm43.tg t33 (by decide)
      have t46 := mm43.tg t34 (by decide)
      have t47 := mm43.tg t35 (by decide)
      have t48 := mm43.tg t36 (by decide)
      have t49 := mm43.tg t37 (by decide)
      have t50 := mm43.tg t41 (by decide)
      refine lv_aload_n hx hb d_DV_ofAbsolutes_59 rfl (lv_at hl 1 rfl) ?_
      obtain ⟨q51, e52, w⟩ := w
      refine hb_get (ci := 1) (C := "BigDesk$Division") (T := T_DV) (N := 3) hx hb hts (fun w9 h9 => hT w9 (u_DV w9 h9)) hown hK hW t44 rfl (by decide) 2 (by decide) (hw wd_69) (fun _ h9 => h9) (q := (2, 4)) rfl (v := .ref q51) (ah_f_R e52) d_DV_ofAbsolutes_60 ?_
      refine lv_aload_n hx hb d_DV_ofAbsolutes_63 rfl (lv_at hl 3 rfl) ?_
      refine lv_iload_n hx hb d_DV_ofAbsolutes_64 rfl (lv_at hl 0 rfl) ?_
      obtain ⟨t53, w⟩ := w
      refine hb_callv (va_runV (As := [.ref a3, .int v38]) (rest := []) ⟨hx, hb, hml, hown, hts⟩ (m_WH_becomeShiftedUp G q51 a3 v38 h42 hst w) (cwV 2 hts (zx_gV hT wd_413 wd_339 wd_340 wd_2 wd_341) rfl rfl rfl (by decide +kernel) ⟨Nat.le_of_ble_eq_true rfl, Nat.le_of_ble_eq_true rfl⟩) (hb_preV hK hX hW t53 (by decide) rfl) rfl rfl hl.1 rfl (lv_room (Nat.le_of_ble_eq_true rfl)) d_DV_ofAbsolutes_65 ⟨(by show _ ≤ 0; omega), (by show _ ≤ 0; omega)⟩) hW (fun h54 H locs hk hW => ?_)
      obtain ⟨w, mm55⟩ := hk
      have w := w mm55
      have hm := hm.tr mm55
      have t56 := mm55.tg t44 (by decide)
      have t57 := mm55.tg t45 (by decide)
      have t58 := mm55.tg t46 (by decide)
      have t59 := mm55.tg t47 (by decide)
      have t60 := mm55.tg t48 (by decide)
      have t61 := mm55.tg t49 (by decide)
      have t62 := mm55.tg t50 (by decide)
      have t63 := mm55.tg t53 (by decide)
      refine lv_aload_n hx hb d_DV_ofAbsolutes_68 rfl (lv_at hl 2 rfl) ?_
      refine hb_get (ci := 2) (C := "BigDesk$Whole") (T := T_WH) (N := 3) hx hb hts (fun w9 h9 => hT w9 (u_WH w9 h9)) hown hK hW t60 rfl (by decide) 1 (by decide) (hw wd_38) (fun _ h9 => h9) (q := (0, 0)) rfl (v := .int (ah_I h54 0 a2)) rfl d_DV_ofAbsolutes_69 ?_
      refine lv_aload_n hx hb d_DV_ofAbsolutes_72 rfl (lv_at hl 3 rfl) ?_
      refine hb_get (ci := 2) (C := "BigDesk$Whole") (T := T_WH) (N := 3) hx hb hts (fun w9 h9 => hT w9 (u_WH w9 h9)) hown hK hW t59 rfl (by decide) 1 (by decide) (hw wd_38) (fun _ h9 => h9) (q := (0, 0)) rfl (v := .int (ah_I h54 0 a3)) rfl d_DV_ofAbsolutes_73 ?_
      refine lv_isub hx hb d_DV_ofAbsolutes_76 ?_
      refine lv_topi (fun v64 ev64 => ?_)
      have w := w v64 ev64
      refine lv_istore (lv' := [(4, .int v64), (3, .int v38), (0, .ref a1), (1, .ref a2), (2, .ref a3)]) hx hb d_DV_ofAbsolutes_77 hl (by decide) rfl (fun ls hl => ?_)
      refine lv_iload hx hb d_DV_ofAbsolutes_79 (lv_at hl 0 rfl) ?_
      refine lv_istore (lv' := [(5, .int v64), (4, .int v64), (3, .int v38), (0, .ref a1), (1, .ref a2), (2, .ref a3)]) hx hb d_DV_ofAbsolutes_81 hl (by decide) rfl (fun ls hl => ?_)
      obtain ⟨k112, w⟩ := w
      refine tl_DV_ofAbsolutes_83 C (by omega) (by omega) (fun x90 x91 x92 h93 H locs ls w hm hW hl => ?_) k112 a1 v38 v64 v64 h54 _ _ _ w hm hW (lv_sub hl [3, 2, 1, 0] rfl)
      · refine lv_aload_n hx hb d_DV_ofAbsolutes_110 rfl (lv_at hl 0 rfl) ?_
        obtain ⟨t94, w⟩ := w
        obtain ⟨q95, e96, w⟩ := w
        refine hb_get (ci := 1) (C := "BigDesk$Division") (T := T_DV) (N := 3) hx hb hts (fun w9 h9 => hT w9 (u_DV w9 h9)) hown hK hW t94 rfl (by decide) 0 (by decide) (hw wd_64) (fun _ h9 => h9) (q := (2, 2)) rfl (v := .ref q95) (ah_f_R e96) d_DV_ofAbsolutes_111 ?_
        refine lv_iload hx hb d_DV_ofAbsolutes_114 (lv_at hl 2 rfl) ?_
        refine lv_iconst (v := 1) hx hb d_DV_ofAbsolutes_116 (by decide) ?_
        refine lv_iadd hx hb d_DV_ofAbsolutes_117 ?_
        refine lv_iconst (v := 0) hx hb d_DV_ofAbsolutes_118 (by decide) ?_
        refine va_mmax hx hb (by rw [hml]; exact hl.1.symm) hown (hw wd_436) (hw wd_255) (hw wd_12) (hw wd_256) (Nat.le_of_ble_eq_true rfl) (Nat.le_of_ble_eq_true rfl) (by show _ ≤ 0; omega) (by show _ ≤ 0; omega) d_DV_ofAbsolutes_119 ?_
        obtain ⟨t97, w⟩ := w
        refine hb_callv (va_runV (As := [.int (if (x92 + (1 : Int32)) < (0 : Int32) then (0 : Int32) else (x92 + (1 : Int32)))]) (rest := []) ⟨hx, hb, hml, hown, hts⟩ (m_WH_settle G q95 (if (x92 + (1 : Int32)) < (0 : Int32) then (0 : Int32) else (x92 + (1 : Int32))) h93 hst w) (cwV 1 hts (zx_gV hT wd_437 wd_219 wd_220 wd_2 wd_221) rfl rfl rfl (by decide +kernel) ⟨Nat.le_of_ble_eq_true rfl, Nat.le_of_ble_eq_true rfl⟩) (hb_preV hK hX hW t97 (by decide) rfl) rfl rfl hl.1 rfl (lv_room (Nat.le_of_ble_eq_true rfl)) d_DV_ofAbsolutes_122 ⟨(by show _ ≤ 0; omega), (by show _ ≤ 0; omega)⟩) hW (fun h98 H locs hk hW => ?_)
        obtain ⟨w, mm99⟩ := hk
        have w := w mm99
        have hm := hm.tr mm99
        have t100 := mm99.tg t94 (by decide)
        have t101 := mm99.tg t97 (by decide)
        refine lv_aload_n hx hb d_DV_ofAbsolutes_125 rfl (lv_at hl 0 rfl) ?_
        obtain ⟨q102, e103, w⟩ := w
        refine hb_get (ci := 1) (C := "BigDesk$Division") (T := T_DV) (N := 3) hx hb hts (fun w9 h9 => hT w9 (u_DV w9 h9)) hown hK hW t100 rfl (by decide) 1 (by decide) (hw wd_66) (fun _ h9 => h9) (q := (2, 3)) rfl (v := .ref q102) (ah_f_R e103) d_DV_ofAbsolutes_126 ?_
        refine lv_aload_n hx hb d_DV_ofAbsolutes_129 rfl (lv_at hl 0 rfl) ?_
        obtain ⟨q104, e105, w⟩ := w
        refine hb_get (ci := 1) (C := "BigDesk$Division") (T := T_DV) (N := 3) hx hb hts (fun w9 h9 => hT w9 (u_DV w9 h9)) hown hK hW t100 rfl (by decide) 1 (by decide) (hw wd_66) (fun _ h9 => h9) (q := (2, 3)) rfl (v := .ref q104) (ah_f_R e105) d_DV_ofAbsolutes_130 ?_
        refine lv_iload_n hx hb d_DV_ofAbsolutes_133 rfl (lv_at hl 1 rfl) ?_
        obtain ⟨t106, w⟩ := w
        refine hb_callv (va_runV (As := [.ref q104, .int x91]) (rest := []) ⟨hx, hb, hml, hown, hts⟩ (m_WH_becomeShiftedDown G q102 q104 x91 h98 hst w) (cwV 2 hts (zx_gV hT wd_438 wd_356 wd_357 wd_2 wd_358) rfl rfl rfl (by decide +kernel) ⟨Nat.le_of_ble_eq_true rfl, Nat.le_of_ble_eq_true rfl⟩) (hb_preV hK hX hW t106 (by decide) rfl) rfl rfl hl.1 rfl (lv_room (Nat.le_of_ble_eq_true rfl)) d_DV_ofAbsolutes_134 ⟨(by show _ ≤ 0; omega), (by show _ ≤ 0; omega)⟩) hW (fun h107 H locs hk hW => ?_)
        obtain ⟨w, mm108⟩ := hk
        have w := w mm108
        have hm := hm.tr mm108
        have t109 := mm108.tg t100 (by decide)
        have t110 := mm108.tg t101 (by decide)
        have t111 := mm108.tg t106 (by decide)
        exact hb_vret (K := fun h9 => K h9 ∧ ah_m h0 h9) hx hb hr hlk hK hX hW ⟨w, hm⟩ (by omega) (by omega) d_DV_ofAbsolutes_137
    · have w := w.2 c24
      exact tb_DV_ofAbsolutes_31 C (by omega) (by omega)   h15 _ _ _ w hm hW (lv_sub hl [] rfl)
set_option maxHeartbeats 4000000 in
set_option maxRecDepth 100000 in
theorem tb_DV_downwards_56 {p : Program} {l : Launch} {e : Env} {s : State} {m : MethodId} {args : Array Value} {below : List Frame} {meth : Method} {c : Code} {G : zG} (C : cx_C p l s m args meth c G y_DV_downwards b_DV_downwards 4 none "BigDesk$Division" (Cond.code y_DV_downwards b_DV_downwards 4 none :: zx_T) []) {K : ah_H → Prop} {h0 : ah_H} {cells slots : Nat} (hcl : cells + 0 ≤ 0) (hsl : slots + 0 ≤ 0)  (x16 : Nat) (x17 : Nat) (x18 : Int32) (h19 : ah_H) (H : Heap) (locs : List Loc) (ls : Array Slot) (w : bk_DV_downwards_56 K x16 x17 x18 h19) (hm : ah_m h0 h19) (hW : ah_W G s.heap h19 H locs) (hl : lv_has ls 4 [(0, .ref x16), (2, .ref x17), (3, .int x18)]) : W p l e rm_DV_downwards s m args below meth c H locs cells slots (MQ below (va_Qv (fun h9 => K h9 ∧ ah_m h0 h9) (ah_B G) (fun q => G.2.2 ≤ q)) args s 0 0 (fun q => G.2.2 ≤ q)) (F0 m 56 ls []) := by
  unfold bk_DV_downwards_56 at w
  obtain ⟨hx, hb, hr, hml, hown, hts, hT, hlk, hK, hX, htb, hin, hst⟩ := id C
  have hw : ∀ {w9 : Cond}, w9 ∈ zx_T → w9.before _ s = true := fun h9 => hts _ (hT _ h9)
  refine lv_aload_n hx hb d_DV_downwards_56 rfl (lv_at hl 0 rfl) ?_
  obtain ⟨t20, w⟩ := w
  obtain ⟨q21, e22, w⟩ := w
  refine hb_get (ci := 1) (C := "BigDesk$Division") (T := T_DV) (N := 3) hx hb hts (fun w9 h9 => hT w9 (u_DV w9 h9)) hown hK hW t20 rfl (by decide) 0 (by decide) (hw wd_64) (fun _ h9 => h9) (q := (2, 2)) rfl (v := .ref q21) (ah_f_R e22) d_DV_downwards_57 ?_
  refine lv_iload_n hx hb d_DV_downwards_60 rfl (lv_at hl 2 rfl) ?_
  obtain ⟨t23, w⟩ := w
  refine hb_callv (va_runV (As := [.int x18]) (rest := []) ⟨hx, hb, hml, hown, hts⟩ (m_WH_markSign G q21 x18 h19 hst w) (cwV 1 hts (zx_gV hT wd_441 wd_223 wd_224 wd_2 wd_225) rfl rfl rfl (by decide +kernel) ⟨Nat.le_of_ble_eq_true rfl, Nat.le_of_ble_eq_true rfl⟩) (hb_preV hK hX hW t23 (by decide) rfl) rfl rfl hl.1 rfl (lv_room (Nat.le_of_ble_eq_true rfl)) d_DV_downwards_61 ⟨(by show _ ≤ 0; omega), (by show _ ≤ 0; omega)⟩) hW (fun h24 H locs hk hW => ?_)
  obtain ⟨w, mm25⟩ := hk
  have w := w mm25
  have hm := hm.tr mm25
  have t26 := mm25.tg t20 (by decide)
  have t27 := mm25.tg t23 (by decide)
  refine lv_aload_n hx hb d_DV_downwards_64 rfl (lv_at hl 0 rfl) ?_
  obtain ⟨q28, e29, w⟩ := w
  refine hb_get (ci := 1) (C := "BigDesk$Division") (T := T_DV) (N := 3) hx hb hts (fun w9 h9 => hT w9 (u_DV w9 h9)) hown hK hW t26 rfl (by decide) 1 (by decide) (hw wd_66) (fun _ h9 => h9) (q := (2, 3)) rfl (v := .ref q28) (ah_f_R e29) d_DV_downwards_65 ?_
  refine lv_aload_n hx hb d_DV_downwards_68 rfl (lv_at hl 1 rfl) ?_
  obtain ⟨t30, w⟩ := w
  refine hb_get (ci := 2) (C := "BigDesk$Whole") (T := T_WH) (N := 3) hx hb hts (fun w9 h9 => hT w9 (u_WH w9 h9)) hown hK hW t30 rfl (by decide) 2 (by decide) (hw wd_45) (fun _ h9 => h9) (q := (0, 1)) rfl (v := .int (ah_I h24 1 x17)) rfl d_DV_downwards_69 ?_
  obtain ⟨t31, w⟩ := w
  refine hb_callv (va_runV (As := [.int (ah_I h24 1 x17)]) (rest := []) ⟨hx, hb, hml, hown, hts⟩ (m_WH_markSign G q28 (ah_I h24 1 x17) h24 hst w) (cwV 1 hts (zx_gV hT wd_441 wd_223 wd_224 wd_2 wd_225) rfl rfl rfl (by decide +kernel) ⟨Nat.le_of_ble_eq_true rfl, Nat.le_of_ble_eq_true rfl⟩) (hb_preV hK hX hW t31 (by decide) rfl) rfl rfl hl.1 rfl (lv_room (Nat.le_of_ble_eq_true rfl)) d_DV_downwards_72 ⟨(by show _ ≤ 0; omega), (by show _ ≤ 0; omega)⟩) hW (fun h32 H locs hk hW => ?_)
  obtain ⟨w, mm33⟩ := hk
  have w := w mm33
  have hm := hm.tr mm33
  have t34 := mm33.tg t26 (by decide)
  have t35 := mm33.tg t27 (by decide)
  have t36 := mm33.tg t30 (by decide)
  have t37 := mm33.tg t31 (by decide)
  exact hb_vret (K := fun h9 => K h9 ∧ ah_m h0 h9) hx hb hr hlk hK hX hW ⟨w, hm⟩ (by omega) (by omega) d_DV_downwards_75
set_option maxHeartbeats 4000000 in
set_option maxRecDepth 100000 in
theorem tb_DV_downwards_22 {p : Program} {l : Launch} {e : Env} {s : State} {m : MethodId} {args : Array Value} {below : List Frame} {meth : Method} {c : Code} {G : zG} (C : cx_C p l s m args meth c G y_DV_downwards b_DV_downwards 4 none "BigDesk$Division" (Cond.code y_DV_downwards b_DV_downwards 4 none :: zx_T) []) {K : ah_H → Prop} {h0 : ah_H} {cells slots : Nat} (hcl : cells + 0 ≤ 0) (hsl : slots + 0 ≤ 0)  (x11 : Nat) (x12 : Nat) (s13 : Int32) (h14 : ah_H) (H : Heap) (locs : List Loc) (ls : Array Slot) (w : bk_DV_downwards_22 K x11 x12 s13 h14) (hm : ah_m h0 h14) (hW : ah_W G s.heap h14 H locs) (hl : lv_has ls 4 [(0, .ref x11), (2, .ref x12)]) : W p l e rm_DV_downwards s m args below meth c H locs cells slots (MQ below (va_Qv (fun h9 => K h9 ∧ ah_m h0 h9) (ah_B G) (fun q => G.2.2 ≤ q)) args s 0 0 (fun q => G.2.2 ≤ q)) (F0 m 22 ls [.int s13]) := by
  unfold bk_DV_downwards_22 at w
  obtain ⟨hx, hb, hr, hml, hown, hts, hT, hlk, hK, hX, htb, hin, hst⟩ := id C
  have hw : ∀ {w9 : Cond}, w9 ∈ zx_T → w9.before _ s = true := fun h9 => hts _ (hT _ h9)
  refine lv_istore_n (lv' := [(3, .int s13), (0, .ref x11), (2, .ref x12)]) hx hb d_DV_downwards_22 rfl hl (by decide) rfl (fun ls hl => ?_)
  refine lv_iload_n hx hb d_DV_downwards_23 rfl (lv_at hl 0 rfl) ?_
  refine lv_if_eq (tgt := 56) hx hb d_DV_downwards_24 (by decide) (fun c15 => ?_) (fun c15 => ?_)
  · have w := w.1 c15
    exact tb_DV_downwards_56 C (by omega) (by omega)  x11 x12 s13 h14 _ _ _ w hm hW (lv_sub hl [1, 2, 0] rfl)
  · have w := w.2 c15
    refine lv_aload_n hx hb d_DV_downwards_27 rfl (lv_at hl 1 rfl) ?_
    obtain ⟨t38, w⟩ := w
    obtain ⟨q39, e40, w⟩ := w
    refine hb_get (ci := 1) (C := "BigDesk$Division") (T := T_DV) (N := 3) hx hb hts (fun w9 h9 => hT w9 (u_DV w9 h9)) hown hK hW t38 rfl (by decide) 1 (by decide) (hw wd_66) (fun _ h9 => h9) (q := (2, 3)) rfl (v := .ref q39) (ah_f_R e40) d_DV_downwards_28 ?_
    obtain ⟨t41, w⟩ := w
    refine hb_get (ci := 2) (C := "BigDesk$Whole") (T := T_WH) (N := 3) hx hb hts (fun w9 h9 => hT w9 (u_WH w9 h9)) hown hK hW t41 rfl (by decide) 1 (by decide) (hw wd_38) (fun _ h9 => h9) (q := (0, 0)) rfl (v := .int (ah_I h14 0 q39)) rfl d_DV_downwards_31 ?_
    refine lv_if_le (tgt := 56) hx hb d_DV_downwards_34 (by decide) (fun c42 => ?_) (fun c42 => ?_)
    · have w := w.1 c42
      exact tb_DV_downwards_56 C (by omega) (by omega)  x11 x12 s13 h14 _ _ _ w hm hW (lv_sub hl [1, 2, 0] rfl)
    · have w := w.2 c42
      refine lv_aload_n hx hb d_DV_downwards_37 rfl (lv_at hl 1 rfl) ?_
      obtain ⟨q43, e44, w⟩ := w
      refine hb_get (ci := 1) (C := "BigDesk$Division") (T := T_DV) (N := 3) hx hb hts (fun w9 h9 => hT w9 (u_DV w9 h9)) hown hK hW t38 rfl (by decide) 0 (by decide) (hw wd_64) (fun _ h9 => h9) (q := (2, 2)) rfl (v := .ref q43) (ah_f_R e44) d_DV_downwards_38 ?_
      obtain ⟨t45, w⟩ := w
      refine hb_callv (va_runV (As := []) (rest := []) ⟨hx, hb, hml, hown, hts⟩ (m_WH_addOne G q43 h14 hst w) (cwV 0 hts (zx_gV hT wd_439 wd_372 wd_373 wd_2 wd_374) rfl rfl rfl (by decide +kernel) ⟨Nat.le_of_ble_eq_true rfl, Nat.le_of_ble_eq_true rfl⟩) (hb_preV hK hX hW t45 (by decide) rfl) rfl rfl hl.1 rfl (lv_room (Nat.le_of_ble_eq_true rfl)) d_DV_downwards_41 ⟨(by show _ ≤ 0; omega), (by show _ ≤ 0; omega)⟩) hW (fun h46 H locs hk hW => ?_)
      obtain ⟨w, mm47⟩ := hk
      have w := w mm47
      have hm := hm.tr mm47
      have t48 := mm47.tg t38 (by decide)
      have t49 := mm47.tg t41 (by decide)
      have t50 := mm47.tg t45 (by decide)
      refine lv_aload_n hx hb d_DV_downwards_44 rfl (lv_at hl 1 rfl) ?_
      obtain ⟨q51, e52, w⟩ := w
      refine hb_get (ci := 1) (C := "BigDesk$Division") (T := T_DV) (N := 3) hx hb hts (fun w9 h9 => hT w9 (u_DV w9 h9)) hown hK hW t48 rfl (by decide) 1 (by decide) (hw wd_66) (fun _ h9 => h9) (q := (2, 3)) rfl (v := .ref q51) (ah_f_R e52) d_DV_downwards_45 ?_
      refine lv_aload_n hx hb d_DV_downwards_48 rfl (lv_at hl 2 rfl) ?_
      refine lv_aload_n hx hb d_DV_downwards_49 rfl (lv_at hl 1 rfl) ?_
      obtain ⟨q53, e54, w⟩ := w
      refine hb_get (ci := 1) (C := "BigDesk$Division") (T := T_DV) (N := 3) hx hb hts (fun w9 h9 => hT w9 (u_DV w9 h9)) hown hK hW t48 rfl (by decide) 1 (by decide) (hw wd_66) (fun _ h9 => h9) (q := (2, 3)) rfl (v := .ref q53) (ah_f_R e54) d_DV_downwards_50 ?_
      refine hb_callv (va_runS (As := [.ref q51, .ref x12, .ref q53]) (rest := []) ⟨hx, hb, hml, hown, hts⟩ (m_SU_differenceOfAbsolutes G q51 x12 q53 h46 hst w) (va_cwS 3 hts (zx_gS hT wd_440 wd_267 wd_11 wd_268) rfl rfl rfl (by decide +kernel) ⟨Nat.le_of_ble_eq_true rfl, Nat.le_of_ble_eq_true rfl⟩) (hb_preS hK hX hW) rfl rfl hl.1 rfl (lv_room (Nat.le_of_ble_eq_true rfl)) d_DV_downwards_53 ⟨(by show _ ≤ 0; omega), (by show _ ≤ 0; omega)⟩) hW (fun h55 H locs hk hW => ?_)
      obtain ⟨w, mm56⟩ := hk
      have w := w mm56
      have hm := hm.tr mm56
      have t57 := mm56.tg t48 (by decide)
      have t58 := mm56.tg t49 (by decide)
      have t59 := mm56.tg t50 (by decide)
      exact tb_DV_downwards_56 C (by omega) (by omega)  x11 x12 s13 h55 _ _ _ w hm hW (lv_sub hl [1, 2, 0] rfl)
set_option maxHeartbeats 4000000 in
set_option maxRecDepth 100000 in
theorem m_DV_downwards {l : Launch} (G : zG) (a1 : Nat) (a2 : Nat) (a3 : Nat) (h0 : ah_H) {K : ah_H → Prop} (hst : l.stackTraces = false) (w : w_DV_downwards a1 a2 a3 h0 K) : Met l y_DV_downwards (Cond.code y_DV_downwards b_DV_downwards 4 none :: zx_T) rm_DV_downwards (va_Pc [.ref a1, .ref a2, .ref a3] (ah_B G h0)) (va_Qv (fun h9 => K h9 ∧ ah_m h0 h9) (ah_B G) (fun q => G.2.2 ≤ q)) 0 0 (fun q => G.2.2 ≤ q) := by
  refine Met.ofW (cc := b_DV_downwards) (maxL := 4) (ret := none) (by decide) rfl ?_
  intro p e s m args below meth c s₁ B hml hv
  have htb := cx_out B (atoms_spec B.pre _ List.mem_cons_self)
  obtain ⟨rfl, hB⟩ := hv
  have C : cx_C p l s m _ meth c G y_DV_downwards b_DV_downwards 4 none "BigDesk$Division" (Cond.code y_DV_downwards b_DV_downwards 4 none :: zx_T) [] := ⟨B.exec, B.bytes, B.returns, hml, findClass_of_methodNamed B.named, atoms_spec B.pre, cx_hd, B.notSynchronized, hB.2.2.1, hB.2.2.2, htb, fun z9 => (name_of_methodNamed B.named B.method).1.trans z9, hst⟩
  obtain ⟨hx, hb, hr, hml, hown, hts, hT, hlk, hK, hX, htb, hin, hst⟩ := id C
  have hw : ∀ {w9 : Cond}, w9 ∈ zx_T → w9.before _ s = true := fun h9 => hts _ (hT _ h9)
  have hW : ah_W G s.heap h0 s.heap [] := ⟨hB.1, hB.2.1, va_S.rf⟩
  have hm : ah_m h0 h0 := ah_m.rf
  have hcl : 0 + 0 ≤ 0 := by decide
  have hsl : 0 + 0 ≤ 0 := by decide
  have hl := lv_entry ([.ref a1, .ref a2, .ref a3]) (n := 4) (Nat.le_of_ble_eq_true rfl)
  rw [lg_entry_eq]
  generalize (lg_sl ([.ref a1, .ref a2, .ref a3]) ++ List.replicate (4 - (lg_sl ([.ref a1, .ref a2, .ref a3])).length) Slot.unset).toArray = ls at hl ⊢
  have hl : lv_has ls 4 [(0, .ref a1), (1, .ref a2), (2, .ref a3)] := hl
  unfold w_DV_downwards at w
  refine lv_aload_n hx hb d_DV_downwards_0 rfl (lv_at hl 0 rfl) ?_
  refine lv_aload_n hx hb d_DV_downwards_1 rfl (lv_at hl 1 rfl) ?_
  refine lv_aload_n hx hb d_DV_downwards_2 rfl (lv_at hl 2 rfl) ?_
  obtain ⟨t4, w⟩ := w
  refine hb_callv (va_runV (As := [.ref a2, .ref a3]) (rest := []) ⟨hx, hb, hml, hown, hts⟩ (m_DV_ofAbsolutes G a1 a2 a3 h0 hst w) (cwV 2 hts (zx_gV hT wd_404 wd_405 wd_406 wd_3 wd_407) rfl rfl rfl (by decide +kernel) ⟨Nat.le_of_ble_eq_true rfl, Nat.le_of_ble_eq_true rfl⟩) (hb_preV hK hX hW t4 (by decide) rfl) rfl rfl hl.1 rfl (lv_room (Nat.le_of_ble_eq_true rfl)) d_DV_downwards_3 ⟨(by show _ ≤ 0; omega), (by show _ ≤ 0; omega)⟩) hW (fun h5 H locs hk hW => ?_)
  obtain ⟨w, mm6⟩ := hk
  have w := w mm6
  have hm := hm.tr mm6
  have t7 := mm6.tg t4 (by decide)
  refine lv_aload_n hx hb d_DV_downwards_6 rfl (lv_at hl 1 rfl) ?_
  obtain ⟨t8, w⟩ := w
  refine hb_get (ci := 2) (C := "BigDesk$Whole") (T := T_WH) (N := 3) hx hb hts (fun w9 h9 => hT w9 (u_WH w9 h9)) hown hK hW t8 rfl (by decide) 2 (by decide) (hw wd_45) (fun _ h9 => h9) (q := (0, 1)) rfl (v := .int (ah_I h5 1 a2)) rfl d_DV_downwards_7 ?_
  refine lv_aload_n hx hb d_DV_downwards_10 rfl (lv_at hl 2 rfl) ?_
  obtain ⟨t9, w⟩ := w
  refine hb_get (ci := 2) (C := "BigDesk$Whole") (T := T_WH) (N := 3) hx hb hts (fun w9 h9 => hT w9 (u_WH w9 h9)) hown hK hW t9 rfl (by decide) 2 (by decide) (hw wd_45) (fun _ h9 => h9) (q := (0, 1)) rfl (v := .int (ah_I h5 1 a3)) rfl d_DV_downwards_11 ?_
  refine lv_icmp_eq (tgt := 21) hx hb d_DV_downwards_14 (by decide) (fun c10 => ?_) (fun c10 => ?_)
  · have w := w.1 c10
    refine lv_iconst (v := 0) hx hb d_DV_downwards_21 (by decide) ?_
    exact tb_DV_downwards_22 C (by omega) (by omega)  a1 a3 (0 : Int32) h5 _ _ _ w hm hW (lv_sub hl [0, 2] rfl)
  · have w := w.2 c10
    refine lv_iconst (v := 1) hx hb d_DV_downwards_17 (by decide) ?_
    refine lv_goto (tgt := 22) hx hb d_DV_downwards_18 (by decide) ?_
    exact tb_DV_downwards_22 C (by omega) (by omega)  a1 a3 (1 : Int32) h5 _ _ _ w hm hW (lv_sub hl [0, 2] rfl)
