theorem d_CD_init_0 : decode b_CD_init 0 = .ok (.aload_n 0, 1) := by decide +kernel
theorem d_CD_init_1 : decode b_CD_init 1 = .ok (.invokespecial 3, 3) := by decide +kernel
theorem d_CD_init_4 : decode b_CD_init 4 = .ok (.aload_n 0, 1) := by decide +kernel
theorem d_CD_init_5 : decode b_CD_init 5 = .ok (.new 9, 3) := by decide +kernel
theorem d_CD_init_8 : decode b_CD_init 8 = .ok (.dup, 1) := by decide +kernel
theorem d_CD_init_9 : decode b_CD_init 9 = .ok (.invokespecial 11, 3) := by decide +kernel
theorem d_CD_init_12 : decode b_CD_init 12 = .ok (.putfield 12, 3) := by decide +kernel
theorem d_CD_init_15 : decode b_CD_init 15 = .ok (.aload_n 0, 1) := by decide +kernel
theorem d_CD_init_16 : decode b_CD_init 16 = .ok (.new 9, 3) := by decide +kernel
theorem d_CD_init_19 : decode b_CD_init 19 = .ok (.dup, 1) := by decide +kernel
theorem d_CD_init_20 : decode b_CD_init 20 = .ok (.invokespecial 11, 3) := by decide +kernel
theorem d_CD_init_23 : decode b_CD_init 23 = .ok (.putfield 18, 3) := by decide +kernel
theorem d_CD_init_26 : decode b_CD_init 26 = .ok (.return_, 1) := by decide +kernel
theorem d_CD_exchange_0 : decode b_CD_exchange 0 = .ok (.aload_n 0, 1) := by decide +kernel
theorem d_CD_exchange_1 : decode b_CD_exchange 1 = .ok (.getfield 12, 3) := by decide +kernel
theorem d_CD_exchange_4 : decode b_CD_exchange 4 = .ok (.astore_n 1, 1) := by decide +kernel
theorem d_CD_exchange_5 : decode b_CD_exchange 5 = .ok (.aload_n 0, 1) := by decide +kernel
theorem d_CD_exchange_6 : decode b_CD_exchange 6 = .ok (.aload_n 0, 1) := by decide +kernel
theorem d_CD_exchange_7 : decode b_CD_exchange 7 = .ok (.getfield 18, 3) := by decide +kernel
theorem d_CD_exchange_10 : decode b_CD_exchange 10 = .ok (.putfield 12, 3) := by decide +kernel
theorem d_CD_exchange_13 : decode b_CD_exchange 13 = .ok (.aload_n 0, 1) := by decide +kernel
theorem d_CD_exchange_14 : decode b_CD_exchange 14 = .ok (.aload_n 1, 1) := by decide +kernel
theorem d_CD_exchange_15 : decode b_CD_exchange 15 = .ok (.putfield 18, 3) := by decide +kernel
theorem d_CD_exchange_18 : decode b_CD_exchange 18 = .ok (.return_, 1) := by decide +kernel
theorem d_CD_foretell_0 : decode b_CD_foretell 0 = .ok (.aload_n 0, 1) := by decide +kernel
theorem d_CD_foretell_1 : decode b_CD_foretell 1 = .ok (.getfield 12, 3) := by decide +kernel
theorem d_CD_foretell_4 : decode b_CD_foretell 4 = .ok (.invokevirtual 58, 3) := by decide +kernel
theorem d_CD_foretell_7 : decode b_CD_foretell 7 = .ok (.bipush 62, 2) := by decide +kernel
theorem d_CD_foretell_9 : decode b_CD_foretell 9 = .ok (.isub, 1) := by decide +kernel
theorem d_CD_foretell_10 : decode b_CD_foretell 10 = .ok (.iconst 0, 1) := by decide +kernel
theorem d_CD_foretell_11 : decode b_CD_foretell 11 = .ok (.invokestatic 62, 3) := by decide +kernel
theorem d_CD_foretell_14 : decode b_CD_foretell 14 = .ok (.istore_n 1, 1) := by decide +kernel
theorem d_CD_foretell_15 : decode b_CD_foretell 15 = .ok (.aload_n 0, 1) := by decide +kernel
theorem d_CD_foretell_16 : decode b_CD_foretell 16 = .ok (.getfield 12, 3) := by decide +kernel
theorem d_CD_foretell_19 : decode b_CD_foretell 19 = .ok (.iload_n 1, 1) := by decide +kernel
theorem d_CD_foretell_20 : decode b_CD_foretell 20 = .ok (.invokevirtual 68, 3) := by decide +kernel
theorem d_CD_foretell_23 : decode b_CD_foretell 23 = .ok (.lstore_n 2, 1) := by decide +kernel
theorem d_CD_foretell_24 : decode b_CD_foretell 24 = .ok (.aload_n 0, 1) := by decide +kernel
theorem d_CD_foretell_25 : decode b_CD_foretell 25 = .ok (.getfield 18, 3) := by decide +kernel
theorem d_CD_foretell_28 : decode b_CD_foretell 28 = .ok (.iload_n 1, 1) := by decide +kernel
theorem d_CD_foretell_29 : decode b_CD_foretell 29 = .ok (.invokevirtual 68, 3) := by decide +kernel
theorem d_CD_foretell_32 : decode b_CD_foretell 32 = .ok (.lstore 4, 2) := by decide +kernel
theorem d_CD_foretell_34 : decode b_CD_foretell 34 = .ok (.lconst 1, 1) := by decide +kernel
theorem d_CD_foretell_35 : decode b_CD_foretell 35 = .ok (.lstore 6, 2) := by decide +kernel
theorem d_CD_foretell_37 : decode b_CD_foretell 37 = .ok (.lconst 0, 1) := by decide +kernel
theorem d_CD_foretell_38 : decode b_CD_foretell 38 = .ok (.lstore 8, 2) := by decide +kernel
theorem d_CD_foretell_40 : decode b_CD_foretell 40 = .ok (.lconst 0, 1) := by decide +kernel
theorem d_CD_foretell_41 : decode b_CD_foretell 41 = .ok (.lstore 10, 2) := by decide +kernel
theorem d_CD_foretell_43 : decode b_CD_foretell 43 = .ok (.lconst 1, 1) := by decide +kernel
theorem d_CD_foretell_44 : decode b_CD_foretell 44 = .ok (.lstore 12, 2) := by decide +kernel
theorem d_CD_foretell_46 : decode b_CD_foretell 46 = .ok (.iconst 0, 1) := by decide +kernel
theorem d_CD_foretell_47 : decode b_CD_foretell 47 = .ok (.istore 14, 2) := by decide +kernel
theorem d_CD_foretell_49 : decode b_CD_foretell 49 = .ok (.iload 14, 2) := by decide +kernel
theorem d_CD_foretell_51 : decode b_CD_foretell 51 = .ok (.bipush 64, 2) := by decide +kernel
theorem d_CD_foretell_53 : decode b_CD_foretell 53 = .ok (.if_icmp .ge 151, 3) := by decide +kernel
theorem d_CD_foretell_56 : decode b_CD_foretell 56 = .ok (.lload 4, 2) := by decide +kernel
theorem d_CD_foretell_58 : decode b_CD_foretell 58 = .ok (.lload 10, 2) := by decide +kernel
theorem d_CD_foretell_60 : decode b_CD_foretell 60 = .ok (.ladd, 1) := by decide +kernel
theorem d_CD_foretell_61 : decode b_CD_foretell 61 = .ok (.lconst 0, 1) := by decide +kernel
theorem d_CD_foretell_62 : decode b_CD_foretell 62 = .ok (.lcmp, 1) := by decide +kernel
theorem d_CD_foretell_63 : decode b_CD_foretell 63 = .ok (.ifCond .le 141, 3) := by decide +kernel
theorem d_CD_foretell_66 : decode b_CD_foretell 66 = .ok (.lload 4, 2) := by decide +kernel
theorem d_CD_foretell_68 : decode b_CD_foretell 68 = .ok (.lload 12, 2) := by decide +kernel
theorem d_CD_foretell_70 : decode b_CD_foretell 70 = .ok (.ladd, 1) := by decide +kernel
theorem d_CD_foretell_71 : decode b_CD_foretell 71 = .ok (.lconst 0, 1) := by decide +kernel
theorem d_CD_foretell_72 : decode b_CD_foretell 72 = .ok (.lcmp, 1) := by decide +kernel
theorem d_CD_foretell_73 : decode b_CD_foretell 73 = .ok (.ifCond .gt 6, 3) := by decide +kernel
theorem d_CD_foretell_76 : decode b_CD_foretell 76 = .ok (.goto 128, 3) := by decide +kernel
theorem d_CD_foretell_79 : decode b_CD_foretell 79 = .ok (.lload_n 2, 1) := by decide +kernel
theorem d_CD_foretell_80 : decode b_CD_foretell 80 = .ok (.lload 6, 2) := by decide +kernel
theorem d_CD_foretell_82 : decode b_CD_foretell 82 = .ok (.ladd, 1) := by decide +kernel
theorem d_CD_foretell_83 : decode b_CD_foretell 83 = .ok (.lload 4, 2) := by decide +kernel
theorem d_CD_foretell_85 : decode b_CD_foretell 85 = .ok (.lload 10, 2) := by decide +kernel
theorem d_CD_foretell_87 : decode b_CD_foretell 87 = .ok (.ladd, 1) := by decide +kernel
theorem d_CD_foretell_88 : decode b_CD_foretell 88 = .ok (.ldiv, 1) := by decide +kernel
theorem d_CD_foretell_89 : decode b_CD_foretell 89 = .ok (.lstore 15, 2) := by decide +kernel
theorem d_CD_foretell_91 : decode b_CD_foretell 91 = .ok (.lload 15, 2) := by decide +kernel
theorem d_CD_foretell_93 : decode b_CD_foretell 93 = .ok (.ldc2_w 72, 3) := by decide +kernel
theorem d_CD_foretell_96 : decode b_CD_foretell 96 = .ok (.lcmp, 1) := by decide +kernel
theorem d_CD_foretell_97 : decode b_CD_foretell 97 = .ok (.ifCond .gt 107, 3) := by decide +kernel
theorem d_CD_foretell_100 : decode b_CD_foretell 100 = .ok (.lload 15, 2) := by decide +kernel
theorem d_CD_foretell_102 : decode b_CD_foretell 102 = .ok (.lload_n 2, 1) := by decide +kernel
theorem d_CD_foretell_103 : decode b_CD_foretell 103 = .ok (.lload 8, 2) := by decide +kernel
theorem d_CD_foretell_105 : decode b_CD_foretell 105 = .ok (.ladd, 1) := by decide +kernel
theorem d_CD_foretell_106 : decode b_CD_foretell 106 = .ok (.lload 4, 2) := by decide +kernel
theorem d_CD_foretell_108 : decode b_CD_foretell 108 = .ok (.lload 12, 2) := by decide +kernel
theorem d_CD_foretell_110 : decode b_CD_foretell 110 = .ok (.ladd, 1) := by decide +kernel
theorem d_CD_foretell_111 : decode b_CD_foretell 111 = .ok (.ldiv, 1) := by decide +kernel
theorem d_CD_foretell_112 : decode b_CD_foretell 112 = .ok (.lcmp, 1) := by decide +kernel
theorem d_CD_foretell_113 : decode b_CD_foretell 113 = .ok (.ifCond .eq 6, 3) := by decide +kernel
theorem d_CD_foretell_116 : decode b_CD_foretell 116 = .ok (.goto 88, 3) := by decide +kernel
theorem d_CD_foretell_119 : decode b_CD_foretell 119 = .ok (.lload 6, 2) := by decide +kernel
theorem d_CD_foretell_121 : decode b_CD_foretell 121 = .ok (.lload 15, 2) := by decide +kernel
theorem d_CD_foretell_123 : decode b_CD_foretell 123 = .ok (.lload 10, 2) := by decide +kernel
theorem d_CD_foretell_125 : decode b_CD_foretell 125 = .ok (.lmul, 1) := by decide +kernel
theorem d_CD_foretell_126 : decode b_CD_foretell 126 = .ok (.lsub, 1) := by decide +kernel
theorem d_CD_foretell_127 : decode b_CD_foretell 127 = .ok (.lstore 17, 2) := by decide +kernel
theorem d_CD_foretell_129 : decode b_CD_foretell 129 = .ok (.lload 8, 2) := by decide +kernel
theorem d_CD_foretell_131 : decode b_CD_foretell 131 = .ok (.lload 15, 2) := by decide +kernel
theorem d_CD_foretell_133 : decode b_CD_foretell 133 = .ok (.lload 12, 2) := by decide +kernel
theorem d_CD_foretell_135 : decode b_CD_foretell 135 = .ok (.lmul, 1) := by decide +kernel
theorem d_CD_foretell_136 : decode b_CD_foretell 136 = .ok (.lsub, 1) := by decide +kernel
theorem d_CD_foretell_137 : decode b_CD_foretell 137 = .ok (.lstore 19, 2) := by decide +kernel
theorem d_CD_foretell_139 : decode b_CD_foretell 139 = .ok (.lload 17, 2) := by decide +kernel
theorem d_CD_foretell_141 : decode b_CD_foretell 141 = .ok (.invokestatic 74, 3) := by decide +kernel
theorem d_CD_foretell_144 : decode b_CD_foretell 144 = .ok (.ldc2_w 72, 3) := by decide +kernel
theorem d_CD_foretell_147 : decode b_CD_foretell 147 = .ok (.lcmp, 1) := by decide +kernel
theorem d_CD_foretell_148 : decode b_CD_foretell 148 = .ok (.ifCond .gt 56, 3) := by decide +kernel
theorem d_CD_foretell_151 : decode b_CD_foretell 151 = .ok (.lload 19, 2) := by decide +kernel
theorem d_CD_foretell_153 : decode b_CD_foretell 153 = .ok (.invokestatic 74, 3) := by decide +kernel
theorem d_CD_foretell_156 : decode b_CD_foretell 156 = .ok (.ldc2_w 72, 3) := by decide +kernel
theorem d_CD_foretell_159 : decode b_CD_foretell 159 = .ok (.lcmp, 1) := by decide +kernel
theorem d_CD_foretell_160 : decode b_CD_foretell 160 = .ok (.ifCond .le 6, 3) := by decide +kernel
theorem d_CD_foretell_163 : decode b_CD_foretell 163 = .ok (.goto 41, 3) := by decide +kernel
theorem d_CD_foretell_166 : decode b_CD_foretell 166 = .ok (.lload 10, 2) := by decide +kernel
theorem d_CD_foretell_168 : decode b_CD_foretell 168 = .ok (.lstore 6, 2) := by decide +kernel
theorem d_CD_foretell_170 : decode b_CD_foretell 170 = .ok (.lload 12, 2) := by decide +kernel
theorem d_CD_foretell_172 : decode b_CD_foretell 172 = .ok (.lstore 8, 2) := by decide +kernel
theorem d_CD_foretell_174 : decode b_CD_foretell 174 = .ok (.lload 17, 2) := by decide +kernel
theorem d_CD_foretell_176 : decode b_CD_foretell 176 = .ok (.lstore 10, 2) := by decide +kernel
theorem d_CD_foretell_178 : decode b_CD_foretell 178 = .ok (.lload 19, 2) := by decide +kernel
theorem d_CD_foretell_180 : decode b_CD_foretell 180 = .ok (.lstore 12, 2) := by decide +kernel
theorem d_CD_foretell_182 : decode b_CD_foretell 182 = .ok (.lload_n 2, 1) := by decide +kernel
theorem d_CD_foretell_183 : decode b_CD_foretell 183 = .ok (.lload 15, 2) := by decide +kernel
theorem d_CD_foretell_185 : decode b_CD_foretell 185 = .ok (.lload 4, 2) := by decide +kernel
theorem d_CD_foretell_187 : decode b_CD_foretell 187 = .ok (.lmul, 1) := by decide +kernel
theorem d_CD_foretell_188 : decode b_CD_foretell 188 = .ok (.lsub, 1) := by decide +kernel
theorem d_CD_foretell_189 : decode b_CD_foretell 189 = .ok (.lstore 21, 2) := by decide +kernel
theorem d_CD_foretell_191 : decode b_CD_foretell 191 = .ok (.lload 4, 2) := by decide +kernel
theorem d_CD_foretell_193 : decode b_CD_foretell 193 = .ok (.lstore_n 2, 1) := by decide +kernel
theorem d_CD_foretell_194 : decode b_CD_foretell 194 = .ok (.lload 21, 2) := by decide +kernel
theorem d_CD_foretell_196 : decode b_CD_foretell 196 = .ok (.lstore 4, 2) := by decide +kernel
theorem d_CD_foretell_198 : decode b_CD_foretell 198 = .ok (.iinc 14 1, 3) := by decide +kernel
theorem d_CD_foretell_201 : decode b_CD_foretell 201 = .ok (.goto (-152), 3) := by decide +kernel
theorem d_CD_foretell_204 : decode b_CD_foretell 204 = .ok (.aload_n 0, 1) := by decide +kernel
theorem d_CD_foretell_205 : decode b_CD_foretell 205 = .ok (.lload 6, 2) := by decide +kernel
theorem d_CD_foretell_207 : decode b_CD_foretell 207 = .ok (.putfield 78, 3) := by decide +kernel
theorem d_CD_foretell_210 : decode b_CD_foretell 210 = .ok (.aload_n 0, 1) := by decide +kernel
theorem d_CD_foretell_211 : decode b_CD_foretell 211 = .ok (.lload 8, 2) := by decide +kernel
theorem d_CD_foretell_213 : decode b_CD_foretell 213 = .ok (.putfield 82, 3) := by decide +kernel
theorem d_CD_foretell_216 : decode b_CD_foretell 216 = .ok (.aload_n 0, 1) := by decide +kernel
theorem d_CD_foretell_217 : decode b_CD_foretell 217 = .ok (.lload 10, 2) := by decide +kernel
theorem d_CD_foretell_219 : decode b_CD_foretell 219 = .ok (.putfield 85, 3) := by decide +kernel
theorem d_CD_foretell_222 : decode b_CD_foretell 222 = .ok (.aload_n 0, 1) := by decide +kernel
theorem d_CD_foretell_223 : decode b_CD_foretell 223 = .ok (.lload 12, 2) := by decide +kernel
theorem d_CD_foretell_225 : decode b_CD_foretell 225 = .ok (.putfield 88, 3) := by decide +kernel
theorem d_CD_foretell_228 : decode b_CD_foretell 228 = .ok (.lload 8, 2) := by decide +kernel
theorem d_CD_foretell_230 : decode b_CD_foretell 230 = .ok (.lconst 0, 1) := by decide +kernel
theorem d_CD_foretell_231 : decode b_CD_foretell 231 = .ok (.lcmp, 1) := by decide +kernel
theorem d_CD_foretell_232 : decode b_CD_foretell 232 = .ok (.ifCond .eq 7, 3) := by decide +kernel
theorem d_CD_foretell_235 : decode b_CD_foretell 235 = .ok (.iconst 1, 1) := by decide +kernel
theorem d_CD_foretell_236 : decode b_CD_foretell 236 = .ok (.goto 4, 3) := by decide +kernel
theorem d_CD_foretell_239 : decode b_CD_foretell 239 = .ok (.iconst 0, 1) := by decide +kernel
theorem d_CD_foretell_240 : decode b_CD_foretell 240 = .ok (.ireturn, 1) := by decide +kernel
theorem d_CD_combine_0 : decode b_CD_combine 0 = .ok (.aload_n 0, 1) := by decide +kernel
theorem d_CD_combine_1 : decode b_CD_combine 1 = .ok (.getfield 12, 3) := by decide +kernel
theorem d_CD_combine_4 : decode b_CD_combine 4 = .ok (.getfield 91, 3) := by decide +kernel
theorem d_CD_combine_7 : decode b_CD_combine 7 = .ok (.astore_n 1, 1) := by decide +kernel
theorem d_CD_combine_8 : decode b_CD_combine 8 = .ok (.aload_n 0, 1) := by decide +kernel
theorem d_CD_combine_9 : decode b_CD_combine 9 = .ok (.getfield 18, 3) := by decide +kernel
theorem d_CD_combine_12 : decode b_CD_combine 12 = .ok (.getfield 91, 3) := by decide +kernel
theorem d_CD_combine_15 : decode b_CD_combine 15 = .ok (.astore_n 2, 1) := by decide +kernel
theorem d_CD_combine_16 : decode b_CD_combine 16 = .ok (.aload_n 0, 1) := by decide +kernel
theorem d_CD_combine_17 : decode b_CD_combine 17 = .ok (.getfield 12, 3) := by decide +kernel
theorem d_CD_combine_20 : decode b_CD_combine 20 = .ok (.getfield 38, 3) := by decide +kernel
theorem d_CD_combine_23 : decode b_CD_combine 23 = .ok (.istore_n 3, 1) := by decide +kernel
theorem d_CD_combine_24 : decode b_CD_combine 24 = .ok (.lconst 0, 1) := by decide +kernel
theorem d_CD_combine_25 : decode b_CD_combine 25 = .ok (.lstore 4, 2) := by decide +kernel
theorem d_CD_combine_27 : decode b_CD_combine 27 = .ok (.lconst 0, 1) := by decide +kernel
theorem d_CD_combine_28 : decode b_CD_combine 28 = .ok (.lstore 6, 2) := by decide +kernel
theorem d_CD_combine_30 : decode b_CD_combine 30 = .ok (.iconst 0, 1) := by decide +kernel
theorem d_CD_combine_31 : decode b_CD_combine 31 = .ok (.istore 8, 2) := by decide +kernel
theorem d_CD_combine_33 : decode b_CD_combine 33 = .ok (.iload 8, 2) := by decide +kernel
theorem d_CD_combine_35 : decode b_CD_combine 35 = .ok (.iload_n 3, 1) := by decide +kernel
theorem d_CD_combine_36 : decode b_CD_combine 36 = .ok (.if_icmp .ge 91, 3) := by decide +kernel
theorem d_CD_combine_39 : decode b_CD_combine 39 = .ok (.aload_n 0, 1) := by decide +kernel
theorem d_CD_combine_40 : decode b_CD_combine 40 = .ok (.getfield 78, 3) := by decide +kernel
theorem d_CD_combine_43 : decode b_CD_combine 43 = .ok (.aload_n 1, 1) := by decide +kernel
theorem d_CD_combine_44 : decode b_CD_combine 44 = .ok (.iload 8, 2) := by decide +kernel
theorem d_CD_combine_46 : decode b_CD_combine 46 = .ok (.laload, 1) := by decide +kernel
theorem d_CD_combine_47 : decode b_CD_combine 47 = .ok (.lmul, 1) := by decide +kernel
theorem d_CD_combine_48 : decode b_CD_combine 48 = .ok (.aload_n 0, 1) := by decide +kernel
theorem d_CD_combine_49 : decode b_CD_combine 49 = .ok (.getfield 82, 3) := by decide +kernel
theorem d_CD_combine_52 : decode b_CD_combine 52 = .ok (.aload_n 2, 1) := by decide +kernel
theorem d_CD_combine_53 : decode b_CD_combine 53 = .ok (.iload 8, 2) := by decide +kernel
theorem d_CD_combine_55 : decode b_CD_combine 55 = .ok (.laload, 1) := by decide +kernel
theorem d_CD_combine_56 : decode b_CD_combine 56 = .ok (.lmul, 1) := by decide +kernel
theorem d_CD_combine_57 : decode b_CD_combine 57 = .ok (.ladd, 1) := by decide +kernel
theorem d_CD_combine_58 : decode b_CD_combine 58 = .ok (.lload 4, 2) := by decide +kernel
theorem d_CD_combine_60 : decode b_CD_combine 60 = .ok (.ladd, 1) := by decide +kernel
theorem d_CD_combine_61 : decode b_CD_combine 61 = .ok (.lstore 9, 2) := by decide +kernel
theorem d_CD_combine_63 : decode b_CD_combine 63 = .ok (.aload_n 0, 1) := by decide +kernel
theorem d_CD_combine_64 : decode b_CD_combine 64 = .ok (.getfield 85, 3) := by decide +kernel
theorem d_CD_combine_67 : decode b_CD_combine 67 = .ok (.aload_n 1, 1) := by decide +kernel
theorem d_CD_combine_68 : decode b_CD_combine 68 = .ok (.iload 8, 2) := by decide +kernel
theorem d_CD_combine_70 : decode b_CD_combine 70 = .ok (.laload, 1) := by decide +kernel
theorem d_CD_combine_71 : decode b_CD_combine 71 = .ok (.lmul, 1) := by decide +kernel
theorem d_CD_combine_72 : decode b_CD_combine 72 = .ok (.aload_n 0, 1) := by decide +kernel
theorem d_CD_combine_73 : decode b_CD_combine 73 = .ok (.getfield 88, 3) := by decide +kernel
theorem d_CD_combine_76 : decode b_CD_combine 76 = .ok (.aload_n 2, 1) := by decide +kernel
theorem d_CD_combine_77 : decode b_CD_combine 77 = .ok (.iload 8, 2) := by decide +kernel
theorem d_CD_combine_79 : decode b_CD_combine 79 = .ok (.laload, 1) := by decide +kernel
theorem d_CD_combine_80 : decode b_CD_combine 80 = .ok (.lmul, 1) := by decide +kernel
theorem d_CD_combine_81 : decode b_CD_combine 81 = .ok (.ladd, 1) := by decide +kernel
theorem d_CD_combine_82 : decode b_CD_combine 82 = .ok (.lload 6, 2) := by decide +kernel
theorem d_CD_combine_84 : decode b_CD_combine 84 = .ok (.ladd, 1) := by decide +kernel
theorem d_CD_combine_85 : decode b_CD_combine 85 = .ok (.lstore 11, 2) := by decide +kernel
theorem d_CD_combine_87 : decode b_CD_combine 87 = .ok (.aload_n 1, 1) := by decide +kernel
theorem d_CD_combine_88 : decode b_CD_combine 88 = .ok (.iload 8, 2) := by decide +kernel
theorem d_CD_combine_90 : decode b_CD_combine 90 = .ok (.lload 9, 2) := by decide +kernel
theorem d_CD_combine_92 : decode b_CD_combine 92 = .ok (.ldc2_w 95, 3) := by decide +kernel
theorem d_CD_combine_95 : decode b_CD_combine 95 = .ok (.land, 1) := by decide +kernel
theorem d_CD_combine_96 : decode b_CD_combine 96 = .ok (.lastore, 1) := by decide +kernel
theorem d_CD_combine_97 : decode b_CD_combine 97 = .ok (.aload_n 2, 1) := by decide +kernel
theorem d_CD_combine_98 : decode b_CD_combine 98 = .ok (.iload 8, 2) := by decide +kernel
theorem d_CD_combine_100 : decode b_CD_combine 100 = .ok (.lload 11, 2) := by decide +kernel
theorem d_CD_combine_102 : decode b_CD_combine 102 = .ok (.ldc2_w 95, 3) := by decide +kernel
theorem d_CD_combine_105 : decode b_CD_combine 105 = .ok (.land, 1) := by decide +kernel
theorem d_CD_combine_106 : decode b_CD_combine 106 = .ok (.lastore, 1) := by decide +kernel
theorem d_CD_combine_107 : decode b_CD_combine 107 = .ok (.lload 9, 2) := by decide +kernel
theorem d_CD_combine_109 : decode b_CD_combine 109 = .ok (.bipush 32, 2) := by decide +kernel
theorem d_CD_combine_111 : decode b_CD_combine 111 = .ok (.lshr, 1) := by decide +kernel
theorem d_CD_combine_112 : decode b_CD_combine 112 = .ok (.lstore 4, 2) := by decide +kernel
theorem d_CD_combine_114 : decode b_CD_combine 114 = .ok (.lload 11, 2) := by decide +kernel
theorem d_CD_combine_116 : decode b_CD_combine 116 = .ok (.bipush 32, 2) := by decide +kernel
theorem d_CD_combine_118 : decode b_CD_combine 118 = .ok (.lshr, 1) := by decide +kernel
theorem d_CD_combine_119 : decode b_CD_combine 119 = .ok (.lstore 6, 2) := by decide +kernel
theorem d_CD_combine_121 : decode b_CD_combine 121 = .ok (.iinc 8 1, 3) := by decide +kernel
theorem d_CD_combine_124 : decode b_CD_combine 124 = .ok (.goto (-91), 3) := by decide +kernel
theorem d_CD_combine_127 : decode b_CD_combine 127 = .ok (.aload_n 0, 1) := by decide +kernel
theorem d_CD_combine_128 : decode b_CD_combine 128 = .ok (.getfield 12, 3) := by decide +kernel
theorem d_CD_combine_131 : decode b_CD_combine 131 = .ok (.iload_n 3, 1) := by decide +kernel
theorem d_CD_combine_132 : decode b_CD_combine 132 = .ok (.invokevirtual 97, 3) := by decide +kernel
theorem d_CD_combine_135 : decode b_CD_combine 135 = .ok (.aload_n 0, 1) := by decide +kernel
theorem d_CD_combine_136 : decode b_CD_combine 136 = .ok (.getfield 18, 3) := by decide +kernel
theorem d_CD_combine_139 : decode b_CD_combine 139 = .ok (.iload_n 3, 1) := by decide +kernel
theorem d_CD_combine_140 : decode b_CD_combine 140 = .ok (.invokevirtual 97, 3) := by decide +kernel
theorem d_CD_combine_143 : decode b_CD_combine 143 = .ok (.return_, 1) := by decide +kernel
theorem d_CD_greatest_0 : decode b_CD_greatest 0 = .ok (.aload_n 0, 1) := by decide +kernel
theorem d_CD_greatest_1 : decode b_CD_greatest 1 = .ok (.getfield 12, 3) := by decide +kernel
theorem d_CD_greatest_4 : decode b_CD_greatest 4 = .ok (.aload_n 1, 1) := by decide +kernel
theorem d_CD_greatest_5 : decode b_CD_greatest 5 = .ok (.invokevirtual 21, 3) := by decide +kernel
theorem d_CD_greatest_8 : decode b_CD_greatest 8 = .ok (.aload_n 0, 1) := by decide +kernel
theorem d_CD_greatest_9 : decode b_CD_greatest 9 = .ok (.getfield 18, 3) := by decide +kernel
theorem d_CD_greatest_12 : decode b_CD_greatest 12 = .ok (.aload_n 2, 1) := by decide +kernel
theorem d_CD_greatest_13 : decode b_CD_greatest 13 = .ok (.invokevirtual 21, 3) := by decide +kernel
theorem d_CD_greatest_16 : decode b_CD_greatest 16 = .ok (.aload_n 0, 1) := by decide +kernel
theorem d_CD_greatest_17 : decode b_CD_greatest 17 = .ok (.getfield 12, 3) := by decide +kernel
theorem d_CD_greatest_20 : decode b_CD_greatest 20 = .ok (.aload_n 0, 1) := by decide +kernel
theorem d_CD_greatest_21 : decode b_CD_greatest 21 = .ok (.getfield 18, 3) := by decide +kernel
theorem d_CD_greatest_24 : decode b_CD_greatest 24 = .ok (.invokestatic 25, 3) := by decide +kernel
theorem d_CD_greatest_27 : decode b_CD_greatest 27 = .ok (.ifCond .ge 7, 3) := by decide +kernel
theorem d_CD_greatest_30 : decode b_CD_greatest 30 = .ok (.aload_n 0, 1) := by decide +kernel
theorem d_CD_greatest_31 : decode b_CD_greatest 31 = .ok (.invokevirtual 31, 3) := by decide +kernel
theorem d_CD_greatest_34 : decode b_CD_greatest 34 = .ok (.aload_n 0, 1) := by decide +kernel
theorem d_CD_greatest_35 : decode b_CD_greatest 35 = .ok (.getfield 12, 3) := by decide +kernel
theorem d_CD_greatest_38 : decode b_CD_greatest 38 = .ok (.iconst 0, 1) := by decide +kernel
theorem d_CD_greatest_39 : decode b_CD_greatest 39 = .ok (.invokevirtual 34, 3) := by decide +kernel
theorem d_CD_greatest_42 : decode b_CD_greatest 42 = .ok (.aload_n 0, 1) := by decide +kernel
theorem d_CD_greatest_43 : decode b_CD_greatest 43 = .ok (.getfield 18, 3) := by decide +kernel
theorem d_CD_greatest_46 : decode b_CD_greatest 46 = .ok (.iconst 0, 1) := by decide +kernel
theorem d_CD_greatest_47 : decode b_CD_greatest 47 = .ok (.invokevirtual 34, 3) := by decide +kernel
theorem d_CD_greatest_50 : decode b_CD_greatest 50 = .ok (.iconst 0, 1) := by decide +kernel
theorem d_CD_greatest_51 : decode b_CD_greatest 51 = .ok (.istore 4, 2) := by decide +kernel
theorem d_CD_greatest_53 : decode b_CD_greatest 53 = .ok (.iload 4, 2) := by decide +kernel
theorem d_CD_greatest_55 : decode b_CD_greatest 55 = .ok (.sipush 20000, 3) := by decide +kernel
theorem d_CD_greatest_58 : decode b_CD_greatest 58 = .ok (.if_icmp .ge 60, 3) := by decide +kernel
theorem d_CD_greatest_61 : decode b_CD_greatest 61 = .ok (.aload_n 0, 1) := by decide +kernel
theorem d_CD_greatest_62 : decode b_CD_greatest 62 = .ok (.getfield 18, 3) := by decide +kernel
theorem d_CD_greatest_65 : decode b_CD_greatest 65 = .ok (.getfield 38, 3) := by decide +kernel
theorem d_CD_greatest_68 : decode b_CD_greatest 68 = .ok (.ifCond .le 50, 3) := by decide +kernel
theorem d_CD_greatest_71 : decode b_CD_greatest 71 = .ok (.aload_n 0, 1) := by decide +kernel
theorem d_CD_greatest_72 : decode b_CD_greatest 72 = .ok (.invokevirtual 42, 3) := by decide +kernel
theorem d_CD_greatest_75 : decode b_CD_greatest 75 = .ok (.ifCond .eq 10, 3) := by decide +kernel
theorem d_CD_greatest_78 : decode b_CD_greatest 78 = .ok (.aload_n 0, 1) := by decide +kernel
theorem d_CD_greatest_79 : decode b_CD_greatest 79 = .ok (.invokevirtual 46, 3) := by decide +kernel
theorem d_CD_greatest_82 : decode b_CD_greatest 82 = .ok (.goto 30, 3) := by decide +kernel
theorem d_CD_greatest_85 : decode b_CD_greatest 85 = .ok (.aload_n 3, 1) := by decide +kernel
theorem d_CD_greatest_86 : decode b_CD_greatest 86 = .ok (.aload_n 0, 1) := by decide +kernel
theorem d_CD_greatest_87 : decode b_CD_greatest 87 = .ok (.getfield 12, 3) := by decide +kernel
theorem d_CD_greatest_90 : decode b_CD_greatest 90 = .ok (.aload_n 0, 1) := by decide +kernel
theorem d_CD_greatest_91 : decode b_CD_greatest 91 = .ok (.getfield 18, 3) := by decide +kernel
theorem d_CD_greatest_94 : decode b_CD_greatest 94 = .ok (.invokevirtual 49, 3) := by decide +kernel
theorem d_CD_greatest_97 : decode b_CD_greatest 97 = .ok (.aload_n 0, 1) := by decide +kernel
theorem d_CD_greatest_98 : decode b_CD_greatest 98 = .ok (.getfield 12, 3) := by decide +kernel
theorem d_CD_greatest_101 : decode b_CD_greatest 101 = .ok (.aload_n 3, 1) := by decide +kernel
theorem d_CD_greatest_102 : decode b_CD_greatest 102 = .ok (.getfield 55, 3) := by decide +kernel
theorem d_CD_greatest_105 : decode b_CD_greatest 105 = .ok (.invokevirtual 21, 3) := by decide +kernel
theorem d_CD_greatest_108 : decode b_CD_greatest 108 = .ok (.aload_n 0, 1) := by decide +kernel
theorem d_CD_greatest_109 : decode b_CD_greatest 109 = .ok (.invokevirtual 31, 3) := by decide +kernel
theorem d_CD_greatest_112 : decode b_CD_greatest 112 = .ok (.iinc 4 1, 3) := by decide +kernel
theorem d_CD_greatest_115 : decode b_CD_greatest 115 = .ok (.goto (-62), 3) := by decide +kernel
theorem d_CD_greatest_118 : decode b_CD_greatest 118 = .ok (.aload_n 0, 1) := by decide +kernel
theorem d_CD_greatest_119 : decode b_CD_greatest 119 = .ok (.getfield 12, 3) := by decide +kernel
theorem d_CD_greatest_122 : decode b_CD_greatest 122 = .ok (.areturn, 1) := by decide +kernel
abbrev rm_CD_init : Room := { frames := 2, cells := 4, slots := 522, locals := 40 }
def w_CD_init (a1 : Nat) (h0 : ah_H) (K : ah_H → Prop) : Prop :=
  ∀ q2 : Nat, ah_T h0 q2 = 0 → ∀ h4 : ah_H, h4 = ah_new h0 q2 3 0 → w_WH_init q2 h4 (fun h7 => ah_m h4 h7 → ah_T h7 a1 = 1 ∧ ∀ h11 : ah_H, h11 = ah_sR h7 0 a1 (some q2) → ∀ q15 : Nat, ah_T h11 q15 = 0 → ∀ h17 : ah_H, h17 = ah_new h11 q15 3 0 → w_WH_init q15 h17 (fun h22 => ah_m h17 h22 → ∀ h27 : ah_H, h27 = ah_sR h22 1 a1 (some q15) → K h27))
abbrev rm_CD_exchange : Room := { frames := 0, cells := 0, slots := 0, locals := 0 }
def w_CD_exchange (a1 : Nat) (h0 : ah_H) (K : ah_H → Prop) : Prop :=
  ah_T h0 a1 = 1 ∧ ∃ q3, ah_R h0 0 a1 = some q3 ∧ ∃ q5, ah_R h0 1 a1 = some q5 ∧ ∀ h7 : ah_H, h7 = ah_sR h0 0 a1 (some q5) → ∀ h10 : ah_H, h10 = ah_sR h7 1 a1 (some q3) → K h10
abbrev rm_CD_foretell : Room := { frames := 2, cells := 0, slots := 0, locals := 46 }
def lp_CD_foretell_49 (xt_116 : Nat → Int64 → Int64 → Int64 → Int64 → ah_H → Prop) (xt_163 : Nat → Int64 → Int64 → Int64 → Int64 → ah_H → Prop) (xt_204 : Nat → Int64 → Int64 → Int64 → Int64 → ah_H → Prop) (xt_76 : Nat → Int64 → Int64 → Int64 → Int64 → ah_H → Prop) (K : Int32 → ah_H → Prop) : Nat → Nat → Int64 → Int64 → Int64 → Int64 → Int64 → Int64 → Int32 → ah_H → Prop
  | 0, _, _, _, _, _, _, _, _, _ => False
  | n + 1, x31, x32, x33, x34, x35, x36, x37, x38, h39 =>
    ((64 : Int32) ≤ x38 → (xt_204 x31 x34 x35 x36 x37 h39)) ∧ (¬ (64 : Int32) ≤ x38 → (((x33 + x36) ≤ (0 : Int64) → (xt_204 x31 x34 x35 x36 x37 h39)) ∧ (¬ (x33 + x36) ≤ (0 : Int64) → (((0 : Int64) < (x33 + x37) → ((¬ (x33 + x36) = 0) ∧ ∀ v44 : Int64, v44 = (x32 + x34) / (x33 + x36) → ((2147483647 : Int64) < v44 → (xt_204 x31 x34 x35 x36 x37 h39)) ∧ (¬ (2147483647 : Int64) < v44 → ((¬ (x33 + x37) = 0) ∧ (v44 = ((x32 + x35) / (x33 + x37)) → (∀ v48 : Int64, v48 = x34 - (v44 * x36) → ∀ v49 : Int64, v49 = x35 - (v44 * x37) → ((2147483647 : Int64) < (if 0 < v48 then v48 else -v48) → (xt_204 x31 x34 x35 x36 x37 h39)) ∧ (¬ (2147483647 : Int64) < (if 0 < v48 then v48 else -v48) → (((if 0 < v49 then v49 else -v49) ≤ (2147483647 : Int64) → (∀ v52 : Int64, v52 = x32 - (v44 * x33) → ∀ v53 : Int32, v53 = x38 + 1 → (lp_CD_foretell_49 xt_116 xt_163 xt_204 xt_76 K n) x31 x33 v52 x36 x37 v48 v49 v53 h39)) ∧ (¬ (if 0 < v49 then v49 else -v49) ≤ (2147483647 : Int64) → (xt_163 x31 x34 x35 x36 x37 h39)))))) ∧ (¬ v44 = ((x32 + x35) / (x33 + x37)) → (xt_116 x31 x34 x35 x36 x37 h39)))))) ∧ (¬ (0 : Int64) < (x33 + x37) → (xt_76 x31 x34 x35 x36 x37 h39))))))
def bk_CD_foretell_240  (K : Int32 → ah_H → Prop) (s80 : Int32) (h81 : ah_H) : Prop :=
  (s80 = 0 ∨ s80 = 1) ∧ K s80 h81
def bk_CD_foretell_204  (K : Int32 → ah_H → Prop) (x60 : Nat) (x61 : Int64) (x62 : Int64) (x63 : Int64) (x64 : Int64) (h65 : ah_H) : Prop :=
  ah_T h65 x60 = 1 ∧ ∀ h67 : ah_H, h67 = ah_sL h65 0 x60 x61 → ∀ h70 : ah_H, h70 = ah_sL h67 1 x60 x62 → ∀ h73 : ah_H, h73 = ah_sL h70 2 x60 x63 → ∀ h76 : ah_H, h76 = ah_sL h73 3 x60 x64 → (x62 = (0 : Int64) → (bk_CD_foretell_240 K (0 : Int32) h76)) ∧ (¬ x62 = (0 : Int64) → (bk_CD_foretell_240 K (1 : Int32) h76))
def w_CD_foretell (a1 : Nat) (h0 : ah_H) (K : Int32 → ah_H → Prop) : Prop :=
  ah_T h0 a1 = 1 ∧ ∃ q3, ah_R h0 0 a1 = some q3 ∧ ah_T h0 q3 = 3 ∧ w_WH_bits q3 h0 (fun r7 h6 => ah_m h0 h6 → ∀ v11 : Int32, v11 = (if (r7 - (62 : Int32)) < (0 : Int32) then (0 : Int32) else (r7 - (62 : Int32))) → ∃ q12, ah_R h6 0 a1 = some q12 ∧ ah_T h6 q12 = 3 ∧ w_WH_longFrom q12 v11 h6 (fun r16 h15 => ah_m h6 h15 → ∃ q21, ah_R h15 1 a1 = some q21 ∧ ah_T h15 q21 = 3 ∧ w_WH_longFrom q21 v11 h15 (fun r25 h24 => ah_m h15 h24 → ∃ k101, lp_CD_foretell_49 (fun (x54 : Nat) (x55 : Int64) (x56 : Int64) (x57 : Int64) (x58 : Int64) h59 => bk_CD_foretell_204 K x54 x55 x56 x57 x58 h59) (fun (x83 : Nat) (x84 : Int64) (x85 : Int64) (x86 : Int64) (x87 : Int64) h88 => bk_CD_foretell_204 K x83 x84 x85 x86 x87 h88) (fun (x89 : Nat) (x90 : Int64) (x91 : Int64) (x92 : Int64) (x93 : Int64) h94 => bk_CD_foretell_204 K x89 x90 x91 x92 x93 h94) (fun (x95 : Nat) (x96 : Int64) (x97 : Int64) (x98 : Int64) (x99 : Int64) h100 => bk_CD_foretell_204 K x95 x96 x97 x98 x99 h100) K k101 a1 r16 r25 (1 : Int64) (0 : Int64) (0 : Int64) (1 : Int64) (0 : Int32) h24)))
abbrev rm_CD_combine : Room := { frames := 1, cells := 0, slots := 0, locals := 22 }
def lp_CD_combine_33 (xt_127 : Nat → Int32 → ah_H → Prop) (K : ah_H → Prop) : Nat → Nat → Nat → Nat → Int32 → Int64 → Int64 → Int32 → ah_H → Prop
  | 0, _, _, _, _, _, _, _, _ => False
  | n + 1, x17, x18, x19, x20, x21, x22, x23, h24 =>
    (x20 ≤ x23 → (xt_127 x17 x20 h24)) ∧ (¬ x20 ≤ x23 → (ah_T h24 x17 = 1 ∧ ah_T h24 x18 = 110 ∧ vp_in x23 (ah_N h24 x18) ∧ ah_T h24 x19 = 110 ∧ vp_in x23 (ah_N h24 x19) ∧ ∀ v31 : Int64, v31 = (((ah_L h24 0 x17) * (ah_bL h24 x18 x23.toNatClampNeg)) + ((ah_L h24 1 x17) * (ah_bL h24 x19 x23.toNatClampNeg))) + x21 → vp_in x23 (ah_N h24 x18) ∧ vp_in x23 (ah_N h24 x19) ∧ ∀ v34 : Int64, v34 = (((ah_L h24 2 x17) * (ah_bL h24 x18 x23.toNatClampNeg)) + ((ah_L h24 3 x17) * (ah_bL h24 x19 x23.toNatClampNeg))) + x22 → ∀ v35 : Int64, v35 = v31 &&& (4294967295 : Int64) → vp_in x23 (ah_N h24 x18) ∧ ∀ h37 : ah_H, h37 = ah_cL h24 x18 (vp_updL (ah_bL h24 x18) x23.toNatClampNeg v35) → ∀ v42 : Int64, v42 = v34 &&& (4294967295 : Int64) → vp_in x23 (ah_N h37 x19) ∧ ∀ h44 : ah_H, h44 = ah_cL h37 x19 (vp_updL (ah_bL h37 x19) x23.toNatClampNeg v42) → ∀ v49 : Int64, v49 = v31 >>> ((32 : Int32).toInt64 &&& 63) → ∀ v50 : Int64, v50 = v34 >>> ((32 : Int32).toInt64 &&& 63) → ∀ v51 : Int32, v51 = x23 + 1 → (lp_CD_combine_33 xt_127 K n) x17 x18 x19 x20 v49 v50 v51 h44))
def w_CD_combine (a1 : Nat) (h0 : ah_H) (K : ah_H → Prop) : Prop :=
  ah_T h0 a1 = 1 ∧ ∃ q3, ah_R h0 0 a1 = some q3 ∧ ah_T h0 q3 = 3 ∧ ∃ q6, ah_R h0 5 q3 = some q6 ∧ ∃ q8, ah_R h0 1 a1 = some q8 ∧ ah_T h0 q8 = 3 ∧ ∃ q11, ah_R h0 5 q8 = some q11 ∧ ∃ q13, ah_R h0 0 a1 = some q13 ∧ ah_T h0 q13 = 3 ∧ ∀ v16 : Int32, v16 = ah_I h0 0 q13 → ∃ k71, lp_CD_combine_33 (fun (x52 : Nat) (x53 : Int32) h54 => ah_T h54 x52 = 1 ∧ ∃ q56, ah_R h54 0 x52 = some q56 ∧ ah_T h54 q56 = 3 ∧ w_WH_settle q56 x53 h54 (fun h59 => ah_m h54 h59 → ∃ q63, ah_R h59 1 x52 = some q63 ∧ ah_T h59 q63 = 3 ∧ w_WH_settle q63 x53 h59 (fun h66 => ah_m h59 h66 → K h66))) K k71 a1 q6 q11 v16 (0 : Int64) (0 : Int64) (0 : Int32) h0
abbrev rm_CD_greatest : Room := { frames := 4, cells := 0, slots := 0, locals := 110 }
def bk_CD_greatest_112 (rc_53 : Nat → Nat → Int32 → ah_H → Prop) (K : Nat → ah_H → Prop) (x94 : Nat) (x95 : Nat) (x96 : Int32) (h97 : ah_H) : Prop :=
  ∀ v98 : Int32, v98 = x96 + 1 → rc_53 x94 x95 v98 h97
def lp_CD_greatest_53 (xt_118 : Nat → ah_H → Prop) (K : Nat → ah_H → Prop) : Nat → Nat → Nat → Int32 → ah_H → Prop
  | 0, _, _, _, _ => False
  | n + 1, x51, x52, x53, h54 =>
    ((20000 : Int32) ≤ x53 → (xt_118 x51 h54)) ∧ (¬ (20000 : Int32) ≤ x53 → (ah_T h54 x51 = 1 ∧ ∃ q57, ah_R h54 1 x51 = some q57 ∧ ah_T h54 q57 = 3 ∧ ((ah_I h54 0 q57) ≤ 0 → (xt_118 x51 h54)) ∧ (¬ (ah_I h54 0 q57) ≤ 0 → (w_CD_foretell x51 h54 (fun r62 h61 => ah_m h54 h61 → (r62 = 0 → (∃ q67, ah_R h61 0 x51 = some q67 ∧ ∃ q69, ah_R h61 1 x51 = some q69 ∧ ah_T h61 x52 = 2 ∧ w_DV_ofAbsolutes x52 q67 q69 h61 (fun h72 => ah_m h61 h72 → ∃ q77, ah_R h72 0 x51 = some q77 ∧ ∃ q79, ah_R h72 3 x52 = some q79 ∧ ah_T h72 q77 = 3 ∧ w_WH_become q77 q79 h72 (fun h82 => ah_m h72 h82 → w_CD_exchange x51 h82 (fun h88 => ah_m h82 h88 → bk_CD_greatest_112 (lp_CD_greatest_53 xt_118 K n) K x51 x52 x53 h88))))) ∧ (¬ r62 = 0 → (w_CD_combine x51 h61 (fun h99 => ah_m h61 h99 → bk_CD_greatest_112 (lp_CD_greatest_53 xt_118 K n) K x51 x52 x53 h99))))))))
def bk_CD_greatest_118  (K : Nat → ah_H → Prop) (x105 : Nat) (h106 : ah_H) : Prop :=
  ah_T h106 x105 = 1 ∧ ∃ q108, ah_R h106 0 x105 = some q108 ∧ K q108 h106
def bk_CD_greatest_34  (K : Nat → ah_H → Prop) (x32 : Nat) (x33 : Nat) (h34 : ah_H) : Prop :=
  ah_T h34 x32 = 1 ∧ ∃ q36, ah_R h34 0 x32 = some q36 ∧ ah_T h34 q36 = 3 ∧ w_WH_markSign q36 (0 : Int32) h34 (fun h39 => ah_m h34 h39 → ∃ q43, ah_R h39 1 x32 = some q43 ∧ ah_T h39 q43 = 3 ∧ w_WH_markSign q43 (0 : Int32) h39 (fun h46 => ah_m h39 h46 → ∃ k110, lp_CD_greatest_53 (fun (x103 : Nat) h104 => bk_CD_greatest_118 K x103 h104) K k110 x32 x33 (0 : Int32) h46))
def w_CD_greatest (a1 : Nat) (a2 : Nat) (a3 : Nat) (a4 : Nat) (h0 : ah_H) (K : Nat → ah_H → Prop) : Prop :=
  ah_T h0 a1 = 1 ∧ ∃ q6, ah_R h0 0 a1 = some q6 ∧ ah_T h0 q6 = 3 ∧ w_WH_become q6 a2 h0 (fun h9 => ah_m h0 h9 → ∃ q13, ah_R h9 1 a1 = some q13 ∧ ah_T h9 q13 = 3 ∧ w_WH_become q13 a3 h9 (fun h16 => ah_m h9 h16 → ∃ q21, ah_R h16 0 a1 = some q21 ∧ ∃ q23, ah_R h16 1 a1 = some q23 ∧ w_SU_orderOfAbsolutes q21 q23 h16 (fun r26 h25 => ah_m h16 h25 → (0 ≤ r26 → (bk_CD_greatest_34 K a1 a4 h25)) ∧ (¬ 0 ≤ r26 → (w_CD_exchange a1 h25 (fun h111 => ah_m h25 h111 → bk_CD_greatest_34 K a1 a4 h111))))))
set_option maxHeartbeats 4000000 in
set_option maxRecDepth 100000 in
theorem m_CD_init {l : Launch} (G : zG) (a1 : Nat) (h0 : ah_H) {K : ah_H → Prop} (hst : l.stackTraces = false) (w : w_CD_init a1 h0 K) : Met l y_CD_init (Cond.code y_CD_init b_CD_init 1 none :: zx_T) rm_CD_init (va_Pc [.ref a1] (ah_B G h0)) (va_Qv (fun h9 => K h9 ∧ ah_m h0 h9) (ah_B G) (fun q => G.2.2 ≤ q)) 4 522 (fun q => G.2.2 ≤ q) := by
  refine Met.ofW (cc := b_CD_init) (maxL := 1) (ret := none) (by decide) rfl ?_
  intro p e s m args below meth c s₁ B hml hv
  have htb := cx_out B (atoms_spec B.pre _ List.mem_cons_self)
  obtain ⟨rfl, hB⟩ := hv
  have C : cx_C p l s m _ meth c G y_CD_init b_CD_init 1 none "BigDesk$CommonDivisor" (Cond.code y_CD_init b_CD_init 1 none :: zx_T) [] := ⟨B.exec, B.bytes, B.returns, hml, findClass_of_methodNamed B.named, atoms_spec B.pre, cx_hd, B.notSynchronized, hB.2.2.1, hB.2.2.2, htb, fun z9 => (name_of_methodNamed B.named B.method).1.trans z9, hst⟩
  obtain ⟨hx, hb, hr, hml, hown, hts, hT, hlk, hK, hX, htb, hin, hst⟩ := id C
  have hw : ∀ {w9 : Cond}, w9 ∈ zx_T → w9.before _ s = true := fun h9 => hts _ (hT _ h9)
  have hW : ah_W G s.heap h0 s.heap [] := ⟨hB.1, hB.2.1, va_S.rf⟩
  have hm : ah_m h0 h0 := ah_m.rf
  have hcl : 0 + 4 ≤ 4 := by decide
  have hsl : 0 + 522 ≤ 522 := by decide
  have hl := lv_entry ([.ref a1]) (n := 1) (Nat.le_of_ble_eq_true rfl)
  rw [lg_entry_eq]
  generalize (lg_sl ([.ref a1]) ++ List.replicate (1 - (lg_sl ([.ref a1])).length) Slot.unset).toArray = ls at hl ⊢
  have hl : lv_has ls 1 [(0, .ref a1)] := hl
  unfold w_CD_init at w
  refine lv_aload_n hx hb d_CD_init_0 rfl (lv_at hl 0 rfl) ?_
  refine W.objInit hx hb hown (hw wd_82) (hw wd_24) (hw wd_25) rfl (by rw [hml]; exact hl.1) rfl d_CD_init_1 (Nat.le_of_ble_eq_true rfl) (Nat.le_of_ble_eq_true rfl) ?_
  refine W.eq (g2 := F0 m 4 ls []) rfl ?_
  refine lv_aload_n hx hb d_CD_init_4 rfl (lv_at hl 0 rfl) ?_
  refine hb_new (ci := 2) (C := "BigDesk$Whole") (T := T_WH) (N := 3) hx hb hts (fun w9 h9 => hT w9 (u_WH w9 h9)) t_WH o_WH hown (hw wd_83) (hw wd_28) (hw wd_2) hK hW rfl (by decide) f_WH (by show _ ≤ 4; omega) (by show _ ≤ 522; omega) d_CD_init_5 (fun q2 H z3 hW => ?_)
  obtain ⟨h4, eh4⟩ : ∃ z9, z9 = ah_new h0 q2 3 0 := ⟨_, rfl⟩
  rw [← eh4] at hW
  have w := w q2 z3 h4 eh4
  have mm5 : ah_m h0 h4 := (ah_m.rf.nw z3).eq eh4
  have hm := hm.tr mm5
  have t6 : ah_T h4 q2 = 3 := by rw [eh4]; exact va_up_self _ _ _
  refine lv_dup hx hb d_CD_init_8 rfl ?_
  refine hb_callv (va_runIN (As := []) (rest := [.ref q2, .ref a1]) ⟨hx, hb, hml, hown, hts⟩ (m_WH_init G q2 h4 hst w) ⟨va_cnB 0 hts (zx_gB hT wd_31) rfl rfl rfl (hX.1 _ (zx_nest_CD_11) rfl) (hw wd_2) (by decide +kernel) ⟨Nat.le_of_ble_eq_true rfl, Nat.le_of_ble_eq_true rfl⟩, rfl, hw wd_30⟩ (hb_preS hK hX hW) rfl rfl hl.1 rfl (lv_room (Nat.le_of_ble_eq_true rfl)) d_CD_init_9 ⟨(by show _ ≤ 4; omega), (by show _ ≤ 522; omega)⟩) hW (fun h7 H locs hk hW => ?_)
  obtain ⟨w, mm8⟩ := hk
  have w := w mm8
  have hm := hm.tr mm8
  have t9 := mm8.tg t6 (by decide)
  obtain ⟨t10, w⟩ := w
  refine hb_put (ci := 0) (C := "BigDesk$CommonDivisor") (T := T_CD) (N := 6) hx hb hts (fun w9 h9 => hT w9 (u_CD w9 h9)) t_CD o_CD n_CD hown hK hW t10 rfl (by decide) 0 (by decide) (hw wd_85) (fun _ h9 => h9) rfl (ty := t_CD 0) (by decide +kernel) (q := (2, 0)) rfl (by decide) (v := .ref q2) rfl rfl (ah_one_R h7 0 a1 (some q2)) d_CD_init_12 (fun H locs h11 eh11 hW => ?_)
  have w := w h11 eh11
  have mm12 : ah_m h7 h11 := ah_m.rf.st (by rw [eh11]; rfl) (by rw [eh11]; rfl)
  have hm := hm.tr mm12
  have t13 := mm12.tg t9 (by decide)
  have t14 := mm12.tg t10 (by decide)
  refine lv_aload_n hx hb d_CD_init_15 rfl (lv_at hl 0 rfl) ?_
  refine hb_new (ci := 2) (C := "BigDesk$Whole") (T := T_WH) (N := 3) hx hb hts (fun w9 h9 => hT w9 (u_WH w9 h9)) t_WH o_WH hown (hw wd_83) (hw wd_28) (hw wd_2) hK hW rfl (by decide) f_WH (by show _ ≤ 4; omega) (by show _ ≤ 522; omega) d_CD_init_16 (fun q15 H z16 hW => ?_)
  obtain ⟨h17, eh17⟩ : ∃ z9, z9 = ah_new h11 q15 3 0 := ⟨_, rfl⟩
  rw [← eh17] at hW
  have w := w q15 z16 h17 eh17
  have mm18 : ah_m h11 h17 := (ah_m.rf.nw z16).eq eh17
  have hm := hm.tr mm18
  have t19 := mm18.tg t13 (by decide)
  have t20 := mm18.tg t14 (by decide)
  have t21 : ah_T h17 q15 = 3 := by rw [eh17]; exact va_up_self _ _ _
  refine lv_dup hx hb d_CD_init_19 rfl ?_
  refine hb_callv (va_runIN (As := []) (rest := [.ref q15, .ref a1]) ⟨hx, hb, hml, hown, hts⟩ (m_WH_init G q15 h17 hst w) ⟨va_cnB 0 hts (zx_gB hT wd_31) rfl rfl rfl (hX.1 _ (zx_nest_CD_11) rfl) (hw wd_2) (by decide +kernel) ⟨Nat.le_of_ble_eq_true rfl, Nat.le_of_ble_eq_true rfl⟩, rfl, hw wd_30⟩ (hb_preS hK hX hW) rfl rfl hl.1 rfl (lv_room (Nat.le_of_ble_eq_true rfl)) d_CD_init_20 ⟨(by show _ ≤ 4; omega), (by show _ ≤ 522; omega)⟩) hW (fun h22 H locs hk hW => ?_)
  obtain ⟨w, mm23⟩ := hk
  have w := w mm23
  have hm := hm.tr mm23
  have t24 := mm23.tg t19 (by decide)
  have t25 := mm23.tg t20 (by decide)
  have t26 := mm23.tg t21 (by decide)
  refine hb_put (ci := 0) (C := "BigDesk$CommonDivisor") (T := T_CD) (N := 6) hx hb hts (fun w9 h9 => hT w9 (u_CD w9 h9)) t_CD o_CD n_CD hown hK hW t25 rfl (by decide) 1 (by decide) (hw wd_86) (fun _ h9 => h9) rfl (ty := t_CD 1) (by decide +kernel) (q := (2, 1)) rfl (by decide) (v := .ref q15) rfl rfl (ah_one_R h22 1 a1 (some q15)) d_CD_init_23 (fun H locs h27 eh27 hW => ?_)
  have w := w h27 eh27
  have mm28 : ah_m h22 h27 := ah_m.rf.st (by rw [eh27]; rfl) (by rw [eh27]; rfl)
  have hm := hm.tr mm28
  have t29 := mm28.tg t24 (by decide)
  have t30 := mm28.tg t25 (by decide)
  have t31 := mm28.tg t26 (by decide)
  exact hb_vret (K := fun h9 => K h9 ∧ ah_m h0 h9) hx hb hr hlk hK hX hW ⟨w, hm⟩ (by omega) (by omega) d_CD_init_26
set_option maxHeartbeats 4000000 in
set_option maxRecDepth 100000 in
theorem m_CD_exchange {l : Launch} (G : zG) (a1 : Nat) (h0 : ah_H) {K : ah_H → Prop} (hst : l.stackTraces = false) (w : w_CD_exchange a1 h0 K) : Met l y_CD_exchange (Cond.code y_CD_exchange b_CD_exchange 2 none :: zx_T) rm_CD_exchange (va_Pc [.ref a1] (ah_B G h0)) (va_Qv (fun h9 => K h9 ∧ ah_m h0 h9) (ah_B G) (fun q => G.2.2 ≤ q)) 0 0 (fun q => G.2.2 ≤ q) := by
  refine Met.ofW (cc := b_CD_exchange) (maxL := 2) (ret := none) (by decide) rfl ?_
  intro p e s m args below meth c s₁ B hml hv
  have htb := cx_out B (atoms_spec B.pre _ List.mem_cons_self)
  obtain ⟨rfl, hB⟩ := hv
  have C : cx_C p l s m _ meth c G y_CD_exchange b_CD_exchange 2 none "BigDesk$CommonDivisor" (Cond.code y_CD_exchange b_CD_exchange 2 none :: zx_T) [] := ⟨B.exec, B.bytes, B.returns, hml, findClass_of_methodNamed B.named, atoms_spec B.pre, cx_hd, B.notSynchronized, hB.2.2.1, hB.2.2.2, htb, fun z9 => (name_of_methodNamed B.named B.method).1.trans z9, hst⟩
  obtain ⟨hx, hb, hr, hml, hown, hts, hT, hlk, hK, hX, htb, hin, hst⟩ := id C
  have hw : ∀ {w9 : Cond}, w9 ∈ zx_T → w9.before _ s = true := fun h9 => hts _ (hT _ h9)
  have hW : ah_W G s.heap h0 s.heap [] := ⟨hB.1, hB.2.1, va_S.rf⟩
  have hm : ah_m h0 h0 := ah_m.rf
  have hcl : 0 + 0 ≤ 0 := by decide
  have hsl : 0 + 0 ≤ 0 := by decide
  have hl := lv_entry ([.ref a1]) (n := 2) (Nat.le_of_ble_eq_true rfl)
  rw [lg_entry_eq]
  generalize (lg_sl ([.ref a1]) ++ List.replicate (2 - (lg_sl ([.ref a1])).length) Slot.unset).toArray = ls at hl ⊢
  have hl : lv_has ls 2 [(0, .ref a1)] := hl
  unfold w_CD_exchange at w
  refine lv_aload_n hx hb d_CD_exchange_0 rfl (lv_at hl 0 rfl) ?_
  obtain ⟨t2, w⟩ := w
  obtain ⟨q3, e4, w⟩ := w
  refine hb_get (ci := 0) (C := "BigDesk$CommonDivisor") (T := T_CD) (N := 6) hx hb hts (fun w9 h9 => hT w9 (u_CD w9 h9)) hown hK hW t2 rfl (by decide) 0 (by decide) (hw wd_85) (fun _ h9 => h9) (q := (2, 0)) rfl (v := .ref q3) (ah_f_R e4) d_CD_exchange_1 ?_
  refine lv_astore_n (lv' := [(1, .ref q3), (0, .ref a1)]) hx hb d_CD_exchange_4 rfl hl (by decide) rfl (fun ls hl => ?_)
  refine lv_aload_n hx hb d_CD_exchange_5 rfl (lv_at hl 1 rfl) ?_
  refine lv_aload_n hx hb d_CD_exchange_6 rfl (lv_at hl 1 rfl) ?_
  obtain ⟨q5, e6, w⟩ := w
  refine hb_get (ci := 0) (C := "BigDesk$CommonDivisor") (T := T_CD) (N := 6) hx hb hts (fun w9 h9 => hT w9 (u_CD w9 h9)) hown hK hW t2 rfl (by decide) 1 (by decide) (hw wd_86) (fun _ h9 => h9) (q := (2, 1)) rfl (v := .ref q5) (ah_f_R e6) d_CD_exchange_7 ?_
  refine hb_put (ci := 0) (C := "BigDesk$CommonDivisor") (T := T_CD) (N := 6) hx hb hts (fun w9 h9 => hT w9 (u_CD w9 h9)) t_CD o_CD n_CD hown hK hW t2 rfl (by decide) 0 (by decide) (hw wd_85) (fun _ h9 => h9) rfl (ty := t_CD 0) (by decide +kernel) (q := (2, 0)) rfl (by decide) (v := .ref q5) rfl rfl (ah_one_R h0 0 a1 (some q5)) d_CD_exchange_10 (fun H locs h7 eh7 hW => ?_)
  have w := w h7 eh7
  have mm8 : ah_m h0 h7 := ah_m.rf.st (by rw [eh7]; rfl) (by rw [eh7]; rfl)
  have hm := hm.tr mm8
  have t9 := mm8.tg t2 (by decide)
  refine lv_aload_n hx hb d_CD_exchange_13 rfl (lv_at hl 1 rfl) ?_
  refine lv_aload_n hx hb d_CD_exchange_14 rfl (lv_at hl 0 rfl) ?_
  refine hb_put (ci := 0) (C := "BigDesk$CommonDivisor") (T := T_CD) (N := 6) hx hb hts (fun w9 h9 => hT w9 (u_CD w9 h9)) t_CD o_CD n_CD hown hK hW t9 rfl (by decide) 1 (by decide) (hw wd_86) (fun _ h9 => h9) rfl (ty := t_CD 1) (by decide +kernel) (q := (2, 1)) rfl (by decide) (v := .ref q3) rfl rfl (ah_one_R h7 1 a1 (some q3)) d_CD_exchange_15 (fun H locs h10 eh10 hW => ?_)
  have w := w h10 eh10
  have mm11 : ah_m h7 h10 := ah_m.rf.st (by rw [eh10]; rfl) (by rw [eh10]; rfl)
  have hm := hm.tr mm11
  have t12 := mm11.tg t9 (by decide)
  exact hb_vret (K := fun h9 => K h9 ∧ ah_m h0 h9) hx hb hr hlk hK hX hW ⟨w, hm⟩ (by omega) (by omega) d_CD_exchange_18
set_option maxHeartbeats 4000000 in
set_option maxRecDepth 100000 in
theorem tl_CD_foretell_49 {p : Program} {l : Launch} {e : Env} {s : State} {m : MethodId} {args : Array Value} {below : List Frame} {meth : Method} {c : Code} {G : zG} (C : cx_C p l s m args meth c G y_CD_foretell b_CD_foretell 23 (some .boolean) "BigDesk$CommonDivisor" (Cond.code y_CD_foretell b_CD_foretell 23 (some .boolean) :: zx_T) []) {K : Int32 → ah_H → Prop} {h0 : ah_H} {cells slots : Nat} (hcl : cells + 0 ≤ 0) (hsl : slots + 0 ≤ 0) {xt_116 : Nat → Int64 → Int64 → Int64 → Int64 → ah_H → Prop} {xt_163 : Nat → Int64 → Int64 → Int64 → Int64 → ah_H → Prop} {xt_204 : Nat → Int64 → Int64 → Int64 → Int64 → ah_H → Prop} {xt_76 : Nat → Int64 → Int64 → Int64 → Int64 → ah_H → Prop} (hc_xt_116 : ∀ (z0 : Nat) (z1 : Int64) (z2 : Int64) (z3 : Int64) (z4 : Int64) (hz : ah_H) (H : Heap) (locs : List Loc) (ls : Array Slot), xt_116 z0 z1 z2 z3 z4 hz → ah_m h0 hz → ah_W G s.heap hz H locs → lv_has ls 23 [(0, .ref z0), (6, .long z1), (8, .long z2), (10, .long z3), (12, .long z4)] → W p l e rm_CD_foretell s m args below meth c H locs cells slots (MQ below (va_Qi (fun r9 h9 => K r9 h9 ∧ ah_m h0 h9) (ah_B G) (fun q => G.2.2 ≤ q)) args s 0 0 (fun q => G.2.2 ≤ q)) (F0 m 116 ls [])) (hc_xt_163 : ∀ (z0 : Nat) (z1 : Int64) (z2 : Int64) (z3 : Int64) (z4 : Int64) (hz : ah_H) (H : Heap) (locs : List Loc) (ls : Array Slot), xt_163 z0 z1 z2 z3 z4 hz → ah_m h0 hz → ah_W G s.heap hz H locs → lv_has ls 23 [(0, .ref z0), (6, .long z1), (8, .long z2), (10, .long z3), (12, .long z4)] → W p l e rm_CD_foretell s m args below meth c H locs cells slots (MQ below (va_Qi (fun r9 h9 => K r9 h9 ∧ ah_m h0 h9) (ah_B G) (fun q => G.2.2 ≤ q)) args s 0 0 (fun q => G.2.2 ≤ q)) (F0 m 163 ls [])) (hc_xt_204 : ∀ (z0 : Nat) (z1 : Int64) (z2 : Int64) (z3 : Int64) (z4 : Int64) (hz : ah_H) (H : Heap) (locs : List Loc) (ls : Array Slot), xt_204 z0 z1 z2 z3 z4 hz → ah_m h0 hz → ah_W G s.heap hz H locs → lv_has ls 23 [(0, .ref z0), (6, .long z1), (8, .long z2), (10, .long z3), (12, .long z4)] → W p l e rm_CD_foretell s m args below meth c H locs cells slots (MQ below (va_Qi (fun r9 h9 => K r9 h9 ∧ ah_m h0 h9) (ah_B G) (fun q => G.2.2 ≤ q)) args s 0 0 (fun q => G.2.2 ≤ q)) (F0 m 204 ls [])) (hc_xt_76 : ∀ (z0 : Nat) (z1 : Int64) (z2 : Int64) (z3 : Int64) (z4 : Int64) (hz : ah_H) (H : Heap) (locs : List Loc) (ls : Array Slot), xt_76 z0 z1 z2 z3 z4 hz → ah_m h0 hz → ah_W G s.heap hz H locs → lv_has ls 23 [(0, .ref z0), (6, .long z1), (8, .long z2), (10, .long z3), (12, .long z4)] → W p l e rm_CD_foretell s m args below meth c H locs cells slots (MQ below (va_Qi (fun r9 h9 => K r9 h9 ∧ ah_m h0 h9) (ah_B G) (fun q => G.2.2 ≤ q)) args s 0 0 (fun q => G.2.2 ≤ q)) (F0 m 76 ls [])) : ∀ (n : Nat) (x31 : Nat) (x32 : Int64) (x33 : Int64) (x34 : Int64) (x35 : Int64) (x36 : Int64) (x37 : Int64) (x38 : Int32) (h39 : ah_H) (H : Heap) (locs : List Loc) (ls : Array Slot), lp_CD_foretell_49 xt_116 xt_163 xt_204 xt_76 K n x31 x32 x33 x34 x35 x36 x37 x38 h39 → ah_m h0 h39 → ah_W G s.heap h39 H locs → lv_has ls 23 [(0, .ref x31), (2, .long x32), (4, .long x33), (6, .long x34), (8, .long x35), (10, .long x36), (12, .long x37), (14, .int x38)] → W p l e rm_CD_foretell s m args below meth c H locs cells slots (MQ below (va_Qi (fun r9 h9 => K r9 h9 ∧ ah_m h0 h9) (ah_B G) (fun q => G.2.2 ≤ q)) args s 0 0 (fun q => G.2.2 ≤ q)) (F0 m 49 ls []) := by
  obtain ⟨hx, hb, hr, hml, hown, hts, hT, hlk, hK, hX, htb, hin, hst⟩ := id C
  have hw : ∀ {w9 : Cond}, w9 ∈ zx_T → w9.before _ s = true := fun h9 => hts _ (hT _ h9)
  intro n
  induction n with
  | zero =>
    intro x31 x32 x33 x34 x35 x36 x37 x38 h39 H locs ls w
    exact absurd w (by intro z9; exact z9)
  | succ n ih =>
    intro x31 x32 x33 x34 x35 x36 x37 x38 h39 H locs ls w hm hW hl
    unfold lp_CD_foretell_49 at w
    refine lv_iload hx hb d_CD_foretell_49 (lv_at hl 7 rfl) ?_
    refine lv_bipush (v := 64) hx hb d_CD_foretell_51 (by decide) ?_
    refine lv_icmp_ge (tgt := 204) hx hb d_CD_foretell_53 (by decide) (fun c40 => ?_) (fun c40 => ?_)
    · have w := w.1 c40
      exact hc_xt_204 x31 x34 x35 x36 x37 h39 _ _ _ w hm hW (lv_sub hl [0, 3, 4, 5, 6] rfl)
    · have w := w.2 c40
      refine lv_lload hx hb d_CD_foretell_56 (lv_at hl 2 rfl) ?_
      refine lv_lload hx hb d_CD_foretell_58 (lv_at hl 5 rfl) ?_
      refine lv_ladd hx hb d_CD_foretell_60 ?_
      refine lv_lconst (v := 0) hx hb d_CD_foretell_61 (by decide) ?_
      refine hb_lcmp_le (tgt := 204) hx hb d_CD_foretell_62 d_CD_foretell_63 (by decide) (fun c41 => ?_) (fun c41 => ?_)
      · have w := w.1 c41
        exact hc_xt_204 x31 x34 x35 x36 x37 h39 _ _ _ w hm hW (lv_sub hl [0, 3, 4, 5, 6] rfl)
      · have w := w.2 c41
        refine lv_lload hx hb d_CD_foretell_66 (lv_at hl 2 rfl) ?_
        refine lv_lload hx hb d_CD_foretell_68 (lv_at hl 6 rfl) ?_
        refine lv_ladd hx hb d_CD_foretell_70 ?_
        refine lv_lconst (v := 0) hx hb d_CD_foretell_71 (by decide) ?_
        refine hb_lcmp_gt (tgt := 79) hx hb d_CD_foretell_72 d_CD_foretell_73 (by decide) (fun c42 => ?_) (fun c42 => ?_)
        · have w := w.1 c42
          refine lv_lload_n hx hb d_CD_foretell_79 rfl (lv_at hl 1 rfl) ?_
          refine lv_lload hx hb d_CD_foretell_80 (lv_at hl 3 rfl) ?_
          refine lv_ladd hx hb d_CD_foretell_82 ?_
          refine lv_lload hx hb d_CD_foretell_83 (lv_at hl 2 rfl) ?_
          refine lv_lload hx hb d_CD_foretell_85 (lv_at hl 5 rfl) ?_
          refine lv_ladd hx hb d_CD_foretell_87 ?_
          obtain ⟨ne43, w⟩ := w
          refine lv_ldiv hx hb d_CD_foretell_88 ne43 ?_
          refine lv_topl (fun v44 ev44 => ?_)
          have w := w v44 ev44
          refine lv_lstore (lv' := [(15, .long v44), (0, .ref x31), (2, .long x32), (4, .long x33), (6, .long x34), (8, .long x35), (10, .long x36), (12, .long x37), (14, .int x38)]) hx hb d_CD_foretell_89 hl (by decide) rfl (fun ls hl => ?_)
          refine lv_lload hx hb d_CD_foretell_91 (lv_at hl 0 rfl) ?_
          refine lv_ldc2 (v := 2147483647) hx hb hown (hw wd_470) d_CD_foretell_93 ?_
          refine hb_lcmp_gt (tgt := 204) hx hb d_CD_foretell_96 d_CD_foretell_97 (by decide) (fun c45 => ?_) (fun c45 => ?_)
          · have w := w.1 c45
            exact hc_xt_204 x31 x34 x35 x36 x37 h39 _ _ _ w hm hW (lv_sub hl [1, 4, 5, 6, 7] rfl)
          · have w := w.2 c45
            refine lv_lload hx hb d_CD_foretell_100 (lv_at hl 0 rfl) ?_
            refine lv_lload_n hx hb d_CD_foretell_102 rfl (lv_at hl 2 rfl) ?_
            refine lv_lload hx hb d_CD_foretell_103 (lv_at hl 5 rfl) ?_
            refine lv_ladd hx hb d_CD_foretell_105 ?_
            refine lv_lload hx hb d_CD_foretell_106 (lv_at hl 3 rfl) ?_
            refine lv_lload hx hb d_CD_foretell_108 (lv_at hl 7 rfl) ?_
            refine lv_ladd hx hb d_CD_foretell_110 ?_
            obtain ⟨ne46, w⟩ := w
            refine lv_ldiv hx hb d_CD_foretell_111 ne46 ?_
            refine hb_lcmp_eq (tgt := 119) hx hb d_CD_foretell_112 d_CD_foretell_113 (by decide) (fun c47 => ?_) (fun c47 => ?_)
            · have w := w.1 c47
              refine lv_lload hx hb d_CD_foretell_119 (lv_at hl 4 rfl) ?_
              refine lv_lload hx hb d_CD_foretell_121 (lv_at hl 0 rfl) ?_
              refine lv_lload hx hb d_CD_foretell_123 (lv_at hl 6 rfl) ?_
              refine lv_lmul hx hb d_CD_foretell_125 ?_
              refine lv_lsub hx hb d_CD_foretell_126 ?_
              refine lv_topl (fun v48 ev48 => ?_)
              have w := w v48 ev48
              refine lv_lstore (lv' := [(17, .long v48), (15, .long v44), (0, .ref x31), (2, .long x32), (4, .long x33), (6, .long x34), (8, .long x35), (10, .long x36), (12, .long x37), (14, .int x38)]) hx hb d_CD_foretell_127 hl (by decide) rfl (fun ls hl => ?_)
              refine lv_lload hx hb d_CD_foretell_129 (lv_at hl 6 rfl) ?_
              refine lv_lload hx hb d_CD_foretell_131 (lv_at hl 1 rfl) ?_
              refine lv_lload hx hb d_CD_foretell_133 (lv_at hl 8 rfl) ?_
              refine lv_lmul hx hb d_CD_foretell_135 ?_
              refine lv_lsub hx hb d_CD_foretell_136 ?_
              refine lv_topl (fun v49 ev49 => ?_)
              have w := w v49 ev49
              refine lv_lstore (lv' := [(19, .long v49), (17, .long v48), (15, .long v44), (0, .ref x31), (2, .long x32), (4, .long x33), (6, .long x34), (8, .long x35), (10, .long x36), (12, .long x37), (14, .int x38)]) hx hb d_CD_foretell_137 hl (by decide) rfl (fun ls hl => ?_)
              refine lv_lload hx hb d_CD_foretell_139 (lv_at hl 1 rfl) ?_
              refine va_mabs_long hx hb (by rw [hml]; exact hl.1.symm) hown (hw wd_471) (hw wd_472) (hw wd_12) (hw wd_473) (Nat.le_of_ble_eq_true rfl) (Nat.le_of_ble_eq_true rfl) (by show _ ≤ 0; omega) (by show _ ≤ 0; omega) d_CD_foretell_141 ?_
              refine lv_ldc2 (v := 2147483647) hx hb hown (hw wd_470) d_CD_foretell_144 ?_
              refine hb_lcmp_gt (tgt := 204) hx hb d_CD_foretell_147 d_CD_foretell_148 (by decide) (fun c50 => ?_) (fun c50 => ?_)
              · have w := w.1 c50
                exact hc_xt_204 x31 x34 x35 x36 x37 h39 _ _ _ w hm hW (lv_sub hl [3, 6, 7, 8, 9] rfl)
              · have w := w.2 c50
                refine lv_lload hx hb d_CD_foretell_151 (lv_at hl 0 rfl) ?_
                refine va_mabs_long hx hb (by rw [hml]; exact hl.1.symm) hown (hw wd_471) (hw wd_472) (hw wd_12) (hw wd_473) (Nat.le_of_ble_eq_true rfl) (Nat.le_of_ble_eq_true rfl) (by show _ ≤ 0; omega) (by show _ ≤ 0; omega) d_CD_foretell_153 ?_
                refine lv_ldc2 (v := 2147483647) hx hb hown (hw wd_470) d_CD_foretell_156 ?_
                refine hb_lcmp_le (tgt := 166) hx hb d_CD_foretell_159 d_CD_foretell_160 (by decide) (fun c51 => ?_) (fun c51 => ?_)
                · have w := w.1 c51
                  refine lv_lload hx hb d_CD_foretell_166 (lv_at hl 8 rfl) ?_
                  refine lv_lstore (lv' := [(6, .long x36), (19, .long v49), (17, .long v48), (15, .long v44), (0, .ref x31), (2, .long x32), (4, .long x33), (8, .long x35), (10, .long x36), (12, .long x37), (14, .int x38)]) hx hb d_CD_foretell_168 hl (by decide) rfl (fun ls hl => ?_)
                  refine lv_lload hx hb d_CD_foretell_170 (lv_at hl 9 rfl) ?_
                  refine lv_lstore (lv' := [(8, .long x37), (6, .long x36), (19, .long v49), (17, .long v48), (15, .long v44), (0, .ref x31), (2, .long x32), (4, .long x33), (10, .long x36), (12, .long x37), (14, .int x38)]) hx hb d_CD_foretell_172 hl (by decide) rfl (fun ls hl => ?_)
                  refine lv_lload hx hb d_CD_foretell_174 (lv_at hl 3 rfl) ?_
                  refine lv_lstore (lv' := [(10, .long v48), (8, .long x37), (6, .long x36), (19, .long v49), (17, .long v48), (15, .long v44), (0, .ref x31), (2, .long x32), (4, .long x33), (12, .long x37), (14, .int x38)]) hx hb d_CD_foretell_176 hl (by decide) rfl (fun ls hl => ?_)
                  refine lv_lload hx hb d_CD_foretell_178 (lv_at hl 3 rfl) ?_
                  refine lv_lstore (lv' := [(12, .long v49), (10, .long v48), (8, .long x37), (6, .long x36), (19, .long v49), (17, .long v48), (15, .long v44), (0, .ref x31), (2, .long x32), (4, .long x33), (14, .int x38)]) hx hb d_CD_foretell_180 hl (by decide) rfl (fun ls hl => ?_)
                  refine lv_lload_n hx hb d_CD_foretell_182 rfl (lv_at hl 8 rfl) ?_
                  refine lv_lload hx hb d_CD_foretell_183 (lv_at hl 6 rfl) ?_
                  refine lv_lload hx hb d_CD_foretell_185 (lv_at hl 9 rfl) ?_
                  refine lv_lmul hx hb d_CD_foretell_187 ?_
                  refine lv_lsub hx hb d_CD_foretell_188 ?_
                  refine lv_topl (fun v52 ev52 => ?_)
                  have w := w v52 ev52
                  refine lv_lstore (lv' := [(21, .long v52), (12, .long v49), (10, .long v48), (8, .long x37), (6, .long x36), (19, .long v49), (17, .long v48), (15, .long v44), (0, .ref x31), (2, .long x32), (4, .long x33), (14, .int x38)]) hx hb d_CD_foretell_189 hl (by decide) rfl (fun ls hl => ?_)
                  refine lv_lload hx hb d_CD_foretell_191 (lv_at hl 10 rfl) ?_
                  refine lv_lstore_n (lv' := [(2, .long x33), (21, .long v52), (12, .long v49), (10, .long v48), (8, .long x37), (6, .long x36), (19, .long v49), (17, .long v48), (15, .long v44), (0, .ref x31), (4, .long x33), (14, .int x38)]) hx hb d_CD_foretell_193 rfl hl (by decide) rfl (fun ls hl => ?_)
                  refine lv_lload hx hb d_CD_foretell_194 (lv_at hl 1 rfl) ?_
                  refine lv_lstore (lv' := [(4, .long v52), (2, .long x33), (21, .long v52), (12, .long v49), (10, .long v48), (8, .long x37), (6, .long x36), (19, .long v49), (17, .long v48), (15, .long v44), (0, .ref x31), (14, .int x38)]) hx hb d_CD_foretell_196 hl (by decide) rfl (fun ls hl => ?_)
                  obtain ⟨v53, ev53⟩ : ∃ y9 : Int32, y9 = x38 + 1 := ⟨_, rfl⟩
                  have w := w v53 ev53
                  refine lv_iinc (v := v53) (lv' := [(14, .int v53), (4, .long v52), (2, .long x33), (21, .long v52), (12, .long v49), (10, .long v48), (8, .long x37), (6, .long x36), (19, .long v49), (17, .long v48), (15, .long v44), (0, .ref x31)]) hx hb d_CD_foretell_198 hl (k := 11) rfl (by rw [ev53]; rfl) (by decide) rfl (fun ls hl => ?_)
                  refine lv_goto (tgt := 49) hx hb d_CD_foretell_201 (by decide) ?_
                  exact ih x31 x33 v52 x36 x37 v48 v49 v53 h39 _ _ _ w hm hW (lv_sub hl [11, 2, 1, 7, 6, 5, 4, 0] rfl)
                · have w := w.2 c51
                  exact hc_xt_163 x31 x34 x35 x36 x37 h39 _ _ _ w hm hW (lv_sub hl [3, 6, 7, 8, 9] rfl)
            · have w := w.2 c47
              exact hc_xt_116 x31 x34 x35 x36 x37 h39 _ _ _ w hm hW (lv_sub hl [1, 4, 5, 6, 7] rfl)
        · have w := w.2 c42
          exact hc_xt_76 x31 x34 x35 x36 x37 h39 _ _ _ w hm hW (lv_sub hl [0, 3, 4, 5, 6] rfl)
set_option maxHeartbeats 4000000 in
set_option maxRecDepth 100000 in
theorem tb_CD_foretell_240 {p : Program} {l : Launch} {e : Env} {s : State} {m : MethodId} {args : Array Value} {below : List Frame} {meth : Method} {c : Code} {G : zG} (C : cx_C p l s m args meth c G y_CD_foretell b_CD_foretell 23 (some .boolean) "BigDesk$CommonDivisor" (Cond.code y_CD_foretell b_CD_foretell 23 (some .boolean) :: zx_T) []) {K : Int32 → ah_H → Prop} {h0 : ah_H} {cells slots : Nat} (hcl : cells + 0 ≤ 0) (hsl : slots + 0 ≤ 0)  (s80 : Int32) (h81 : ah_H) (H : Heap) (locs : List Loc) (ls : Array Slot) (w : bk_CD_foretell_240 K s80 h81) (hm : ah_m h0 h81) (hW : ah_W G s.heap h81 H locs) (hl : lv_has ls 23 []) : W p l e rm_CD_foretell s m args below meth c H locs cells slots (MQ below (va_Qi (fun r9 h9 => K r9 h9 ∧ ah_m h0 h9) (ah_B G) (fun q => G.2.2 ≤ q)) args s 0 0 (fun q => G.2.2 ≤ q)) (F0 m 240 ls [.int s80]) := by
  unfold bk_CD_foretell_240 at w
  obtain ⟨hx, hb, hr, hml, hown, hts, hT, hlk, hK, hX, htb, hin, hst⟩ := id C
  have hw : ∀ {w9 : Cond}, w9 ∈ zx_T → w9.before _ s = true := fun h9 => hts _ (hT _ h9)
  obtain ⟨z82, w⟩ := w
  exact hb_zret (K := fun r9 h9 => K r9 h9 ∧ ah_m h0 h9) hx hb hr hlk z82 hK hX hW ⟨w, hm⟩ (by omega) (by omega) d_CD_foretell_240
set_option maxHeartbeats 4000000 in
set_option maxRecDepth 100000 in
theorem tb_CD_foretell_204 {p : Program} {l : Launch} {e : Env} {s : State} {m : MethodId} {args : Array Value} {below : List Frame} {meth : Method} {c : Code} {G : zG} (C : cx_C p l s m args meth c G y_CD_foretell b_CD_foretell 23 (some .boolean) "BigDesk$CommonDivisor" (Cond.code y_CD_foretell b_CD_foretell 23 (some .boolean) :: zx_T) []) {K : Int32 → ah_H → Prop} {h0 : ah_H} {cells slots : Nat} (hcl : cells + 0 ≤ 0) (hsl : slots + 0 ≤ 0)  (x60 : Nat) (x61 : Int64) (x62 : Int64) (x63 : Int64) (x64 : Int64) (h65 : ah_H) (H : Heap) (locs : List Loc) (ls : Array Slot) (w : bk_CD_foretell_204 K x60 x61 x62 x63 x64 h65) (hm : ah_m h0 h65) (hW : ah_W G s.heap h65 H locs) (hl : lv_has ls 23 [(0, .ref x60), (6, .long x61), (8, .long x62), (10, .long x63), (12, .long x64)]) : W p l e rm_CD_foretell s m args below meth c H locs cells slots (MQ below (va_Qi (fun r9 h9 => K r9 h9 ∧ ah_m h0 h9) (ah_B G) (fun q => G.2.2 ≤ q)) args s 0 0 (fun q => G.2.2 ≤ q)) (F0 m 204 ls []) := by
  unfold bk_CD_foretell_204 at w
  obtain ⟨hx, hb, hr, hml, hown, hts, hT, hlk, hK, hX, htb, hin, hst⟩ := id C
  have hw : ∀ {w9 : Cond}, w9 ∈ zx_T → w9.before _ s = true := fun h9 => hts _ (hT _ h9)
  refine lv_aload_n hx hb d_CD_foretell_204 rfl (lv_at hl 0 rfl) ?_
  refine lv_lload hx hb d_CD_foretell_205 (lv_at hl 1 rfl) ?_
  obtain ⟨t66, w⟩ := w
  refine hb_put (ci := 0) (C := "BigDesk$CommonDivisor") (T := T_CD) (N := 6) hx hb hts (fun w9 h9 => hT w9 (u_CD w9 h9)) t_CD o_CD n_CD hown hK hW t66 rfl (by decide) 2 (by decide) (hw wd_87) (fun _ h9 => h9) rfl (ty := t_CD 2) (by decide +kernel) (q := (1, 0)) rfl (by decide) (v := .long x61) rfl rfl (ah_one_L h65 0 x60 x61) d_CD_foretell_207 (fun H locs h67 eh67 hW => ?_)
  have w := w h67 eh67
  have mm68 : ah_m h65 h67 := ah_m.rf.st (by rw [eh67]; rfl) (by rw [eh67]; rfl)
  have hm := hm.tr mm68
  have t69 := mm68.tg t66 (by decide)
  refine lv_aload_n hx hb d_CD_foretell_210 rfl (lv_at hl 0 rfl) ?_
  refine lv_lload hx hb d_CD_foretell_211 (lv_at hl 2 rfl) ?_
  refine hb_put (ci := 0) (C := "BigDesk$CommonDivisor") (T := T_CD) (N := 6) hx hb hts (fun w9 h9 => hT w9 (u_CD w9 h9)) t_CD o_CD n_CD hown hK hW t69 rfl (by decide) 3 (by decide) (hw wd_88) (fun _ h9 => h9) rfl (ty := t_CD 3) (by decide +kernel) (q := (1, 1)) rfl (by decide) (v := .long x62) rfl rfl (ah_one_L h67 1 x60 x62) d_CD_foretell_213 (fun H locs h70 eh70 hW => ?_)
  have w := w h70 eh70
  have mm71 : ah_m h67 h70 := ah_m.rf.st (by rw [eh70]; rfl) (by rw [eh70]; rfl)
  have hm := hm.tr mm71
  have t72 := mm71.tg t69 (by decide)
  refine lv_aload_n hx hb d_CD_foretell_216 rfl (lv_at hl 0 rfl) ?_
  refine lv_lload hx hb d_CD_foretell_217 (lv_at hl 3 rfl) ?_
  refine hb_put (ci := 0) (C := "BigDesk$CommonDivisor") (T := T_CD) (N := 6) hx hb hts (fun w9 h9 => hT w9 (u_CD w9 h9)) t_CD o_CD n_CD hown hK hW t72 rfl (by decide) 4 (by decide) (hw wd_89) (fun _ h9 => h9) rfl (ty := t_CD 4) (by decide +kernel) (q := (1, 2)) rfl (by decide) (v := .long x63) rfl rfl (ah_one_L h70 2 x60 x63) d_CD_foretell_219 (fun H locs h73 eh73 hW => ?_)
  have w := w h73 eh73
  have mm74 : ah_m h70 h73 := ah_m.rf.st (by rw [eh73]; rfl) (by rw [eh73]; rfl)
  have hm := hm.tr mm74
  have t75 := mm74.tg t72 (by decide)
  refine lv_aload_n hx hb d_CD_foretell_222 rfl (lv_at hl 0 rfl) ?_
  refine lv_lload hx hb d_CD_foretell_223 (lv_at hl 4 rfl) ?_
  refine hb_put (ci := 0) (C := "BigDesk$CommonDivisor") (T := T_CD) (N := 6) hx hb hts (fun w9 h9 => hT w9 (u_CD w9 h9)) t_CD o_CD n_CD hown hK hW t75 rfl (by decide) 5 (by decide) (hw wd_90) (fun _ h9 => h9) rfl (ty := t_CD 5) (by decide +kernel) (q := (1, 3)) rfl (by decide) (v := .long x64) rfl rfl (ah_one_L h73 3 x60 x64) d_CD_foretell_225 (fun H locs h76 eh76 hW => ?_)
  have w := w h76 eh76
  have mm77 : ah_m h73 h76 := ah_m.rf.st (by rw [eh76]; rfl) (by rw [eh76]; rfl)
  have hm := hm.tr mm77
  have t78 := mm77.tg t75 (by decide)
  refine lv_lload hx hb d_CD_foretell_228 (lv_at hl 2 rfl) ?_
  refine lv_lconst (v := 0) hx hb d_CD_foretell_230 (by decide) ?_
  refine hb_lcmp_eq (tgt := 239) hx hb d_CD_foretell_231 d_CD_foretell_232 (by decide) (fun c79 => ?_) (fun c79 => ?_)
  · have w := w.1 c79
    refine lv_iconst (v := 0) hx hb d_CD_foretell_239 (by decide) ?_
    exact tb_CD_foretell_240 C (by omega) (by omega)  (0 : Int32) h76 _ _ _ w hm hW (lv_sub hl [] rfl)
  · have w := w.2 c79
    refine lv_iconst (v := 1) hx hb d_CD_foretell_235 (by decide) ?_
    refine lv_goto (tgt := 240) hx hb d_CD_foretell_236 (by decide) ?_
    exact tb_CD_foretell_240 C (by omega) (by omega)  (1 : Int32) h76 _ _ _ w hm hW (lv_sub hl [] rfl)
set_option maxHeartbeats 4000000 in
set_option maxRecDepth 100000 in
theorem m_CD_foretell {l : Launch} (G : zG) (a1 : Nat) (h0 : ah_H) {K : Int32 → ah_H → Prop} (hst : l.stackTraces = false) (w : w_CD_foretell a1 h0 K) : Met l y_CD_foretell (Cond.code y_CD_foretell b_CD_foretell 23 (some .boolean) :: zx_T) rm_CD_foretell (va_Pc [.ref a1] (ah_B G h0)) (va_Qi (fun r9 h9 => K r9 h9 ∧ ah_m h0 h9) (ah_B G) (fun q => G.2.2 ≤ q)) 0 0 (fun q => G.2.2 ≤ q) := by
  refine Met.ofW (cc := b_CD_foretell) (maxL := 23) (ret := (some .boolean)) (by decide) rfl ?_
  intro p e s m args below meth c s₁ B hml hv
  have htb := cx_out B (atoms_spec B.pre _ List.mem_cons_self)
  obtain ⟨rfl, hB⟩ := hv
  have C : cx_C p l s m _ meth c G y_CD_foretell b_CD_foretell 23 (some .boolean) "BigDesk$CommonDivisor" (Cond.code y_CD_foretell b_CD_foretell 23 (some .boolean) :: zx_T) [] := ⟨B.exec, B.bytes, B.returns, hml, findClass_of_methodNamed B.named, atoms_spec B.pre, cx_hd, B.notSynchronized, hB.2.2.1, hB.2.2.2, htb, fun z9 => (name_of_methodNamed B.named B.method).1.trans z9, hst⟩
  obtain ⟨hx, hb, hr, hml, hown, hts, hT, hlk, hK, hX, htb, hin, hst⟩ := id C
  have hw : ∀ {w9 : Cond}, w9 ∈ zx_T → w9.before _ s = true := fun h9 => hts _ (hT _ h9)
  have hW : ah_W G s.heap h0 s.heap [] := ⟨hB.1, hB.2.1, va_S.rf⟩
  have hm : ah_m h0 h0 := ah_m.rf
  have hcl : 0 + 0 ≤ 0 := by decide
  have hsl : 0 + 0 ≤ 0 := by decide
  have hl := lv_entry ([.ref a1]) (n := 23) (Nat.le_of_ble_eq_true rfl)
  rw [lg_entry_eq]
  generalize (lg_sl ([.ref a1]) ++ List.replicate (23 - (lg_sl ([.ref a1])).length) Slot.unset).toArray = ls at hl ⊢
  have hl : lv_has ls 23 [(0, .ref a1)] := hl
  unfold w_CD_foretell at w
  refine lv_aload_n hx hb d_CD_foretell_0 rfl (lv_at hl 0 rfl) ?_
  obtain ⟨t2, w⟩ := w
  obtain ⟨q3, e4, w⟩ := w
  refine hb_get (ci := 0) (C := "BigDesk$CommonDivisor") (T := T_CD) (N := 6) hx hb hts (fun w9 h9 => hT w9 (u_CD w9 h9)) hown hK hW t2 rfl (by decide) 0 (by decide) (hw wd_85) (fun _ h9 => h9) (q := (2, 0)) rfl (v := .ref q3) (ah_f_R e4) d_CD_foretell_1 ?_
  obtain ⟨t5, w⟩ := w
  refine hb_calli (va_runV (As := []) (rest := []) ⟨hx, hb, hml, hown, hts⟩ (m_WH_bits G q3 h0 hst w) (cwV 0 hts (zx_gV hT wd_464 wd_274 wd_275 wd_2 wd_276) rfl rfl rfl (by decide +kernel) ⟨Nat.le_of_ble_eq_true rfl, Nat.le_of_ble_eq_true rfl⟩) (hb_preV hK hX hW t5 (by decide) rfl) rfl rfl hl.1 rfl (lv_room (Nat.le_of_ble_eq_true rfl)) d_CD_foretell_4 ⟨(by show _ ≤ 0; omega), (by show _ ≤ 0; omega)⟩) hW (fun r7 h6 H locs hk hW => ?_)
  obtain ⟨w, mm8⟩ := hk
  have w := w mm8
  have hm := hm.tr mm8
  have t9 := mm8.tg t2 (by decide)
  have t10 := mm8.tg t5 (by decide)
  refine lv_bipush (v := 62) hx hb d_CD_foretell_7 (by decide) ?_
  refine lv_isub hx hb d_CD_foretell_9 ?_
  refine lv_iconst (v := 0) hx hb d_CD_foretell_10 (by decide) ?_
  refine va_mmax hx hb (by rw [hml]; exact hl.1.symm) hown (hw wd_465) (hw wd_255) (hw wd_12) (hw wd_256) (Nat.le_of_ble_eq_true rfl) (Nat.le_of_ble_eq_true rfl) (by show _ ≤ 0; omega) (by show _ ≤ 0; omega) d_CD_foretell_11 ?_
  refine lv_topi (fun v11 ev11 => ?_)
  have w := w v11 ev11
  refine lv_istore_n (lv' := [(1, .int v11), (0, .ref a1)]) hx hb d_CD_foretell_14 rfl hl (by decide) rfl (fun ls hl => ?_)
  refine lv_aload_n hx hb d_CD_foretell_15 rfl (lv_at hl 1 rfl) ?_
  obtain ⟨q12, e13, w⟩ := w
  refine hb_get (ci := 0) (C := "BigDesk$CommonDivisor") (T := T_CD) (N := 6) hx hb hts (fun w9 h9 => hT w9 (u_CD w9 h9)) hown hK hW t9 rfl (by decide) 0 (by decide) (hw wd_85) (fun _ h9 => h9) (q := (2, 0)) rfl (v := .ref q12) (ah_f_R e13) d_CD_foretell_16 ?_
  refine lv_iload_n hx hb d_CD_foretell_19 rfl (lv_at hl 0 rfl) ?_
  obtain ⟨t14, w⟩ := w
  refine hb_calll (va_runV (As := [.int v11]) (rest := []) ⟨hx, hb, hml, hown, hts⟩ (m_WH_longFrom G q12 v11 h6 hst w) (cwV 1 hts (zx_gV hT wd_466 wd_467 wd_468 wd_2 wd_469) rfl rfl rfl (by decide +kernel) ⟨Nat.le_of_ble_eq_true rfl, Nat.le_of_ble_eq_true rfl⟩) (hb_preV hK hX hW t14 (by decide) rfl) rfl rfl hl.1 rfl (lv_room (Nat.le_of_ble_eq_true rfl)) d_CD_foretell_20 ⟨(by show _ ≤ 0; omega), (by show _ ≤ 0; omega)⟩) hW (fun r16 h15 H locs hk hW => ?_)
  obtain ⟨w, mm17⟩ := hk
  have w := w mm17
  have hm := hm.tr mm17
  have t18 := mm17.tg t9 (by decide)
  have t19 := mm17.tg t10 (by decide)
  have t20 := mm17.tg t14 (by decide)
  refine lv_lstore_n (lv' := [(2, .long r16), (1, .int v11), (0, .ref a1)]) hx hb d_CD_foretell_23 rfl hl (by decide) rfl (fun ls hl => ?_)
  refine lv_aload_n hx hb d_CD_foretell_24 rfl (lv_at hl 2 rfl) ?_
  obtain ⟨q21, e22, w⟩ := w
  refine hb_get (ci := 0) (C := "BigDesk$CommonDivisor") (T := T_CD) (N := 6) hx hb hts (fun w9 h9 => hT w9 (u_CD w9 h9)) hown hK hW t18 rfl (by decide) 1 (by decide) (hw wd_86) (fun _ h9 => h9) (q := (2, 1)) rfl (v := .ref q21) (ah_f_R e22) d_CD_foretell_25 ?_
  refine lv_iload_n hx hb d_CD_foretell_28 rfl (lv_at hl 1 rfl) ?_
  obtain ⟨t23, w⟩ := w
  refine hb_calll (va_runV (As := [.int v11]) (rest := []) ⟨hx, hb, hml, hown, hts⟩ (m_WH_longFrom G q21 v11 h15 hst w) (cwV 1 hts (zx_gV hT wd_466 wd_467 wd_468 wd_2 wd_469) rfl rfl rfl (by decide +kernel) ⟨Nat.le_of_ble_eq_true rfl, Nat.le_of_ble_eq_true rfl⟩) (hb_preV hK hX hW t23 (by decide) rfl) rfl rfl hl.1 rfl (lv_room (Nat.le_of_ble_eq_true rfl)) d_CD_foretell_29 ⟨(by show _ ≤ 0; omega), (by show _ ≤ 0; omega)⟩) hW (fun r25 h24 H locs hk hW => ?_)
  obtain ⟨w, mm26⟩ := hk
  have w := w mm26
  have hm := hm.tr mm26
  have t27 := mm26.tg t18 (by decide)
  have t28 := mm26.tg t19 (by decide)
  have t29 := mm26.tg t20 (by decide)
  have t30 := mm26.tg t23 (by decide)
  refine lv_lstore (lv' := [(4, .long r25), (2, .long r16), (1, .int v11), (0, .ref a1)]) hx hb d_CD_foretell_32 hl (by decide) rfl (fun ls hl => ?_)
  refine lv_lconst (v := 1) hx hb d_CD_foretell_34 (by decide) ?_
  refine lv_lstore (lv' := [(6, .long (1 : Int64)), (4, .long r25), (2, .long r16), (1, .int v11), (0, .ref a1)]) hx hb d_CD_foretell_35 hl (by decide) rfl (fun ls hl => ?_)
  refine lv_lconst (v := 0) hx hb d_CD_foretell_37 (by decide) ?_
  refine lv_lstore (lv' := [(8, .long (0 : Int64)), (6, .long (1 : Int64)), (4, .long r25), (2, .long r16), (1, .int v11), (0, .ref a1)]) hx hb d_CD_foretell_38 hl (by decide) rfl (fun ls hl => ?_)
  refine lv_lconst (v := 0) hx hb d_CD_foretell_40 (by decide) ?_
  refine lv_lstore (lv' := [(10, .long (0 : Int64)), (8, .long (0 : Int64)), (6, .long (1 : Int64)), (4, .long r25), (2, .long r16), (1, .int v11), (0, .ref a1)]) hx hb d_CD_foretell_41 hl (by decide) rfl (fun ls hl => ?_)
  refine lv_lconst (v := 1) hx hb d_CD_foretell_43 (by decide) ?_
  refine lv_lstore (lv' := [(12, .long (1 : Int64)), (10, .long (0 : Int64)), (8, .long (0 : Int64)), (6, .long (1 : Int64)), (4, .long r25), (2, .long r16), (1, .int v11), (0, .ref a1)]) hx hb d_CD_foretell_44 hl (by decide) rfl (fun ls hl => ?_)
  refine lv_iconst (v := 0) hx hb d_CD_foretell_46 (by decide) ?_
  refine lv_istore (lv' := [(14, .int (0 : Int32)), (12, .long (1 : Int64)), (10, .long (0 : Int64)), (8, .long (0 : Int64)), (6, .long (1 : Int64)), (4, .long r25), (2, .long r16), (1, .int v11), (0, .ref a1)]) hx hb d_CD_foretell_47 hl (by decide) rfl (fun ls hl => ?_)
  obtain ⟨k101, w⟩ := w
  refine tl_CD_foretell_49 C (by omega) (by omega) (fun x54 x55 x56 x57 x58 h59 H locs ls w hm hW hl => ?_) (fun x83 x84 x85 x86 x87 h88 H locs ls w hm hW hl => ?_) (fun x89 x90 x91 x92 x93 h94 H locs ls w hm hW hl => ?_) (fun x95 x96 x97 x98 x99 h100 H locs ls w hm hW hl => ?_) k101 a1 r16 r25 (1 : Int64) (0 : Int64) (0 : Int64) (1 : Int64) (0 : Int32) h24 _ _ _ w hm hW (lv_sub hl [8, 6, 5, 4, 3, 2, 1, 0] rfl)
  · refine lv_goto (tgt := 204) hx hb d_CD_foretell_116 (by decide) ?_
    exact tb_CD_foretell_204 C (by omega) (by omega)  x54 x55 x56 x57 x58 h59 _ _ _ w hm hW (lv_sub hl [0, 1, 2, 3, 4] rfl)
  · refine lv_goto (tgt := 204) hx hb d_CD_foretell_163 (by decide) ?_
    exact tb_CD_foretell_204 C (by omega) (by omega)  x83 x84 x85 x86 x87 h88 _ _ _ w hm hW (lv_sub hl [0, 1, 2, 3, 4] rfl)
  · exact tb_CD_foretell_204 C (by omega) (by omega)  x89 x90 x91 x92 x93 h94 _ _ _ w hm hW (lv_sub hl [0, 1, 2, 3, 4] rfl)
  · refine lv_goto (tgt := 204) hx hb d_CD_foretell_76 (by decide) ?_
    exact tb_CD_foretell_204 C (by omega) (by omega)  x95 x96 x97 x98 x99 h100 _ _ _ w hm hW (lv_sub hl [0, 1, 2, 3, 4] rfl)
set_option maxHeartbeats 4000000 in
set_option maxRecDepth 100000 in
theorem tl_CD_combine_33 {p : Program} {l : Launch} {e : Env} {s : State} {m : MethodId} {args : Array Value} {below : List Frame} {meth : Method} {c : Code} {G : zG} (C : cx_C p l s m args meth c G y_CD_combine b_CD_combine 13 none "BigDesk$CommonDivisor" (Cond.code y_CD_combine b_CD_combine 13 none :: zx_T) []) {K : ah_H → Prop} {h0 : ah_H} {cells slots : Nat} (hcl : cells + 0 ≤ 0) (hsl : slots + 0 ≤ 0) {xt_127 : Nat → Int32 → ah_H → Prop} (hc_xt_127 : ∀ (z0 : Nat) (z1 : Int32) (hz : ah_H) (H : Heap) (locs : List Loc) (ls : Array Slot), xt_127 z0 z1 hz → ah_m h0 hz → ah_W G s.heap hz H locs → lv_has ls 13 [(0, .ref z0), (3, .int z1)] → W p l e rm_CD_combine s m args below meth c H locs cells slots (MQ below (va_Qv (fun h9 => K h9 ∧ ah_m h0 h9) (ah_B G) (fun q => G.2.2 ≤ q)) args s 0 0 (fun q => G.2.2 ≤ q)) (F0 m 127 ls [])) : ∀ (n : Nat) (x17 : Nat) (x18 : Nat) (x19 : Nat) (x20 : Int32) (x21 : Int64) (x22 : Int64) (x23 : Int32) (h24 : ah_H) (H : Heap) (locs : List Loc) (ls : Array Slot), lp_CD_combine_33 xt_127 K n x17 x18 x19 x20 x21 x22 x23 h24 → ah_m h0 h24 → ah_W G s.heap h24 H locs → lv_has ls 13 [(0, .ref x17), (1, .ref x18), (2, .ref x19), (3, .int x20), (4, .long x21), (6, .long x22), (8, .int x23)] → W p l e rm_CD_combine s m args below meth c H locs cells slots (MQ below (va_Qv (fun h9 => K h9 ∧ ah_m h0 h9) (ah_B G) (fun q => G.2.2 ≤ q)) args s 0 0 (fun q => G.2.2 ≤ q)) (F0 m 33 ls []) := by
  obtain ⟨hx, hb, hr, hml, hown, hts, hT, hlk, hK, hX, htb, hin, hst⟩ := id C
  have hw : ∀ {w9 : Cond}, w9 ∈ zx_T → w9.before _ s = true := fun h9 => hts _ (hT _ h9)
  intro n
  induction n with
  | zero =>
    intro x17 x18 x19 x20 x21 x22 x23 h24 H locs ls w
    exact absurd w (by intro z9; exact z9)
  | succ n ih =>
    intro x17 x18 x19 x20 x21 x22 x23 h24 H locs ls w hm hW hl
    unfold lp_CD_combine_33 at w
    refine lv_iload hx hb d_CD_combine_33 (lv_at hl 6 rfl) ?_
    refine lv_iload_n hx hb d_CD_combine_35 rfl (lv_at hl 3 rfl) ?_
    refine lv_icmp_ge (tgt := 127) hx hb d_CD_combine_36 (by decide) (fun c25 => ?_) (fun c25 => ?_)
    · have w := w.1 c25
      exact hc_xt_127 x17 x20 h24 _ _ _ w hm hW (lv_sub hl [0, 3] rfl)
    · have w := w.2 c25
      refine lv_aload_n hx hb d_CD_combine_39 rfl (lv_at hl 0 rfl) ?_
      obtain ⟨t26, w⟩ := w
      refine hb_get (ci := 0) (C := "BigDesk$CommonDivisor") (T := T_CD) (N := 6) hx hb hts (fun w9 h9 => hT w9 (u_CD w9 h9)) hown hK hW t26 rfl (by decide) 2 (by decide) (hw wd_87) (fun _ h9 => h9) (q := (1, 0)) rfl (v := .long (ah_L h24 0 x17)) rfl d_CD_combine_40 ?_
      refine lv_aload_n hx hb d_CD_combine_43 rfl (lv_at hl 1 rfl) ?_
      refine lv_iload hx hb d_CD_combine_44 (lv_at hl 6 rfl) ?_
      obtain ⟨t27, w⟩ := w
      obtain ⟨i28, w⟩ := w
      refine hb_lald hx hb hK hW t27 (by decide) (by decide) 2 rfl i28 d_CD_combine_46 ?_
      refine lv_lmul hx hb d_CD_combine_47 ?_
      refine lv_aload_n hx hb d_CD_combine_48 rfl (lv_at hl 0 rfl) ?_
      refine hb_get (ci := 0) (C := "BigDesk$CommonDivisor") (T := T_CD) (N := 6) hx hb hts (fun w9 h9 => hT w9 (u_CD w9 h9)) hown hK hW t26 rfl (by decide) 3 (by decide) (hw wd_88) (fun _ h9 => h9) (q := (1, 1)) rfl (v := .long (ah_L h24 1 x17)) rfl d_CD_combine_49 ?_
      refine lv_aload_n hx hb d_CD_combine_52 rfl (lv_at hl 2 rfl) ?_
      refine lv_iload hx hb d_CD_combine_53 (lv_at hl 6 rfl) ?_
      obtain ⟨t29, w⟩ := w
      obtain ⟨i30, w⟩ := w
      refine hb_lald hx hb hK hW t29 (by decide) (by decide) 2 rfl i30 d_CD_combine_55 ?_
      refine lv_lmul hx hb d_CD_combine_56 ?_
      refine lv_ladd hx hb d_CD_combine_57 ?_
      refine lv_lload hx hb d_CD_combine_58 (lv_at hl 4 rfl) ?_
      refine lv_ladd hx hb d_CD_combine_60 ?_
      refine lv_topl (fun v31 ev31 => ?_)
      have w := w v31 ev31
      refine lv_lstore (lv' := [(9, .long v31), (0, .ref x17), (1, .ref x18), (2, .ref x19), (3, .int x20), (4, .long x21), (6, .long x22), (8, .int x23)]) hx hb d_CD_combine_61 hl (by decide) rfl (fun ls hl => ?_)
      refine lv_aload_n hx hb d_CD_combine_63 rfl (lv_at hl 1 rfl) ?_
      refine hb_get (ci := 0) (C := "BigDesk$CommonDivisor") (T := T_CD) (N := 6) hx hb hts (fun w9 h9 => hT w9 (u_CD w9 h9)) hown hK hW t26 rfl (by decide) 4 (by decide) (hw wd_89) (fun _ h9 => h9) (q := (1, 2)) rfl (v := .long (ah_L h24 2 x17)) rfl d_CD_combine_64 ?_
      refine lv_aload_n hx hb d_CD_combine_67 rfl (lv_at hl 2 rfl) ?_
      refine lv_iload hx hb d_CD_combine_68 (lv_at hl 7 rfl) ?_
      obtain ⟨i32, w⟩ := w
      refine hb_lald hx hb hK hW t27 (by decide) (by decide) 2 rfl i32 d_CD_combine_70 ?_
      refine lv_lmul hx hb d_CD_combine_71 ?_
      refine lv_aload_n hx hb d_CD_combine_72 rfl (lv_at hl 1 rfl) ?_
      refine hb_get (ci := 0) (C := "BigDesk$CommonDivisor") (T := T_CD) (N := 6) hx hb hts (fun w9 h9 => hT w9 (u_CD w9 h9)) hown hK hW t26 rfl (by decide) 5 (by decide) (hw wd_90) (fun _ h9 => h9) (q := (1, 3)) rfl (v := .long (ah_L h24 3 x17)) rfl d_CD_combine_73 ?_
      refine lv_aload_n hx hb d_CD_combine_76 rfl (lv_at hl 3 rfl) ?_
      refine lv_iload hx hb d_CD_combine_77 (lv_at hl 7 rfl) ?_
      obtain ⟨i33, w⟩ := w
      refine hb_lald hx hb hK hW t29 (by decide) (by decide) 2 rfl i33 d_CD_combine_79 ?_
      refine lv_lmul hx hb d_CD_combine_80 ?_
      refine lv_ladd hx hb d_CD_combine_81 ?_
      refine lv_lload hx hb d_CD_combine_82 (lv_at hl 6 rfl) ?_
      refine lv_ladd hx hb d_CD_combine_84 ?_
      refine lv_topl (fun v34 ev34 => ?_)
      have w := w v34 ev34
      refine lv_lstore (lv' := [(11, .long v34), (9, .long v31), (0, .ref x17), (1, .ref x18), (2, .ref x19), (3, .int x20), (4, .long x21), (6, .long x22), (8, .int x23)]) hx hb d_CD_combine_85 hl (by decide) rfl (fun ls hl => ?_)
      refine lv_aload_n hx hb d_CD_combine_87 rfl (lv_at hl 3 rfl) ?_
      refine lv_iload hx hb d_CD_combine_88 (lv_at hl 8 rfl) ?_
      refine lv_lload hx hb d_CD_combine_90 (lv_at hl 1 rfl) ?_
      refine lv_ldc2 (v := 4294967295) hx hb hown (hw wd_478) d_CD_combine_92 ?_
      refine lv_land hx hb d_CD_combine_95 ?_
      refine lv_topl (fun v35 ev35 => ?_)
      have w := w v35 ev35
      obtain ⟨i36, w⟩ := w
      refine hb_last hx hb hK hW t27 (by decide) (by decide) 2 rfl i36 d_CD_combine_96 (fun H locs h37 eh37 hW => ?_)
      have w := w h37 eh37
      have mm38 : ah_m h24 h37 := ah_m.rf.st (by rw [eh37]; rfl) (by rw [eh37]; rfl)
      have hm := hm.tr mm38
      have t39 := mm38.tg t26 (by decide)
      have t40 := mm38.tg t27 (by decide)
      have t41 := mm38.tg t29 (by decide)
      refine lv_aload_n hx hb d_CD_combine_97 rfl (lv_at hl 4 rfl) ?_
      refine lv_iload hx hb d_CD_combine_98 (lv_at hl 8 rfl) ?_
      refine lv_lload hx hb d_CD_combine_100 (lv_at hl 0 rfl) ?_
      refine lv_ldc2 (v := 4294967295) hx hb hown (hw wd_478) d_CD_combine_102 ?_
      refine lv_land hx hb d_CD_combine_105 ?_
      refine lv_topl (fun v42 ev42 => ?_)
      have w := w v42 ev42
      obtain ⟨i43, w⟩ := w
      refine hb_last hx hb hK hW t41 (by decide) (by decide) 2 rfl i43 d_CD_combine_106 (fun H locs h44 eh44 hW => ?_)
      have w := w h44 eh44
      have mm45 : ah_m h37 h44 := ah_m.rf.st (by rw [eh44]; rfl) (by rw [eh44]; rfl)
      have hm := hm.tr mm45
      have t46 := mm45.tg t39 (by decide)
      have t47 := mm45.tg t40 (by decide)
      have t48 := mm45.tg t41 (by decide)
      refine lv_lload hx hb d_CD_combine_107 (lv_at hl 1 rfl) ?_
      refine lv_bipush (v := 32) hx hb d_CD_combine_109 (by decide) ?_
      refine lv_lshr hx hb d_CD_combine_111 rfl ?_
      refine lv_topl (fun v49 ev49 => ?_)
      have w := w v49 ev49
      refine lv_lstore (lv' := [(4, .long v49), (11, .long v34), (9, .long v31), (0, .ref x17), (1, .ref x18), (2, .ref x19), (3, .int x20), (6, .long x22), (8, .int x23)]) hx hb d_CD_combine_112 hl (by decide) rfl (fun ls hl => ?_)
      refine lv_lload hx hb d_CD_combine_114 (lv_at hl 1 rfl) ?_
      refine lv_bipush (v := 32) hx hb d_CD_combine_116 (by decide) ?_
      refine lv_lshr hx hb d_CD_combine_118 rfl ?_
      refine lv_topl (fun v50 ev50 => ?_)
      have w := w v50 ev50
      refine lv_lstore (lv' := [(6, .long v50), (4, .long v49), (11, .long v34), (9, .long v31), (0, .ref x17), (1, .ref x18), (2, .ref x19), (3, .int x20), (8, .int x23)]) hx hb d_CD_combine_119 hl (by decide) rfl (fun ls hl => ?_)
      obtain ⟨v51, ev51⟩ : ∃ y9 : Int32, y9 = x23 + 1 := ⟨_, rfl⟩
      have w := w v51 ev51
      refine lv_iinc (v := v51) (lv' := [(8, .int v51), (6, .long v50), (4, .long v49), (11, .long v34), (9, .long v31), (0, .ref x17), (1, .ref x18), (2, .ref x19), (3, .int x20)]) hx hb d_CD_combine_121 hl (k := 8) rfl (by rw [ev51]; rfl) (by decide) rfl (fun ls hl => ?_)
      refine lv_goto (tgt := 33) hx hb d_CD_combine_124 (by decide) ?_
      exact ih x17 x18 x19 x20 v49 v50 v51 h44 _ _ _ w hm hW (lv_sub hl [5, 6, 7, 8, 2, 1, 0] rfl)
set_option maxHeartbeats 4000000 in
set_option maxRecDepth 100000 in
theorem m_CD_combine {l : Launch} (G : zG) (a1 : Nat) (h0 : ah_H) {K : ah_H → Prop} (hst : l.stackTraces = false) (w : w_CD_combine a1 h0 K) : Met l y_CD_combine (Cond.code y_CD_combine b_CD_combine 13 none :: zx_T) rm_CD_combine (va_Pc [.ref a1] (ah_B G h0)) (va_Qv (fun h9 => K h9 ∧ ah_m h0 h9) (ah_B G) (fun q => G.2.2 ≤ q)) 0 0 (fun q => G.2.2 ≤ q) := by
  refine Met.ofW (cc := b_CD_combine) (maxL := 13) (ret := none) (by decide) rfl ?_
  intro p e s m args below meth c s₁ B hml hv
  have htb := cx_out B (atoms_spec B.pre _ List.mem_cons_self)
  obtain ⟨rfl, hB⟩ := hv
  have C : cx_C p l s m _ meth c G y_CD_combine b_CD_combine 13 none "BigDesk$CommonDivisor" (Cond.code y_CD_combine b_CD_combine 13 none :: zx_T) [] := ⟨B.exec, B.bytes, B.returns, hml, findClass_of_methodNamed B.named, atoms_spec B.pre, cx_hd, B.notSynchronized, hB.2.2.1, hB.2.2.2, htb, fun z9 => (name_of_methodNamed B.named B.method).1.trans z9, hst⟩
  obtain ⟨hx, hb, hr, hml, hown, hts, hT, hlk, hK, hX, htb, hin, hst⟩ := id C
  have hw : ∀ {w9 : Cond}, w9 ∈ zx_T → w9.before _ s = true := fun h9 => hts _ (hT _ h9)
  have hW : ah_W G s.heap h0 s.heap [] := ⟨hB.1, hB.2.1, va_S.rf⟩
  have hm : ah_m h0 h0 := ah_m.rf
  have hcl : 0 + 0 ≤ 0 := by decide
  have hsl : 0 + 0 ≤ 0 := by decide
  have hl := lv_entry ([.ref a1]) (n := 13) (Nat.le_of_ble_eq_true rfl)
  rw [lg_entry_eq]
  generalize (lg_sl ([.ref a1]) ++ List.replicate (13 - (lg_sl ([.ref a1])).length) Slot.unset).toArray = ls at hl ⊢
  have hl : lv_has ls 13 [(0, .ref a1)] := hl
  unfold w_CD_combine at w
  refine lv_aload_n hx hb d_CD_combine_0 rfl (lv_at hl 0 rfl) ?_
  obtain ⟨t2, w⟩ := w
  obtain ⟨q3, e4, w⟩ := w
  refine hb_get (ci := 0) (C := "BigDesk$CommonDivisor") (T := T_CD) (N := 6) hx hb hts (fun w9 h9 => hT w9 (u_CD w9 h9)) hown hK hW t2 rfl (by decide) 0 (by decide) (hw wd_85) (fun _ h9 => h9) (q := (2, 0)) rfl (v := .ref q3) (ah_f_R e4) d_CD_combine_1 ?_
  obtain ⟨t5, w⟩ := w
  obtain ⟨q6, e7, w⟩ := w
  refine hb_get (ci := 2) (C := "BigDesk$Whole") (T := T_WH) (N := 3) hx hb hts (fun w9 h9 => hT w9 (u_WH w9 h9)) hown hK hW t5 rfl (by decide) 0 (by decide) (hw wd_36) (fun _ h9 => h9) (q := (2, 5)) rfl (v := .ref q6) (ah_f_R e7) d_CD_combine_4 ?_
  refine lv_astore_n (lv' := [(1, .ref q6), (0, .ref a1)]) hx hb d_CD_combine_7 rfl hl (by decide) rfl (fun ls hl => ?_)
  refine lv_aload_n hx hb d_CD_combine_8 rfl (lv_at hl 1 rfl) ?_
  obtain ⟨q8, e9, w⟩ := w
  refine hb_get (ci := 0) (C := "BigDesk$CommonDivisor") (T := T_CD) (N := 6) hx hb hts (fun w9 h9 => hT w9 (u_CD w9 h9)) hown hK hW t2 rfl (by decide) 1 (by decide) (hw wd_86) (fun _ h9 => h9) (q := (2, 1)) rfl (v := .ref q8) (ah_f_R e9) d_CD_combine_9 ?_
  obtain ⟨t10, w⟩ := w
  obtain ⟨q11, e12, w⟩ := w
  refine hb_get (ci := 2) (C := "BigDesk$Whole") (T := T_WH) (N := 3) hx hb hts (fun w9 h9 => hT w9 (u_WH w9 h9)) hown hK hW t10 rfl (by decide) 0 (by decide) (hw wd_36) (fun _ h9 => h9) (q := (2, 5)) rfl (v := .ref q11) (ah_f_R e12) d_CD_combine_12 ?_
  refine lv_astore_n (lv' := [(2, .ref q11), (1, .ref q6), (0, .ref a1)]) hx hb d_CD_combine_15 rfl hl (by decide) rfl (fun ls hl => ?_)
  refine lv_aload_n hx hb d_CD_combine_16 rfl (lv_at hl 2 rfl) ?_
  obtain ⟨q13, e14, w⟩ := w
  refine hb_get (ci := 0) (C := "BigDesk$CommonDivisor") (T := T_CD) (N := 6) hx hb hts (fun w9 h9 => hT w9 (u_CD w9 h9)) hown hK hW t2 rfl (by decide) 0 (by decide) (hw wd_85) (fun _ h9 => h9) (q := (2, 0)) rfl (v := .ref q13) (ah_f_R e14) d_CD_combine_17 ?_
  obtain ⟨t15, w⟩ := w
  refine hb_get (ci := 2) (C := "BigDesk$Whole") (T := T_WH) (N := 3) hx hb hts (fun w9 h9 => hT w9 (u_WH w9 h9)) hown hK hW t15 rfl (by decide) 1 (by decide) (hw wd_39) (fun _ h9 => h9) (q := (0, 0)) rfl (v := .int (ah_I h0 0 q13)) rfl d_CD_combine_20 ?_
  refine lv_topi (fun v16 ev16 => ?_)
  have w := w v16 ev16
  refine lv_istore_n (lv' := [(3, .int v16), (2, .ref q11), (1, .ref q6), (0, .ref a1)]) hx hb d_CD_combine_23 rfl hl (by decide) rfl (fun ls hl => ?_)
  refine lv_lconst (v := 0) hx hb d_CD_combine_24 (by decide) ?_
  refine lv_lstore (lv' := [(4, .long (0 : Int64)), (3, .int v16), (2, .ref q11), (1, .ref q6), (0, .ref a1)]) hx hb d_CD_combine_25 hl (by decide) rfl (fun ls hl => ?_)
  refine lv_lconst (v := 0) hx hb d_CD_combine_27 (by decide) ?_
  refine lv_lstore (lv' := [(6, .long (0 : Int64)), (4, .long (0 : Int64)), (3, .int v16), (2, .ref q11), (1, .ref q6), (0, .ref a1)]) hx hb d_CD_combine_28 hl (by decide) rfl (fun ls hl => ?_)
  refine lv_iconst (v := 0) hx hb d_CD_combine_30 (by decide) ?_
  refine lv_istore (lv' := [(8, .int (0 : Int32)), (6, .long (0 : Int64)), (4, .long (0 : Int64)), (3, .int v16), (2, .ref q11), (1, .ref q6), (0, .ref a1)]) hx hb d_CD_combine_31 hl (by decide) rfl (fun ls hl => ?_)
  obtain ⟨k71, w⟩ := w
  refine tl_CD_combine_33 C (by omega) (by omega) (fun x52 x53 h54 H locs ls w hm hW hl => ?_) k71 a1 q6 q11 v16 (0 : Int64) (0 : Int64) (0 : Int32) h0 _ _ _ w hm hW (lv_sub hl [6, 5, 4, 3, 2, 1, 0] rfl)
  · refine lv_aload_n hx hb d_CD_combine_127 rfl (lv_at hl 0 rfl) ?_
    obtain ⟨t55, w⟩ := w
    obtain ⟨q56, e57, w⟩ := w
    refine hb_get (ci := 0) (C := "BigDesk$CommonDivisor") (T := T_CD) (N := 6) hx hb hts (fun w9 h9 => hT w9 (u_CD w9 h9)) hown hK hW t55 rfl (by decide) 0 (by decide) (hw wd_85) (fun _ h9 => h9) (q := (2, 0)) rfl (v := .ref q56) (ah_f_R e57) d_CD_combine_128 ?_
    refine lv_iload_n hx hb d_CD_combine_131 rfl (lv_at hl 1 rfl) ?_
    obtain ⟨t58, w⟩ := w
    refine hb_callv (va_runV (As := [.int x53]) (rest := []) ⟨hx, hb, hml, hown, hts⟩ (m_WH_settle G q56 x53 h54 hst w) (cwV 1 hts (zx_gV hT wd_479 wd_219 wd_220 wd_2 wd_221) rfl rfl rfl (by decide +kernel) ⟨Nat.le_of_ble_eq_true rfl, Nat.le_of_ble_eq_true rfl⟩) (hb_preV hK hX hW t58 (by decide) rfl) rfl rfl hl.1 rfl (lv_room (Nat.le_of_ble_eq_true rfl)) d_CD_combine_132 ⟨(by show _ ≤ 0; omega), (by show _ ≤ 0; omega)⟩) hW (fun h59 H locs hk hW => ?_)
    obtain ⟨w, mm60⟩ := hk
    have w := w mm60
    have hm := hm.tr mm60
    have t61 := mm60.tg t55 (by decide)
    have t62 := mm60.tg t58 (by decide)
    refine lv_aload_n hx hb d_CD_combine_135 rfl (lv_at hl 0 rfl) ?_
    obtain ⟨q63, e64, w⟩ := w
    refine hb_get (ci := 0) (C := "BigDesk$CommonDivisor") (T := T_CD) (N := 6) hx hb hts (fun w9 h9 => hT w9 (u_CD w9 h9)) hown hK hW t61 rfl (by decide) 1 (by decide) (hw wd_86) (fun _ h9 => h9) (q := (2, 1)) rfl (v := .ref q63) (ah_f_R e64) d_CD_combine_136 ?_
    refine lv_iload_n hx hb d_CD_combine_139 rfl (lv_at hl 1 rfl) ?_
    obtain ⟨t65, w⟩ := w
    refine hb_callv (va_runV (As := [.int x53]) (rest := []) ⟨hx, hb, hml, hown, hts⟩ (m_WH_settle G q63 x53 h59 hst w) (cwV 1 hts (zx_gV hT wd_479 wd_219 wd_220 wd_2 wd_221) rfl rfl rfl (by decide +kernel) ⟨Nat.le_of_ble_eq_true rfl, Nat.le_of_ble_eq_true rfl⟩) (hb_preV hK hX hW t65 (by decide) rfl) rfl rfl hl.1 rfl (lv_room (Nat.le_of_ble_eq_true rfl)) d_CD_combine_140 ⟨(by show _ ≤ 0; omega), (by show _ ≤ 0; omega)⟩) hW (fun h66 H locs hk hW => ?_)
    obtain ⟨w, mm67⟩ := hk
    have w := w mm67
    have hm := hm.tr mm67
    have t68 := mm67.tg t61 (by decide)
    have t69 := mm67.tg t62 (by decide)
    have t70 := mm67.tg t65 (by decide)
    exact hb_vret (K := fun h9 => K h9 ∧ ah_m h0 h9) hx hb hr hlk hK hX hW ⟨w, hm⟩ (by omega) (by omega) d_CD_combine_143
set_option maxHeartbeats 4000000 in
set_option maxRecDepth 100000 in
theorem tb_CD_greatest_112 {p : Program} {l : Launch} {e : Env} {s : State} {m : MethodId} {args : Array Value} {below : List Frame} {meth : Method} {c : Code} {G : zG} (C : cx_C p l s m args meth c G y_CD_greatest b_CD_greatest 5 (some (.object "BigDesk$Whole")) "BigDesk$CommonDivisor" (Cond.code y_CD_greatest b_CD_greatest 5 (some (.object "BigDesk$Whole")) :: zx_T) []) {K : Nat → ah_H → Prop} {h0 : ah_H} {cells slots : Nat} (hcl : cells + 0 ≤ 0) (hsl : slots + 0 ≤ 0) {rc_53 : Nat → Nat → Int32 → ah_H → Prop} (hc_rc_53 : ∀ (z0 : Nat) (z1 : Nat) (z2 : Int32) (hz : ah_H) (H : Heap) (locs : List Loc) (ls : Array Slot), rc_53 z0 z1 z2 hz → ah_m h0 hz → ah_W G s.heap hz H locs → lv_has ls 5 [(0, .ref z0), (3, .ref z1), (4, .int z2)] → W p l e rm_CD_greatest s m args below meth c H locs cells slots (MQ below (ah_Qr G (fun r9 h9 => K r9 h9 ∧ ah_m h0 h9)) args s 0 0 (fun q => G.2.2 ≤ q)) (F0 m 53 ls [])) (x94 : Nat) (x95 : Nat) (x96 : Int32) (h97 : ah_H) (H : Heap) (locs : List Loc) (ls : Array Slot) (w : bk_CD_greatest_112 rc_53 K x94 x95 x96 h97) (hm : ah_m h0 h97) (hW : ah_W G s.heap h97 H locs) (hl : lv_has ls 5 [(0, .ref x94), (3, .ref x95), (4, .int x96)]) : W p l e rm_CD_greatest s m args below meth c H locs cells slots (MQ below (ah_Qr G (fun r9 h9 => K r9 h9 ∧ ah_m h0 h9)) args s 0 0 (fun q => G.2.2 ≤ q)) (F0 m 112 ls []) := by
  unfold bk_CD_greatest_112 at w
  obtain ⟨hx, hb, hr, hml, hown, hts, hT, hlk, hK, hX, htb, hin, hst⟩ := id C
  have hw : ∀ {w9 : Cond}, w9 ∈ zx_T → w9.before _ s = true := fun h9 => hts _ (hT _ h9)
  obtain ⟨v98, ev98⟩ : ∃ y9 : Int32, y9 = x96 + 1 := ⟨_, rfl⟩
  have w := w v98 ev98
  refine lv_iinc (v := v98) (lv' := [(4, .int v98), (0, .ref x94), (3, .ref x95)]) hx hb d_CD_greatest_112 hl (k := 2) rfl (by rw [ev98]; rfl) (by decide) rfl (fun ls hl => ?_)
  refine lv_goto (tgt := 53) hx hb d_CD_greatest_115 (by decide) ?_
  exact hc_rc_53 x94 x95 v98 h97 _ _ _ w hm hW (lv_sub hl [1, 2, 0] rfl)
set_option maxHeartbeats 4000000 in
set_option maxRecDepth 100000 in
theorem tl_CD_greatest_53 {p : Program} {l : Launch} {e : Env} {s : State} {m : MethodId} {args : Array Value} {below : List Frame} {meth : Method} {c : Code} {G : zG} (C : cx_C p l s m args meth c G y_CD_greatest b_CD_greatest 5 (some (.object "BigDesk$Whole")) "BigDesk$CommonDivisor" (Cond.code y_CD_greatest b_CD_greatest 5 (some (.object "BigDesk$Whole")) :: zx_T) []) {K : Nat → ah_H → Prop} {h0 : ah_H} {cells slots : Nat} (hcl : cells + 0 ≤ 0) (hsl : slots + 0 ≤ 0) {xt_118 : Nat → ah_H → Prop} (hc_xt_118 : ∀ (z0 : Nat) (hz : ah_H) (H : Heap) (locs : List Loc) (ls : Array Slot), xt_118 z0 hz → ah_m h0 hz → ah_W G s.heap hz H locs → lv_has ls 5 [(0, .ref z0)] → W p l e rm_CD_greatest s m args below meth c H locs cells slots (MQ below (ah_Qr G (fun r9 h9 => K r9 h9 ∧ ah_m h0 h9)) args s 0 0 (fun q => G.2.2 ≤ q)) (F0 m 118 ls [])) : ∀ (n : Nat) (x51 : Nat) (x52 : Nat) (x53 : Int32) (h54 : ah_H) (H : Heap) (locs : List Loc) (ls : Array Slot), lp_CD_greatest_53 xt_118 K n x51 x52 x53 h54 → ah_m h0 h54 → ah_W G s.heap h54 H locs → lv_has ls 5 [(0, .ref x51), (3, .ref x52), (4, .int x53)] → W p l e rm_CD_greatest s m args below meth c H locs cells slots (MQ below (ah_Qr G (fun r9 h9 => K r9 h9 ∧ ah_m h0 h9)) args s 0 0 (fun q => G.2.2 ≤ q)) (F0 m 53 ls []) := by
  obtain ⟨hx, hb, hr, hml, hown, hts, hT, hlk, hK, hX, htb, hin, hst⟩ := id C
  have hw : ∀ {w9 : Cond}, w9 ∈ zx_T → w9.before _ s = true := fun h9 => hts _ (hT _ h9)
  intro n
  induction n with
  | zero =>
    intro x51 x52 x53 h54 H locs ls w
    exact absurd w (by intro z9; exact z9)
  | succ n ih =>
    intro x51 x52 x53 h54 H locs ls w hm hW hl
    unfold lp_CD_greatest_53 at w
    refine lv_iload hx hb d_CD_greatest_53 (lv_at hl 2 rfl) ?_
    refine lv_sipush (v := 20000) hx hb d_CD_greatest_55 (by decide) ?_
    refine lv_icmp_ge (tgt := 118) hx hb d_CD_greatest_58 (by decide) (fun c55 => ?_) (fun c55 => ?_)
    · have w := w.1 c55
      exact hc_xt_118 x51 h54 _ _ _ w hm hW (lv_sub hl [0] rfl)
    · have w := w.2 c55
      refine lv_aload_n hx hb d_CD_greatest_61 rfl (lv_at hl 0 rfl) ?_
      obtain ⟨t56, w⟩ := w
      obtain ⟨q57, e58, w⟩ := w
      refine hb_get (ci := 0) (C := "BigDesk$CommonDivisor") (T := T_CD) (N := 6) hx hb hts (fun w9 h9 => hT w9 (u_CD w9 h9)) hown hK hW t56 rfl (by decide) 1 (by decide) (hw wd_86) (fun _ h9 => h9) (q := (2, 1)) rfl (v := .ref q57) (ah_f_R e58) d_CD_greatest_62 ?_
      obtain ⟨t59, w⟩ := w
      refine hb_get (ci := 2) (C := "BigDesk$Whole") (T := T_WH) (N := 3) hx hb hts (fun w9 h9 => hT w9 (u_WH w9 h9)) hown hK hW t59 rfl (by decide) 1 (by decide) (hw wd_39) (fun _ h9 => h9) (q := (0, 0)) rfl (v := .int (ah_I h54 0 q57)) rfl d_CD_greatest_65 ?_
      refine lv_if_le (tgt := 118) hx hb d_CD_greatest_68 (by decide) (fun c60 => ?_) (fun c60 => ?_)
      · have w := w.1 c60
        exact hc_xt_118 x51 h54 _ _ _ w hm hW (lv_sub hl [0] rfl)
      · have w := w.2 c60
        refine lv_aload_n hx hb d_CD_greatest_71 rfl (lv_at hl 0 rfl) ?_
        refine hb_calli (va_runV (As := []) (rest := []) ⟨hx, hb, hml, hown, hts⟩ (m_CD_foretell G x51 h54 hst w) (cwV 0 hts (zx_gV hT wd_460 wd_462 wd_s9 wd_4 wd_463) rfl rfl rfl (by decide +kernel) ⟨Nat.le_of_ble_eq_true rfl, Nat.le_of_ble_eq_true rfl⟩) (hb_preV hK hX hW t56 (by decide) rfl) rfl rfl hl.1 rfl (lv_room (Nat.le_of_ble_eq_true rfl)) d_CD_greatest_72 ⟨(by show _ ≤ 0; omega), (by show _ ≤ 0; omega)⟩) hW (fun r62 h61 H locs hk hW => ?_)
        obtain ⟨w, mm63⟩ := hk
        have w := w mm63
        have hm := hm.tr mm63
        have t64 := mm63.tg t56 (by decide)
        have t65 := mm63.tg t59 (by decide)
        refine lv_if_eq (tgt := 85) hx hb d_CD_greatest_75 (by decide) (fun c66 => ?_) (fun c66 => ?_)
        · have w := w.1 c66
          refine lv_aload_n hx hb d_CD_greatest_85 rfl (lv_at hl 1 rfl) ?_
          refine lv_aload_n hx hb d_CD_greatest_86 rfl (lv_at hl 0 rfl) ?_
          obtain ⟨q67, e68, w⟩ := w
          refine hb_get (ci := 0) (C := "BigDesk$CommonDivisor") (T := T_CD) (N := 6) hx hb hts (fun w9 h9 => hT w9 (u_CD w9 h9)) hown hK hW t64 rfl (by decide) 0 (by decide) (hw wd_85) (fun _ h9 => h9) (q := (2, 0)) rfl (v := .ref q67) (ah_f_R e68) d_CD_greatest_87 ?_
          refine lv_aload_n hx hb d_CD_greatest_90 rfl (lv_at hl 0 rfl) ?_
          obtain ⟨q69, e70, w⟩ := w
          refine hb_get (ci := 0) (C := "BigDesk$CommonDivisor") (T := T_CD) (N := 6) hx hb hts (fun w9 h9 => hT w9 (u_CD w9 h9)) hown hK hW t64 rfl (by decide) 1 (by decide) (hw wd_86) (fun _ h9 => h9) (q := (2, 1)) rfl (v := .ref q69) (ah_f_R e70) d_CD_greatest_91 ?_
          obtain ⟨t71, w⟩ := w
          refine hb_callv (va_runV (As := [.ref q67, .ref q69]) (rest := []) ⟨hx, hb, hml, hown, hts⟩ (m_DV_ofAbsolutes G x52 q67 q69 h61 hst w) (cwV 2 hts (zx_gV hT wd_480 wd_405 wd_406 wd_3 wd_407) rfl rfl rfl (by decide +kernel) ⟨Nat.le_of_ble_eq_true rfl, Nat.le_of_ble_eq_true rfl⟩) (hb_preV hK hX hW t71 (by decide) rfl) rfl rfl hl.1 rfl (lv_room (Nat.le_of_ble_eq_true rfl)) d_CD_greatest_94 ⟨(by show _ ≤ 0; omega), (by show _ ≤ 0; omega)⟩) hW (fun h72 H locs hk hW => ?_)
          obtain ⟨w, mm73⟩ := hk
          have w := w mm73
          have hm := hm.tr mm73
          have t74 := mm73.tg t64 (by decide)
          have t75 := mm73.tg t65 (by decide)
          have t76 := mm73.tg t71 (by decide)
          refine lv_aload_n hx hb d_CD_greatest_97 rfl (lv_at hl 0 rfl) ?_
          obtain ⟨q77, e78, w⟩ := w
          refine hb_get (ci := 0) (C := "BigDesk$CommonDivisor") (T := T_CD) (N := 6) hx hb hts (fun w9 h9 => hT w9 (u_CD w9 h9)) hown hK hW t74 rfl (by decide) 0 (by decide) (hw wd_85) (fun _ h9 => h9) (q := (2, 0)) rfl (v := .ref q77) (ah_f_R e78) d_CD_greatest_98 ?_
          refine lv_aload_n hx hb d_CD_greatest_101 rfl (lv_at hl 1 rfl) ?_
          obtain ⟨q79, e80, w⟩ := w
          refine hb_get (ci := 1) (C := "BigDesk$Division") (T := T_DV) (N := 3) hx hb hts (fun w9 h9 => hT w9 (u_DV w9 h9)) hown hK hW t76 rfl (by decide) 1 (by decide) (hw wd_67) (fun _ h9 => h9) (q := (2, 3)) rfl (v := .ref q79) (ah_f_R e80) d_CD_greatest_102 ?_
          obtain ⟨t81, w⟩ := w
          refine hb_callv (va_runV (As := [.ref q79]) (rest := []) ⟨hx, hb, hml, hown, hts⟩ (m_WH_become G q77 q79 h72 hst w) (cwV 1 hts (zx_gV hT wd_453 wd_234 wd_235 wd_2 wd_236) rfl rfl rfl (by decide +kernel) ⟨Nat.le_of_ble_eq_true rfl, Nat.le_of_ble_eq_true rfl⟩) (hb_preV hK hX hW t81 (by decide) rfl) rfl rfl hl.1 rfl (lv_room (Nat.le_of_ble_eq_true rfl)) d_CD_greatest_105 ⟨(by show _ ≤ 0; omega), (by show _ ≤ 0; omega)⟩) hW (fun h82 H locs hk hW => ?_)
          obtain ⟨w, mm83⟩ := hk
          have w := w mm83
          have hm := hm.tr mm83
          have t84 := mm83.tg t74 (by decide)
          have t85 := mm83.tg t75 (by decide)
          have t86 := mm83.tg t76 (by decide)
          have t87 := mm83.tg t81 (by decide)
          refine lv_aload_n hx hb d_CD_greatest_108 rfl (lv_at hl 0 rfl) ?_
          refine hb_callv (va_runV (As := []) (rest := []) ⟨hx, hb, hml, hown, hts⟩ (m_CD_exchange G x51 h82 hst w) (cwV 0 hts (zx_gV hT wd_455 wd_457 wd_s8 wd_4 wd_458) rfl rfl rfl (by decide +kernel) ⟨Nat.le_of_ble_eq_true rfl, Nat.le_of_ble_eq_true rfl⟩) (hb_preV hK hX hW t84 (by decide) rfl) rfl rfl hl.1 rfl (lv_room (Nat.le_of_ble_eq_true rfl)) d_CD_greatest_109 ⟨(by show _ ≤ 0; omega), (by show _ ≤ 0; omega)⟩) hW (fun h88 H locs hk hW => ?_)
          obtain ⟨w, mm89⟩ := hk
          have w := w mm89
          have hm := hm.tr mm89
          have t90 := mm89.tg t84 (by decide)
          have t91 := mm89.tg t85 (by decide)
          have t92 := mm89.tg t86 (by decide)
          have t93 := mm89.tg t87 (by decide)
          exact tb_CD_greatest_112 C (by omega) (by omega) ih x51 x52 x53 h88 _ _ _ w hm hW (lv_sub hl [0, 1, 2] rfl)
        · have w := w.2 c66
          refine lv_aload_n hx hb d_CD_greatest_78 rfl (lv_at hl 0 rfl) ?_
          refine hb_callv (va_runV (As := []) (rest := []) ⟨hx, hb, hml, hown, hts⟩ (m_CD_combine G x51 h61 hst w) (cwV 0 hts (zx_gV hT wd_474 wd_476 wd_s10 wd_4 wd_477) rfl rfl rfl (by decide +kernel) ⟨Nat.le_of_ble_eq_true rfl, Nat.le_of_ble_eq_true rfl⟩) (hb_preV hK hX hW t64 (by decide) rfl) rfl rfl hl.1 rfl (lv_room (Nat.le_of_ble_eq_true rfl)) d_CD_greatest_79 ⟨(by show _ ≤ 0; omega), (by show _ ≤ 0; omega)⟩) hW (fun h99 H locs hk hW => ?_)
          obtain ⟨w, mm100⟩ := hk
          have w := w mm100
          have hm := hm.tr mm100
          have t101 := mm100.tg t64 (by decide)
          have t102 := mm100.tg t65 (by decide)
          refine lv_goto (tgt := 112) hx hb d_CD_greatest_82 (by decide) ?_
          exact tb_CD_greatest_112 C (by omega) (by omega) ih x51 x52 x53 h99 _ _ _ w hm hW (lv_sub hl [0, 1, 2] rfl)
set_option maxHeartbeats 4000000 in
set_option maxRecDepth 100000 in
theorem tb_CD_greatest_118 {p : Program} {l : Launch} {e : Env} {s : State} {m : MethodId} {args : Array Value} {below : List Frame} {meth : Method} {c : Code} {G : zG} (C : cx_C p l s m args meth c G y_CD_greatest b_CD_greatest 5 (some (.object "BigDesk$Whole")) "BigDesk$CommonDivisor" (Cond.code y_CD_greatest b_CD_greatest 5 (some (.object "BigDesk$Whole")) :: zx_T) []) {K : Nat → ah_H → Prop} {h0 : ah_H} {cells slots : Nat} (hcl : cells + 0 ≤ 0) (hsl : slots + 0 ≤ 0)  (x105 : Nat) (h106 : ah_H) (H : Heap) (locs : List Loc) (ls : Array Slot) (w : bk_CD_greatest_118 K x105 h106) (hm : ah_m h0 h106) (hW : ah_W G s.heap h106 H locs) (hl : lv_has ls 5 [(0, .ref x105)]) : W p l e rm_CD_greatest s m args below meth c H locs cells slots (MQ below (ah_Qr G (fun r9 h9 => K r9 h9 ∧ ah_m h0 h9)) args s 0 0 (fun q => G.2.2 ≤ q)) (F0 m 118 ls []) := by
  unfold bk_CD_greatest_118 at w
  obtain ⟨hx, hb, hr, hml, hown, hts, hT, hlk, hK, hX, htb, hin, hst⟩ := id C
  have hw : ∀ {w9 : Cond}, w9 ∈ zx_T → w9.before _ s = true := fun h9 => hts _ (hT _ h9)
  refine lv_aload_n hx hb d_CD_greatest_118 rfl (lv_at hl 0 rfl) ?_
  obtain ⟨t107, w⟩ := w
  obtain ⟨q108, e109, w⟩ := w
  refine hb_get (ci := 0) (C := "BigDesk$CommonDivisor") (T := T_CD) (N := 6) hx hb hts (fun w9 h9 => hT w9 (u_CD w9 h9)) hown hK hW t107 rfl (by decide) 0 (by decide) (hw wd_85) (fun _ h9 => h9) (q := (2, 0)) rfl (v := .ref q108) (ah_f_R e109) d_CD_greatest_119 ?_
  exact hb_aret (K := fun r9 h9 => K r9 h9 ∧ ah_m h0 h9) hx hb hr hlk hK hX hW ⟨w, hm⟩ (by omega) (by omega) d_CD_greatest_122
set_option maxHeartbeats 4000000 in
set_option maxRecDepth 100000 in
theorem tb_CD_greatest_34 {p : Program} {l : Launch} {e : Env} {s : State} {m : MethodId} {args : Array Value} {below : List Frame} {meth : Method} {c : Code} {G : zG} (C : cx_C p l s m args meth c G y_CD_greatest b_CD_greatest 5 (some (.object "BigDesk$Whole")) "BigDesk$CommonDivisor" (Cond.code y_CD_greatest b_CD_greatest 5 (some (.object "BigDesk$Whole")) :: zx_T) []) {K : Nat → ah_H → Prop} {h0 : ah_H} {cells slots : Nat} (hcl : cells + 0 ≤ 0) (hsl : slots + 0 ≤ 0)  (x32 : Nat) (x33 : Nat) (h34 : ah_H) (H : Heap) (locs : List Loc) (ls : Array Slot) (w : bk_CD_greatest_34 K x32 x33 h34) (hm : ah_m h0 h34) (hW : ah_W G s.heap h34 H locs) (hl : lv_has ls 5 [(0, .ref x32), (3, .ref x33)]) : W p l e rm_CD_greatest s m args below meth c H locs cells slots (MQ below (ah_Qr G (fun r9 h9 => K r9 h9 ∧ ah_m h0 h9)) args s 0 0 (fun q => G.2.2 ≤ q)) (F0 m 34 ls []) := by
  unfold bk_CD_greatest_34 at w
  obtain ⟨hx, hb, hr, hml, hown, hts, hT, hlk, hK, hX, htb, hin, hst⟩ := id C
  have hw : ∀ {w9 : Cond}, w9 ∈ zx_T → w9.before _ s = true := fun h9 => hts _ (hT _ h9)
  refine lv_aload_n hx hb d_CD_greatest_34 rfl (lv_at hl 0 rfl) ?_
  obtain ⟨t35, w⟩ := w
  obtain ⟨q36, e37, w⟩ := w
  refine hb_get (ci := 0) (C := "BigDesk$CommonDivisor") (T := T_CD) (N := 6) hx hb hts (fun w9 h9 => hT w9 (u_CD w9 h9)) hown hK hW t35 rfl (by decide) 0 (by decide) (hw wd_85) (fun _ h9 => h9) (q := (2, 0)) rfl (v := .ref q36) (ah_f_R e37) d_CD_greatest_35 ?_
  refine lv_iconst (v := 0) hx hb d_CD_greatest_38 (by decide) ?_
  obtain ⟨t38, w⟩ := w
  refine hb_callv (va_runV (As := [.int (0 : Int32)]) (rest := []) ⟨hx, hb, hml, hown, hts⟩ (m_WH_markSign G q36 (0 : Int32) h34 hst w) (cwV 1 hts (zx_gV hT wd_459 wd_223 wd_224 wd_2 wd_225) rfl rfl rfl (by decide +kernel) ⟨Nat.le_of_ble_eq_true rfl, Nat.le_of_ble_eq_true rfl⟩) (hb_preV hK hX hW t38 (by decide) rfl) rfl rfl hl.1 rfl (lv_room (Nat.le_of_ble_eq_true rfl)) d_CD_greatest_39 ⟨(by show _ ≤ 0; omega), (by show _ ≤ 0; omega)⟩) hW (fun h39 H locs hk hW => ?_)
  obtain ⟨w, mm40⟩ := hk
  have w := w mm40
  have hm := hm.tr mm40
  have t41 := mm40.tg t35 (by decide)
  have t42 := mm40.tg t38 (by decide)
  refine lv_aload_n hx hb d_CD_greatest_42 rfl (lv_at hl 0 rfl) ?_
  obtain ⟨q43, e44, w⟩ := w
  refine hb_get (ci := 0) (C := "BigDesk$CommonDivisor") (T := T_CD) (N := 6) hx hb hts (fun w9 h9 => hT w9 (u_CD w9 h9)) hown hK hW t41 rfl (by decide) 1 (by decide) (hw wd_86) (fun _ h9 => h9) (q := (2, 1)) rfl (v := .ref q43) (ah_f_R e44) d_CD_greatest_43 ?_
  refine lv_iconst (v := 0) hx hb d_CD_greatest_46 (by decide) ?_
  obtain ⟨t45, w⟩ := w
  refine hb_callv (va_runV (As := [.int (0 : Int32)]) (rest := []) ⟨hx, hb, hml, hown, hts⟩ (m_WH_markSign G q43 (0 : Int32) h39 hst w) (cwV 1 hts (zx_gV hT wd_459 wd_223 wd_224 wd_2 wd_225) rfl rfl rfl (by decide +kernel) ⟨Nat.le_of_ble_eq_true rfl, Nat.le_of_ble_eq_true rfl⟩) (hb_preV hK hX hW t45 (by decide) rfl) rfl rfl hl.1 rfl (lv_room (Nat.le_of_ble_eq_true rfl)) d_CD_greatest_47 ⟨(by show _ ≤ 0; omega), (by show _ ≤ 0; omega)⟩) hW (fun h46 H locs hk hW => ?_)
  obtain ⟨w, mm47⟩ := hk
  have w := w mm47
  have hm := hm.tr mm47
  have t48 := mm47.tg t41 (by decide)
  have t49 := mm47.tg t42 (by decide)
  have t50 := mm47.tg t45 (by decide)
  refine lv_iconst (v := 0) hx hb d_CD_greatest_50 (by decide) ?_
  refine lv_istore (lv' := [(4, .int (0 : Int32)), (0, .ref x32), (3, .ref x33)]) hx hb d_CD_greatest_51 hl (by decide) rfl (fun ls hl => ?_)
  obtain ⟨k110, w⟩ := w
  refine tl_CD_greatest_53 C (by omega) (by omega) (fun x103 h104 H locs ls w hm hW hl => ?_) k110 x32 x33 (0 : Int32) h46 _ _ _ w hm hW (lv_sub hl [1, 2, 0] rfl)
  · exact tb_CD_greatest_118 C (by omega) (by omega)  x103 h104 _ _ _ w hm hW (lv_sub hl [0] rfl)
set_option maxHeartbeats 4000000 in
set_option maxRecDepth 100000 in
theorem m_CD_greatest {l : Launch} (G : zG) (a1 : Nat) (a2 : Nat) (a3 : Nat) (a4 : Nat) (h0 : ah_H) {K : Nat → ah_H → Prop} (hst : l.stackTraces = false) (w : w_CD_greatest a1 a2 a3 a4 h0 K) : Met l y_CD_greatest (Cond.code y_CD_greatest b_CD_greatest 5 (some (.object "BigDesk$Whole")) :: zx_T) rm_CD_greatest (va_Pc [.ref a1, .ref a2, .ref a3, .ref a4] (ah_B G h0)) (ah_Qr G (fun r9 h9 => K r9 h9 ∧ ah_m h0 h9)) 0 0 (fun q => G.2.2 ≤ q) := by
  refine Met.ofW (cc := b_CD_greatest) (maxL := 5) (ret := (some (.object "BigDesk$Whole"))) (by decide) rfl ?_
  intro p e s m args below meth c s₁ B hml hv
  have htb := cx_out B (atoms_spec B.pre _ List.mem_cons_self)
  obtain ⟨rfl, hB⟩ := hv
  have C : cx_C p l s m _ meth c G y_CD_greatest b_CD_greatest 5 (some (.object "BigDesk$Whole")) "BigDesk$CommonDivisor" (Cond.code y_CD_greatest b_CD_greatest 5 (some (.object "BigDesk$Whole")) :: zx_T) [] := ⟨B.exec, B.bytes, B.returns, hml, findClass_of_methodNamed B.named, atoms_spec B.pre, cx_hd, B.notSynchronized, hB.2.2.1, hB.2.2.2, htb, fun z9 => (name_of_methodNamed B.named B.method).1.trans z9, hst⟩
  obtain ⟨hx, hb, hr, hml, hown, hts, hT, hlk, hK, hX, htb, hin, hst⟩ := id C
  have hw : ∀ {w9 : Cond}, w9 ∈ zx_T → w9.before _ s = true := fun h9 => hts _ (hT _ h9)
  have hW : ah_W G s.heap h0 s.heap [] := ⟨hB.1, hB.2.1, va_S.rf⟩
  have hm : ah_m h0 h0 := ah_m.rf
  have hcl : 0 + 0 ≤ 0 := by decide
  have hsl : 0 + 0 ≤ 0 := by decide
  have hl := lv_entry ([.ref a1, .ref a2, .ref a3, .ref a4]) (n := 5) (Nat.le_of_ble_eq_true rfl)
  rw [lg_entry_eq]
  generalize (lg_sl ([.ref a1, .ref a2, .ref a3, .ref a4]) ++ List.replicate (5 - (lg_sl ([.ref a1, .ref a2, .ref a3, .ref a4])).length) Slot.unset).toArray = ls at hl ⊢
  have hl : lv_has ls 5 [(0, .ref a1), (1, .ref a2), (2, .ref a3), (3, .ref a4)] := hl
  unfold w_CD_greatest at w
  refine lv_aload_n hx hb d_CD_greatest_0 rfl (lv_at hl 0 rfl) ?_
  obtain ⟨t5, w⟩ := w
  obtain ⟨q6, e7, w⟩ := w
  refine hb_get (ci := 0) (C := "BigDesk$CommonDivisor") (T := T_CD) (N := 6) hx hb hts (fun w9 h9 => hT w9 (u_CD w9 h9)) hown hK hW t5 rfl (by decide) 0 (by decide) (hw wd_85) (fun _ h9 => h9) (q := (2, 0)) rfl (v := .ref q6) (ah_f_R e7) d_CD_greatest_1 ?_
  refine lv_aload_n hx hb d_CD_greatest_4 rfl (lv_at hl 1 rfl) ?_
  obtain ⟨t8, w⟩ := w
  refine hb_callv (va_runV (As := [.ref a2]) (rest := []) ⟨hx, hb, hml, hown, hts⟩ (m_WH_become G q6 a2 h0 hst w) (cwV 1 hts (zx_gV hT wd_453 wd_234 wd_235 wd_2 wd_236) rfl rfl rfl (by decide +kernel) ⟨Nat.le_of_ble_eq_true rfl, Nat.le_of_ble_eq_true rfl⟩) (hb_preV hK hX hW t8 (by decide) rfl) rfl rfl hl.1 rfl (lv_room (Nat.le_of_ble_eq_true rfl)) d_CD_greatest_5 ⟨(by show _ ≤ 0; omega), (by show _ ≤ 0; omega)⟩) hW (fun h9 H locs hk hW => ?_)
  obtain ⟨w, mm10⟩ := hk
  have w := w mm10
  have hm := hm.tr mm10
  have t11 := mm10.tg t5 (by decide)
  have t12 := mm10.tg t8 (by decide)
  refine lv_aload_n hx hb d_CD_greatest_8 rfl (lv_at hl 0 rfl) ?_
  obtain ⟨q13, e14, w⟩ := w
  refine hb_get (ci := 0) (C := "BigDesk$CommonDivisor") (T := T_CD) (N := 6) hx hb hts (fun w9 h9 => hT w9 (u_CD w9 h9)) hown hK hW t11 rfl (by decide) 1 (by decide) (hw wd_86) (fun _ h9 => h9) (q := (2, 1)) rfl (v := .ref q13) (ah_f_R e14) d_CD_greatest_9 ?_
  refine lv_aload_n hx hb d_CD_greatest_12 rfl (lv_at hl 2 rfl) ?_
  obtain ⟨t15, w⟩ := w
  refine hb_callv (va_runV (As := [.ref a3]) (rest := []) ⟨hx, hb, hml, hown, hts⟩ (m_WH_become G q13 a3 h9 hst w) (cwV 1 hts (zx_gV hT wd_453 wd_234 wd_235 wd_2 wd_236) rfl rfl rfl (by decide +kernel) ⟨Nat.le_of_ble_eq_true rfl, Nat.le_of_ble_eq_true rfl⟩) (hb_preV hK hX hW t15 (by decide) rfl) rfl rfl hl.1 rfl (lv_room (Nat.le_of_ble_eq_true rfl)) d_CD_greatest_13 ⟨(by show _ ≤ 0; omega), (by show _ ≤ 0; omega)⟩) hW (fun h16 H locs hk hW => ?_)
  obtain ⟨w, mm17⟩ := hk
  have w := w mm17
  have hm := hm.tr mm17
  have t18 := mm17.tg t11 (by decide)
  have t19 := mm17.tg t12 (by decide)
  have t20 := mm17.tg t15 (by decide)
  refine lv_aload_n hx hb d_CD_greatest_16 rfl (lv_at hl 0 rfl) ?_
  obtain ⟨q21, e22, w⟩ := w
  refine hb_get (ci := 0) (C := "BigDesk$CommonDivisor") (T := T_CD) (N := 6) hx hb hts (fun w9 h9 => hT w9 (u_CD w9 h9)) hown hK hW t18 rfl (by decide) 0 (by decide) (hw wd_85) (fun _ h9 => h9) (q := (2, 0)) rfl (v := .ref q21) (ah_f_R e22) d_CD_greatest_17 ?_
  refine lv_aload_n hx hb d_CD_greatest_20 rfl (lv_at hl 0 rfl) ?_
  obtain ⟨q23, e24, w⟩ := w
  refine hb_get (ci := 0) (C := "BigDesk$CommonDivisor") (T := T_CD) (N := 6) hx hb hts (fun w9 h9 => hT w9 (u_CD w9 h9)) hown hK hW t18 rfl (by decide) 1 (by decide) (hw wd_86) (fun _ h9 => h9) (q := (2, 1)) rfl (v := .ref q23) (ah_f_R e24) d_CD_greatest_21 ?_
  refine hb_calli (va_runS (As := [.ref q21, .ref q23]) (rest := []) ⟨hx, hb, hml, hown, hts⟩ (m_SU_orderOfAbsolutes G q21 q23 h16 hst w) (va_cwS 2 hts (zx_gS hT wd_454 wd_264 wd_11 wd_265) rfl rfl rfl (by decide +kernel) ⟨Nat.le_of_ble_eq_true rfl, Nat.le_of_ble_eq_true rfl⟩) (hb_preS hK hX hW) rfl rfl hl.1 rfl (lv_room (Nat.le_of_ble_eq_true rfl)) d_CD_greatest_24 ⟨(by show _ ≤ 0; omega), (by show _ ≤ 0; omega)⟩) hW (fun r26 h25 H locs hk hW => ?_)
  obtain ⟨w, mm27⟩ := hk
  have w := w mm27
  have hm := hm.tr mm27
  have t28 := mm27.tg t18 (by decide)
  have t29 := mm27.tg t19 (by decide)
  have t30 := mm27.tg t20 (by decide)
  refine lv_if_ge (tgt := 34) hx hb d_CD_greatest_27 (by decide) (fun c31 => ?_) (fun c31 => ?_)
  · have w := w.1 c31
    exact tb_CD_greatest_34 C (by omega) (by omega)  a1 a4 h25 _ _ _ w hm hW (lv_sub hl [0, 3] rfl)
  · have w := w.2 c31
    refine lv_aload_n hx hb d_CD_greatest_30 rfl (lv_at hl 0 rfl) ?_
    refine hb_callv (va_runV (As := []) (rest := []) ⟨hx, hb, hml, hown, hts⟩ (m_CD_exchange G a1 h25 hst w) (cwV 0 hts (zx_gV hT wd_455 wd_457 wd_s8 wd_4 wd_458) rfl rfl rfl (by decide +kernel) ⟨Nat.le_of_ble_eq_true rfl, Nat.le_of_ble_eq_true rfl⟩) (hb_preV hK hX hW t28 (by decide) rfl) rfl rfl hl.1 rfl (lv_room (Nat.le_of_ble_eq_true rfl)) d_CD_greatest_31 ⟨(by show _ ≤ 0; omega), (by show _ ≤ 0; omega)⟩) hW (fun h111 H locs hk hW => ?_)
    obtain ⟨w, mm112⟩ := hk
    have w := w mm112
    have hm := hm.tr mm112
    have t113 := mm112.tg t28 (by decide)
    have t114 := mm112.tg t29 (by decide)
    have t115 := mm112.tg t30 (by decide)
    exact tb_CD_greatest_34 C (by omega) (by omega)  a1 a4 h111 _ _ _ w hm hW (lv_sub hl [0, 3] rfl)
