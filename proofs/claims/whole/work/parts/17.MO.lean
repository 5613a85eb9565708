theorem d_MO_setRow_0 : decode b_MO_setRow 0 = .ok (.lload_n 2, 1) := by decide +kernel
theorem d_MO_setRow_1 : decode b_MO_setRow 1 = .ok (.lstore 4, 2) := by decide +kernel
theorem d_MO_setRow_3 : decode b_MO_setRow 3 = .ok (.aload_n 0, 1) := by decide +kernel
theorem d_MO_setRow_4 : decode b_MO_setRow 4 = .ok (.getfield 13, 3) := by decide +kernel
theorem d_MO_setRow_7 : decode b_MO_setRow 7 = .ok (.iload_n 1, 1) := by decide +kernel
theorem d_MO_setRow_8 : decode b_MO_setRow 8 = .ok (.iconst 0, 1) := by decide +kernel
theorem d_MO_setRow_9 : decode b_MO_setRow 9 = .ok (.iastore, 1) := by decide +kernel
theorem d_MO_setRow_10 : decode b_MO_setRow 10 = .ok (.aload_n 0, 1) := by decide +kernel
theorem d_MO_setRow_11 : decode b_MO_setRow 11 = .ok (.getfield 16, 3) := by decide +kernel
theorem d_MO_setRow_14 : decode b_MO_setRow 14 = .ok (.iload_n 1, 1) := by decide +kernel
theorem d_MO_setRow_15 : decode b_MO_setRow 15 = .ok (.lload_n 2, 1) := by decide +kernel
theorem d_MO_setRow_16 : decode b_MO_setRow 16 = .ok (.lconst 0, 1) := by decide +kernel
theorem d_MO_setRow_17 : decode b_MO_setRow 17 = .ok (.lcmp, 1) := by decide +kernel
theorem d_MO_setRow_18 : decode b_MO_setRow 18 = .ok (.ifCond .ge 7, 3) := by decide +kernel
theorem d_MO_setRow_21 : decode b_MO_setRow 21 = .ok (.iconst (-1), 1) := by decide +kernel
theorem d_MO_setRow_22 : decode b_MO_setRow 22 = .ok (.goto 14, 3) := by decide +kernel
theorem d_MO_setRow_25 : decode b_MO_setRow 25 = .ok (.lload_n 2, 1) := by decide +kernel
theorem d_MO_setRow_26 : decode b_MO_setRow 26 = .ok (.lconst 0, 1) := by decide +kernel
theorem d_MO_setRow_27 : decode b_MO_setRow 27 = .ok (.lcmp, 1) := by decide +kernel
theorem d_MO_setRow_28 : decode b_MO_setRow 28 = .ok (.ifCond .le 7, 3) := by decide +kernel
theorem d_MO_setRow_31 : decode b_MO_setRow 31 = .ok (.iconst 1, 1) := by decide +kernel
theorem d_MO_setRow_32 : decode b_MO_setRow 32 = .ok (.goto 4, 3) := by decide +kernel
theorem d_MO_setRow_35 : decode b_MO_setRow 35 = .ok (.iconst 0, 1) := by decide +kernel
theorem d_MO_setRow_36 : decode b_MO_setRow 36 = .ok (.iastore, 1) := by decide +kernel
theorem d_MO_setRow_37 : decode b_MO_setRow 37 = .ok (.lload 4, 2) := by decide +kernel
theorem d_MO_setRow_39 : decode b_MO_setRow 39 = .ok (.lconst 0, 1) := by decide +kernel
theorem d_MO_setRow_40 : decode b_MO_setRow 40 = .ok (.lcmp, 1) := by decide +kernel
theorem d_MO_setRow_41 : decode b_MO_setRow 41 = .ok (.ifCond .eq 65, 3) := by decide +kernel
theorem d_MO_setRow_44 : decode b_MO_setRow 44 = .ok (.lload 4, 2) := by decide +kernel
theorem d_MO_setRow_46 : decode b_MO_setRow 46 = .ok (.ldc2_w 37, 3) := by decide +kernel
theorem d_MO_setRow_49 : decode b_MO_setRow 49 = .ok (.lrem, 1) := by decide +kernel
theorem d_MO_setRow_50 : decode b_MO_setRow 50 = .ok (.lstore 6, 2) := by decide +kernel
theorem d_MO_setRow_52 : decode b_MO_setRow 52 = .ok (.aload_n 0, 1) := by decide +kernel
theorem d_MO_setRow_53 : decode b_MO_setRow 53 = .ok (.getfield 7, 3) := by decide +kernel
theorem d_MO_setRow_56 : decode b_MO_setRow 56 = .ok (.sipush 1300, 3) := by decide +kernel
theorem d_MO_setRow_59 : decode b_MO_setRow 59 = .ok (.iload_n 1, 1) := by decide +kernel
theorem d_MO_setRow_60 : decode b_MO_setRow 60 = .ok (.imul, 1) := by decide +kernel
theorem d_MO_setRow_61 : decode b_MO_setRow 61 = .ok (.aload_n 0, 1) := by decide +kernel
theorem d_MO_setRow_62 : decode b_MO_setRow 62 = .ok (.getfield 13, 3) := by decide +kernel
theorem d_MO_setRow_65 : decode b_MO_setRow 65 = .ok (.iload_n 1, 1) := by decide +kernel
theorem d_MO_setRow_66 : decode b_MO_setRow 66 = .ok (.iaload, 1) := by decide +kernel
theorem d_MO_setRow_67 : decode b_MO_setRow 67 = .ok (.iadd, 1) := by decide +kernel
theorem d_MO_setRow_68 : decode b_MO_setRow 68 = .ok (.lload 6, 2) := by decide +kernel
theorem d_MO_setRow_70 : decode b_MO_setRow 70 = .ok (.lconst 0, 1) := by decide +kernel
theorem d_MO_setRow_71 : decode b_MO_setRow 71 = .ok (.lcmp, 1) := by decide +kernel
theorem d_MO_setRow_72 : decode b_MO_setRow 72 = .ok (.ifCond .ge 9, 3) := by decide +kernel
theorem d_MO_setRow_75 : decode b_MO_setRow 75 = .ok (.lload 6, 2) := by decide +kernel
theorem d_MO_setRow_77 : decode b_MO_setRow 77 = .ok (.lneg, 1) := by decide +kernel
theorem d_MO_setRow_78 : decode b_MO_setRow 78 = .ok (.goto 5, 3) := by decide +kernel
theorem d_MO_setRow_81 : decode b_MO_setRow 81 = .ok (.lload 6, 2) := by decide +kernel
theorem d_MO_setRow_83 : decode b_MO_setRow 83 = .ok (.l2i, 1) := by decide +kernel
theorem d_MO_setRow_84 : decode b_MO_setRow 84 = .ok (.iastore, 1) := by decide +kernel
theorem d_MO_setRow_85 : decode b_MO_setRow 85 = .ok (.lload 4, 2) := by decide +kernel
theorem d_MO_setRow_87 : decode b_MO_setRow 87 = .ok (.ldc2_w 37, 3) := by decide +kernel
theorem d_MO_setRow_90 : decode b_MO_setRow 90 = .ok (.ldiv, 1) := by decide +kernel
theorem d_MO_setRow_91 : decode b_MO_setRow 91 = .ok (.lstore 4, 2) := by decide +kernel
theorem d_MO_setRow_93 : decode b_MO_setRow 93 = .ok (.aload_n 0, 1) := by decide +kernel
theorem d_MO_setRow_94 : decode b_MO_setRow 94 = .ok (.getfield 13, 3) := by decide +kernel
theorem d_MO_setRow_97 : decode b_MO_setRow 97 = .ok (.iload_n 1, 1) := by decide +kernel
theorem d_MO_setRow_98 : decode b_MO_setRow 98 = .ok (.dup2, 1) := by decide +kernel
theorem d_MO_setRow_99 : decode b_MO_setRow 99 = .ok (.iaload, 1) := by decide +kernel
theorem d_MO_setRow_100 : decode b_MO_setRow 100 = .ok (.iconst 1, 1) := by decide +kernel
theorem d_MO_setRow_101 : decode b_MO_setRow 101 = .ok (.iadd, 1) := by decide +kernel
theorem d_MO_setRow_102 : decode b_MO_setRow 102 = .ok (.iastore, 1) := by decide +kernel
theorem d_MO_setRow_103 : decode b_MO_setRow 103 = .ok (.goto (-66), 3) := by decide +kernel
theorem d_MO_setRow_106 : decode b_MO_setRow 106 = .ok (.return_, 1) := by decide +kernel
theorem d_MO_at_0 : decode b_MO_at 0 = .ok (.iload_n 2, 1) := by decide +kernel
theorem d_MO_at_1 : decode b_MO_at 1 = .ok (.aload_n 0, 1) := by decide +kernel
theorem d_MO_at_2 : decode b_MO_at 2 = .ok (.getfield 13, 3) := by decide +kernel
theorem d_MO_at_5 : decode b_MO_at 5 = .ok (.iload_n 1, 1) := by decide +kernel
theorem d_MO_at_6 : decode b_MO_at 6 = .ok (.iaload, 1) := by decide +kernel
theorem d_MO_at_7 : decode b_MO_at 7 = .ok (.if_icmp .ge 22, 3) := by decide +kernel
theorem d_MO_at_10 : decode b_MO_at 10 = .ok (.iload_n 2, 1) := by decide +kernel
theorem d_MO_at_11 : decode b_MO_at 11 = .ok (.ifCond .lt 18, 3) := by decide +kernel
theorem d_MO_at_14 : decode b_MO_at 14 = .ok (.aload_n 0, 1) := by decide +kernel
theorem d_MO_at_15 : decode b_MO_at 15 = .ok (.getfield 7, 3) := by decide +kernel
theorem d_MO_at_18 : decode b_MO_at 18 = .ok (.sipush 1300, 3) := by decide +kernel
theorem d_MO_at_21 : decode b_MO_at 21 = .ok (.iload_n 1, 1) := by decide +kernel
theorem d_MO_at_22 : decode b_MO_at 22 = .ok (.imul, 1) := by decide +kernel
theorem d_MO_at_23 : decode b_MO_at 23 = .ok (.iload_n 2, 1) := by decide +kernel
theorem d_MO_at_24 : decode b_MO_at 24 = .ok (.iadd, 1) := by decide +kernel
theorem d_MO_at_25 : decode b_MO_at 25 = .ok (.iaload, 1) := by decide +kernel
theorem d_MO_at_26 : decode b_MO_at 26 = .ok (.goto 4, 3) := by decide +kernel
theorem d_MO_at_29 : decode b_MO_at 29 = .ok (.iconst 0, 1) := by decide +kernel
theorem d_MO_at_30 : decode b_MO_at 30 = .ok (.ireturn, 1) := by decide +kernel
theorem d_MO_scale_0 : decode b_MO_scale 0 = .ok (.iconst 0, 1) := by decide +kernel
theorem d_MO_scale_1 : decode b_MO_scale 1 = .ok (.istore_n 3, 1) := by decide +kernel
theorem d_MO_scale_2 : decode b_MO_scale 2 = .ok (.iconst 0, 1) := by decide +kernel
theorem d_MO_scale_3 : decode b_MO_scale 3 = .ok (.istore 4, 2) := by decide +kernel
theorem d_MO_scale_5 : decode b_MO_scale 5 = .ok (.iload 4, 2) := by decide +kernel
theorem d_MO_scale_7 : decode b_MO_scale 7 = .ok (.aload_n 0, 1) := by decide +kernel
theorem d_MO_scale_8 : decode b_MO_scale 8 = .ok (.getfield 13, 3) := by decide +kernel
theorem d_MO_scale_11 : decode b_MO_scale 11 = .ok (.iload_n 1, 1) := by decide +kernel
theorem d_MO_scale_12 : decode b_MO_scale 12 = .ok (.iaload, 1) := by decide +kernel
theorem d_MO_scale_13 : decode b_MO_scale 13 = .ok (.if_icmp .ge 48, 3) := by decide +kernel
theorem d_MO_scale_16 : decode b_MO_scale 16 = .ok (.aload_n 0, 1) := by decide +kernel
theorem d_MO_scale_17 : decode b_MO_scale 17 = .ok (.iload_n 1, 1) := by decide +kernel
theorem d_MO_scale_18 : decode b_MO_scale 18 = .ok (.iload 4, 2) := by decide +kernel
theorem d_MO_scale_20 : decode b_MO_scale 20 = .ok (.invokevirtual 39, 3) := by decide +kernel
theorem d_MO_scale_23 : decode b_MO_scale 23 = .ok (.iload_n 2, 1) := by decide +kernel
theorem d_MO_scale_24 : decode b_MO_scale 24 = .ok (.imul, 1) := by decide +kernel
theorem d_MO_scale_25 : decode b_MO_scale 25 = .ok (.iload_n 3, 1) := by decide +kernel
theorem d_MO_scale_26 : decode b_MO_scale 26 = .ok (.iadd, 1) := by decide +kernel
theorem d_MO_scale_27 : decode b_MO_scale 27 = .ok (.istore 5, 2) := by decide +kernel
theorem d_MO_scale_29 : decode b_MO_scale 29 = .ok (.aload_n 0, 1) := by decide +kernel
theorem d_MO_scale_30 : decode b_MO_scale 30 = .ok (.getfield 7, 3) := by decide +kernel
theorem d_MO_scale_33 : decode b_MO_scale 33 = .ok (.sipush 1300, 3) := by decide +kernel
theorem d_MO_scale_36 : decode b_MO_scale 36 = .ok (.iload_n 1, 1) := by decide +kernel
theorem d_MO_scale_37 : decode b_MO_scale 37 = .ok (.imul, 1) := by decide +kernel
theorem d_MO_scale_38 : decode b_MO_scale 38 = .ok (.iload 4, 2) := by decide +kernel
theorem d_MO_scale_40 : decode b_MO_scale 40 = .ok (.iadd, 1) := by decide +kernel
theorem d_MO_scale_41 : decode b_MO_scale 41 = .ok (.iload 5, 2) := by decide +kernel
theorem d_MO_scale_43 : decode b_MO_scale 43 = .ok (.sipush 10000, 3) := by decide +kernel
theorem d_MO_scale_46 : decode b_MO_scale 46 = .ok (.irem, 1) := by decide +kernel
theorem d_MO_scale_47 : decode b_MO_scale 47 = .ok (.iastore, 1) := by decide +kernel
theorem d_MO_scale_48 : decode b_MO_scale 48 = .ok (.iload 5, 2) := by decide +kernel
theorem d_MO_scale_50 : decode b_MO_scale 50 = .ok (.sipush 10000, 3) := by decide +kernel
theorem d_MO_scale_53 : decode b_MO_scale 53 = .ok (.idiv, 1) := by decide +kernel
theorem d_MO_scale_54 : decode b_MO_scale 54 = .ok (.istore_n 3, 1) := by decide +kernel
theorem d_MO_scale_55 : decode b_MO_scale 55 = .ok (.iinc 4 1, 3) := by decide +kernel
theorem d_MO_scale_58 : decode b_MO_scale 58 = .ok (.goto (-53), 3) := by decide +kernel
theorem d_MO_scale_61 : decode b_MO_scale 61 = .ok (.iload_n 3, 1) := by decide +kernel
theorem d_MO_scale_62 : decode b_MO_scale 62 = .ok (.ifCond .le 44, 3) := by decide +kernel
theorem d_MO_scale_65 : decode b_MO_scale 65 = .ok (.aload_n 0, 1) := by decide +kernel
theorem d_MO_scale_66 : decode b_MO_scale 66 = .ok (.getfield 7, 3) := by decide +kernel
theorem d_MO_scale_69 : decode b_MO_scale 69 = .ok (.sipush 1300, 3) := by decide +kernel
theorem d_MO_scale_72 : decode b_MO_scale 72 = .ok (.iload_n 1, 1) := by decide +kernel
theorem d_MO_scale_73 : decode b_MO_scale 73 = .ok (.imul, 1) := by decide +kernel
theorem d_MO_scale_74 : decode b_MO_scale 74 = .ok (.aload_n 0, 1) := by decide +kernel
theorem d_MO_scale_75 : decode b_MO_scale 75 = .ok (.getfield 13, 3) := by decide +kernel
theorem d_MO_scale_78 : decode b_MO_scale 78 = .ok (.iload_n 1, 1) := by decide +kernel
theorem d_MO_scale_79 : decode b_MO_scale 79 = .ok (.iaload, 1) := by decide +kernel
theorem d_MO_scale_80 : decode b_MO_scale 80 = .ok (.iadd, 1) := by decide +kernel
theorem d_MO_scale_81 : decode b_MO_scale 81 = .ok (.iload_n 3, 1) := by decide +kernel
theorem d_MO_scale_82 : decode b_MO_scale 82 = .ok (.sipush 10000, 3) := by decide +kernel
theorem d_MO_scale_85 : decode b_MO_scale 85 = .ok (.irem, 1) := by decide +kernel
theorem d_MO_scale_86 : decode b_MO_scale 86 = .ok (.iastore, 1) := by decide +kernel
theorem d_MO_scale_87 : decode b_MO_scale 87 = .ok (.iload_n 3, 1) := by decide +kernel
theorem d_MO_scale_88 : decode b_MO_scale 88 = .ok (.sipush 10000, 3) := by decide +kernel
theorem d_MO_scale_91 : decode b_MO_scale 91 = .ok (.idiv, 1) := by decide +kernel
theorem d_MO_scale_92 : decode b_MO_scale 92 = .ok (.istore_n 3, 1) := by decide +kernel
theorem d_MO_scale_93 : decode b_MO_scale 93 = .ok (.aload_n 0, 1) := by decide +kernel
theorem d_MO_scale_94 : decode b_MO_scale 94 = .ok (.getfield 13, 3) := by decide +kernel
theorem d_MO_scale_97 : decode b_MO_scale 97 = .ok (.iload_n 1, 1) := by decide +kernel
theorem d_MO_scale_98 : decode b_MO_scale 98 = .ok (.dup2, 1) := by decide +kernel
theorem d_MO_scale_99 : decode b_MO_scale 99 = .ok (.iaload, 1) := by decide +kernel
theorem d_MO_scale_100 : decode b_MO_scale 100 = .ok (.iconst 1, 1) := by decide +kernel
theorem d_MO_scale_101 : decode b_MO_scale 101 = .ok (.iadd, 1) := by decide +kernel
theorem d_MO_scale_102 : decode b_MO_scale 102 = .ok (.iastore, 1) := by decide +kernel
theorem d_MO_scale_103 : decode b_MO_scale 103 = .ok (.goto (-42), 3) := by decide +kernel
theorem d_MO_scale_106 : decode b_MO_scale 106 = .ok (.return_, 1) := by decide +kernel
theorem d_MO_init_0 : decode b_MO_init 0 = .ok (.aload_n 0, 1) := by decide +kernel
theorem d_MO_init_1 : decode b_MO_init 1 = .ok (.invokespecial 1, 3) := by decide +kernel
theorem d_MO_init_4 : decode b_MO_init 4 = .ok (.aload_n 0, 1) := by decide +kernel
theorem d_MO_init_5 : decode b_MO_init 5 = .ok (.sipush 23400, 3) := by decide +kernel
theorem d_MO_init_8 : decode b_MO_init 8 = .ok (.newarray .int, 2) := by decide +kernel
theorem d_MO_init_10 : decode b_MO_init 10 = .ok (.putfield 7, 3) := by decide +kernel
theorem d_MO_init_13 : decode b_MO_init 13 = .ok (.aload_n 0, 1) := by decide +kernel
theorem d_MO_init_14 : decode b_MO_init 14 = .ok (.bipush 18, 2) := by decide +kernel
theorem d_MO_init_16 : decode b_MO_init 16 = .ok (.newarray .int, 2) := by decide +kernel
theorem d_MO_init_18 : decode b_MO_init 18 = .ok (.putfield 13, 3) := by decide +kernel
theorem d_MO_init_21 : decode b_MO_init 21 = .ok (.aload_n 0, 1) := by decide +kernel
theorem d_MO_init_22 : decode b_MO_init 22 = .ok (.bipush 18, 2) := by decide +kernel
theorem d_MO_init_24 : decode b_MO_init 24 = .ok (.newarray .int, 2) := by decide +kernel
theorem d_MO_init_26 : decode b_MO_init 26 = .ok (.putfield 16, 3) := by decide +kernel
theorem d_MO_init_29 : decode b_MO_init 29 = .ok (.aload_n 0, 1) := by decide +kernel
theorem d_MO_init_30 : decode b_MO_init 30 = .ok (.sipush 2600, 3) := by decide +kernel
theorem d_MO_init_33 : decode b_MO_init 33 = .ok (.newarray .int, 2) := by decide +kernel
theorem d_MO_init_35 : decode b_MO_init 35 = .ok (.putfield 19, 3) := by decide +kernel
theorem d_MO_init_38 : decode b_MO_init 38 = .ok (.aload_n 0, 1) := by decide +kernel
theorem d_MO_init_39 : decode b_MO_init 39 = .ok (.sipush 2600, 3) := by decide +kernel
theorem d_MO_init_42 : decode b_MO_init 42 = .ok (.newarray .int, 2) := by decide +kernel
theorem d_MO_init_44 : decode b_MO_init 44 = .ok (.putfield 22, 3) := by decide +kernel
theorem d_MO_init_47 : decode b_MO_init 47 = .ok (.aload_n 0, 1) := by decide +kernel
theorem d_MO_init_48 : decode b_MO_init 48 = .ok (.bipush 12, 2) := by decide +kernel
theorem d_MO_init_50 : decode b_MO_init 50 = .ok (.lconst 1, 1) := by decide +kernel
theorem d_MO_init_51 : decode b_MO_init 51 = .ok (.invokevirtual 25, 3) := by decide +kernel
theorem d_MO_init_54 : decode b_MO_init 54 = .ok (.iconst 0, 1) := by decide +kernel
theorem d_MO_init_55 : decode b_MO_init 55 = .ok (.istore_n 1, 1) := by decide +kernel
theorem d_MO_init_56 : decode b_MO_init 56 = .ok (.iload_n 1, 1) := by decide +kernel
theorem d_MO_init_57 : decode b_MO_init 57 = .ok (.sipush 1024, 3) := by decide +kernel
theorem d_MO_init_60 : decode b_MO_init 60 = .ok (.if_icmp .ge 18, 3) := by decide +kernel
theorem d_MO_init_63 : decode b_MO_init 63 = .ok (.aload_n 0, 1) := by decide +kernel
theorem d_MO_init_64 : decode b_MO_init 64 = .ok (.bipush 12, 2) := by decide +kernel
theorem d_MO_init_66 : decode b_MO_init 66 = .ok (.sipush 256, 3) := by decide +kernel
theorem d_MO_init_69 : decode b_MO_init 69 = .ok (.invokevirtual 29, 3) := by decide +kernel
theorem d_MO_init_72 : decode b_MO_init 72 = .ok (.iinc 1 1, 3) := by decide +kernel
theorem d_MO_init_75 : decode b_MO_init 75 = .ok (.goto (-19), 3) := by decide +kernel
theorem d_MO_init_78 : decode b_MO_init 78 = .ok (.return_, 1) := by decide +kernel
theorem d_MO_thrown_0 : decode b_MO_thrown 0 = .ok (.aload_n 0, 1) := by decide +kernel
theorem d_MO_thrown_1 : decode b_MO_thrown 1 = .ok (.getfield 33, 3) := by decide +kernel
theorem d_MO_thrown_4 : decode b_MO_thrown 4 = .ok (.ireturn, 1) := by decide +kernel
theorem d_MO_fails_0 : decode b_MO_fails 0 = .ok (.aload_n 0, 1) := by decide +kernel
theorem d_MO_fails_1 : decode b_MO_fails 1 = .ok (.iload_n 1, 1) := by decide +kernel
theorem d_MO_fails_2 : decode b_MO_fails 2 = .ok (.ifCond .eq 7, 3) := by decide +kernel
theorem d_MO_fails_5 : decode b_MO_fails 5 = .ok (.iload_n 2, 1) := by decide +kernel
theorem d_MO_fails_6 : decode b_MO_fails 6 = .ok (.goto 4, 3) := by decide +kernel
theorem d_MO_fails_9 : decode b_MO_fails 9 = .ok (.iconst 0, 1) := by decide +kernel
theorem d_MO_fails_10 : decode b_MO_fails 10 = .ok (.putfield 33, 3) := by decide +kernel
theorem d_MO_fails_13 : decode b_MO_fails 13 = .ok (.iload_n 1, 1) := by decide +kernel
theorem d_MO_fails_14 : decode b_MO_fails 14 = .ok (.ireturn, 1) := by decide +kernel
theorem d_MO_in_0 : decode b_MO_in 0 = .ok (.lload_n 0, 1) := by decide +kernel
theorem d_MO_in_1 : decode b_MO_in 1 = .ok (.lload_n 2, 1) := by decide +kernel
theorem d_MO_in_2 : decode b_MO_in 2 = .ok (.lcmp, 1) := by decide +kernel
theorem d_MO_in_3 : decode b_MO_in 3 = .ok (.ifCond .lt 14, 3) := by decide +kernel
theorem d_MO_in_6 : decode b_MO_in 6 = .ok (.lload_n 0, 1) := by decide +kernel
theorem d_MO_in_7 : decode b_MO_in 7 = .ok (.lload 4, 2) := by decide +kernel
theorem d_MO_in_9 : decode b_MO_in 9 = .ok (.lcmp, 1) := by decide +kernel
theorem d_MO_in_10 : decode b_MO_in 10 = .ok (.ifCond .gt 7, 3) := by decide +kernel
theorem d_MO_in_13 : decode b_MO_in 13 = .ok (.iconst 1, 1) := by decide +kernel
theorem d_MO_in_14 : decode b_MO_in 14 = .ok (.goto 4, 3) := by decide +kernel
theorem d_MO_in_17 : decode b_MO_in 17 = .ok (.iconst 0, 1) := by decide +kernel
theorem d_MO_in_18 : decode b_MO_in 18 = .ok (.ireturn, 1) := by decide +kernel
theorem d_MO_isNone_0 : decode b_MO_isNone 0 = .ok (.iload_n 0, 1) := by decide +kernel
theorem d_MO_isNone_1 : decode b_MO_isNone 1 = .ok (.ifCond .lt 9, 3) := by decide +kernel
theorem d_MO_isNone_4 : decode b_MO_isNone 4 = .ok (.iload_n 0, 1) := by decide +kernel
theorem d_MO_isNone_5 : decode b_MO_isNone 5 = .ok (.bipush 12, 2) := by decide +kernel
theorem d_MO_isNone_7 : decode b_MO_isNone 7 = .ok (.if_icmp .lt 7, 3) := by decide +kernel
theorem d_MO_isNone_10 : decode b_MO_isNone 10 = .ok (.iconst 1, 1) := by decide +kernel
theorem d_MO_isNone_11 : decode b_MO_isNone 11 = .ok (.goto 4, 3) := by decide +kernel
theorem d_MO_isNone_14 : decode b_MO_isNone 14 = .ok (.iconst 0, 1) := by decide +kernel
theorem d_MO_isNone_15 : decode b_MO_isNone 15 = .ok (.ireturn, 1) := by decide +kernel
theorem d_MO_copyRow_0 : decode b_MO_copyRow 0 = .ok (.iconst 0, 1) := by decide +kernel
theorem d_MO_copyRow_1 : decode b_MO_copyRow 1 = .ok (.istore_n 3, 1) := by decide +kernel
theorem d_MO_copyRow_2 : decode b_MO_copyRow 2 = .ok (.iload_n 3, 1) := by decide +kernel
theorem d_MO_copyRow_3 : decode b_MO_copyRow 3 = .ok (.aload_n 0, 1) := by decide +kernel
theorem d_MO_copyRow_4 : decode b_MO_copyRow 4 = .ok (.getfield 13, 3) := by decide +kernel
theorem d_MO_copyRow_7 : decode b_MO_copyRow 7 = .ok (.iload_n 2, 1) := by decide +kernel
theorem d_MO_copyRow_8 : decode b_MO_copyRow 8 = .ok (.iaload, 1) := by decide +kernel
theorem d_MO_copyRow_9 : decode b_MO_copyRow 9 = .ok (.if_icmp .ge 33, 3) := by decide +kernel
theorem d_MO_copyRow_12 : decode b_MO_copyRow 12 = .ok (.aload_n 0, 1) := by decide +kernel
theorem d_MO_copyRow_13 : decode b_MO_copyRow 13 = .ok (.getfield 7, 3) := by decide +kernel
theorem d_MO_copyRow_16 : decode b_MO_copyRow 16 = .ok (.sipush 1300, 3) := by decide +kernel
theorem d_MO_copyRow_19 : decode b_MO_copyRow 19 = .ok (.iload_n 1, 1) := by decide +kernel
theorem d_MO_copyRow_20 : decode b_MO_copyRow 20 = .ok (.imul, 1) := by decide +kernel
theorem d_MO_copyRow_21 : decode b_MO_copyRow 21 = .ok (.iload_n 3, 1) := by decide +kernel
theorem d_MO_copyRow_22 : decode b_MO_copyRow 22 = .ok (.iadd, 1) := by decide +kernel
theorem d_MO_copyRow_23 : decode b_MO_copyRow 23 = .ok (.aload_n 0, 1) := by decide +kernel
theorem d_MO_copyRow_24 : decode b_MO_copyRow 24 = .ok (.getfield 7, 3) := by decide +kernel
theorem d_MO_copyRow_27 : decode b_MO_copyRow 27 = .ok (.sipush 1300, 3) := by decide +kernel
theorem d_MO_copyRow_30 : decode b_MO_copyRow 30 = .ok (.iload_n 2, 1) := by decide +kernel
theorem d_MO_copyRow_31 : decode b_MO_copyRow 31 = .ok (.imul, 1) := by decide +kernel
theorem d_MO_copyRow_32 : decode b_MO_copyRow 32 = .ok (.iload_n 3, 1) := by decide +kernel
theorem d_MO_copyRow_33 : decode b_MO_copyRow 33 = .ok (.iadd, 1) := by decide +kernel
theorem d_MO_copyRow_34 : decode b_MO_copyRow 34 = .ok (.iaload, 1) := by decide +kernel
theorem d_MO_copyRow_35 : decode b_MO_copyRow 35 = .ok (.iastore, 1) := by decide +kernel
theorem d_MO_copyRow_36 : decode b_MO_copyRow 36 = .ok (.iinc 3 1, 3) := by decide +kernel
theorem d_MO_copyRow_39 : decode b_MO_copyRow 39 = .ok (.goto (-37), 3) := by decide +kernel
theorem d_MO_copyRow_42 : decode b_MO_copyRow 42 = .ok (.aload_n 0, 1) := by decide +kernel
theorem d_MO_copyRow_43 : decode b_MO_copyRow 43 = .ok (.getfield 13, 3) := by decide +kernel
theorem d_MO_copyRow_46 : decode b_MO_copyRow 46 = .ok (.iload_n 1, 1) := by decide +kernel
theorem d_MO_copyRow_47 : decode b_MO_copyRow 47 = .ok (.aload_n 0, 1) := by decide +kernel
theorem d_MO_copyRow_48 : decode b_MO_copyRow 48 = .ok (.getfield 13, 3) := by decide +kernel
theorem d_MO_copyRow_51 : decode b_MO_copyRow 51 = .ok (.iload_n 2, 1) := by decide +kernel
theorem d_MO_copyRow_52 : decode b_MO_copyRow 52 = .ok (.iaload, 1) := by decide +kernel
theorem d_MO_copyRow_53 : decode b_MO_copyRow 53 = .ok (.iastore, 1) := by decide +kernel
theorem d_MO_copyRow_54 : decode b_MO_copyRow 54 = .ok (.aload_n 0, 1) := by decide +kernel
theorem d_MO_copyRow_55 : decode b_MO_copyRow 55 = .ok (.getfield 16, 3) := by decide +kernel
theorem d_MO_copyRow_58 : decode b_MO_copyRow 58 = .ok (.iload_n 1, 1) := by decide +kernel
theorem d_MO_copyRow_59 : decode b_MO_copyRow 59 = .ok (.aload_n 0, 1) := by decide +kernel
theorem d_MO_copyRow_60 : decode b_MO_copyRow 60 = .ok (.getfield 16, 3) := by decide +kernel
theorem d_MO_copyRow_63 : decode b_MO_copyRow 63 = .ok (.iload_n 2, 1) := by decide +kernel
theorem d_MO_copyRow_64 : decode b_MO_copyRow 64 = .ok (.iaload, 1) := by decide +kernel
theorem d_MO_copyRow_65 : decode b_MO_copyRow 65 = .ok (.iastore, 1) := by decide +kernel
theorem d_MO_copyRow_66 : decode b_MO_copyRow 66 = .ok (.return_, 1) := by decide +kernel
theorem d_MO_trim_0 : decode b_MO_trim 0 = .ok (.aload_n 0, 1) := by decide +kernel
theorem d_MO_trim_1 : decode b_MO_trim 1 = .ok (.getfield 13, 3) := by decide +kernel
theorem d_MO_trim_4 : decode b_MO_trim 4 = .ok (.iload_n 1, 1) := by decide +kernel
theorem d_MO_trim_5 : decode b_MO_trim 5 = .ok (.iload_n 2, 1) := by decide +kernel
theorem d_MO_trim_6 : decode b_MO_trim 6 = .ok (.iastore, 1) := by decide +kernel
theorem d_MO_trim_7 : decode b_MO_trim 7 = .ok (.aload_n 0, 1) := by decide +kernel
theorem d_MO_trim_8 : decode b_MO_trim 8 = .ok (.getfield 13, 3) := by decide +kernel
theorem d_MO_trim_11 : decode b_MO_trim 11 = .ok (.iload_n 1, 1) := by decide +kernel
theorem d_MO_trim_12 : decode b_MO_trim 12 = .ok (.iaload, 1) := by decide +kernel
theorem d_MO_trim_13 : decode b_MO_trim 13 = .ok (.ifCond .le 38, 3) := by decide +kernel
theorem d_MO_trim_16 : decode b_MO_trim 16 = .ok (.aload_n 0, 1) := by decide +kernel
theorem d_MO_trim_17 : decode b_MO_trim 17 = .ok (.getfield 7, 3) := by decide +kernel
theorem d_MO_trim_20 : decode b_MO_trim 20 = .ok (.sipush 1300, 3) := by decide +kernel
theorem d_MO_trim_23 : decode b_MO_trim 23 = .ok (.iload_n 1, 1) := by decide +kernel
theorem d_MO_trim_24 : decode b_MO_trim 24 = .ok (.imul, 1) := by decide +kernel
theorem d_MO_trim_25 : decode b_MO_trim 25 = .ok (.aload_n 0, 1) := by decide +kernel
theorem d_MO_trim_26 : decode b_MO_trim 26 = .ok (.getfield 13, 3) := by decide +kernel
theorem d_MO_trim_29 : decode b_MO_trim 29 = .ok (.iload_n 1, 1) := by decide +kernel
theorem d_MO_trim_30 : decode b_MO_trim 30 = .ok (.iaload, 1) := by decide +kernel
theorem d_MO_trim_31 : decode b_MO_trim 31 = .ok (.iadd, 1) := by decide +kernel
theorem d_MO_trim_32 : decode b_MO_trim 32 = .ok (.iconst 1, 1) := by decide +kernel
theorem d_MO_trim_33 : decode b_MO_trim 33 = .ok (.isub, 1) := by decide +kernel
theorem d_MO_trim_34 : decode b_MO_trim 34 = .ok (.iaload, 1) := by decide +kernel
theorem d_MO_trim_35 : decode b_MO_trim 35 = .ok (.ifCond .ne 16, 3) := by decide +kernel
theorem d_MO_trim_38 : decode b_MO_trim 38 = .ok (.aload_n 0, 1) := by decide +kernel
theorem d_MO_trim_39 : decode b_MO_trim 39 = .ok (.getfield 13, 3) := by decide +kernel
theorem d_MO_trim_42 : decode b_MO_trim 42 = .ok (.iload_n 1, 1) := by decide +kernel
theorem d_MO_trim_43 : decode b_MO_trim 43 = .ok (.dup2, 1) := by decide +kernel
theorem d_MO_trim_44 : decode b_MO_trim 44 = .ok (.iaload, 1) := by decide +kernel
theorem d_MO_trim_45 : decode b_MO_trim 45 = .ok (.iconst 1, 1) := by decide +kernel
theorem d_MO_trim_46 : decode b_MO_trim 46 = .ok (.isub, 1) := by decide +kernel
theorem d_MO_trim_47 : decode b_MO_trim 47 = .ok (.iastore, 1) := by decide +kernel
theorem d_MO_trim_48 : decode b_MO_trim 48 = .ok (.goto (-41), 3) := by decide +kernel
theorem d_MO_trim_51 : decode b_MO_trim 51 = .ok (.aload_n 0, 1) := by decide +kernel
theorem d_MO_trim_52 : decode b_MO_trim 52 = .ok (.getfield 13, 3) := by decide +kernel
theorem d_MO_trim_55 : decode b_MO_trim 55 = .ok (.iload_n 1, 1) := by decide +kernel
theorem d_MO_trim_56 : decode b_MO_trim 56 = .ok (.iaload, 1) := by decide +kernel
theorem d_MO_trim_57 : decode b_MO_trim 57 = .ok (.ifCond .ne 10, 3) := by decide +kernel
theorem d_MO_trim_60 : decode b_MO_trim 60 = .ok (.aload_n 0, 1) := by decide +kernel
theorem d_MO_trim_61 : decode b_MO_trim 61 = .ok (.getfield 16, 3) := by decide +kernel
theorem d_MO_trim_64 : decode b_MO_trim 64 = .ok (.iload_n 1, 1) := by decide +kernel
theorem d_MO_trim_65 : decode b_MO_trim 65 = .ok (.iconst 0, 1) := by decide +kernel
theorem d_MO_trim_66 : decode b_MO_trim 66 = .ok (.iastore, 1) := by decide +kernel
theorem d_MO_trim_67 : decode b_MO_trim 67 = .ok (.return_, 1) := by decide +kernel
theorem d_MO_against_0 : decode b_MO_against 0 = .ok (.aload_n 0, 1) := by decide +kernel
theorem d_MO_against_1 : decode b_MO_against 1 = .ok (.getfield 13, 3) := by decide +kernel
theorem d_MO_against_4 : decode b_MO_against 4 = .ok (.iload_n 1, 1) := by decide +kernel
theorem d_MO_against_5 : decode b_MO_against 5 = .ok (.iaload, 1) := by decide +kernel
theorem d_MO_against_6 : decode b_MO_against 6 = .ok (.aload_n 0, 1) := by decide +kernel
theorem d_MO_against_7 : decode b_MO_against 7 = .ok (.getfield 13, 3) := by decide +kernel
theorem d_MO_against_10 : decode b_MO_against 10 = .ok (.iload_n 2, 1) := by decide +kernel
theorem d_MO_against_11 : decode b_MO_against 11 = .ok (.iaload, 1) := by decide +kernel
theorem d_MO_against_12 : decode b_MO_against 12 = .ok (.if_icmp .eq 24, 3) := by decide +kernel
theorem d_MO_against_15 : decode b_MO_against 15 = .ok (.aload_n 0, 1) := by decide +kernel
theorem d_MO_against_16 : decode b_MO_against 16 = .ok (.getfield 13, 3) := by decide +kernel
theorem d_MO_against_19 : decode b_MO_against 19 = .ok (.iload_n 1, 1) := by decide +kernel
theorem d_MO_against_20 : decode b_MO_against 20 = .ok (.iaload, 1) := by decide +kernel
theorem d_MO_against_21 : decode b_MO_against 21 = .ok (.aload_n 0, 1) := by decide +kernel
theorem d_MO_against_22 : decode b_MO_against 22 = .ok (.getfield 13, 3) := by decide +kernel
theorem d_MO_against_25 : decode b_MO_against 25 = .ok (.iload_n 2, 1) := by decide +kernel
theorem d_MO_against_26 : decode b_MO_against 26 = .ok (.iaload, 1) := by decide +kernel
theorem d_MO_against_27 : decode b_MO_against 27 = .ok (.if_icmp .ge 7, 3) := by decide +kernel
theorem d_MO_against_30 : decode b_MO_against 30 = .ok (.iconst (-1), 1) := by decide +kernel
theorem d_MO_against_31 : decode b_MO_against 31 = .ok (.goto 4, 3) := by decide +kernel
theorem d_MO_against_34 : decode b_MO_against 34 = .ok (.iconst 1, 1) := by decide +kernel
theorem d_MO_against_35 : decode b_MO_against 35 = .ok (.ireturn, 1) := by decide +kernel
theorem d_MO_against_36 : decode b_MO_against 36 = .ok (.aload_n 0, 1) := by decide +kernel
theorem d_MO_against_37 : decode b_MO_against 37 = .ok (.getfield 13, 3) := by decide +kernel
theorem d_MO_against_40 : decode b_MO_against 40 = .ok (.iload_n 1, 1) := by decide +kernel
theorem d_MO_against_41 : decode b_MO_against 41 = .ok (.iaload, 1) := by decide +kernel
theorem d_MO_against_42 : decode b_MO_against 42 = .ok (.iconst 1, 1) := by decide +kernel
theorem d_MO_against_43 : decode b_MO_against 43 = .ok (.isub, 1) := by decide +kernel
theorem d_MO_against_44 : decode b_MO_against 44 = .ok (.istore_n 3, 1) := by decide +kernel
theorem d_MO_against_45 : decode b_MO_against 45 = .ok (.iload_n 3, 1) := by decide +kernel
theorem d_MO_against_46 : decode b_MO_against 46 = .ok (.ifCond .lt 45, 3) := by decide +kernel
theorem d_MO_against_49 : decode b_MO_against 49 = .ok (.aload_n 0, 1) := by decide +kernel
theorem d_MO_against_50 : decode b_MO_against 50 = .ok (.iload_n 1, 1) := by decide +kernel
theorem d_MO_against_51 : decode b_MO_against 51 = .ok (.iload_n 3, 1) := by decide +kernel
theorem d_MO_against_52 : decode b_MO_against 52 = .ok (.invokevirtual 39, 3) := by decide +kernel
theorem d_MO_against_55 : decode b_MO_against 55 = .ok (.aload_n 0, 1) := by decide +kernel
theorem d_MO_against_56 : decode b_MO_against 56 = .ok (.iload_n 2, 1) := by decide +kernel
theorem d_MO_against_57 : decode b_MO_against 57 = .ok (.iload_n 3, 1) := by decide +kernel
theorem d_MO_against_58 : decode b_MO_against 58 = .ok (.invokevirtual 39, 3) := by decide +kernel
theorem d_MO_against_61 : decode b_MO_against 61 = .ok (.if_icmp .eq 24, 3) := by decide +kernel
theorem d_MO_against_64 : decode b_MO_against 64 = .ok (.aload_n 0, 1) := by decide +kernel
theorem d_MO_against_65 : decode b_MO_against 65 = .ok (.iload_n 1, 1) := by decide +kernel
theorem d_MO_against_66 : decode b_MO_against 66 = .ok (.iload_n 3, 1) := by decide +kernel
theorem d_MO_against_67 : decode b_MO_against 67 = .ok (.invokevirtual 39, 3) := by decide +kernel
theorem d_MO_against_70 : decode b_MO_against 70 = .ok (.aload_n 0, 1) := by decide +kernel
theorem d_MO_against_71 : decode b_MO_against 71 = .ok (.iload_n 2, 1) := by decide +kernel
theorem d_MO_against_72 : decode b_MO_against 72 = .ok (.iload_n 3, 1) := by decide +kernel
theorem d_MO_against_73 : decode b_MO_against 73 = .ok (.invokevirtual 39, 3) := by decide +kernel
theorem d_MO_against_76 : decode b_MO_against 76 = .ok (.if_icmp .ge 7, 3) := by decide +kernel
theorem d_MO_against_79 : decode b_MO_against 79 = .ok (.iconst (-1), 1) := by decide +kernel
theorem d_MO_against_80 : decode b_MO_against 80 = .ok (.goto 4, 3) := by decide +kernel
theorem d_MO_against_83 : decode b_MO_against 83 = .ok (.iconst 1, 1) := by decide +kernel
theorem d_MO_against_84 : decode b_MO_against 84 = .ok (.ireturn, 1) := by decide +kernel
theorem d_MO_against_85 : decode b_MO_against 85 = .ok (.iinc 3 (-1), 3) := by decide +kernel
theorem d_MO_against_88 : decode b_MO_against 88 = .ok (.goto (-43), 3) := by decide +kernel
theorem d_MO_against_91 : decode b_MO_against 91 = .ok (.iconst 0, 1) := by decide +kernel
theorem d_MO_against_92 : decode b_MO_against 92 = .ok (.ireturn, 1) := by decide +kernel
theorem d_MO_joins_0 : decode b_MO_joins 0 = .ok (.aload_n 0, 1) := by decide +kernel
theorem d_MO_joins_1 : decode b_MO_joins 1 = .ok (.getfield 13, 3) := by decide +kernel
theorem d_MO_joins_4 : decode b_MO_joins 4 = .ok (.iload_n 2, 1) := by decide +kernel
theorem d_MO_joins_5 : decode b_MO_joins 5 = .ok (.iaload, 1) := by decide +kernel
theorem d_MO_joins_6 : decode b_MO_joins 6 = .ok (.aload_n 0, 1) := by decide +kernel
theorem d_MO_joins_7 : decode b_MO_joins 7 = .ok (.getfield 13, 3) := by decide +kernel
theorem d_MO_joins_10 : decode b_MO_joins 10 = .ok (.iload_n 3, 1) := by decide +kernel
theorem d_MO_joins_11 : decode b_MO_joins 11 = .ok (.iaload, 1) := by decide +kernel
theorem d_MO_joins_12 : decode b_MO_joins 12 = .ok (.if_icmp .le 12, 3) := by decide +kernel
theorem d_MO_joins_15 : decode b_MO_joins 15 = .ok (.aload_n 0, 1) := by decide +kernel
theorem d_MO_joins_16 : decode b_MO_joins 16 = .ok (.getfield 13, 3) := by decide +kernel
theorem d_MO_joins_19 : decode b_MO_joins 19 = .ok (.iload_n 2, 1) := by decide +kernel
theorem d_MO_joins_20 : decode b_MO_joins 20 = .ok (.iaload, 1) := by decide +kernel
theorem d_MO_joins_21 : decode b_MO_joins 21 = .ok (.goto 9, 3) := by decide +kernel
theorem d_MO_joins_24 : decode b_MO_joins 24 = .ok (.aload_n 0, 1) := by decide +kernel
theorem d_MO_joins_25 : decode b_MO_joins 25 = .ok (.getfield 13, 3) := by decide +kernel
theorem d_MO_joins_28 : decode b_MO_joins 28 = .ok (.iload_n 3, 1) := by decide +kernel
theorem d_MO_joins_29 : decode b_MO_joins 29 = .ok (.iaload, 1) := by decide +kernel
theorem d_MO_joins_30 : decode b_MO_joins 30 = .ok (.istore 5, 2) := by decide +kernel
theorem d_MO_joins_32 : decode b_MO_joins 32 = .ok (.iconst 0, 1) := by decide +kernel
theorem d_MO_joins_33 : decode b_MO_joins 33 = .ok (.istore 6, 2) := by decide +kernel
theorem d_MO_joins_35 : decode b_MO_joins 35 = .ok (.iconst 0, 1) := by decide +kernel
theorem d_MO_joins_36 : decode b_MO_joins 36 = .ok (.istore 7, 2) := by decide +kernel
theorem d_MO_joins_38 : decode b_MO_joins 38 = .ok (.iload 7, 2) := by decide +kernel
theorem d_MO_joins_40 : decode b_MO_joins 40 = .ok (.iload 5, 2) := by decide +kernel
theorem d_MO_joins_42 : decode b_MO_joins 42 = .ok (.if_icmp .ge 78, 3) := by decide +kernel
theorem d_MO_joins_45 : decode b_MO_joins 45 = .ok (.aload_n 0, 1) := by decide +kernel
theorem d_MO_joins_46 : decode b_MO_joins 46 = .ok (.iload_n 2, 1) := by decide +kernel
theorem d_MO_joins_47 : decode b_MO_joins 47 = .ok (.iload 7, 2) := by decide +kernel
theorem d_MO_joins_49 : decode b_MO_joins 49 = .ok (.invokevirtual 39, 3) := by decide +kernel
theorem d_MO_joins_52 : decode b_MO_joins 52 = .ok (.iload 4, 2) := by decide +kernel
theorem d_MO_joins_54 : decode b_MO_joins 54 = .ok (.aload_n 0, 1) := by decide +kernel
theorem d_MO_joins_55 : decode b_MO_joins 55 = .ok (.iload_n 3, 1) := by decide +kernel
theorem d_MO_joins_56 : decode b_MO_joins 56 = .ok (.iload 7, 2) := by decide +kernel
theorem d_MO_joins_58 : decode b_MO_joins 58 = .ok (.invokevirtual 39, 3) := by decide +kernel
theorem d_MO_joins_61 : decode b_MO_joins 61 = .ok (.imul, 1) := by decide +kernel
theorem d_MO_joins_62 : decode b_MO_joins 62 = .ok (.iadd, 1) := by decide +kernel
theorem d_MO_joins_63 : decode b_MO_joins 63 = .ok (.iload 6, 2) := by decide +kernel
theorem d_MO_joins_65 : decode b_MO_joins 65 = .ok (.iadd, 1) := by decide +kernel
theorem d_MO_joins_66 : decode b_MO_joins 66 = .ok (.istore 8, 2) := by decide +kernel
theorem d_MO_joins_68 : decode b_MO_joins 68 = .ok (.iload 8, 2) := by decide +kernel
theorem d_MO_joins_70 : decode b_MO_joins 70 = .ok (.ifCond .ge 7, 3) := by decide +kernel
theorem d_MO_joins_73 : decode b_MO_joins 73 = .ok (.iconst (-1), 1) := by decide +kernel
theorem d_MO_joins_74 : decode b_MO_joins 74 = .ok (.goto 16, 3) := by decide +kernel
theorem d_MO_joins_77 : decode b_MO_joins 77 = .ok (.iload 8, 2) := by decide +kernel
theorem d_MO_joins_79 : decode b_MO_joins 79 = .ok (.sipush 10000, 3) := by decide +kernel
theorem d_MO_joins_82 : decode b_MO_joins 82 = .ok (.if_icmp .lt 7, 3) := by decide +kernel
theorem d_MO_joins_85 : decode b_MO_joins 85 = .ok (.iconst 1, 1) := by decide +kernel
theorem d_MO_joins_86 : decode b_MO_joins 86 = .ok (.goto 4, 3) := by decide +kernel
theorem d_MO_joins_89 : decode b_MO_joins 89 = .ok (.iconst 0, 1) := by decide +kernel
theorem d_MO_joins_90 : decode b_MO_joins 90 = .ok (.istore 6, 2) := by decide +kernel
theorem d_MO_joins_92 : decode b_MO_joins 92 = .ok (.aload_n 0, 1) := by decide +kernel
theorem d_MO_joins_93 : decode b_MO_joins 93 = .ok (.getfield 7, 3) := by decide +kernel
theorem d_MO_joins_96 : decode b_MO_joins 96 = .ok (.sipush 1300, 3) := by decide +kernel
theorem d_MO_joins_99 : decode b_MO_joins 99 = .ok (.iload_n 1, 1) := by decide +kernel
theorem d_MO_joins_100 : decode b_MO_joins 100 = .ok (.imul, 1) := by decide +kernel
theorem d_MO_joins_101 : decode b_MO_joins 101 = .ok (.iload 7, 2) := by decide +kernel
theorem d_MO_joins_103 : decode b_MO_joins 103 = .ok (.iadd, 1) := by decide +kernel
theorem d_MO_joins_104 : decode b_MO_joins 104 = .ok (.iload 8, 2) := by decide +kernel
theorem d_MO_joins_106 : decode b_MO_joins 106 = .ok (.iload 6, 2) := by decide +kernel
theorem d_MO_joins_108 : decode b_MO_joins 108 = .ok (.sipush 10000, 3) := by decide +kernel
theorem d_MO_joins_111 : decode b_MO_joins 111 = .ok (.imul, 1) := by decide +kernel
theorem d_MO_joins_112 : decode b_MO_joins 112 = .ok (.isub, 1) := by decide +kernel
theorem d_MO_joins_113 : decode b_MO_joins 113 = .ok (.iastore, 1) := by decide +kernel
theorem d_MO_joins_114 : decode b_MO_joins 114 = .ok (.iinc 7 1, 3) := by decide +kernel
theorem d_MO_joins_117 : decode b_MO_joins 117 = .ok (.goto (-79), 3) := by decide +kernel
theorem d_MO_joins_120 : decode b_MO_joins 120 = .ok (.aload_n 0, 1) := by decide +kernel
theorem d_MO_joins_121 : decode b_MO_joins 121 = .ok (.getfield 7, 3) := by decide +kernel
theorem d_MO_joins_124 : decode b_MO_joins 124 = .ok (.sipush 1300, 3) := by decide +kernel
theorem d_MO_joins_127 : decode b_MO_joins 127 = .ok (.iload_n 1, 1) := by decide +kernel
theorem d_MO_joins_128 : decode b_MO_joins 128 = .ok (.imul, 1) := by decide +kernel
theorem d_MO_joins_129 : decode b_MO_joins 129 = .ok (.iload 5, 2) := by decide +kernel
theorem d_MO_joins_131 : decode b_MO_joins 131 = .ok (.iadd, 1) := by decide +kernel
theorem d_MO_joins_132 : decode b_MO_joins 132 = .ok (.iload 6, 2) := by decide +kernel
theorem d_MO_joins_134 : decode b_MO_joins 134 = .ok (.iastore, 1) := by decide +kernel
theorem d_MO_joins_135 : decode b_MO_joins 135 = .ok (.aload_n 0, 1) := by decide +kernel
theorem d_MO_joins_136 : decode b_MO_joins 136 = .ok (.iload_n 1, 1) := by decide +kernel
theorem d_MO_joins_137 : decode b_MO_joins 137 = .ok (.iload 5, 2) := by decide +kernel
theorem d_MO_joins_139 : decode b_MO_joins 139 = .ok (.iconst 1, 1) := by decide +kernel
theorem d_MO_joins_140 : decode b_MO_joins 140 = .ok (.iadd, 1) := by decide +kernel
theorem d_MO_joins_141 : decode b_MO_joins 141 = .ok (.invokevirtual 43, 3) := by decide +kernel
theorem d_MO_joins_144 : decode b_MO_joins 144 = .ok (.return_, 1) := by decide +kernel
theorem d_MO_sum_0 : decode b_MO_sum 0 = .ok (.iload_n 3, 1) := by decide +kernel
theorem d_MO_sum_1 : decode b_MO_sum 1 = .ok (.aload_n 0, 1) := by decide +kernel
theorem d_MO_sum_2 : decode b_MO_sum 2 = .ok (.getfield 16, 3) := by decide +kernel
theorem d_MO_sum_5 : decode b_MO_sum 5 = .ok (.iload_n 2, 1) := by decide +kernel
theorem d_MO_sum_6 : decode b_MO_sum 6 = .ok (.iaload, 1) := by decide +kernel
theorem d_MO_sum_7 : decode b_MO_sum 7 = .ok (.imul, 1) := by decide +kernel
theorem d_MO_sum_8 : decode b_MO_sum 8 = .ok (.istore 4, 2) := by decide +kernel
theorem d_MO_sum_10 : decode b_MO_sum 10 = .ok (.iload 4, 2) := by decide +kernel
theorem d_MO_sum_12 : decode b_MO_sum 12 = .ok (.ifCond .ne 13, 3) := by decide +kernel
theorem d_MO_sum_15 : decode b_MO_sum 15 = .ok (.aload_n 0, 1) := by decide +kernel
theorem d_MO_sum_16 : decode b_MO_sum 16 = .ok (.bipush 17, 2) := by decide +kernel
theorem d_MO_sum_18 : decode b_MO_sum 18 = .ok (.iload_n 1, 1) := by decide +kernel
theorem d_MO_sum_19 : decode b_MO_sum 19 = .ok (.invokevirtual 46, 3) := by decide +kernel
theorem d_MO_sum_22 : decode b_MO_sum 22 = .ok (.goto 101, 3) := by decide +kernel
theorem d_MO_sum_25 : decode b_MO_sum 25 = .ok (.aload_n 0, 1) := by decide +kernel
theorem d_MO_sum_26 : decode b_MO_sum 26 = .ok (.getfield 16, 3) := by decide +kernel
theorem d_MO_sum_29 : decode b_MO_sum 29 = .ok (.iload_n 1, 1) := by decide +kernel
theorem d_MO_sum_30 : decode b_MO_sum 30 = .ok (.iaload, 1) := by decide +kernel
theorem d_MO_sum_31 : decode b_MO_sum 31 = .ok (.ifCond .eq 14, 3) := by decide +kernel
theorem d_MO_sum_34 : decode b_MO_sum 34 = .ok (.aload_n 0, 1) := by decide +kernel
theorem d_MO_sum_35 : decode b_MO_sum 35 = .ok (.getfield 16, 3) := by decide +kernel
theorem d_MO_sum_38 : decode b_MO_sum 38 = .ok (.iload_n 1, 1) := by decide +kernel
theorem d_MO_sum_39 : decode b_MO_sum 39 = .ok (.iaload, 1) := by decide +kernel
theorem d_MO_sum_40 : decode b_MO_sum 40 = .ok (.iload 4, 2) := by decide +kernel
theorem d_MO_sum_42 : decode b_MO_sum 42 = .ok (.if_icmp .ne 24, 3) := by decide +kernel
theorem d_MO_sum_45 : decode b_MO_sum 45 = .ok (.aload_n 0, 1) := by decide +kernel
theorem d_MO_sum_46 : decode b_MO_sum 46 = .ok (.getfield 16, 3) := by decide +kernel
theorem d_MO_sum_49 : decode b_MO_sum 49 = .ok (.bipush 17, 2) := by decide +kernel
theorem d_MO_sum_51 : decode b_MO_sum 51 = .ok (.iload 4, 2) := by decide +kernel
theorem d_MO_sum_53 : decode b_MO_sum 53 = .ok (.iastore, 1) := by decide +kernel
theorem d_MO_sum_54 : decode b_MO_sum 54 = .ok (.aload_n 0, 1) := by decide +kernel
theorem d_MO_sum_55 : decode b_MO_sum 55 = .ok (.bipush 17, 2) := by decide +kernel
theorem d_MO_sum_57 : decode b_MO_sum 57 = .ok (.iload_n 1, 1) := by decide +kernel
theorem d_MO_sum_58 : decode b_MO_sum 58 = .ok (.iload_n 2, 1) := by decide +kernel
theorem d_MO_sum_59 : decode b_MO_sum 59 = .ok (.iconst 1, 1) := by decide +kernel
theorem d_MO_sum_60 : decode b_MO_sum 60 = .ok (.invokevirtual 49, 3) := by decide +kernel
theorem d_MO_sum_63 : decode b_MO_sum 63 = .ok (.goto 60, 3) := by decide +kernel
theorem d_MO_sum_66 : decode b_MO_sum 66 = .ok (.aload_n 0, 1) := by decide +kernel
theorem d_MO_sum_67 : decode b_MO_sum 67 = .ok (.iload_n 1, 1) := by decide +kernel
theorem d_MO_sum_68 : decode b_MO_sum 68 = .ok (.iload_n 2, 1) := by decide +kernel
theorem d_MO_sum_69 : decode b_MO_sum 69 = .ok (.invokevirtual 53, 3) := by decide +kernel
theorem d_MO_sum_72 : decode b_MO_sum 72 = .ok (.istore 5, 2) := by decide +kernel
theorem d_MO_sum_74 : decode b_MO_sum 74 = .ok (.aload_n 0, 1) := by decide +kernel
theorem d_MO_sum_75 : decode b_MO_sum 75 = .ok (.getfield 16, 3) := by decide +kernel
theorem d_MO_sum_78 : decode b_MO_sum 78 = .ok (.bipush 17, 2) := by decide +kernel
theorem d_MO_sum_80 : decode b_MO_sum 80 = .ok (.iload 5, 2) := by decide +kernel
theorem d_MO_sum_82 : decode b_MO_sum 82 = .ok (.ifCond .lt 12, 3) := by decide +kernel
theorem d_MO_sum_85 : decode b_MO_sum 85 = .ok (.aload_n 0, 1) := by decide +kernel
theorem d_MO_sum_86 : decode b_MO_sum 86 = .ok (.getfield 16, 3) := by decide +kernel
theorem d_MO_sum_89 : decode b_MO_sum 89 = .ok (.iload_n 1, 1) := by decide +kernel
theorem d_MO_sum_90 : decode b_MO_sum 90 = .ok (.iaload, 1) := by decide +kernel
theorem d_MO_sum_91 : decode b_MO_sum 91 = .ok (.goto 5, 3) := by decide +kernel
theorem d_MO_sum_94 : decode b_MO_sum 94 = .ok (.iload 4, 2) := by decide +kernel
theorem d_MO_sum_96 : decode b_MO_sum 96 = .ok (.iastore, 1) := by decide +kernel
theorem d_MO_sum_97 : decode b_MO_sum 97 = .ok (.iload 5, 2) := by decide +kernel
theorem d_MO_sum_99 : decode b_MO_sum 99 = .ok (.ifCond .lt 15, 3) := by decide +kernel
theorem d_MO_sum_102 : decode b_MO_sum 102 = .ok (.aload_n 0, 1) := by decide +kernel
theorem d_MO_sum_103 : decode b_MO_sum 103 = .ok (.bipush 17, 2) := by decide +kernel
theorem d_MO_sum_105 : decode b_MO_sum 105 = .ok (.iload_n 1, 1) := by decide +kernel
theorem d_MO_sum_106 : decode b_MO_sum 106 = .ok (.iload_n 2, 1) := by decide +kernel
theorem d_MO_sum_107 : decode b_MO_sum 107 = .ok (.iconst (-1), 1) := by decide +kernel
theorem d_MO_sum_108 : decode b_MO_sum 108 = .ok (.invokevirtual 49, 3) := by decide +kernel
theorem d_MO_sum_111 : decode b_MO_sum 111 = .ok (.goto 12, 3) := by decide +kernel
theorem d_MO_sum_114 : decode b_MO_sum 114 = .ok (.aload_n 0, 1) := by decide +kernel
theorem d_MO_sum_115 : decode b_MO_sum 115 = .ok (.bipush 17, 2) := by decide +kernel
theorem d_MO_sum_117 : decode b_MO_sum 117 = .ok (.iload_n 2, 1) := by decide +kernel
theorem d_MO_sum_118 : decode b_MO_sum 118 = .ok (.iload_n 1, 1) := by decide +kernel
theorem d_MO_sum_119 : decode b_MO_sum 119 = .ok (.iconst (-1), 1) := by decide +kernel
theorem d_MO_sum_120 : decode b_MO_sum 120 = .ok (.invokevirtual 49, 3) := by decide +kernel
theorem d_MO_sum_123 : decode b_MO_sum 123 = .ok (.return_, 1) := by decide +kernel
theorem d_MO_product_0 : decode b_MO_product 0 = .ok (.aload_n 0, 1) := by decide +kernel
theorem d_MO_product_1 : decode b_MO_product 1 = .ok (.getfield 13, 3) := by decide +kernel
theorem d_MO_product_4 : decode b_MO_product 4 = .ok (.iload_n 1, 1) := by decide +kernel
theorem d_MO_product_5 : decode b_MO_product 5 = .ok (.iaload, 1) := by decide +kernel
theorem d_MO_product_6 : decode b_MO_product 6 = .ok (.aload_n 0, 1) := by decide +kernel
theorem d_MO_product_7 : decode b_MO_product 7 = .ok (.getfield 13, 3) := by decide +kernel
theorem d_MO_product_10 : decode b_MO_product 10 = .ok (.iload_n 2, 1) := by decide +kernel
theorem d_MO_product_11 : decode b_MO_product 11 = .ok (.iaload, 1) := by decide +kernel
theorem d_MO_product_12 : decode b_MO_product 12 = .ok (.iadd, 1) := by decide +kernel
theorem d_MO_product_13 : decode b_MO_product 13 = .ok (.istore_n 3, 1) := by decide +kernel
theorem d_MO_product_14 : decode b_MO_product 14 = .ok (.iconst 0, 1) := by decide +kernel
theorem d_MO_product_15 : decode b_MO_product 15 = .ok (.istore 4, 2) := by decide +kernel
theorem d_MO_product_17 : decode b_MO_product 17 = .ok (.iload 4, 2) := by decide +kernel
theorem d_MO_product_19 : decode b_MO_product 19 = .ok (.iload_n 3, 1) := by decide +kernel
theorem d_MO_product_20 : decode b_MO_product 20 = .ok (.if_icmp .ge 21, 3) := by decide +kernel
theorem d_MO_product_23 : decode b_MO_product 23 = .ok (.aload_n 0, 1) := by decide +kernel
theorem d_MO_product_24 : decode b_MO_product 24 = .ok (.getfield 7, 3) := by decide +kernel
theorem d_MO_product_27 : decode b_MO_product 27 = .ok (.sipush 22100, 3) := by decide +kernel
theorem d_MO_product_30 : decode b_MO_product 30 = .ok (.iload 4, 2) := by decide +kernel
theorem d_MO_product_32 : decode b_MO_product 32 = .ok (.iadd, 1) := by decide +kernel
theorem d_MO_product_33 : decode b_MO_product 33 = .ok (.iconst 0, 1) := by decide +kernel
theorem d_MO_product_34 : decode b_MO_product 34 = .ok (.iastore, 1) := by decide +kernel
theorem d_MO_product_35 : decode b_MO_product 35 = .ok (.iinc 4 1, 3) := by decide +kernel
theorem d_MO_product_38 : decode b_MO_product 38 = .ok (.goto (-21), 3) := by decide +kernel
theorem d_MO_product_41 : decode b_MO_product 41 = .ok (.iconst 0, 1) := by decide +kernel
theorem d_MO_product_42 : decode b_MO_product 42 = .ok (.istore 4, 2) := by decide +kernel
theorem d_MO_product_44 : decode b_MO_product 44 = .ok (.iload 4, 2) := by decide +kernel
theorem d_MO_product_46 : decode b_MO_product 46 = .ok (.aload_n 0, 1) := by decide +kernel
theorem d_MO_product_47 : decode b_MO_product 47 = .ok (.getfield 13, 3) := by decide +kernel
theorem d_MO_product_50 : decode b_MO_product 50 = .ok (.iload_n 1, 1) := by decide +kernel
theorem d_MO_product_51 : decode b_MO_product 51 = .ok (.iaload, 1) := by decide +kernel
theorem d_MO_product_52 : decode b_MO_product 52 = .ok (.if_icmp .ge 115, 3) := by decide +kernel
theorem d_MO_product_55 : decode b_MO_product 55 = .ok (.iconst 0, 1) := by decide +kernel
theorem d_MO_product_56 : decode b_MO_product 56 = .ok (.istore 5, 2) := by decide +kernel
theorem d_MO_product_58 : decode b_MO_product 58 = .ok (.iconst 0, 1) := by decide +kernel
theorem d_MO_product_59 : decode b_MO_product 59 = .ok (.istore 6, 2) := by decide +kernel
theorem d_MO_product_61 : decode b_MO_product 61 = .ok (.iload 6, 2) := by decide +kernel
theorem d_MO_product_63 : decode b_MO_product 63 = .ok (.aload_n 0, 1) := by decide +kernel
theorem d_MO_product_64 : decode b_MO_product 64 = .ok (.getfield 13, 3) := by decide +kernel
theorem d_MO_product_67 : decode b_MO_product 67 = .ok (.iload_n 2, 1) := by decide +kernel
theorem d_MO_product_68 : decode b_MO_product 68 = .ok (.iaload, 1) := by decide +kernel
theorem d_MO_product_69 : decode b_MO_product 69 = .ok (.if_icmp .ge 72, 3) := by decide +kernel
theorem d_MO_product_72 : decode b_MO_product 72 = .ok (.aload_n 0, 1) := by decide +kernel
theorem d_MO_product_73 : decode b_MO_product 73 = .ok (.getfield 7, 3) := by decide +kernel
theorem d_MO_product_76 : decode b_MO_product 76 = .ok (.sipush 22100, 3) := by decide +kernel
theorem d_MO_product_79 : decode b_MO_product 79 = .ok (.iload 4, 2) := by decide +kernel
theorem d_MO_product_81 : decode b_MO_product 81 = .ok (.iadd, 1) := by decide +kernel
theorem d_MO_product_82 : decode b_MO_product 82 = .ok (.iload 6, 2) := by decide +kernel
theorem d_MO_product_84 : decode b_MO_product 84 = .ok (.iadd, 1) := by decide +kernel
theorem d_MO_product_85 : decode b_MO_product 85 = .ok (.iaload, 1) := by decide +kernel
theorem d_MO_product_86 : decode b_MO_product 86 = .ok (.aload_n 0, 1) := by decide +kernel
theorem d_MO_product_87 : decode b_MO_product 87 = .ok (.iload_n 1, 1) := by decide +kernel
theorem d_MO_product_88 : decode b_MO_product 88 = .ok (.iload 4, 2) := by decide +kernel
theorem d_MO_product_90 : decode b_MO_product 90 = .ok (.invokevirtual 39, 3) := by decide +kernel
theorem d_MO_product_93 : decode b_MO_product 93 = .ok (.aload_n 0, 1) := by decide +kernel
theorem d_MO_product_94 : decode b_MO_product 94 = .ok (.iload_n 2, 1) := by decide +kernel
theorem d_MO_product_95 : decode b_MO_product 95 = .ok (.iload 6, 2) := by decide +kernel
theorem d_MO_product_97 : decode b_MO_product 97 = .ok (.invokevirtual 39, 3) := by decide +kernel
theorem d_MO_product_100 : decode b_MO_product 100 = .ok (.imul, 1) := by decide +kernel
theorem d_MO_product_101 : decode b_MO_product 101 = .ok (.iadd, 1) := by decide +kernel
theorem d_MO_product_102 : decode b_MO_product 102 = .ok (.iload 5, 2) := by decide +kernel
theorem d_MO_product_104 : decode b_MO_product 104 = .ok (.iadd, 1) := by decide +kernel
theorem d_MO_product_105 : decode b_MO_product 105 = .ok (.istore 7, 2) := by decide +kernel
theorem d_MO_product_107 : decode b_MO_product 107 = .ok (.aload_n 0, 1) := by decide +kernel
theorem d_MO_product_108 : decode b_MO_product 108 = .ok (.getfield 7, 3) := by decide +kernel
theorem d_MO_product_111 : decode b_MO_product 111 = .ok (.sipush 22100, 3) := by decide +kernel
theorem d_MO_product_114 : decode b_MO_product 114 = .ok (.iload 4, 2) := by decide +kernel
theorem d_MO_product_116 : decode b_MO_product 116 = .ok (.iadd, 1) := by decide +kernel
theorem d_MO_product_117 : decode b_MO_product 117 = .ok (.iload 6, 2) := by decide +kernel
theorem d_MO_product_119 : decode b_MO_product 119 = .ok (.iadd, 1) := by decide +kernel
theorem d_MO_product_120 : decode b_MO_product 120 = .ok (.iload 7, 2) := by decide +kernel
theorem d_MO_product_122 : decode b_MO_product 122 = .ok (.sipush 10000, 3) := by decide +kernel
theorem d_MO_product_125 : decode b_MO_product 125 = .ok (.irem, 1) := by decide +kernel
theorem d_MO_product_126 : decode b_MO_product 126 = .ok (.iastore, 1) := by decide +kernel
theorem d_MO_product_127 : decode b_MO_product 127 = .ok (.iload 7, 2) := by decide +kernel
theorem d_MO_product_129 : decode b_MO_product 129 = .ok (.sipush 10000, 3) := by decide +kernel
theorem d_MO_product_132 : decode b_MO_product 132 = .ok (.idiv, 1) := by decide +kernel
theorem d_MO_product_133 : decode b_MO_product 133 = .ok (.istore 5, 2) := by decide +kernel
theorem d_MO_product_135 : decode b_MO_product 135 = .ok (.iinc 6 1, 3) := by decide +kernel
theorem d_MO_product_138 : decode b_MO_product 138 = .ok (.goto (-77), 3) := by decide +kernel
theorem d_MO_product_141 : decode b_MO_product 141 = .ok (.aload_n 0, 1) := by decide +kernel
theorem d_MO_product_142 : decode b_MO_product 142 = .ok (.getfield 7, 3) := by decide +kernel
theorem d_MO_product_145 : decode b_MO_product 145 = .ok (.sipush 22100, 3) := by decide +kernel
theorem d_MO_product_148 : decode b_MO_product 148 = .ok (.iload 4, 2) := by decide +kernel
theorem d_MO_product_150 : decode b_MO_product 150 = .ok (.iadd, 1) := by decide +kernel
theorem d_MO_product_151 : decode b_MO_product 151 = .ok (.aload_n 0, 1) := by decide +kernel
theorem d_MO_product_152 : decode b_MO_product 152 = .ok (.getfield 13, 3) := by decide +kernel
theorem d_MO_product_155 : decode b_MO_product 155 = .ok (.iload_n 2, 1) := by decide +kernel
theorem d_MO_product_156 : decode b_MO_product 156 = .ok (.iaload, 1) := by decide +kernel
theorem d_MO_product_157 : decode b_MO_product 157 = .ok (.iadd, 1) := by decide +kernel
theorem d_MO_product_158 : decode b_MO_product 158 = .ok (.iload 5, 2) := by decide +kernel
theorem d_MO_product_160 : decode b_MO_product 160 = .ok (.iastore, 1) := by decide +kernel
theorem d_MO_product_161 : decode b_MO_product 161 = .ok (.iinc 4 1, 3) := by decide +kernel
theorem d_MO_product_164 : decode b_MO_product 164 = .ok (.goto (-120), 3) := by decide +kernel
theorem d_MO_product_167 : decode b_MO_product 167 = .ok (.aload_n 0, 1) := by decide +kernel
theorem d_MO_product_168 : decode b_MO_product 168 = .ok (.getfield 16, 3) := by decide +kernel
theorem d_MO_product_171 : decode b_MO_product 171 = .ok (.bipush 17, 2) := by decide +kernel
theorem d_MO_product_173 : decode b_MO_product 173 = .ok (.aload_n 0, 1) := by decide +kernel
theorem d_MO_product_174 : decode b_MO_product 174 = .ok (.getfield 16, 3) := by decide +kernel
theorem d_MO_product_177 : decode b_MO_product 177 = .ok (.iload_n 1, 1) := by decide +kernel
theorem d_MO_product_178 : decode b_MO_product 178 = .ok (.iaload, 1) := by decide +kernel
theorem d_MO_product_179 : decode b_MO_product 179 = .ok (.aload_n 0, 1) := by decide +kernel
theorem d_MO_product_180 : decode b_MO_product 180 = .ok (.getfield 16, 3) := by decide +kernel
theorem d_MO_product_183 : decode b_MO_product 183 = .ok (.iload_n 2, 1) := by decide +kernel
theorem d_MO_product_184 : decode b_MO_product 184 = .ok (.iaload, 1) := by decide +kernel
theorem d_MO_product_185 : decode b_MO_product 185 = .ok (.imul, 1) := by decide +kernel
theorem d_MO_product_186 : decode b_MO_product 186 = .ok (.iastore, 1) := by decide +kernel
theorem d_MO_product_187 : decode b_MO_product 187 = .ok (.aload_n 0, 1) := by decide +kernel
theorem d_MO_product_188 : decode b_MO_product 188 = .ok (.bipush 17, 2) := by decide +kernel
theorem d_MO_product_190 : decode b_MO_product 190 = .ok (.iload_n 3, 1) := by decide +kernel
theorem d_MO_product_191 : decode b_MO_product 191 = .ok (.invokevirtual 43, 3) := by decide +kernel
theorem d_MO_product_194 : decode b_MO_product 194 = .ok (.return_, 1) := by decide +kernel
theorem d_MO_parts_0 : decode b_MO_parts 0 = .ok (.iconst 0, 1) := by decide +kernel
theorem d_MO_parts_1 : decode b_MO_parts 1 = .ok (.istore_n 3, 1) := by decide +kernel
theorem d_MO_parts_2 : decode b_MO_parts 2 = .ok (.aload_n 0, 1) := by decide +kernel
theorem d_MO_parts_3 : decode b_MO_parts 3 = .ok (.getfield 13, 3) := by decide +kernel
theorem d_MO_parts_6 : decode b_MO_parts 6 = .ok (.iload_n 1, 1) := by decide +kernel
theorem d_MO_parts_7 : decode b_MO_parts 7 = .ok (.iaload, 1) := by decide +kernel
theorem d_MO_parts_8 : decode b_MO_parts 8 = .ok (.iconst 1, 1) := by decide +kernel
theorem d_MO_parts_9 : decode b_MO_parts 9 = .ok (.isub, 1) := by decide +kernel
theorem d_MO_parts_10 : decode b_MO_parts 10 = .ok (.istore 4, 2) := by decide +kernel
theorem d_MO_parts_12 : decode b_MO_parts 12 = .ok (.iload 4, 2) := by decide +kernel
theorem d_MO_parts_14 : decode b_MO_parts 14 = .ok (.ifCond .lt 46, 3) := by decide +kernel
theorem d_MO_parts_17 : decode b_MO_parts 17 = .ok (.iload_n 3, 1) := by decide +kernel
theorem d_MO_parts_18 : decode b_MO_parts 18 = .ok (.sipush 10000, 3) := by decide +kernel
theorem d_MO_parts_21 : decode b_MO_parts 21 = .ok (.imul, 1) := by decide +kernel
theorem d_MO_parts_22 : decode b_MO_parts 22 = .ok (.aload_n 0, 1) := by decide +kernel
theorem d_MO_parts_23 : decode b_MO_parts 23 = .ok (.iload_n 1, 1) := by decide +kernel
theorem d_MO_parts_24 : decode b_MO_parts 24 = .ok (.iload 4, 2) := by decide +kernel
theorem d_MO_parts_26 : decode b_MO_parts 26 = .ok (.invokevirtual 39, 3) := by decide +kernel
theorem d_MO_parts_29 : decode b_MO_parts 29 = .ok (.iadd, 1) := by decide +kernel
theorem d_MO_parts_30 : decode b_MO_parts 30 = .ok (.istore 5, 2) := by decide +kernel
theorem d_MO_parts_32 : decode b_MO_parts 32 = .ok (.aload_n 0, 1) := by decide +kernel
theorem d_MO_parts_33 : decode b_MO_parts 33 = .ok (.getfield 7, 3) := by decide +kernel
theorem d_MO_parts_36 : decode b_MO_parts 36 = .ok (.sipush 1300, 3) := by decide +kernel
theorem d_MO_parts_39 : decode b_MO_parts 39 = .ok (.iload_n 1, 1) := by decide +kernel
theorem d_MO_parts_40 : decode b_MO_parts 40 = .ok (.imul, 1) := by decide +kernel
theorem d_MO_parts_41 : decode b_MO_parts 41 = .ok (.iload 4, 2) := by decide +kernel
theorem d_MO_parts_43 : decode b_MO_parts 43 = .ok (.iadd, 1) := by decide +kernel
theorem d_MO_parts_44 : decode b_MO_parts 44 = .ok (.iload 5, 2) := by decide +kernel
theorem d_MO_parts_46 : decode b_MO_parts 46 = .ok (.iload_n 2, 1) := by decide +kernel
theorem d_MO_parts_47 : decode b_MO_parts 47 = .ok (.idiv, 1) := by decide +kernel
theorem d_MO_parts_48 : decode b_MO_parts 48 = .ok (.iastore, 1) := by decide +kernel
theorem d_MO_parts_49 : decode b_MO_parts 49 = .ok (.iload 5, 2) := by decide +kernel
theorem d_MO_parts_51 : decode b_MO_parts 51 = .ok (.iload_n 2, 1) := by decide +kernel
theorem d_MO_parts_52 : decode b_MO_parts 52 = .ok (.irem, 1) := by decide +kernel
theorem d_MO_parts_53 : decode b_MO_parts 53 = .ok (.istore_n 3, 1) := by decide +kernel
theorem d_MO_parts_54 : decode b_MO_parts 54 = .ok (.iinc 4 (-1), 3) := by decide +kernel
theorem d_MO_parts_57 : decode b_MO_parts 57 = .ok (.goto (-45), 3) := by decide +kernel
theorem d_MO_parts_60 : decode b_MO_parts 60 = .ok (.aload_n 0, 1) := by decide +kernel
theorem d_MO_parts_61 : decode b_MO_parts 61 = .ok (.iload_n 1, 1) := by decide +kernel
theorem d_MO_parts_62 : decode b_MO_parts 62 = .ok (.aload_n 0, 1) := by decide +kernel
theorem d_MO_parts_63 : decode b_MO_parts 63 = .ok (.getfield 13, 3) := by decide +kernel
theorem d_MO_parts_66 : decode b_MO_parts 66 = .ok (.iload_n 1, 1) := by decide +kernel
theorem d_MO_parts_67 : decode b_MO_parts 67 = .ok (.iaload, 1) := by decide +kernel
theorem d_MO_parts_68 : decode b_MO_parts 68 = .ok (.invokevirtual 43, 3) := by decide +kernel
theorem d_MO_parts_71 : decode b_MO_parts 71 = .ok (.iload_n 3, 1) := by decide +kernel
theorem d_MO_parts_72 : decode b_MO_parts 72 = .ok (.ireturn, 1) := by decide +kernel
theorem d_MO_guess_0 : decode b_MO_guess 0 = .ok (.aload_n 0, 1) := by decide +kernel
theorem d_MO_guess_1 : decode b_MO_guess 1 = .ok (.getfield 13, 3) := by decide +kernel
theorem d_MO_guess_4 : decode b_MO_guess 4 = .ok (.iload_n 1, 1) := by decide +kernel
theorem d_MO_guess_5 : decode b_MO_guess 5 = .ok (.iaload, 1) := by decide +kernel
theorem d_MO_guess_6 : decode b_MO_guess 6 = .ok (.istore_n 2, 1) := by decide +kernel
theorem d_MO_guess_7 : decode b_MO_guess 7 = .ok (.lconst 0, 1) := by decide +kernel
theorem d_MO_guess_8 : decode b_MO_guess 8 = .ok (.lstore_n 3, 1) := by decide +kernel
theorem d_MO_guess_9 : decode b_MO_guess 9 = .ok (.lconst 0, 1) := by decide +kernel
theorem d_MO_guess_10 : decode b_MO_guess 10 = .ok (.lstore 5, 2) := by decide +kernel
theorem d_MO_guess_12 : decode b_MO_guess 12 = .ok (.iconst 0, 1) := by decide +kernel
theorem d_MO_guess_13 : decode b_MO_guess 13 = .ok (.istore 7, 2) := by decide +kernel
theorem d_MO_guess_15 : decode b_MO_guess 15 = .ok (.iload 7, 2) := by decide +kernel
theorem d_MO_guess_17 : decode b_MO_guess 17 = .ok (.iconst 4, 1) := by decide +kernel
theorem d_MO_guess_18 : decode b_MO_guess 18 = .ok (.if_icmp .ge 27, 3) := by decide +kernel
theorem d_MO_guess_21 : decode b_MO_guess 21 = .ok (.lload_n 3, 1) := by decide +kernel
theorem d_MO_guess_22 : decode b_MO_guess 22 = .ok (.ldc2_w 37, 3) := by decide +kernel
theorem d_MO_guess_25 : decode b_MO_guess 25 = .ok (.lmul, 1) := by decide +kernel
theorem d_MO_guess_26 : decode b_MO_guess 26 = .ok (.aload_n 0, 1) := by decide +kernel
theorem d_MO_guess_27 : decode b_MO_guess 27 = .ok (.bipush 16, 2) := by decide +kernel
theorem d_MO_guess_29 : decode b_MO_guess 29 = .ok (.iload_n 2, 1) := by decide +kernel
theorem d_MO_guess_30 : decode b_MO_guess 30 = .ok (.iload 7, 2) := by decide +kernel
theorem d_MO_guess_32 : decode b_MO_guess 32 = .ok (.isub, 1) := by decide +kernel
theorem d_MO_guess_33 : decode b_MO_guess 33 = .ok (.invokevirtual 39, 3) := by decide +kernel
theorem d_MO_guess_36 : decode b_MO_guess 36 = .ok (.i2l, 1) := by decide +kernel
theorem d_MO_guess_37 : decode b_MO_guess 37 = .ok (.ladd, 1) := by decide +kernel
theorem d_MO_guess_38 : decode b_MO_guess 38 = .ok (.lstore_n 3, 1) := by decide +kernel
theorem d_MO_guess_39 : decode b_MO_guess 39 = .ok (.iinc 7 1, 3) := by decide +kernel
theorem d_MO_guess_42 : decode b_MO_guess 42 = .ok (.goto (-27), 3) := by decide +kernel
theorem d_MO_guess_45 : decode b_MO_guess 45 = .ok (.iconst 1, 1) := by decide +kernel
theorem d_MO_guess_46 : decode b_MO_guess 46 = .ok (.istore 7, 2) := by decide +kernel
theorem d_MO_guess_48 : decode b_MO_guess 48 = .ok (.iload 7, 2) := by decide +kernel
theorem d_MO_guess_50 : decode b_MO_guess 50 = .ok (.iconst 4, 1) := by decide +kernel
theorem d_MO_guess_51 : decode b_MO_guess 51 = .ok (.if_icmp .ge 28, 3) := by decide +kernel
theorem d_MO_guess_54 : decode b_MO_guess 54 = .ok (.lload 5, 2) := by decide +kernel
theorem d_MO_guess_56 : decode b_MO_guess 56 = .ok (.ldc2_w 37, 3) := by decide +kernel
theorem d_MO_guess_59 : decode b_MO_guess 59 = .ok (.lmul, 1) := by decide +kernel
theorem d_MO_guess_60 : decode b_MO_guess 60 = .ok (.aload_n 0, 1) := by decide +kernel
theorem d_MO_guess_61 : decode b_MO_guess 61 = .ok (.iload_n 1, 1) := by decide +kernel
theorem d_MO_guess_62 : decode b_MO_guess 62 = .ok (.iload_n 2, 1) := by decide +kernel
theorem d_MO_guess_63 : decode b_MO_guess 63 = .ok (.iload 7, 2) := by decide +kernel
theorem d_MO_guess_65 : decode b_MO_guess 65 = .ok (.isub, 1) := by decide +kernel
theorem d_MO_guess_66 : decode b_MO_guess 66 = .ok (.invokevirtual 39, 3) := by decide +kernel
theorem d_MO_guess_69 : decode b_MO_guess 69 = .ok (.i2l, 1) := by decide +kernel
theorem d_MO_guess_70 : decode b_MO_guess 70 = .ok (.ladd, 1) := by decide +kernel
theorem d_MO_guess_71 : decode b_MO_guess 71 = .ok (.lstore 5, 2) := by decide +kernel
theorem d_MO_guess_73 : decode b_MO_guess 73 = .ok (.iinc 7 1, 3) := by decide +kernel
theorem d_MO_guess_76 : decode b_MO_guess 76 = .ok (.goto (-28), 3) := by decide +kernel
theorem d_MO_guess_79 : decode b_MO_guess 79 = .ok (.lload_n 3, 1) := by decide +kernel
theorem d_MO_guess_80 : decode b_MO_guess 80 = .ok (.lload 5, 2) := by decide +kernel
theorem d_MO_guess_82 : decode b_MO_guess 82 = .ok (.lconst 1, 1) := by decide +kernel
theorem d_MO_guess_83 : decode b_MO_guess 83 = .ok (.ladd, 1) := by decide +kernel
theorem d_MO_guess_84 : decode b_MO_guess 84 = .ok (.ldiv, 1) := by decide +kernel
theorem d_MO_guess_85 : decode b_MO_guess 85 = .ok (.lstore 7, 2) := by decide +kernel
theorem d_MO_guess_87 : decode b_MO_guess 87 = .ok (.lload 7, 2) := by decide +kernel
theorem d_MO_guess_89 : decode b_MO_guess 89 = .ok (.lconst 1, 1) := by decide +kernel
theorem d_MO_guess_90 : decode b_MO_guess 90 = .ok (.lcmp, 1) := by decide +kernel
theorem d_MO_guess_91 : decode b_MO_guess 91 = .ok (.ifCond .ge 7, 3) := by decide +kernel
theorem d_MO_guess_94 : decode b_MO_guess 94 = .ok (.iconst 1, 1) := by decide +kernel
theorem d_MO_guess_95 : decode b_MO_guess 95 = .ok (.goto 6, 3) := by decide +kernel
theorem d_MO_guess_98 : decode b_MO_guess 98 = .ok (.lload 7, 2) := by decide +kernel
theorem d_MO_guess_100 : decode b_MO_guess 100 = .ok (.l2i, 1) := by decide +kernel
theorem d_MO_guess_101 : decode b_MO_guess 101 = .ok (.ireturn, 1) := by decide +kernel
theorem d_MO_lessens_0 : decode b_MO_lessens 0 = .ok (.iconst 0, 1) := by decide +kernel
theorem d_MO_lessens_1 : decode b_MO_lessens 1 = .ok (.istore_n 3, 1) := by decide +kernel
theorem d_MO_lessens_2 : decode b_MO_lessens 2 = .ok (.iconst 0, 1) := by decide +kernel
theorem d_MO_lessens_3 : decode b_MO_lessens 3 = .ok (.istore 4, 2) := by decide +kernel
theorem d_MO_lessens_5 : decode b_MO_lessens 5 = .ok (.iload 4, 2) := by decide +kernel
theorem d_MO_lessens_7 : decode b_MO_lessens 7 = .ok (.aload_n 0, 1) := by decide +kernel
theorem d_MO_lessens_8 : decode b_MO_lessens 8 = .ok (.getfield 13, 3) := by decide +kernel
theorem d_MO_lessens_11 : decode b_MO_lessens 11 = .ok (.bipush 16, 2) := by decide +kernel
theorem d_MO_lessens_13 : decode b_MO_lessens 13 = .ok (.iaload, 1) := by decide +kernel
theorem d_MO_lessens_14 : decode b_MO_lessens 14 = .ok (.if_icmp .ge 71, 3) := by decide +kernel
theorem d_MO_lessens_17 : decode b_MO_lessens 17 = .ok (.aload_n 0, 1) := by decide +kernel
theorem d_MO_lessens_18 : decode b_MO_lessens 18 = .ok (.bipush 16, 2) := by decide +kernel
theorem d_MO_lessens_20 : decode b_MO_lessens 20 = .ok (.iload 4, 2) := by decide +kernel
theorem d_MO_lessens_22 : decode b_MO_lessens 22 = .ok (.invokevirtual 39, 3) := by decide +kernel
theorem d_MO_lessens_25 : decode b_MO_lessens 25 = .ok (.aload_n 0, 1) := by decide +kernel
theorem d_MO_lessens_26 : decode b_MO_lessens 26 = .ok (.iload_n 1, 1) := by decide +kernel
theorem d_MO_lessens_27 : decode b_MO_lessens 27 = .ok (.iload 4, 2) := by decide +kernel
theorem d_MO_lessens_29 : decode b_MO_lessens 29 = .ok (.invokevirtual 39, 3) := by decide +kernel
theorem d_MO_lessens_32 : decode b_MO_lessens 32 = .ok (.iload_n 2, 1) := by decide +kernel
theorem d_MO_lessens_33 : decode b_MO_lessens 33 = .ok (.imul, 1) := by decide +kernel
theorem d_MO_lessens_34 : decode b_MO_lessens 34 = .ok (.isub, 1) := by decide +kernel
theorem d_MO_lessens_35 : decode b_MO_lessens 35 = .ok (.iload_n 3, 1) := by decide +kernel
theorem d_MO_lessens_36 : decode b_MO_lessens 36 = .ok (.iadd, 1) := by decide +kernel
theorem d_MO_lessens_37 : decode b_MO_lessens 37 = .ok (.istore 5, 2) := by decide +kernel
theorem d_MO_lessens_39 : decode b_MO_lessens 39 = .ok (.iload 5, 2) := by decide +kernel
theorem d_MO_lessens_41 : decode b_MO_lessens 41 = .ok (.ifCond .ge 17, 3) := by decide +kernel
theorem d_MO_lessens_44 : decode b_MO_lessens 44 = .ok (.sipush 9999, 3) := by decide +kernel
theorem d_MO_lessens_47 : decode b_MO_lessens 47 = .ok (.iload 5, 2) := by decide +kernel
theorem d_MO_lessens_49 : decode b_MO_lessens 49 = .ok (.isub, 1) := by decide +kernel
theorem d_MO_lessens_50 : decode b_MO_lessens 50 = .ok (.sipush 10000, 3) := by decide +kernel
theorem d_MO_lessens_53 : decode b_MO_lessens 53 = .ok (.idiv, 1) := by decide +kernel
theorem d_MO_lessens_54 : decode b_MO_lessens 54 = .ok (.ineg, 1) := by decide +kernel
theorem d_MO_lessens_55 : decode b_MO_lessens 55 = .ok (.goto 4, 3) := by decide +kernel
theorem d_MO_lessens_58 : decode b_MO_lessens 58 = .ok (.iconst 0, 1) := by decide +kernel
theorem d_MO_lessens_59 : decode b_MO_lessens 59 = .ok (.istore_n 3, 1) := by decide +kernel
theorem d_MO_lessens_60 : decode b_MO_lessens 60 = .ok (.aload_n 0, 1) := by decide +kernel
theorem d_MO_lessens_61 : decode b_MO_lessens 61 = .ok (.getfield 7, 3) := by decide +kernel
theorem d_MO_lessens_64 : decode b_MO_lessens 64 = .ok (.sipush 20800, 3) := by decide +kernel
theorem d_MO_lessens_67 : decode b_MO_lessens 67 = .ok (.iload 4, 2) := by decide +kernel
theorem d_MO_lessens_69 : decode b_MO_lessens 69 = .ok (.iadd, 1) := by decide +kernel
theorem d_MO_lessens_70 : decode b_MO_lessens 70 = .ok (.iload 5, 2) := by decide +kernel
theorem d_MO_lessens_72 : decode b_MO_lessens 72 = .ok (.iload_n 3, 1) := by decide +kernel
theorem d_MO_lessens_73 : decode b_MO_lessens 73 = .ok (.sipush 10000, 3) := by decide +kernel
theorem d_MO_lessens_76 : decode b_MO_lessens 76 = .ok (.imul, 1) := by decide +kernel
theorem d_MO_lessens_77 : decode b_MO_lessens 77 = .ok (.isub, 1) := by decide +kernel
theorem d_MO_lessens_78 : decode b_MO_lessens 78 = .ok (.iastore, 1) := by decide +kernel
theorem d_MO_lessens_79 : decode b_MO_lessens 79 = .ok (.iinc 4 1, 3) := by decide +kernel
theorem d_MO_lessens_82 : decode b_MO_lessens 82 = .ok (.goto (-77), 3) := by decide +kernel
theorem d_MO_lessens_85 : decode b_MO_lessens 85 = .ok (.aload_n 0, 1) := by decide +kernel
theorem d_MO_lessens_86 : decode b_MO_lessens 86 = .ok (.bipush 16, 2) := by decide +kernel
theorem d_MO_lessens_88 : decode b_MO_lessens 88 = .ok (.aload_n 0, 1) := by decide +kernel
theorem d_MO_lessens_89 : decode b_MO_lessens 89 = .ok (.getfield 13, 3) := by decide +kernel
theorem d_MO_lessens_92 : decode b_MO_lessens 92 = .ok (.bipush 16, 2) := by decide +kernel
theorem d_MO_lessens_94 : decode b_MO_lessens 94 = .ok (.iaload, 1) := by decide +kernel
theorem d_MO_lessens_95 : decode b_MO_lessens 95 = .ok (.invokevirtual 43, 3) := by decide +kernel
theorem d_MO_lessens_98 : decode b_MO_lessens 98 = .ok (.return_, 1) := by decide +kernel
theorem d_MO_quotient_0 : decode b_MO_quotient 0 = .ok (.aload_n 0, 1) := by decide +kernel
theorem d_MO_quotient_1 : decode b_MO_quotient 1 = .ok (.getfield 13, 3) := by decide +kernel
theorem d_MO_quotient_4 : decode b_MO_quotient 4 = .ok (.iload_n 1, 1) := by decide +kernel
theorem d_MO_quotient_5 : decode b_MO_quotient 5 = .ok (.iaload, 1) := by decide +kernel
theorem d_MO_quotient_6 : decode b_MO_quotient 6 = .ok (.istore_n 3, 1) := by decide +kernel
theorem d_MO_quotient_7 : decode b_MO_quotient 7 = .ok (.iconst 0, 1) := by decide +kernel
theorem d_MO_quotient_8 : decode b_MO_quotient 8 = .ok (.istore 4, 2) := by decide +kernel
theorem d_MO_quotient_10 : decode b_MO_quotient 10 = .ok (.iload 4, 2) := by decide +kernel
theorem d_MO_quotient_12 : decode b_MO_quotient 12 = .ok (.iload_n 3, 1) := by decide +kernel
theorem d_MO_quotient_13 : decode b_MO_quotient 13 = .ok (.if_icmp .ge 21, 3) := by decide +kernel
theorem d_MO_quotient_16 : decode b_MO_quotient 16 = .ok (.aload_n 0, 1) := by decide +kernel
theorem d_MO_quotient_17 : decode b_MO_quotient 17 = .ok (.getfield 7, 3) := by decide +kernel
theorem d_MO_quotient_20 : decode b_MO_quotient 20 = .ok (.sipush 19500, 3) := by decide +kernel
theorem d_MO_quotient_23 : decode b_MO_quotient 23 = .ok (.iload 4, 2) := by decide +kernel
theorem d_MO_quotient_25 : decode b_MO_quotient 25 = .ok (.iadd, 1) := by decide +kernel
theorem d_MO_quotient_26 : decode b_MO_quotient 26 = .ok (.iconst 0, 1) := by decide +kernel
theorem d_MO_quotient_27 : decode b_MO_quotient 27 = .ok (.iastore, 1) := by decide +kernel
theorem d_MO_quotient_28 : decode b_MO_quotient 28 = .ok (.iinc 4 1, 3) := by decide +kernel
theorem d_MO_quotient_31 : decode b_MO_quotient 31 = .ok (.goto (-21), 3) := by decide +kernel
theorem d_MO_quotient_34 : decode b_MO_quotient 34 = .ok (.aload_n 0, 1) := by decide +kernel
theorem d_MO_quotient_35 : decode b_MO_quotient 35 = .ok (.getfield 13, 3) := by decide +kernel
theorem d_MO_quotient_38 : decode b_MO_quotient 38 = .ok (.bipush 16, 2) := by decide +kernel
theorem d_MO_quotient_40 : decode b_MO_quotient 40 = .ok (.iconst 0, 1) := by decide +kernel
theorem d_MO_quotient_41 : decode b_MO_quotient 41 = .ok (.iastore, 1) := by decide +kernel
theorem d_MO_quotient_42 : decode b_MO_quotient 42 = .ok (.iload_n 3, 1) := by decide +kernel
theorem d_MO_quotient_43 : decode b_MO_quotient 43 = .ok (.iconst 1, 1) := by decide +kernel
theorem d_MO_quotient_44 : decode b_MO_quotient 44 = .ok (.isub, 1) := by decide +kernel
theorem d_MO_quotient_45 : decode b_MO_quotient 45 = .ok (.istore 4, 2) := by decide +kernel
theorem d_MO_quotient_47 : decode b_MO_quotient 47 = .ok (.iload 4, 2) := by decide +kernel
theorem d_MO_quotient_49 : decode b_MO_quotient 49 = .ok (.ifCond .lt 126, 3) := by decide +kernel
theorem d_MO_quotient_52 : decode b_MO_quotient 52 = .ok (.aload_n 0, 1) := by decide +kernel
theorem d_MO_quotient_53 : decode b_MO_quotient 53 = .ok (.getfield 13, 3) := by decide +kernel
theorem d_MO_quotient_56 : decode b_MO_quotient 56 = .ok (.bipush 16, 2) := by decide +kernel
theorem d_MO_quotient_58 : decode b_MO_quotient 58 = .ok (.iaload, 1) := by decide +kernel
theorem d_MO_quotient_59 : decode b_MO_quotient 59 = .ok (.istore 5, 2) := by decide +kernel
theorem d_MO_quotient_61 : decode b_MO_quotient 61 = .ok (.iload 5, 2) := by decide +kernel
theorem d_MO_quotient_63 : decode b_MO_quotient 63 = .ok (.ifCond .le 33, 3) := by decide +kernel
theorem d_MO_quotient_66 : decode b_MO_quotient 66 = .ok (.aload_n 0, 1) := by decide +kernel
theorem d_MO_quotient_67 : decode b_MO_quotient 67 = .ok (.getfield 7, 3) := by decide +kernel
theorem d_MO_quotient_70 : decode b_MO_quotient 70 = .ok (.sipush 20800, 3) := by decide +kernel
theorem d_MO_quotient_73 : decode b_MO_quotient 73 = .ok (.iload 5, 2) := by decide +kernel
theorem d_MO_quotient_75 : decode b_MO_quotient 75 = .ok (.iadd, 1) := by decide +kernel
theorem d_MO_quotient_76 : decode b_MO_quotient 76 = .ok (.aload_n 0, 1) := by decide +kernel
theorem d_MO_quotient_77 : decode b_MO_quotient 77 = .ok (.getfield 7, 3) := by decide +kernel
theorem d_MO_quotient_80 : decode b_MO_quotient 80 = .ok (.sipush 20800, 3) := by decide +kernel
theorem d_MO_quotient_83 : decode b_MO_quotient 83 = .ok (.iload 5, 2) := by decide +kernel
theorem d_MO_quotient_85 : decode b_MO_quotient 85 = .ok (.iadd, 1) := by decide +kernel
theorem d_MO_quotient_86 : decode b_MO_quotient 86 = .ok (.iconst 1, 1) := by decide +kernel
theorem d_MO_quotient_87 : decode b_MO_quotient 87 = .ok (.isub, 1) := by decide +kernel
theorem d_MO_quotient_88 : decode b_MO_quotient 88 = .ok (.iaload, 1) := by decide +kernel
theorem d_MO_quotient_89 : decode b_MO_quotient 89 = .ok (.iastore, 1) := by decide +kernel
theorem d_MO_quotient_90 : decode b_MO_quotient 90 = .ok (.iinc 5 (-1), 3) := by decide +kernel
theorem d_MO_quotient_93 : decode b_MO_quotient 93 = .ok (.goto (-32), 3) := by decide +kernel
theorem d_MO_quotient_96 : decode b_MO_quotient 96 = .ok (.aload_n 0, 1) := by decide +kernel
theorem d_MO_quotient_97 : decode b_MO_quotient 97 = .ok (.getfield 7, 3) := by decide +kernel
theorem d_MO_quotient_100 : decode b_MO_quotient 100 = .ok (.sipush 20800, 3) := by decide +kernel
theorem d_MO_quotient_103 : decode b_MO_quotient 103 = .ok (.aload_n 0, 1) := by decide +kernel
theorem d_MO_quotient_104 : decode b_MO_quotient 104 = .ok (.iload_n 1, 1) := by decide +kernel
theorem d_MO_quotient_105 : decode b_MO_quotient 105 = .ok (.iload 4, 2) := by decide +kernel
theorem d_MO_quotient_107 : decode b_MO_quotient 107 = .ok (.invokevirtual 39, 3) := by decide +kernel
theorem d_MO_quotient_110 : decode b_MO_quotient 110 = .ok (.iastore, 1) := by decide +kernel
theorem d_MO_quotient_111 : decode b_MO_quotient 111 = .ok (.aload_n 0, 1) := by decide +kernel
theorem d_MO_quotient_112 : decode b_MO_quotient 112 = .ok (.bipush 16, 2) := by decide +kernel
theorem d_MO_quotient_114 : decode b_MO_quotient 114 = .ok (.aload_n 0, 1) := by decide +kernel
theorem d_MO_quotient_115 : decode b_MO_quotient 115 = .ok (.getfield 13, 3) := by decide +kernel
theorem d_MO_quotient_118 : decode b_MO_quotient 118 = .ok (.bipush 16, 2) := by decide +kernel
theorem d_MO_quotient_120 : decode b_MO_quotient 120 = .ok (.iaload, 1) := by decide +kernel
theorem d_MO_quotient_121 : decode b_MO_quotient 121 = .ok (.iconst 1, 1) := by decide +kernel
theorem d_MO_quotient_122 : decode b_MO_quotient 122 = .ok (.iadd, 1) := by decide +kernel
theorem d_MO_quotient_123 : decode b_MO_quotient 123 = .ok (.invokevirtual 43, 3) := by decide +kernel
theorem d_MO_quotient_126 : decode b_MO_quotient 126 = .ok (.aload_n 0, 1) := by decide +kernel
theorem d_MO_quotient_127 : decode b_MO_quotient 127 = .ok (.bipush 16, 2) := by decide +kernel
theorem d_MO_quotient_129 : decode b_MO_quotient 129 = .ok (.iload_n 2, 1) := by decide +kernel
theorem d_MO_quotient_130 : decode b_MO_quotient 130 = .ok (.invokevirtual 53, 3) := by decide +kernel
theorem d_MO_quotient_133 : decode b_MO_quotient 133 = .ok (.ifCond .lt 36, 3) := by decide +kernel
theorem d_MO_quotient_136 : decode b_MO_quotient 136 = .ok (.aload_n 0, 1) := by decide +kernel
theorem d_MO_quotient_137 : decode b_MO_quotient 137 = .ok (.iload_n 2, 1) := by decide +kernel
theorem d_MO_quotient_138 : decode b_MO_quotient 138 = .ok (.invokevirtual 56, 3) := by decide +kernel
theorem d_MO_quotient_141 : decode b_MO_quotient 141 = .ok (.istore 5, 2) := by decide +kernel
theorem d_MO_quotient_143 : decode b_MO_quotient 143 = .ok (.aload_n 0, 1) := by decide +kernel
theorem d_MO_quotient_144 : decode b_MO_quotient 144 = .ok (.getfield 7, 3) := by decide +kernel
theorem d_MO_quotient_147 : decode b_MO_quotient 147 = .ok (.sipush 19500, 3) := by decide +kernel
theorem d_MO_quotient_150 : decode b_MO_quotient 150 = .ok (.iload 4, 2) := by decide +kernel
theorem d_MO_quotient_152 : decode b_MO_quotient 152 = .ok (.iadd, 1) := by decide +kernel
theorem d_MO_quotient_153 : decode b_MO_quotient 153 = .ok (.dup2, 1) := by decide +kernel
theorem d_MO_quotient_154 : decode b_MO_quotient 154 = .ok (.iaload, 1) := by decide +kernel
theorem d_MO_quotient_155 : decode b_MO_quotient 155 = .ok (.iload 5, 2) := by decide +kernel
theorem d_MO_quotient_157 : decode b_MO_quotient 157 = .ok (.iadd, 1) := by decide +kernel
theorem d_MO_quotient_158 : decode b_MO_quotient 158 = .ok (.iastore, 1) := by decide +kernel
theorem d_MO_quotient_159 : decode b_MO_quotient 159 = .ok (.aload_n 0, 1) := by decide +kernel
theorem d_MO_quotient_160 : decode b_MO_quotient 160 = .ok (.iload_n 2, 1) := by decide +kernel
theorem d_MO_quotient_161 : decode b_MO_quotient 161 = .ok (.iload 5, 2) := by decide +kernel
theorem d_MO_quotient_163 : decode b_MO_quotient 163 = .ok (.invokevirtual 60, 3) := by decide +kernel
theorem d_MO_quotient_166 : decode b_MO_quotient 166 = .ok (.goto (-40), 3) := by decide +kernel
theorem d_MO_quotient_169 : decode b_MO_quotient 169 = .ok (.iinc 4 (-1), 3) := by decide +kernel
theorem d_MO_quotient_172 : decode b_MO_quotient 172 = .ok (.goto (-125), 3) := by decide +kernel
theorem d_MO_quotient_175 : decode b_MO_quotient 175 = .ok (.aload_n 0, 1) := by decide +kernel
theorem d_MO_quotient_176 : decode b_MO_quotient 176 = .ok (.getfield 16, 3) := by decide +kernel
theorem d_MO_quotient_179 : decode b_MO_quotient 179 = .ok (.bipush 15, 2) := by decide +kernel
theorem d_MO_quotient_181 : decode b_MO_quotient 181 = .ok (.iconst 1, 1) := by decide +kernel
theorem d_MO_quotient_182 : decode b_MO_quotient 182 = .ok (.iastore, 1) := by decide +kernel
theorem d_MO_quotient_183 : decode b_MO_quotient 183 = .ok (.aload_n 0, 1) := by decide +kernel
theorem d_MO_quotient_184 : decode b_MO_quotient 184 = .ok (.bipush 15, 2) := by decide +kernel
theorem d_MO_quotient_186 : decode b_MO_quotient 186 = .ok (.iload_n 3, 1) := by decide +kernel
theorem d_MO_quotient_187 : decode b_MO_quotient 187 = .ok (.invokevirtual 43, 3) := by decide +kernel
theorem d_MO_quotient_190 : decode b_MO_quotient 190 = .ok (.aload_n 0, 1) := by decide +kernel
theorem d_MO_quotient_191 : decode b_MO_quotient 191 = .ok (.getfield 16, 3) := by decide +kernel
theorem d_MO_quotient_194 : decode b_MO_quotient 194 = .ok (.bipush 16, 2) := by decide +kernel
theorem d_MO_quotient_196 : decode b_MO_quotient 196 = .ok (.aload_n 0, 1) := by decide +kernel
theorem d_MO_quotient_197 : decode b_MO_quotient 197 = .ok (.getfield 13, 3) := by decide +kernel
theorem d_MO_quotient_200 : decode b_MO_quotient 200 = .ok (.bipush 16, 2) := by decide +kernel
theorem d_MO_quotient_202 : decode b_MO_quotient 202 = .ok (.iaload, 1) := by decide +kernel
theorem d_MO_quotient_203 : decode b_MO_quotient 203 = .ok (.ifCond .le 7, 3) := by decide +kernel
theorem d_MO_quotient_206 : decode b_MO_quotient 206 = .ok (.iconst 1, 1) := by decide +kernel
theorem d_MO_quotient_207 : decode b_MO_quotient 207 = .ok (.goto 4, 3) := by decide +kernel
theorem d_MO_quotient_210 : decode b_MO_quotient 210 = .ok (.iconst 0, 1) := by decide +kernel
theorem d_MO_quotient_211 : decode b_MO_quotient 211 = .ok (.iastore, 1) := by decide +kernel
theorem d_MO_quotient_212 : decode b_MO_quotient 212 = .ok (.return_, 1) := by decide +kernel
theorem d_MO_becomes_0 : decode b_MO_becomes 0 = .ok (.aload_n 0, 1) := by decide +kernel
theorem d_MO_becomes_1 : decode b_MO_becomes 1 = .ok (.bipush 17, 2) := by decide +kernel
theorem d_MO_becomes_3 : decode b_MO_becomes 3 = .ok (.bipush 12, 2) := by decide +kernel
theorem d_MO_becomes_5 : decode b_MO_becomes 5 = .ok (.invokevirtual 53, 3) := by decide +kernel
theorem d_MO_becomes_8 : decode b_MO_becomes 8 = .ok (.ifCond .lt 5, 3) := by decide +kernel
theorem d_MO_becomes_11 : decode b_MO_becomes 11 = .ok (.iconst 0, 1) := by decide +kernel
theorem d_MO_becomes_12 : decode b_MO_becomes 12 = .ok (.ireturn, 1) := by decide +kernel
theorem d_MO_becomes_13 : decode b_MO_becomes 13 = .ok (.aload_n 0, 1) := by decide +kernel
theorem d_MO_becomes_14 : decode b_MO_becomes 14 = .ok (.iload_n 1, 1) := by decide +kernel
theorem d_MO_becomes_15 : decode b_MO_becomes 15 = .ok (.bipush 17, 2) := by decide +kernel
theorem d_MO_becomes_17 : decode b_MO_becomes 17 = .ok (.invokevirtual 46, 3) := by decide +kernel
theorem d_MO_becomes_20 : decode b_MO_becomes 20 = .ok (.iconst 1, 1) := by decide +kernel
theorem d_MO_becomes_21 : decode b_MO_becomes 21 = .ok (.ireturn, 1) := by decide +kernel
theorem d_MO_bits_0 : decode b_MO_bits 0 = .ok (.aload_n 0, 1) := by decide +kernel
theorem d_MO_bits_1 : decode b_MO_bits 1 = .ok (.bipush 13, 2) := by decide +kernel
theorem d_MO_bits_3 : decode b_MO_bits 3 = .ok (.iload_n 1, 1) := by decide +kernel
theorem d_MO_bits_4 : decode b_MO_bits 4 = .ok (.invokevirtual 46, 3) := by decide +kernel
theorem d_MO_bits_7 : decode b_MO_bits 7 = .ok (.iconst 0, 1) := by decide +kernel
theorem d_MO_bits_8 : decode b_MO_bits 8 = .ok (.istore_n 2, 1) := by decide +kernel
theorem d_MO_bits_9 : decode b_MO_bits 9 = .ok (.iconst 0, 1) := by decide +kernel
theorem d_MO_bits_10 : decode b_MO_bits 10 = .ok (.istore_n 3, 1) := by decide +kernel
theorem d_MO_bits_11 : decode b_MO_bits 11 = .ok (.aload_n 0, 1) := by decide +kernel
theorem d_MO_bits_12 : decode b_MO_bits 12 = .ok (.getfield 13, 3) := by decide +kernel
theorem d_MO_bits_15 : decode b_MO_bits 15 = .ok (.bipush 13, 2) := by decide +kernel
theorem d_MO_bits_17 : decode b_MO_bits 17 = .ok (.iaload, 1) := by decide +kernel
theorem d_MO_bits_18 : decode b_MO_bits 18 = .ok (.ifCond .le 18, 3) := by decide +kernel
theorem d_MO_bits_21 : decode b_MO_bits 21 = .ok (.aload_n 0, 1) := by decide +kernel
theorem d_MO_bits_22 : decode b_MO_bits 22 = .ok (.bipush 13, 2) := by decide +kernel
theorem d_MO_bits_24 : decode b_MO_bits 24 = .ok (.ldc 63, 2) := by decide +kernel
theorem d_MO_bits_26 : decode b_MO_bits 26 = .ok (.invokevirtual 64, 3) := by decide +kernel
theorem d_MO_bits_29 : decode b_MO_bits 29 = .ok (.istore_n 3, 1) := by decide +kernel
theorem d_MO_bits_30 : decode b_MO_bits 30 = .ok (.iinc 2 16, 3) := by decide +kernel
theorem d_MO_bits_33 : decode b_MO_bits 33 = .ok (.goto (-22), 3) := by decide +kernel
theorem d_MO_bits_36 : decode b_MO_bits 36 = .ok (.iconst 0, 1) := by decide +kernel
theorem d_MO_bits_37 : decode b_MO_bits 37 = .ok (.istore 4, 2) := by decide +kernel
theorem d_MO_bits_39 : decode b_MO_bits 39 = .ok (.iload_n 3, 1) := by decide +kernel
theorem d_MO_bits_40 : decode b_MO_bits 40 = .ok (.iload 4, 2) := by decide +kernel
theorem d_MO_bits_42 : decode b_MO_bits 42 = .ok (.ishr, 1) := by decide +kernel
theorem d_MO_bits_43 : decode b_MO_bits 43 = .ok (.ifCond .le 9, 3) := by decide +kernel
theorem d_MO_bits_46 : decode b_MO_bits 46 = .ok (.iinc 4 1, 3) := by decide +kernel
theorem d_MO_bits_49 : decode b_MO_bits 49 = .ok (.goto (-10), 3) := by decide +kernel
theorem d_MO_bits_52 : decode b_MO_bits 52 = .ok (.iload_n 2, 1) := by decide +kernel
theorem d_MO_bits_53 : decode b_MO_bits 53 = .ok (.ifCond .ne 7, 3) := by decide +kernel
theorem d_MO_bits_56 : decode b_MO_bits 56 = .ok (.iconst 0, 1) := by decide +kernel
theorem d_MO_bits_57 : decode b_MO_bits 57 = .ok (.goto 10, 3) := by decide +kernel
theorem d_MO_bits_60 : decode b_MO_bits 60 = .ok (.iload_n 2, 1) := by decide +kernel
theorem d_MO_bits_61 : decode b_MO_bits 61 = .ok (.bipush 16, 2) := by decide +kernel
theorem d_MO_bits_63 : decode b_MO_bits 63 = .ok (.isub, 1) := by decide +kernel
theorem d_MO_bits_64 : decode b_MO_bits 64 = .ok (.iload 4, 2) := by decide +kernel
theorem d_MO_bits_66 : decode b_MO_bits 66 = .ok (.iadd, 1) := by decide +kernel
theorem d_MO_bits_67 : decode b_MO_bits 67 = .ok (.ireturn, 1) := by decide +kernel
theorem d_MO_set_0 : decode b_MO_set 0 = .ok (.aload_n 0, 1) := by decide +kernel
theorem d_MO_set_1 : decode b_MO_set 1 = .ok (.iload_n 1, 1) := by decide +kernel
theorem d_MO_set_2 : decode b_MO_set 2 = .ok (.invokestatic 67, 3) := by decide +kernel
theorem d_MO_set_5 : decode b_MO_set 5 = .ok (.iconst 1, 1) := by decide +kernel
theorem d_MO_set_6 : decode b_MO_set 6 = .ok (.invokevirtual 71, 3) := by decide +kernel
theorem d_MO_set_9 : decode b_MO_set 9 = .ok (.ifCond .eq 4, 3) := by decide +kernel
theorem d_MO_set_12 : decode b_MO_set 12 = .ok (.return_, 1) := by decide +kernel
theorem d_MO_set_13 : decode b_MO_set 13 = .ok (.aload_n 0, 1) := by decide +kernel
theorem d_MO_set_14 : decode b_MO_set 14 = .ok (.iload_n 1, 1) := by decide +kernel
theorem d_MO_set_15 : decode b_MO_set 15 = .ok (.lload_n 2, 1) := by decide +kernel
theorem d_MO_set_16 : decode b_MO_set 16 = .ok (.invokevirtual 25, 3) := by decide +kernel
theorem d_MO_set_19 : decode b_MO_set 19 = .ok (.return_, 1) := by decide +kernel
theorem d_MO_copy_0 : decode b_MO_copy 0 = .ok (.aload_n 0, 1) := by decide +kernel
theorem d_MO_copy_1 : decode b_MO_copy 1 = .ok (.iload_n 1, 1) := by decide +kernel
theorem d_MO_copy_2 : decode b_MO_copy 2 = .ok (.invokestatic 67, 3) := by decide +kernel
theorem d_MO_copy_5 : decode b_MO_copy 5 = .ok (.ifCond .ne 10, 3) := by decide +kernel
theorem d_MO_copy_8 : decode b_MO_copy 8 = .ok (.iload_n 2, 1) := by decide +kernel
theorem d_MO_copy_9 : decode b_MO_copy 9 = .ok (.invokestatic 67, 3) := by decide +kernel
theorem d_MO_copy_12 : decode b_MO_copy 12 = .ok (.ifCond .eq 7, 3) := by decide +kernel
theorem d_MO_copy_15 : decode b_MO_copy 15 = .ok (.iconst 1, 1) := by decide +kernel
theorem d_MO_copy_16 : decode b_MO_copy 16 = .ok (.goto 4, 3) := by decide +kernel
theorem d_MO_copy_19 : decode b_MO_copy 19 = .ok (.iconst 0, 1) := by decide +kernel
theorem d_MO_copy_20 : decode b_MO_copy 20 = .ok (.iconst 1, 1) := by decide +kernel
theorem d_MO_copy_21 : decode b_MO_copy 21 = .ok (.invokevirtual 71, 3) := by decide +kernel
theorem d_MO_copy_24 : decode b_MO_copy 24 = .ok (.ifCond .eq 4, 3) := by decide +kernel
theorem d_MO_copy_27 : decode b_MO_copy 27 = .ok (.return_, 1) := by decide +kernel
theorem d_MO_copy_28 : decode b_MO_copy 28 = .ok (.aload_n 0, 1) := by decide +kernel
theorem d_MO_copy_29 : decode b_MO_copy 29 = .ok (.bipush 13, 2) := by decide +kernel
theorem d_MO_copy_31 : decode b_MO_copy 31 = .ok (.iload_n 2, 1) := by decide +kernel
theorem d_MO_copy_32 : decode b_MO_copy 32 = .ok (.invokevirtual 46, 3) := by decide +kernel
theorem d_MO_copy_35 : decode b_MO_copy 35 = .ok (.aload_n 0, 1) := by decide +kernel
theorem d_MO_copy_36 : decode b_MO_copy 36 = .ok (.iload_n 1, 1) := by decide +kernel
theorem d_MO_copy_37 : decode b_MO_copy 37 = .ok (.bipush 13, 2) := by decide +kernel
theorem d_MO_copy_39 : decode b_MO_copy 39 = .ok (.invokevirtual 46, 3) := by decide +kernel
theorem d_MO_copy_42 : decode b_MO_copy 42 = .ok (.return_, 1) := by decide +kernel
theorem d_MO_add_0 : decode b_MO_add 0 = .ok (.aload_n 0, 1) := by decide +kernel
theorem d_MO_add_1 : decode b_MO_add 1 = .ok (.iload_n 1, 1) := by decide +kernel
theorem d_MO_add_2 : decode b_MO_add 2 = .ok (.invokestatic 67, 3) := by decide +kernel
theorem d_MO_add_5 : decode b_MO_add 5 = .ok (.ifCond .ne 17, 3) := by decide +kernel
theorem d_MO_add_8 : decode b_MO_add 8 = .ok (.iload_n 2, 1) := by decide +kernel
theorem d_MO_add_9 : decode b_MO_add 9 = .ok (.invokestatic 67, 3) := by decide +kernel
theorem d_MO_add_12 : decode b_MO_add 12 = .ok (.ifCond .ne 10, 3) := by decide +kernel
theorem d_MO_add_15 : decode b_MO_add 15 = .ok (.iload_n 3, 1) := by decide +kernel
theorem d_MO_add_16 : decode b_MO_add 16 = .ok (.invokestatic 67, 3) := by decide +kernel
theorem d_MO_add_19 : decode b_MO_add 19 = .ok (.ifCond .eq 7, 3) := by decide +kernel
theorem d_MO_add_22 : decode b_MO_add 22 = .ok (.iconst 1, 1) := by decide +kernel
theorem d_MO_add_23 : decode b_MO_add 23 = .ok (.goto 4, 3) := by decide +kernel
theorem d_MO_add_26 : decode b_MO_add 26 = .ok (.iconst 0, 1) := by decide +kernel
theorem d_MO_add_27 : decode b_MO_add 27 = .ok (.iconst 1, 1) := by decide +kernel
theorem d_MO_add_28 : decode b_MO_add 28 = .ok (.invokevirtual 71, 3) := by decide +kernel
theorem d_MO_add_31 : decode b_MO_add 31 = .ok (.ifCond .eq 4, 3) := by decide +kernel
theorem d_MO_add_34 : decode b_MO_add 34 = .ok (.return_, 1) := by decide +kernel
theorem d_MO_add_35 : decode b_MO_add 35 = .ok (.aload_n 0, 1) := by decide +kernel
theorem d_MO_add_36 : decode b_MO_add 36 = .ok (.iload_n 2, 1) := by decide +kernel
theorem d_MO_add_37 : decode b_MO_add 37 = .ok (.iload_n 3, 1) := by decide +kernel
theorem d_MO_add_38 : decode b_MO_add 38 = .ok (.iconst 1, 1) := by decide +kernel
theorem d_MO_add_39 : decode b_MO_add 39 = .ok (.invokevirtual 75, 3) := by decide +kernel
theorem d_MO_add_42 : decode b_MO_add 42 = .ok (.aload_n 0, 1) := by decide +kernel
theorem d_MO_add_43 : decode b_MO_add 43 = .ok (.aload_n 0, 1) := by decide +kernel
theorem d_MO_add_44 : decode b_MO_add 44 = .ok (.iload_n 1, 1) := by decide +kernel
theorem d_MO_add_45 : decode b_MO_add 45 = .ok (.invokevirtual 79, 3) := by decide +kernel
theorem d_MO_add_48 : decode b_MO_add 48 = .ok (.ifCond .ne 7, 3) := by decide +kernel
theorem d_MO_add_51 : decode b_MO_add 51 = .ok (.iconst 1, 1) := by decide +kernel
theorem d_MO_add_52 : decode b_MO_add 52 = .ok (.goto 4, 3) := by decide +kernel
theorem d_MO_add_55 : decode b_MO_add 55 = .ok (.iconst 0, 1) := by decide +kernel
theorem d_MO_add_56 : decode b_MO_add 56 = .ok (.iconst 2, 1) := by decide +kernel
theorem d_MO_add_57 : decode b_MO_add 57 = .ok (.invokevirtual 71, 3) := by decide +kernel
theorem d_MO_add_60 : decode b_MO_add 60 = .ok (.pop, 1) := by decide +kernel
theorem d_MO_add_61 : decode b_MO_add 61 = .ok (.return_, 1) := by decide +kernel
theorem d_MO_subtract_0 : decode b_MO_subtract 0 = .ok (.aload_n 0, 1) := by decide +kernel
theorem d_MO_subtract_1 : decode b_MO_subtract 1 = .ok (.iload_n 1, 1) := by decide +kernel
theorem d_MO_subtract_2 : decode b_MO_subtract 2 = .ok (.invokestatic 67, 3) := by decide +kernel
theorem d_MO_subtract_5 : decode b_MO_subtract 5 = .ok (.ifCond .ne 17, 3) := by decide +kernel
theorem d_MO_subtract_8 : decode b_MO_subtract 8 = .ok (.iload_n 2, 1) := by decide +kernel
theorem d_MO_subtract_9 : decode b_MO_subtract 9 = .ok (.invokestatic 67, 3) := by decide +kernel
theorem d_MO_subtract_12 : decode b_MO_subtract 12 = .ok (.ifCond .ne 10, 3) := by decide +kernel
theorem d_MO_subtract_15 : decode b_MO_subtract 15 = .ok (.iload_n 3, 1) := by decide +kernel
theorem d_MO_subtract_16 : decode b_MO_subtract 16 = .ok (.invokestatic 67, 3) := by decide +kernel
theorem d_MO_subtract_19 : decode b_MO_subtract 19 = .ok (.ifCond .eq 7, 3) := by decide +kernel
theorem d_MO_subtract_22 : decode b_MO_subtract 22 = .ok (.iconst 1, 1) := by decide +kernel
theorem d_MO_subtract_23 : decode b_MO_subtract 23 = .ok (.goto 4, 3) := by decide +kernel
theorem d_MO_subtract_26 : decode b_MO_subtract 26 = .ok (.iconst 0, 1) := by decide +kernel
theorem d_MO_subtract_27 : decode b_MO_subtract 27 = .ok (.iconst 1, 1) := by decide +kernel
theorem d_MO_subtract_28 : decode b_MO_subtract 28 = .ok (.invokevirtual 71, 3) := by decide +kernel
theorem d_MO_subtract_31 : decode b_MO_subtract 31 = .ok (.ifCond .eq 4, 3) := by decide +kernel
theorem d_MO_subtract_34 : decode b_MO_subtract 34 = .ok (.return_, 1) := by decide +kernel
theorem d_MO_subtract_35 : decode b_MO_subtract 35 = .ok (.aload_n 0, 1) := by decide +kernel
theorem d_MO_subtract_36 : decode b_MO_subtract 36 = .ok (.iload_n 2, 1) := by decide +kernel
theorem d_MO_subtract_37 : decode b_MO_subtract 37 = .ok (.iload_n 3, 1) := by decide +kernel
theorem d_MO_subtract_38 : decode b_MO_subtract 38 = .ok (.iconst (-1), 1) := by decide +kernel
theorem d_MO_subtract_39 : decode b_MO_subtract 39 = .ok (.invokevirtual 75, 3) := by decide +kernel
theorem d_MO_subtract_42 : decode b_MO_subtract 42 = .ok (.aload_n 0, 1) := by decide +kernel
theorem d_MO_subtract_43 : decode b_MO_subtract 43 = .ok (.aload_n 0, 1) := by decide +kernel
theorem d_MO_subtract_44 : decode b_MO_subtract 44 = .ok (.iload_n 1, 1) := by decide +kernel
theorem d_MO_subtract_45 : decode b_MO_subtract 45 = .ok (.invokevirtual 79, 3) := by decide +kernel
theorem d_MO_subtract_48 : decode b_MO_subtract 48 = .ok (.ifCond .ne 7, 3) := by decide +kernel
theorem d_MO_subtract_51 : decode b_MO_subtract 51 = .ok (.iconst 1, 1) := by decide +kernel
theorem d_MO_subtract_52 : decode b_MO_subtract 52 = .ok (.goto 4, 3) := by decide +kernel
theorem d_MO_subtract_55 : decode b_MO_subtract 55 = .ok (.iconst 0, 1) := by decide +kernel
theorem d_MO_subtract_56 : decode b_MO_subtract 56 = .ok (.iconst 2, 1) := by decide +kernel
theorem d_MO_subtract_57 : decode b_MO_subtract 57 = .ok (.invokevirtual 71, 3) := by decide +kernel
theorem d_MO_subtract_60 : decode b_MO_subtract 60 = .ok (.pop, 1) := by decide +kernel
theorem d_MO_subtract_61 : decode b_MO_subtract 61 = .ok (.return_, 1) := by decide +kernel
theorem d_MO_multiply_0 : decode b_MO_multiply 0 = .ok (.aload_n 0, 1) := by decide +kernel
theorem d_MO_multiply_1 : decode b_MO_multiply 1 = .ok (.iload_n 1, 1) := by decide +kernel
theorem d_MO_multiply_2 : decode b_MO_multiply 2 = .ok (.invokestatic 67, 3) := by decide +kernel
theorem d_MO_multiply_5 : decode b_MO_multiply 5 = .ok (.ifCond .ne 17, 3) := by decide +kernel
theorem d_MO_multiply_8 : decode b_MO_multiply 8 = .ok (.iload_n 2, 1) := by decide +kernel
theorem d_MO_multiply_9 : decode b_MO_multiply 9 = .ok (.invokestatic 67, 3) := by decide +kernel
theorem d_MO_multiply_12 : decode b_MO_multiply 12 = .ok (.ifCond .ne 10, 3) := by decide +kernel
theorem d_MO_multiply_15 : decode b_MO_multiply 15 = .ok (.iload_n 3, 1) := by decide +kernel
theorem d_MO_multiply_16 : decode b_MO_multiply 16 = .ok (.invokestatic 67, 3) := by decide +kernel
theorem d_MO_multiply_19 : decode b_MO_multiply 19 = .ok (.ifCond .eq 7, 3) := by decide +kernel
theorem d_MO_multiply_22 : decode b_MO_multiply 22 = .ok (.iconst 1, 1) := by decide +kernel
theorem d_MO_multiply_23 : decode b_MO_multiply 23 = .ok (.goto 4, 3) := by decide +kernel
theorem d_MO_multiply_26 : decode b_MO_multiply 26 = .ok (.iconst 0, 1) := by decide +kernel
theorem d_MO_multiply_27 : decode b_MO_multiply 27 = .ok (.iconst 1, 1) := by decide +kernel
theorem d_MO_multiply_28 : decode b_MO_multiply 28 = .ok (.invokevirtual 71, 3) := by decide +kernel
theorem d_MO_multiply_31 : decode b_MO_multiply 31 = .ok (.ifCond .eq 4, 3) := by decide +kernel
theorem d_MO_multiply_34 : decode b_MO_multiply 34 = .ok (.return_, 1) := by decide +kernel
theorem d_MO_multiply_35 : decode b_MO_multiply 35 = .ok (.aload_n 0, 1) := by decide +kernel
theorem d_MO_multiply_36 : decode b_MO_multiply 36 = .ok (.iload_n 2, 1) := by decide +kernel
theorem d_MO_multiply_37 : decode b_MO_multiply 37 = .ok (.iload_n 3, 1) := by decide +kernel
theorem d_MO_multiply_38 : decode b_MO_multiply 38 = .ok (.invokevirtual 82, 3) := by decide +kernel
theorem d_MO_multiply_41 : decode b_MO_multiply 41 = .ok (.aload_n 0, 1) := by decide +kernel
theorem d_MO_multiply_42 : decode b_MO_multiply 42 = .ok (.aload_n 0, 1) := by decide +kernel
theorem d_MO_multiply_43 : decode b_MO_multiply 43 = .ok (.iload_n 1, 1) := by decide +kernel
theorem d_MO_multiply_44 : decode b_MO_multiply 44 = .ok (.invokevirtual 79, 3) := by decide +kernel
theorem d_MO_multiply_47 : decode b_MO_multiply 47 = .ok (.ifCond .ne 7, 3) := by decide +kernel
theorem d_MO_multiply_50 : decode b_MO_multiply 50 = .ok (.iconst 1, 1) := by decide +kernel
theorem d_MO_multiply_51 : decode b_MO_multiply 51 = .ok (.goto 4, 3) := by decide +kernel
theorem d_MO_multiply_54 : decode b_MO_multiply 54 = .ok (.iconst 0, 1) := by decide +kernel
theorem d_MO_multiply_55 : decode b_MO_multiply 55 = .ok (.iconst 2, 1) := by decide +kernel
theorem d_MO_multiply_56 : decode b_MO_multiply 56 = .ok (.invokevirtual 71, 3) := by decide +kernel
theorem d_MO_multiply_59 : decode b_MO_multiply 59 = .ok (.pop, 1) := by decide +kernel
theorem d_MO_multiply_60 : decode b_MO_multiply 60 = .ok (.return_, 1) := by decide +kernel
theorem d_MO_times_0 : decode b_MO_times 0 = .ok (.aload_n 0, 1) := by decide +kernel
theorem d_MO_times_1 : decode b_MO_times 1 = .ok (.iload_n 1, 1) := by decide +kernel
theorem d_MO_times_2 : decode b_MO_times 2 = .ok (.invokestatic 67, 3) := by decide +kernel
theorem d_MO_times_5 : decode b_MO_times 5 = .ok (.ifCond .ne 10, 3) := by decide +kernel
theorem d_MO_times_8 : decode b_MO_times 8 = .ok (.iload_n 2, 1) := by decide +kernel
theorem d_MO_times_9 : decode b_MO_times 9 = .ok (.invokestatic 67, 3) := by decide +kernel
theorem d_MO_times_12 : decode b_MO_times 12 = .ok (.ifCond .eq 7, 3) := by decide +kernel
theorem d_MO_times_15 : decode b_MO_times 15 = .ok (.iconst 1, 1) := by decide +kernel
theorem d_MO_times_16 : decode b_MO_times 16 = .ok (.goto 4, 3) := by decide +kernel
theorem d_MO_times_19 : decode b_MO_times 19 = .ok (.iconst 0, 1) := by decide +kernel
theorem d_MO_times_20 : decode b_MO_times 20 = .ok (.iconst 1, 1) := by decide +kernel
theorem d_MO_times_21 : decode b_MO_times 21 = .ok (.invokevirtual 71, 3) := by decide +kernel
theorem d_MO_times_24 : decode b_MO_times 24 = .ok (.ifCond .eq 4, 3) := by decide +kernel
theorem d_MO_times_27 : decode b_MO_times 27 = .ok (.return_, 1) := by decide +kernel
theorem d_MO_times_28 : decode b_MO_times 28 = .ok (.aload_n 0, 1) := by decide +kernel
theorem d_MO_times_29 : decode b_MO_times 29 = .ok (.bipush 13, 2) := by decide +kernel
theorem d_MO_times_31 : decode b_MO_times 31 = .ok (.lload_n 3, 1) := by decide +kernel
theorem d_MO_times_32 : decode b_MO_times 32 = .ok (.invokevirtual 25, 3) := by decide +kernel
theorem d_MO_times_35 : decode b_MO_times 35 = .ok (.aload_n 0, 1) := by decide +kernel
theorem d_MO_times_36 : decode b_MO_times 36 = .ok (.iload_n 2, 1) := by decide +kernel
theorem d_MO_times_37 : decode b_MO_times 37 = .ok (.bipush 13, 2) := by decide +kernel
theorem d_MO_times_39 : decode b_MO_times 39 = .ok (.invokevirtual 82, 3) := by decide +kernel
theorem d_MO_times_42 : decode b_MO_times 42 = .ok (.aload_n 0, 1) := by decide +kernel
theorem d_MO_times_43 : decode b_MO_times 43 = .ok (.aload_n 0, 1) := by decide +kernel
theorem d_MO_times_44 : decode b_MO_times 44 = .ok (.iload_n 1, 1) := by decide +kernel
theorem d_MO_times_45 : decode b_MO_times 45 = .ok (.invokevirtual 79, 3) := by decide +kernel
theorem d_MO_times_48 : decode b_MO_times 48 = .ok (.ifCond .ne 7, 3) := by decide +kernel
theorem d_MO_times_51 : decode b_MO_times 51 = .ok (.iconst 1, 1) := by decide +kernel
theorem d_MO_times_52 : decode b_MO_times 52 = .ok (.goto 4, 3) := by decide +kernel
theorem d_MO_times_55 : decode b_MO_times 55 = .ok (.iconst 0, 1) := by decide +kernel
theorem d_MO_times_56 : decode b_MO_times 56 = .ok (.iconst 2, 1) := by decide +kernel
theorem d_MO_times_57 : decode b_MO_times 57 = .ok (.invokevirtual 71, 3) := by decide +kernel
theorem d_MO_times_60 : decode b_MO_times 60 = .ok (.pop, 1) := by decide +kernel
theorem d_MO_times_61 : decode b_MO_times 61 = .ok (.return_, 1) := by decide +kernel
theorem d_MO_shift_0 : decode b_MO_shift 0 = .ok (.aload_n 0, 1) := by decide +kernel
theorem d_MO_shift_1 : decode b_MO_shift 1 = .ok (.iload_n 1, 1) := by decide +kernel
theorem d_MO_shift_2 : decode b_MO_shift 2 = .ok (.invokestatic 67, 3) := by decide +kernel
theorem d_MO_shift_5 : decode b_MO_shift 5 = .ok (.ifCond .ne 22, 3) := by decide +kernel
theorem d_MO_shift_8 : decode b_MO_shift 8 = .ok (.iload_n 2, 1) := by decide +kernel
theorem d_MO_shift_9 : decode b_MO_shift 9 = .ok (.invokestatic 67, 3) := by decide +kernel
theorem d_MO_shift_12 : decode b_MO_shift 12 = .ok (.ifCond .ne 15, 3) := by decide +kernel
theorem d_MO_shift_15 : decode b_MO_shift 15 = .ok (.iload_n 3, 1) := by decide +kernel
theorem d_MO_shift_16 : decode b_MO_shift 16 = .ok (.i2l, 1) := by decide +kernel
theorem d_MO_shift_17 : decode b_MO_shift 17 = .ok (.lconst 0, 1) := by decide +kernel
theorem d_MO_shift_18 : decode b_MO_shift 18 = .ok (.ldc2_w 85, 3) := by decide +kernel
theorem d_MO_shift_21 : decode b_MO_shift 21 = .ok (.invokestatic 87, 3) := by decide +kernel
theorem d_MO_shift_24 : decode b_MO_shift 24 = .ok (.ifCond .ne 7, 3) := by decide +kernel
theorem d_MO_shift_27 : decode b_MO_shift 27 = .ok (.iconst 1, 1) := by decide +kernel
theorem d_MO_shift_28 : decode b_MO_shift 28 = .ok (.goto 4, 3) := by decide +kernel
theorem d_MO_shift_31 : decode b_MO_shift 31 = .ok (.iconst 0, 1) := by decide +kernel
theorem d_MO_shift_32 : decode b_MO_shift 32 = .ok (.iconst 1, 1) := by decide +kernel
theorem d_MO_shift_33 : decode b_MO_shift 33 = .ok (.invokevirtual 71, 3) := by decide +kernel
theorem d_MO_shift_36 : decode b_MO_shift 36 = .ok (.ifCond .eq 4, 3) := by decide +kernel
theorem d_MO_shift_39 : decode b_MO_shift 39 = .ok (.return_, 1) := by decide +kernel
theorem d_MO_shift_40 : decode b_MO_shift 40 = .ok (.aload_n 0, 1) := by decide +kernel
theorem d_MO_shift_41 : decode b_MO_shift 41 = .ok (.bipush 17, 2) := by decide +kernel
theorem d_MO_shift_43 : decode b_MO_shift 43 = .ok (.iload_n 2, 1) := by decide +kernel
theorem d_MO_shift_44 : decode b_MO_shift 44 = .ok (.invokevirtual 46, 3) := by decide +kernel
theorem d_MO_shift_47 : decode b_MO_shift 47 = .ok (.iload_n 3, 1) := by decide +kernel
theorem d_MO_shift_48 : decode b_MO_shift 48 = .ok (.istore 4, 2) := by decide +kernel
theorem d_MO_shift_50 : decode b_MO_shift 50 = .ok (.iload 4, 2) := by decide +kernel
theorem d_MO_shift_52 : decode b_MO_shift 52 = .ok (.ifCond .le 42, 3) := by decide +kernel
theorem d_MO_shift_55 : decode b_MO_shift 55 = .ok (.aload_n 0, 1) := by decide +kernel
theorem d_MO_shift_56 : decode b_MO_shift 56 = .ok (.bipush 17, 2) := by decide +kernel
theorem d_MO_shift_58 : decode b_MO_shift 58 = .ok (.bipush 12, 2) := by decide +kernel
theorem d_MO_shift_60 : decode b_MO_shift 60 = .ok (.invokevirtual 53, 3) := by decide +kernel
theorem d_MO_shift_63 : decode b_MO_shift 63 = .ok (.ifCond .ge 31, 3) := by decide +kernel
theorem d_MO_shift_66 : decode b_MO_shift 66 = .ok (.aload_n 0, 1) := by decide +kernel
theorem d_MO_shift_67 : decode b_MO_shift 67 = .ok (.bipush 17, 2) := by decide +kernel
theorem d_MO_shift_69 : decode b_MO_shift 69 = .ok (.iconst 1, 1) := by decide +kernel
theorem d_MO_shift_70 : decode b_MO_shift 70 = .ok (.iload 4, 2) := by decide +kernel
theorem d_MO_shift_72 : decode b_MO_shift 72 = .ok (.bipush 13, 2) := by decide +kernel
theorem d_MO_shift_74 : decode b_MO_shift 74 = .ok (.if_icmp .ge 8, 3) := by decide +kernel
theorem d_MO_shift_77 : decode b_MO_shift 77 = .ok (.iload 4, 2) := by decide +kernel
theorem d_MO_shift_79 : decode b_MO_shift 79 = .ok (.goto 5, 3) := by decide +kernel
theorem d_MO_shift_82 : decode b_MO_shift 82 = .ok (.bipush 13, 2) := by decide +kernel
theorem d_MO_shift_84 : decode b_MO_shift 84 = .ok (.ishl, 1) := by decide +kernel
theorem d_MO_shift_85 : decode b_MO_shift 85 = .ok (.invokevirtual 29, 3) := by decide +kernel
theorem d_MO_shift_88 : decode b_MO_shift 88 = .ok (.iinc 4 (-13), 3) := by decide +kernel
theorem d_MO_shift_91 : decode b_MO_shift 91 = .ok (.goto (-41), 3) := by decide +kernel
theorem d_MO_shift_94 : decode b_MO_shift 94 = .ok (.aload_n 0, 1) := by decide +kernel
theorem d_MO_shift_95 : decode b_MO_shift 95 = .ok (.aload_n 0, 1) := by decide +kernel
theorem d_MO_shift_96 : decode b_MO_shift 96 = .ok (.iload_n 1, 1) := by decide +kernel
theorem d_MO_shift_97 : decode b_MO_shift 97 = .ok (.invokevirtual 79, 3) := by decide +kernel
theorem d_MO_shift_100 : decode b_MO_shift 100 = .ok (.ifCond .ne 7, 3) := by decide +kernel
theorem d_MO_shift_103 : decode b_MO_shift 103 = .ok (.iconst 1, 1) := by decide +kernel
theorem d_MO_shift_104 : decode b_MO_shift 104 = .ok (.goto 4, 3) := by decide +kernel
theorem d_MO_shift_107 : decode b_MO_shift 107 = .ok (.iconst 0, 1) := by decide +kernel
theorem d_MO_shift_108 : decode b_MO_shift 108 = .ok (.iconst 2, 1) := by decide +kernel
theorem d_MO_shift_109 : decode b_MO_shift 109 = .ok (.invokevirtual 71, 3) := by decide +kernel
theorem d_MO_shift_112 : decode b_MO_shift 112 = .ok (.pop, 1) := by decide +kernel
theorem d_MO_shift_113 : decode b_MO_shift 113 = .ok (.return_, 1) := by decide +kernel
theorem d_MO_half_0 : decode b_MO_half 0 = .ok (.aload_n 0, 1) := by decide +kernel
theorem d_MO_half_1 : decode b_MO_half 1 = .ok (.iload_n 1, 1) := by decide +kernel
theorem d_MO_half_2 : decode b_MO_half 2 = .ok (.invokestatic 67, 3) := by decide +kernel
theorem d_MO_half_5 : decode b_MO_half 5 = .ok (.ifCond .ne 22, 3) := by decide +kernel
theorem d_MO_half_8 : decode b_MO_half 8 = .ok (.iload_n 2, 1) := by decide +kernel
theorem d_MO_half_9 : decode b_MO_half 9 = .ok (.invokestatic 67, 3) := by decide +kernel
theorem d_MO_half_12 : decode b_MO_half 12 = .ok (.ifCond .ne 15, 3) := by decide +kernel
theorem d_MO_half_15 : decode b_MO_half 15 = .ok (.iload_n 3, 1) := by decide +kernel
theorem d_MO_half_16 : decode b_MO_half 16 = .ok (.i2l, 1) := by decide +kernel
theorem d_MO_half_17 : decode b_MO_half 17 = .ok (.lconst 0, 1) := by decide +kernel
theorem d_MO_half_18 : decode b_MO_half 18 = .ok (.ldc2_w 85, 3) := by decide +kernel
theorem d_MO_half_21 : decode b_MO_half 21 = .ok (.invokestatic 87, 3) := by decide +kernel
theorem d_MO_half_24 : decode b_MO_half 24 = .ok (.ifCond .ne 7, 3) := by decide +kernel
theorem d_MO_half_27 : decode b_MO_half 27 = .ok (.iconst 1, 1) := by decide +kernel
theorem d_MO_half_28 : decode b_MO_half 28 = .ok (.goto 4, 3) := by decide +kernel
theorem d_MO_half_31 : decode b_MO_half 31 = .ok (.iconst 0, 1) := by decide +kernel
theorem d_MO_half_32 : decode b_MO_half 32 = .ok (.iconst 1, 1) := by decide +kernel
theorem d_MO_half_33 : decode b_MO_half 33 = .ok (.invokevirtual 71, 3) := by decide +kernel
theorem d_MO_half_36 : decode b_MO_half 36 = .ok (.ifCond .eq 4, 3) := by decide +kernel
theorem d_MO_half_39 : decode b_MO_half 39 = .ok (.return_, 1) := by decide +kernel
theorem d_MO_half_40 : decode b_MO_half 40 = .ok (.aload_n 0, 1) := by decide +kernel
theorem d_MO_half_41 : decode b_MO_half 41 = .ok (.bipush 13, 2) := by decide +kernel
theorem d_MO_half_43 : decode b_MO_half 43 = .ok (.iload_n 2, 1) := by decide +kernel
theorem d_MO_half_44 : decode b_MO_half 44 = .ok (.invokevirtual 46, 3) := by decide +kernel
theorem d_MO_half_47 : decode b_MO_half 47 = .ok (.aload_n 0, 1) := by decide +kernel
theorem d_MO_half_48 : decode b_MO_half 48 = .ok (.getfield 16, 3) := by decide +kernel
theorem d_MO_half_51 : decode b_MO_half 51 = .ok (.iload_n 2, 1) := by decide +kernel
theorem d_MO_half_52 : decode b_MO_half 52 = .ok (.iaload, 1) := by decide +kernel
theorem d_MO_half_53 : decode b_MO_half 53 = .ok (.istore 4, 2) := by decide +kernel
theorem d_MO_half_55 : decode b_MO_half 55 = .ok (.iconst 0, 1) := by decide +kernel
theorem d_MO_half_56 : decode b_MO_half 56 = .ok (.istore 5, 2) := by decide +kernel
theorem d_MO_half_58 : decode b_MO_half 58 = .ok (.iload_n 3, 1) := by decide +kernel
theorem d_MO_half_59 : decode b_MO_half 59 = .ok (.istore 6, 2) := by decide +kernel
theorem d_MO_half_61 : decode b_MO_half 61 = .ok (.iload 6, 2) := by decide +kernel
theorem d_MO_half_63 : decode b_MO_half 63 = .ok (.ifCond .le 37, 3) := by decide +kernel
theorem d_MO_half_66 : decode b_MO_half 66 = .ok (.aload_n 0, 1) := by decide +kernel
theorem d_MO_half_67 : decode b_MO_half 67 = .ok (.bipush 13, 2) := by decide +kernel
theorem d_MO_half_69 : decode b_MO_half 69 = .ok (.iconst 1, 1) := by decide +kernel
theorem d_MO_half_70 : decode b_MO_half 70 = .ok (.iload 6, 2) := by decide +kernel
theorem d_MO_half_72 : decode b_MO_half 72 = .ok (.bipush 13, 2) := by decide +kernel
theorem d_MO_half_74 : decode b_MO_half 74 = .ok (.if_icmp .ge 8, 3) := by decide +kernel
theorem d_MO_half_77 : decode b_MO_half 77 = .ok (.iload 6, 2) := by decide +kernel
theorem d_MO_half_79 : decode b_MO_half 79 = .ok (.goto 5, 3) := by decide +kernel
theorem d_MO_half_82 : decode b_MO_half 82 = .ok (.bipush 13, 2) := by decide +kernel
theorem d_MO_half_84 : decode b_MO_half 84 = .ok (.ishl, 1) := by decide +kernel
theorem d_MO_half_85 : decode b_MO_half 85 = .ok (.invokevirtual 64, 3) := by decide +kernel
theorem d_MO_half_88 : decode b_MO_half 88 = .ok (.ifCond .le 6, 3) := by decide +kernel
theorem d_MO_half_91 : decode b_MO_half 91 = .ok (.iconst 1, 1) := by decide +kernel
theorem d_MO_half_92 : decode b_MO_half 92 = .ok (.istore 5, 2) := by decide +kernel
theorem d_MO_half_94 : decode b_MO_half 94 = .ok (.iinc 6 (-13), 3) := by decide +kernel
theorem d_MO_half_97 : decode b_MO_half 97 = .ok (.goto (-36), 3) := by decide +kernel
theorem d_MO_half_100 : decode b_MO_half 100 = .ok (.iload 4, 2) := by decide +kernel
theorem d_MO_half_102 : decode b_MO_half 102 = .ok (.ifCond .ge 60, 3) := by decide +kernel
theorem d_MO_half_105 : decode b_MO_half 105 = .ok (.iload 5, 2) := by decide +kernel
theorem d_MO_half_107 : decode b_MO_half 107 = .ok (.ifCond .eq 55, 3) := by decide +kernel
theorem d_MO_half_110 : decode b_MO_half 110 = .ok (.aload_n 0, 1) := by decide +kernel
theorem d_MO_half_111 : decode b_MO_half 111 = .ok (.getfield 16, 3) := by decide +kernel
theorem d_MO_half_114 : decode b_MO_half 114 = .ok (.bipush 13, 2) := by decide +kernel
theorem d_MO_half_116 : decode b_MO_half 116 = .ok (.iconst (-1), 1) := by decide +kernel
theorem d_MO_half_117 : decode b_MO_half 117 = .ok (.iastore, 1) := by decide +kernel
theorem d_MO_half_118 : decode b_MO_half 118 = .ok (.aload_n 0, 1) := by decide +kernel
theorem d_MO_half_119 : decode b_MO_half 119 = .ok (.bipush 14, 2) := by decide +kernel
theorem d_MO_half_121 : decode b_MO_half 121 = .ok (.ldc2_w 91, 3) := by decide +kernel
theorem d_MO_half_124 : decode b_MO_half 124 = .ok (.invokevirtual 25, 3) := by decide +kernel
theorem d_MO_half_127 : decode b_MO_half 127 = .ok (.aload_n 0, 1) := by decide +kernel
theorem d_MO_half_128 : decode b_MO_half 128 = .ok (.getfield 13, 3) := by decide +kernel
theorem d_MO_half_131 : decode b_MO_half 131 = .ok (.bipush 13, 2) := by decide +kernel
theorem d_MO_half_133 : decode b_MO_half 133 = .ok (.iaload, 1) := by decide +kernel
theorem d_MO_half_134 : decode b_MO_half 134 = .ok (.ifCond .ne 11, 3) := by decide +kernel
theorem d_MO_half_137 : decode b_MO_half 137 = .ok (.aload_n 0, 1) := by decide +kernel
theorem d_MO_half_138 : decode b_MO_half 138 = .ok (.getfield 16, 3) := by decide +kernel
theorem d_MO_half_141 : decode b_MO_half 141 = .ok (.bipush 13, 2) := by decide +kernel
theorem d_MO_half_143 : decode b_MO_half 143 = .ok (.iconst 0, 1) := by decide +kernel
theorem d_MO_half_144 : decode b_MO_half 144 = .ok (.iastore, 1) := by decide +kernel
theorem d_MO_half_145 : decode b_MO_half 145 = .ok (.aload_n 0, 1) := by decide +kernel
theorem d_MO_half_146 : decode b_MO_half 146 = .ok (.bipush 13, 2) := by decide +kernel
theorem d_MO_half_148 : decode b_MO_half 148 = .ok (.bipush 14, 2) := by decide +kernel
theorem d_MO_half_150 : decode b_MO_half 150 = .ok (.iconst 1, 1) := by decide +kernel
theorem d_MO_half_151 : decode b_MO_half 151 = .ok (.invokevirtual 75, 3) := by decide +kernel
theorem d_MO_half_154 : decode b_MO_half 154 = .ok (.aload_n 0, 1) := by decide +kernel
theorem d_MO_half_155 : decode b_MO_half 155 = .ok (.iload_n 1, 1) := by decide +kernel
theorem d_MO_half_156 : decode b_MO_half 156 = .ok (.bipush 17, 2) := by decide +kernel
theorem d_MO_half_158 : decode b_MO_half 158 = .ok (.invokevirtual 46, 3) := by decide +kernel
theorem d_MO_half_161 : decode b_MO_half 161 = .ok (.return_, 1) := by decide +kernel
theorem d_MO_half_162 : decode b_MO_half 162 = .ok (.aload_n 0, 1) := by decide +kernel
theorem d_MO_half_163 : decode b_MO_half 163 = .ok (.iload_n 1, 1) := by decide +kernel
theorem d_MO_half_164 : decode b_MO_half 164 = .ok (.bipush 13, 2) := by decide +kernel
theorem d_MO_half_166 : decode b_MO_half 166 = .ok (.invokevirtual 46, 3) := by decide +kernel
theorem d_MO_half_169 : decode b_MO_half 169 = .ok (.return_, 1) := by decide +kernel
theorem d_MO_divide_0 : decode b_MO_divide 0 = .ok (.aload_n 0, 1) := by decide +kernel
theorem d_MO_divide_1 : decode b_MO_divide 1 = .ok (.iload_n 1, 1) := by decide +kernel
theorem d_MO_divide_2 : decode b_MO_divide 2 = .ok (.invokestatic 67, 3) := by decide +kernel
theorem d_MO_divide_5 : decode b_MO_divide 5 = .ok (.ifCond .ne 30, 3) := by decide +kernel
theorem d_MO_divide_8 : decode b_MO_divide 8 = .ok (.iload_n 2, 1) := by decide +kernel
theorem d_MO_divide_9 : decode b_MO_divide 9 = .ok (.invokestatic 67, 3) := by decide +kernel
theorem d_MO_divide_12 : decode b_MO_divide 12 = .ok (.ifCond .ne 23, 3) := by decide +kernel
theorem d_MO_divide_15 : decode b_MO_divide 15 = .ok (.iload_n 3, 1) := by decide +kernel
theorem d_MO_divide_16 : decode b_MO_divide 16 = .ok (.invokestatic 67, 3) := by decide +kernel
theorem d_MO_divide_19 : decode b_MO_divide 19 = .ok (.ifCond .ne 16, 3) := by decide +kernel
theorem d_MO_divide_22 : decode b_MO_divide 22 = .ok (.iload 4, 2) := by decide +kernel
theorem d_MO_divide_24 : decode b_MO_divide 24 = .ok (.invokestatic 67, 3) := by decide +kernel
theorem d_MO_divide_27 : decode b_MO_divide 27 = .ok (.ifCond .ne 8, 3) := by decide +kernel
theorem d_MO_divide_30 : decode b_MO_divide 30 = .ok (.iload_n 1, 1) := by decide +kernel
theorem d_MO_divide_31 : decode b_MO_divide 31 = .ok (.iload_n 2, 1) := by decide +kernel
theorem d_MO_divide_32 : decode b_MO_divide 32 = .ok (.if_icmp .ne 7, 3) := by decide +kernel
theorem d_MO_divide_35 : decode b_MO_divide 35 = .ok (.iconst 1, 1) := by decide +kernel
theorem d_MO_divide_36 : decode b_MO_divide 36 = .ok (.goto 4, 3) := by decide +kernel
theorem d_MO_divide_39 : decode b_MO_divide 39 = .ok (.iconst 0, 1) := by decide +kernel
theorem d_MO_divide_40 : decode b_MO_divide 40 = .ok (.iconst 1, 1) := by decide +kernel
theorem d_MO_divide_41 : decode b_MO_divide 41 = .ok (.invokevirtual 71, 3) := by decide +kernel
theorem d_MO_divide_44 : decode b_MO_divide 44 = .ok (.ifCond .ne 29, 3) := by decide +kernel
theorem d_MO_divide_47 : decode b_MO_divide 47 = .ok (.aload_n 0, 1) := by decide +kernel
theorem d_MO_divide_48 : decode b_MO_divide 48 = .ok (.aload_n 0, 1) := by decide +kernel
theorem d_MO_divide_49 : decode b_MO_divide 49 = .ok (.getfield 16, 3) := by decide +kernel
theorem d_MO_divide_52 : decode b_MO_divide 52 = .ok (.iload 4, 2) := by decide +kernel
theorem d_MO_divide_54 : decode b_MO_divide 54 = .ok (.bipush 15, 2) := by decide +kernel
theorem d_MO_divide_56 : decode b_MO_divide 56 = .ok (.iand, 1) := by decide +kernel
theorem d_MO_divide_57 : decode b_MO_divide 57 = .ok (.iaload, 1) := by decide +kernel
theorem d_MO_divide_58 : decode b_MO_divide 58 = .ok (.ifCond .ne 7, 3) := by decide +kernel
theorem d_MO_divide_61 : decode b_MO_divide 61 = .ok (.iconst 1, 1) := by decide +kernel
theorem d_MO_divide_62 : decode b_MO_divide 62 = .ok (.goto 4, 3) := by decide +kernel
theorem d_MO_divide_65 : decode b_MO_divide 65 = .ok (.iconst 0, 1) := by decide +kernel
theorem d_MO_divide_66 : decode b_MO_divide 66 = .ok (.iconst 2, 1) := by decide +kernel
theorem d_MO_divide_67 : decode b_MO_divide 67 = .ok (.invokevirtual 71, 3) := by decide +kernel
theorem d_MO_divide_70 : decode b_MO_divide 70 = .ok (.ifCond .eq 4, 3) := by decide +kernel
theorem d_MO_divide_73 : decode b_MO_divide 73 = .ok (.return_, 1) := by decide +kernel
theorem d_MO_divide_74 : decode b_MO_divide 74 = .ok (.aload_n 0, 1) := by decide +kernel
theorem d_MO_divide_75 : decode b_MO_divide 75 = .ok (.getfield 16, 3) := by decide +kernel
theorem d_MO_divide_78 : decode b_MO_divide 78 = .ok (.iload_n 3, 1) := by decide +kernel
theorem d_MO_divide_79 : decode b_MO_divide 79 = .ok (.iaload, 1) := by decide +kernel
theorem d_MO_divide_80 : decode b_MO_divide 80 = .ok (.istore 5, 2) := by decide +kernel
theorem d_MO_divide_82 : decode b_MO_divide 82 = .ok (.aload_n 0, 1) := by decide +kernel
theorem d_MO_divide_83 : decode b_MO_divide 83 = .ok (.getfield 16, 3) := by decide +kernel
theorem d_MO_divide_86 : decode b_MO_divide 86 = .ok (.iload 4, 2) := by decide +kernel
theorem d_MO_divide_88 : decode b_MO_divide 88 = .ok (.iaload, 1) := by decide +kernel
theorem d_MO_divide_89 : decode b_MO_divide 89 = .ok (.istore 6, 2) := by decide +kernel
theorem d_MO_divide_91 : decode b_MO_divide 91 = .ok (.aload_n 0, 1) := by decide +kernel
theorem d_MO_divide_92 : decode b_MO_divide 92 = .ok (.iload_n 3, 1) := by decide +kernel
theorem d_MO_divide_93 : decode b_MO_divide 93 = .ok (.iload 4, 2) := by decide +kernel
theorem d_MO_divide_95 : decode b_MO_divide 95 = .ok (.invokevirtual 93, 3) := by decide +kernel
theorem d_MO_divide_98 : decode b_MO_divide 98 = .ok (.aload_n 0, 1) := by decide +kernel
theorem d_MO_divide_99 : decode b_MO_divide 99 = .ok (.bipush 14, 2) := by decide +kernel
theorem d_MO_divide_101 : decode b_MO_divide 101 = .ok (.iload 4, 2) := by decide +kernel
theorem d_MO_divide_103 : decode b_MO_divide 103 = .ok (.invokevirtual 46, 3) := by decide +kernel
theorem d_MO_divide_106 : decode b_MO_divide 106 = .ok (.aload_n 0, 1) := by decide +kernel
theorem d_MO_divide_107 : decode b_MO_divide 107 = .ok (.getfield 16, 3) := by decide +kernel
theorem d_MO_divide_110 : decode b_MO_divide 110 = .ok (.bipush 14, 2) := by decide +kernel
theorem d_MO_divide_112 : decode b_MO_divide 112 = .ok (.iconst 1, 1) := by decide +kernel
theorem d_MO_divide_113 : decode b_MO_divide 113 = .ok (.iastore, 1) := by decide +kernel
theorem d_MO_divide_114 : decode b_MO_divide 114 = .ok (.iload 5, 2) := by decide +kernel
theorem d_MO_divide_116 : decode b_MO_divide 116 = .ok (.ifCond .eq 14, 3) := by decide +kernel
theorem d_MO_divide_119 : decode b_MO_divide 119 = .ok (.iload 5, 2) := by decide +kernel
theorem d_MO_divide_121 : decode b_MO_divide 121 = .ok (.iload 6, 2) := by decide +kernel
theorem d_MO_divide_123 : decode b_MO_divide 123 = .ok (.if_icmp .eq 7, 3) := by decide +kernel
theorem d_MO_divide_126 : decode b_MO_divide 126 = .ok (.iconst 1, 1) := by decide +kernel
theorem d_MO_divide_127 : decode b_MO_divide 127 = .ok (.goto 4, 3) := by decide +kernel
theorem d_MO_divide_130 : decode b_MO_divide 130 = .ok (.iconst 0, 1) := by decide +kernel
theorem d_MO_divide_131 : decode b_MO_divide 131 = .ok (.istore 7, 2) := by decide +kernel
theorem d_MO_divide_133 : decode b_MO_divide 133 = .ok (.iload 7, 2) := by decide +kernel
theorem d_MO_divide_135 : decode b_MO_divide 135 = .ok (.ifCond .eq 54, 3) := by decide +kernel
theorem d_MO_divide_138 : decode b_MO_divide 138 = .ok (.aload_n 0, 1) := by decide +kernel
theorem d_MO_divide_139 : decode b_MO_divide 139 = .ok (.getfield 16, 3) := by decide +kernel
theorem d_MO_divide_142 : decode b_MO_divide 142 = .ok (.bipush 16, 2) := by decide +kernel
theorem d_MO_divide_144 : decode b_MO_divide 144 = .ok (.iaload, 1) := by decide +kernel
theorem d_MO_divide_145 : decode b_MO_divide 145 = .ok (.ifCond .le 44, 3) := by decide +kernel
theorem d_MO_divide_148 : decode b_MO_divide 148 = .ok (.aload_n 0, 1) := by decide +kernel
theorem d_MO_divide_149 : decode b_MO_divide 149 = .ok (.bipush 13, 2) := by decide +kernel
theorem d_MO_divide_151 : decode b_MO_divide 151 = .ok (.lconst 1, 1) := by decide +kernel
theorem d_MO_divide_152 : decode b_MO_divide 152 = .ok (.invokevirtual 25, 3) := by decide +kernel
theorem d_MO_divide_155 : decode b_MO_divide 155 = .ok (.aload_n 0, 1) := by decide +kernel
theorem d_MO_divide_156 : decode b_MO_divide 156 = .ok (.bipush 15, 2) := by decide +kernel
theorem d_MO_divide_158 : decode b_MO_divide 158 = .ok (.bipush 13, 2) := by decide +kernel
theorem d_MO_divide_160 : decode b_MO_divide 160 = .ok (.iconst 1, 1) := by decide +kernel
theorem d_MO_divide_161 : decode b_MO_divide 161 = .ok (.invokevirtual 75, 3) := by decide +kernel
theorem d_MO_divide_164 : decode b_MO_divide 164 = .ok (.aload_n 0, 1) := by decide +kernel
theorem d_MO_divide_165 : decode b_MO_divide 165 = .ok (.bipush 15, 2) := by decide +kernel
theorem d_MO_divide_167 : decode b_MO_divide 167 = .ok (.bipush 17, 2) := by decide +kernel
theorem d_MO_divide_169 : decode b_MO_divide 169 = .ok (.invokevirtual 46, 3) := by decide +kernel
theorem d_MO_divide_172 : decode b_MO_divide 172 = .ok (.aload_n 0, 1) := by decide +kernel
theorem d_MO_divide_173 : decode b_MO_divide 173 = .ok (.bipush 14, 2) := by decide +kernel
theorem d_MO_divide_175 : decode b_MO_divide 175 = .ok (.bipush 16, 2) := by decide +kernel
theorem d_MO_divide_177 : decode b_MO_divide 177 = .ok (.iconst (-1), 1) := by decide +kernel
theorem d_MO_divide_178 : decode b_MO_divide 178 = .ok (.invokevirtual 75, 3) := by decide +kernel
theorem d_MO_divide_181 : decode b_MO_divide 181 = .ok (.aload_n 0, 1) := by decide +kernel
theorem d_MO_divide_182 : decode b_MO_divide 182 = .ok (.bipush 16, 2) := by decide +kernel
theorem d_MO_divide_184 : decode b_MO_divide 184 = .ok (.bipush 17, 2) := by decide +kernel
theorem d_MO_divide_186 : decode b_MO_divide 186 = .ok (.invokevirtual 46, 3) := by decide +kernel
theorem d_MO_divide_189 : decode b_MO_divide 189 = .ok (.iload 7, 2) := by decide +kernel
theorem d_MO_divide_191 : decode b_MO_divide 191 = .ok (.ifCond .eq 18, 3) := by decide +kernel
theorem d_MO_divide_194 : decode b_MO_divide 194 = .ok (.aload_n 0, 1) := by decide +kernel
theorem d_MO_divide_195 : decode b_MO_divide 195 = .ok (.getfield 16, 3) := by decide +kernel
theorem d_MO_divide_198 : decode b_MO_divide 198 = .ok (.bipush 15, 2) := by decide +kernel
theorem d_MO_divide_200 : decode b_MO_divide 200 = .ok (.aload_n 0, 1) := by decide +kernel
theorem d_MO_divide_201 : decode b_MO_divide 201 = .ok (.getfield 16, 3) := by decide +kernel
theorem d_MO_divide_204 : decode b_MO_divide 204 = .ok (.bipush 15, 2) := by decide +kernel
theorem d_MO_divide_206 : decode b_MO_divide 206 = .ok (.iaload, 1) := by decide +kernel
theorem d_MO_divide_207 : decode b_MO_divide 207 = .ok (.ineg, 1) := by decide +kernel
theorem d_MO_divide_208 : decode b_MO_divide 208 = .ok (.iastore, 1) := by decide +kernel
theorem d_MO_divide_209 : decode b_MO_divide 209 = .ok (.iload 6, 2) := by decide +kernel
theorem d_MO_divide_211 : decode b_MO_divide 211 = .ok (.ifCond .ge 18, 3) := by decide +kernel
theorem d_MO_divide_214 : decode b_MO_divide 214 = .ok (.aload_n 0, 1) := by decide +kernel
theorem d_MO_divide_215 : decode b_MO_divide 215 = .ok (.getfield 16, 3) := by decide +kernel
theorem d_MO_divide_218 : decode b_MO_divide 218 = .ok (.bipush 16, 2) := by decide +kernel
theorem d_MO_divide_220 : decode b_MO_divide 220 = .ok (.aload_n 0, 1) := by decide +kernel
theorem d_MO_divide_221 : decode b_MO_divide 221 = .ok (.getfield 16, 3) := by decide +kernel
theorem d_MO_divide_224 : decode b_MO_divide 224 = .ok (.bipush 16, 2) := by decide +kernel
theorem d_MO_divide_226 : decode b_MO_divide 226 = .ok (.iaload, 1) := by decide +kernel
theorem d_MO_divide_227 : decode b_MO_divide 227 = .ok (.ineg, 1) := by decide +kernel
theorem d_MO_divide_228 : decode b_MO_divide 228 = .ok (.iastore, 1) := by decide +kernel
theorem d_MO_divide_229 : decode b_MO_divide 229 = .ok (.aload_n 0, 1) := by decide +kernel
theorem d_MO_divide_230 : decode b_MO_divide 230 = .ok (.iload_n 1, 1) := by decide +kernel
theorem d_MO_divide_231 : decode b_MO_divide 231 = .ok (.bipush 15, 2) := by decide +kernel
theorem d_MO_divide_233 : decode b_MO_divide 233 = .ok (.invokevirtual 46, 3) := by decide +kernel
theorem d_MO_divide_236 : decode b_MO_divide 236 = .ok (.aload_n 0, 1) := by decide +kernel
theorem d_MO_divide_237 : decode b_MO_divide 237 = .ok (.iload_n 2, 1) := by decide +kernel
theorem d_MO_divide_238 : decode b_MO_divide 238 = .ok (.bipush 16, 2) := by decide +kernel
theorem d_MO_divide_240 : decode b_MO_divide 240 = .ok (.invokevirtual 46, 3) := by decide +kernel
theorem d_MO_divide_243 : decode b_MO_divide 243 = .ok (.return_, 1) := by decide +kernel
theorem d_MO_gcd_0 : decode b_MO_gcd 0 = .ok (.aload_n 0, 1) := by decide +kernel
theorem d_MO_gcd_1 : decode b_MO_gcd 1 = .ok (.iload_n 1, 1) := by decide +kernel
theorem d_MO_gcd_2 : decode b_MO_gcd 2 = .ok (.invokestatic 67, 3) := by decide +kernel
theorem d_MO_gcd_5 : decode b_MO_gcd 5 = .ok (.ifCond .ne 17, 3) := by decide +kernel
theorem d_MO_gcd_8 : decode b_MO_gcd 8 = .ok (.iload_n 2, 1) := by decide +kernel
theorem d_MO_gcd_9 : decode b_MO_gcd 9 = .ok (.invokestatic 67, 3) := by decide +kernel
theorem d_MO_gcd_12 : decode b_MO_gcd 12 = .ok (.ifCond .ne 10, 3) := by decide +kernel
theorem d_MO_gcd_15 : decode b_MO_gcd 15 = .ok (.iload_n 3, 1) := by decide +kernel
theorem d_MO_gcd_16 : decode b_MO_gcd 16 = .ok (.invokestatic 67, 3) := by decide +kernel
theorem d_MO_gcd_19 : decode b_MO_gcd 19 = .ok (.ifCond .eq 7, 3) := by decide +kernel
theorem d_MO_gcd_22 : decode b_MO_gcd 22 = .ok (.iconst 1, 1) := by decide +kernel
theorem d_MO_gcd_23 : decode b_MO_gcd 23 = .ok (.goto 4, 3) := by decide +kernel
theorem d_MO_gcd_26 : decode b_MO_gcd 26 = .ok (.iconst 0, 1) := by decide +kernel
theorem d_MO_gcd_27 : decode b_MO_gcd 27 = .ok (.iconst 1, 1) := by decide +kernel
theorem d_MO_gcd_28 : decode b_MO_gcd 28 = .ok (.invokevirtual 71, 3) := by decide +kernel
theorem d_MO_gcd_31 : decode b_MO_gcd 31 = .ok (.ifCond .eq 4, 3) := by decide +kernel
theorem d_MO_gcd_34 : decode b_MO_gcd 34 = .ok (.return_, 1) := by decide +kernel
theorem d_MO_gcd_35 : decode b_MO_gcd 35 = .ok (.aload_n 0, 1) := by decide +kernel
theorem d_MO_gcd_36 : decode b_MO_gcd 36 = .ok (.bipush 13, 2) := by decide +kernel
theorem d_MO_gcd_38 : decode b_MO_gcd 38 = .ok (.iload_n 2, 1) := by decide +kernel
theorem d_MO_gcd_39 : decode b_MO_gcd 39 = .ok (.invokevirtual 46, 3) := by decide +kernel
theorem d_MO_gcd_42 : decode b_MO_gcd 42 = .ok (.aload_n 0, 1) := by decide +kernel
theorem d_MO_gcd_43 : decode b_MO_gcd 43 = .ok (.bipush 14, 2) := by decide +kernel
theorem d_MO_gcd_45 : decode b_MO_gcd 45 = .ok (.iload_n 3, 1) := by decide +kernel
theorem d_MO_gcd_46 : decode b_MO_gcd 46 = .ok (.invokevirtual 46, 3) := by decide +kernel
theorem d_MO_gcd_49 : decode b_MO_gcd 49 = .ok (.aload_n 0, 1) := by decide +kernel
theorem d_MO_gcd_50 : decode b_MO_gcd 50 = .ok (.getfield 13, 3) := by decide +kernel
theorem d_MO_gcd_53 : decode b_MO_gcd 53 = .ok (.bipush 14, 2) := by decide +kernel
theorem d_MO_gcd_55 : decode b_MO_gcd 55 = .ok (.iaload, 1) := by decide +kernel
theorem d_MO_gcd_56 : decode b_MO_gcd 56 = .ok (.ifCond .le 30, 3) := by decide +kernel
theorem d_MO_gcd_59 : decode b_MO_gcd 59 = .ok (.aload_n 0, 1) := by decide +kernel
theorem d_MO_gcd_60 : decode b_MO_gcd 60 = .ok (.bipush 13, 2) := by decide +kernel
theorem d_MO_gcd_62 : decode b_MO_gcd 62 = .ok (.bipush 14, 2) := by decide +kernel
theorem d_MO_gcd_64 : decode b_MO_gcd 64 = .ok (.invokevirtual 93, 3) := by decide +kernel
theorem d_MO_gcd_67 : decode b_MO_gcd 67 = .ok (.aload_n 0, 1) := by decide +kernel
theorem d_MO_gcd_68 : decode b_MO_gcd 68 = .ok (.bipush 13, 2) := by decide +kernel
theorem d_MO_gcd_70 : decode b_MO_gcd 70 = .ok (.bipush 14, 2) := by decide +kernel
theorem d_MO_gcd_72 : decode b_MO_gcd 72 = .ok (.invokevirtual 46, 3) := by decide +kernel
theorem d_MO_gcd_75 : decode b_MO_gcd 75 = .ok (.aload_n 0, 1) := by decide +kernel
theorem d_MO_gcd_76 : decode b_MO_gcd 76 = .ok (.bipush 14, 2) := by decide +kernel
theorem d_MO_gcd_78 : decode b_MO_gcd 78 = .ok (.bipush 16, 2) := by decide +kernel
theorem d_MO_gcd_80 : decode b_MO_gcd 80 = .ok (.invokevirtual 46, 3) := by decide +kernel
theorem d_MO_gcd_83 : decode b_MO_gcd 83 = .ok (.goto (-34), 3) := by decide +kernel
theorem d_MO_gcd_86 : decode b_MO_gcd 86 = .ok (.aload_n 0, 1) := by decide +kernel
theorem d_MO_gcd_87 : decode b_MO_gcd 87 = .ok (.getfield 16, 3) := by decide +kernel
theorem d_MO_gcd_90 : decode b_MO_gcd 90 = .ok (.bipush 13, 2) := by decide +kernel
theorem d_MO_gcd_92 : decode b_MO_gcd 92 = .ok (.aload_n 0, 1) := by decide +kernel
theorem d_MO_gcd_93 : decode b_MO_gcd 93 = .ok (.getfield 13, 3) := by decide +kernel
theorem d_MO_gcd_96 : decode b_MO_gcd 96 = .ok (.bipush 13, 2) := by decide +kernel
theorem d_MO_gcd_98 : decode b_MO_gcd 98 = .ok (.iaload, 1) := by decide +kernel
theorem d_MO_gcd_99 : decode b_MO_gcd 99 = .ok (.ifCond .le 7, 3) := by decide +kernel
theorem d_MO_gcd_102 : decode b_MO_gcd 102 = .ok (.iconst 1, 1) := by decide +kernel
theorem d_MO_gcd_103 : decode b_MO_gcd 103 = .ok (.goto 4, 3) := by decide +kernel
theorem d_MO_gcd_106 : decode b_MO_gcd 106 = .ok (.iconst 0, 1) := by decide +kernel
theorem d_MO_gcd_107 : decode b_MO_gcd 107 = .ok (.iastore, 1) := by decide +kernel
theorem d_MO_gcd_108 : decode b_MO_gcd 108 = .ok (.aload_n 0, 1) := by decide +kernel
theorem d_MO_gcd_109 : decode b_MO_gcd 109 = .ok (.iload_n 1, 1) := by decide +kernel
theorem d_MO_gcd_110 : decode b_MO_gcd 110 = .ok (.bipush 13, 2) := by decide +kernel
theorem d_MO_gcd_112 : decode b_MO_gcd 112 = .ok (.invokevirtual 46, 3) := by decide +kernel
theorem d_MO_gcd_115 : decode b_MO_gcd 115 = .ok (.return_, 1) := by decide +kernel
theorem d_MO_negate_0 : decode b_MO_negate 0 = .ok (.aload_n 0, 1) := by decide +kernel
theorem d_MO_negate_1 : decode b_MO_negate 1 = .ok (.iload_n 1, 1) := by decide +kernel
theorem d_MO_negate_2 : decode b_MO_negate 2 = .ok (.invokestatic 67, 3) := by decide +kernel
theorem d_MO_negate_5 : decode b_MO_negate 5 = .ok (.ifCond .ne 10, 3) := by decide +kernel
theorem d_MO_negate_8 : decode b_MO_negate 8 = .ok (.iload_n 2, 1) := by decide +kernel
theorem d_MO_negate_9 : decode b_MO_negate 9 = .ok (.invokestatic 67, 3) := by decide +kernel
theorem d_MO_negate_12 : decode b_MO_negate 12 = .ok (.ifCond .eq 7, 3) := by decide +kernel
theorem d_MO_negate_15 : decode b_MO_negate 15 = .ok (.iconst 1, 1) := by decide +kernel
theorem d_MO_negate_16 : decode b_MO_negate 16 = .ok (.goto 4, 3) := by decide +kernel
theorem d_MO_negate_19 : decode b_MO_negate 19 = .ok (.iconst 0, 1) := by decide +kernel
theorem d_MO_negate_20 : decode b_MO_negate 20 = .ok (.iconst 1, 1) := by decide +kernel
theorem d_MO_negate_21 : decode b_MO_negate 21 = .ok (.invokevirtual 71, 3) := by decide +kernel
theorem d_MO_negate_24 : decode b_MO_negate 24 = .ok (.ifCond .eq 4, 3) := by decide +kernel
theorem d_MO_negate_27 : decode b_MO_negate 27 = .ok (.return_, 1) := by decide +kernel
theorem d_MO_negate_28 : decode b_MO_negate 28 = .ok (.aload_n 0, 1) := by decide +kernel
theorem d_MO_negate_29 : decode b_MO_negate 29 = .ok (.bipush 13, 2) := by decide +kernel
theorem d_MO_negate_31 : decode b_MO_negate 31 = .ok (.iload_n 2, 1) := by decide +kernel
theorem d_MO_negate_32 : decode b_MO_negate 32 = .ok (.invokevirtual 46, 3) := by decide +kernel
theorem d_MO_negate_35 : decode b_MO_negate 35 = .ok (.aload_n 0, 1) := by decide +kernel
theorem d_MO_negate_36 : decode b_MO_negate 36 = .ok (.getfield 16, 3) := by decide +kernel
theorem d_MO_negate_39 : decode b_MO_negate 39 = .ok (.bipush 13, 2) := by decide +kernel
theorem d_MO_negate_41 : decode b_MO_negate 41 = .ok (.aload_n 0, 1) := by decide +kernel
theorem d_MO_negate_42 : decode b_MO_negate 42 = .ok (.getfield 16, 3) := by decide +kernel
theorem d_MO_negate_45 : decode b_MO_negate 45 = .ok (.bipush 13, 2) := by decide +kernel
theorem d_MO_negate_47 : decode b_MO_negate 47 = .ok (.iaload, 1) := by decide +kernel
theorem d_MO_negate_48 : decode b_MO_negate 48 = .ok (.ineg, 1) := by decide +kernel
theorem d_MO_negate_49 : decode b_MO_negate 49 = .ok (.iastore, 1) := by decide +kernel
theorem d_MO_negate_50 : decode b_MO_negate 50 = .ok (.aload_n 0, 1) := by decide +kernel
theorem d_MO_negate_51 : decode b_MO_negate 51 = .ok (.iload_n 1, 1) := by decide +kernel
theorem d_MO_negate_52 : decode b_MO_negate 52 = .ok (.bipush 13, 2) := by decide +kernel
theorem d_MO_negate_54 : decode b_MO_negate 54 = .ok (.invokevirtual 46, 3) := by decide +kernel
theorem d_MO_negate_57 : decode b_MO_negate 57 = .ok (.return_, 1) := by decide +kernel
theorem d_MO_compare_0 : decode b_MO_compare 0 = .ok (.aload_n 0, 1) := by decide +kernel
theorem d_MO_compare_1 : decode b_MO_compare 1 = .ok (.iload_n 1, 1) := by decide +kernel
theorem d_MO_compare_2 : decode b_MO_compare 2 = .ok (.invokestatic 67, 3) := by decide +kernel
theorem d_MO_compare_5 : decode b_MO_compare 5 = .ok (.ifCond .ne 10, 3) := by decide +kernel
theorem d_MO_compare_8 : decode b_MO_compare 8 = .ok (.iload_n 2, 1) := by decide +kernel
theorem d_MO_compare_9 : decode b_MO_compare 9 = .ok (.invokestatic 67, 3) := by decide +kernel
theorem d_MO_compare_12 : decode b_MO_compare 12 = .ok (.ifCond .eq 7, 3) := by decide +kernel
theorem d_MO_compare_15 : decode b_MO_compare 15 = .ok (.iconst 1, 1) := by decide +kernel
theorem d_MO_compare_16 : decode b_MO_compare 16 = .ok (.goto 4, 3) := by decide +kernel
theorem d_MO_compare_19 : decode b_MO_compare 19 = .ok (.iconst 0, 1) := by decide +kernel
theorem d_MO_compare_20 : decode b_MO_compare 20 = .ok (.iconst 1, 1) := by decide +kernel
theorem d_MO_compare_21 : decode b_MO_compare 21 = .ok (.invokevirtual 71, 3) := by decide +kernel
theorem d_MO_compare_24 : decode b_MO_compare 24 = .ok (.ifCond .eq 5, 3) := by decide +kernel
theorem d_MO_compare_27 : decode b_MO_compare 27 = .ok (.iconst 0, 1) := by decide +kernel
theorem d_MO_compare_28 : decode b_MO_compare 28 = .ok (.ireturn, 1) := by decide +kernel
theorem d_MO_compare_29 : decode b_MO_compare 29 = .ok (.aload_n 0, 1) := by decide +kernel
theorem d_MO_compare_30 : decode b_MO_compare 30 = .ok (.getfield 16, 3) := by decide +kernel
theorem d_MO_compare_33 : decode b_MO_compare 33 = .ok (.iload_n 1, 1) := by decide +kernel
theorem d_MO_compare_34 : decode b_MO_compare 34 = .ok (.iaload, 1) := by decide +kernel
theorem d_MO_compare_35 : decode b_MO_compare 35 = .ok (.aload_n 0, 1) := by decide +kernel
theorem d_MO_compare_36 : decode b_MO_compare 36 = .ok (.getfield 16, 3) := by decide +kernel
theorem d_MO_compare_39 : decode b_MO_compare 39 = .ok (.iload_n 2, 1) := by decide +kernel
theorem d_MO_compare_40 : decode b_MO_compare 40 = .ok (.iaload, 1) := by decide +kernel
theorem d_MO_compare_41 : decode b_MO_compare 41 = .ok (.if_icmp .eq 24, 3) := by decide +kernel
theorem d_MO_compare_44 : decode b_MO_compare 44 = .ok (.aload_n 0, 1) := by decide +kernel
theorem d_MO_compare_45 : decode b_MO_compare 45 = .ok (.getfield 16, 3) := by decide +kernel
theorem d_MO_compare_48 : decode b_MO_compare 48 = .ok (.iload_n 1, 1) := by decide +kernel
theorem d_MO_compare_49 : decode b_MO_compare 49 = .ok (.iaload, 1) := by decide +kernel
theorem d_MO_compare_50 : decode b_MO_compare 50 = .ok (.aload_n 0, 1) := by decide +kernel
theorem d_MO_compare_51 : decode b_MO_compare 51 = .ok (.getfield 16, 3) := by decide +kernel
theorem d_MO_compare_54 : decode b_MO_compare 54 = .ok (.iload_n 2, 1) := by decide +kernel
theorem d_MO_compare_55 : decode b_MO_compare 55 = .ok (.iaload, 1) := by decide +kernel
theorem d_MO_compare_56 : decode b_MO_compare 56 = .ok (.if_icmp .ge 7, 3) := by decide +kernel
theorem d_MO_compare_59 : decode b_MO_compare 59 = .ok (.iconst (-1), 1) := by decide +kernel
theorem d_MO_compare_60 : decode b_MO_compare 60 = .ok (.goto 4, 3) := by decide +kernel
theorem d_MO_compare_63 : decode b_MO_compare 63 = .ok (.iconst 1, 1) := by decide +kernel
theorem d_MO_compare_64 : decode b_MO_compare 64 = .ok (.ireturn, 1) := by decide +kernel
theorem d_MO_compare_65 : decode b_MO_compare 65 = .ok (.aload_n 0, 1) := by decide +kernel
theorem d_MO_compare_66 : decode b_MO_compare 66 = .ok (.getfield 16, 3) := by decide +kernel
theorem d_MO_compare_69 : decode b_MO_compare 69 = .ok (.iload_n 1, 1) := by decide +kernel
theorem d_MO_compare_70 : decode b_MO_compare 70 = .ok (.iaload, 1) := by decide +kernel
theorem d_MO_compare_71 : decode b_MO_compare 71 = .ok (.aload_n 0, 1) := by decide +kernel
theorem d_MO_compare_72 : decode b_MO_compare 72 = .ok (.iload_n 1, 1) := by decide +kernel
theorem d_MO_compare_73 : decode b_MO_compare 73 = .ok (.iload_n 2, 1) := by decide +kernel
theorem d_MO_compare_74 : decode b_MO_compare 74 = .ok (.invokevirtual 53, 3) := by decide +kernel
theorem d_MO_compare_77 : decode b_MO_compare 77 = .ok (.imul, 1) := by decide +kernel
theorem d_MO_compare_78 : decode b_MO_compare 78 = .ok (.ireturn, 1) := by decide +kernel
theorem d_MO_twice_0 : decode b_MO_twice 0 = .ok (.lload_n 0, 1) := by decide +kernel
theorem d_MO_twice_1 : decode b_MO_twice 1 = .ok (.lload 4, 2) := by decide +kernel
theorem d_MO_twice_3 : decode b_MO_twice 3 = .ok (.lload_n 2, 1) := by decide +kernel
theorem d_MO_twice_4 : decode b_MO_twice 4 = .ok (.lsub, 1) := by decide +kernel
theorem d_MO_twice_5 : decode b_MO_twice 5 = .ok (.lcmp, 1) := by decide +kernel
theorem d_MO_twice_6 : decode b_MO_twice 6 = .ok (.ifCond .lt 12, 3) := by decide +kernel
theorem d_MO_twice_9 : decode b_MO_twice 9 = .ok (.lload_n 0, 1) := by decide +kernel
theorem d_MO_twice_10 : decode b_MO_twice 10 = .ok (.lload 4, 2) := by decide +kernel
theorem d_MO_twice_12 : decode b_MO_twice 12 = .ok (.lload_n 2, 1) := by decide +kernel
theorem d_MO_twice_13 : decode b_MO_twice 13 = .ok (.lsub, 1) := by decide +kernel
theorem d_MO_twice_14 : decode b_MO_twice 14 = .ok (.lsub, 1) := by decide +kernel
theorem d_MO_twice_15 : decode b_MO_twice 15 = .ok (.goto 6, 3) := by decide +kernel
theorem d_MO_twice_18 : decode b_MO_twice 18 = .ok (.lload_n 0, 1) := by decide +kernel
theorem d_MO_twice_19 : decode b_MO_twice 19 = .ok (.lload_n 2, 1) := by decide +kernel
theorem d_MO_twice_20 : decode b_MO_twice 20 = .ok (.ladd, 1) := by decide +kernel
theorem d_MO_twice_21 : decode b_MO_twice 21 = .ok (.lreturn, 1) := by decide +kernel
theorem d_MO_rest_0 : decode b_MO_rest 0 = .ok (.aload_n 0, 1) := by decide +kernel
theorem d_MO_rest_1 : decode b_MO_rest 1 = .ok (.iload_n 1, 1) := by decide +kernel
theorem d_MO_rest_2 : decode b_MO_rest 2 = .ok (.invokestatic 67, 3) := by decide +kernel
theorem d_MO_rest_5 : decode b_MO_rest 5 = .ok (.ifCond .ne 9, 3) := by decide +kernel
theorem d_MO_rest_8 : decode b_MO_rest 8 = .ok (.lload_n 2, 1) := by decide +kernel
theorem d_MO_rest_9 : decode b_MO_rest 9 = .ok (.lconst 1, 1) := by decide +kernel
theorem d_MO_rest_10 : decode b_MO_rest 10 = .ok (.lcmp, 1) := by decide +kernel
theorem d_MO_rest_11 : decode b_MO_rest 11 = .ok (.ifCond .ge 7, 3) := by decide +kernel
theorem d_MO_rest_14 : decode b_MO_rest 14 = .ok (.iconst 1, 1) := by decide +kernel
theorem d_MO_rest_15 : decode b_MO_rest 15 = .ok (.goto 4, 3) := by decide +kernel
theorem d_MO_rest_18 : decode b_MO_rest 18 = .ok (.iconst 0, 1) := by decide +kernel
theorem d_MO_rest_19 : decode b_MO_rest 19 = .ok (.iconst 1, 1) := by decide +kernel
theorem d_MO_rest_20 : decode b_MO_rest 20 = .ok (.invokevirtual 71, 3) := by decide +kernel
theorem d_MO_rest_23 : decode b_MO_rest 23 = .ok (.ifCond .eq 5, 3) := by decide +kernel
theorem d_MO_rest_26 : decode b_MO_rest 26 = .ok (.lconst 0, 1) := by decide +kernel
theorem d_MO_rest_27 : decode b_MO_rest 27 = .ok (.lreturn, 1) := by decide +kernel
theorem d_MO_rest_28 : decode b_MO_rest 28 = .ok (.lconst 0, 1) := by decide +kernel
theorem d_MO_rest_29 : decode b_MO_rest 29 = .ok (.lstore 4, 2) := by decide +kernel
theorem d_MO_rest_31 : decode b_MO_rest 31 = .ok (.aload_n 0, 1) := by decide +kernel
theorem d_MO_rest_32 : decode b_MO_rest 32 = .ok (.getfield 13, 3) := by decide +kernel
theorem d_MO_rest_35 : decode b_MO_rest 35 = .ok (.iload_n 1, 1) := by decide +kernel
theorem d_MO_rest_36 : decode b_MO_rest 36 = .ok (.iaload, 1) := by decide +kernel
theorem d_MO_rest_37 : decode b_MO_rest 37 = .ok (.iconst 1, 1) := by decide +kernel
theorem d_MO_rest_38 : decode b_MO_rest 38 = .ok (.isub, 1) := by decide +kernel
theorem d_MO_rest_39 : decode b_MO_rest 39 = .ok (.istore 6, 2) := by decide +kernel
theorem d_MO_rest_41 : decode b_MO_rest 41 = .ok (.iload 6, 2) := by decide +kernel
theorem d_MO_rest_43 : decode b_MO_rest 43 = .ok (.ifCond .lt 77, 3) := by decide +kernel
theorem d_MO_rest_46 : decode b_MO_rest 46 = .ok (.lconst 0, 1) := by decide +kernel
theorem d_MO_rest_47 : decode b_MO_rest 47 = .ok (.lstore 7, 2) := by decide +kernel
theorem d_MO_rest_49 : decode b_MO_rest 49 = .ok (.bipush 13, 2) := by decide +kernel
theorem d_MO_rest_51 : decode b_MO_rest 51 = .ok (.istore 9, 2) := by decide +kernel
theorem d_MO_rest_53 : decode b_MO_rest 53 = .ok (.iload 9, 2) := by decide +kernel
theorem d_MO_rest_55 : decode b_MO_rest 55 = .ok (.ifCond .lt 41, 3) := by decide +kernel
theorem d_MO_rest_58 : decode b_MO_rest 58 = .ok (.lload 7, 2) := by decide +kernel
theorem d_MO_rest_60 : decode b_MO_rest 60 = .ok (.lload 7, 2) := by decide +kernel
theorem d_MO_rest_62 : decode b_MO_rest 62 = .ok (.lload_n 2, 1) := by decide +kernel
theorem d_MO_rest_63 : decode b_MO_rest 63 = .ok (.invokestatic 96, 3) := by decide +kernel
theorem d_MO_rest_66 : decode b_MO_rest 66 = .ok (.lstore 7, 2) := by decide +kernel
theorem d_MO_rest_68 : decode b_MO_rest 68 = .ok (.sipush 10000, 3) := by decide +kernel
theorem d_MO_rest_71 : decode b_MO_rest 71 = .ok (.iload 9, 2) := by decide +kernel
theorem d_MO_rest_73 : decode b_MO_rest 73 = .ok (.ishr, 1) := by decide +kernel
theorem d_MO_rest_74 : decode b_MO_rest 74 = .ok (.iconst 1, 1) := by decide +kernel
theorem d_MO_rest_75 : decode b_MO_rest 75 = .ok (.iand, 1) := by decide +kernel
theorem d_MO_rest_76 : decode b_MO_rest 76 = .ok (.iconst 1, 1) := by decide +kernel
theorem d_MO_rest_77 : decode b_MO_rest 77 = .ok (.if_icmp .ne 13, 3) := by decide +kernel
theorem d_MO_rest_80 : decode b_MO_rest 80 = .ok (.lload 7, 2) := by decide +kernel
theorem d_MO_rest_82 : decode b_MO_rest 82 = .ok (.lload 4, 2) := by decide +kernel
theorem d_MO_rest_84 : decode b_MO_rest 84 = .ok (.lload_n 2, 1) := by decide +kernel
theorem d_MO_rest_85 : decode b_MO_rest 85 = .ok (.invokestatic 96, 3) := by decide +kernel
theorem d_MO_rest_88 : decode b_MO_rest 88 = .ok (.lstore 7, 2) := by decide +kernel
theorem d_MO_rest_90 : decode b_MO_rest 90 = .ok (.iinc 9 (-1), 3) := by decide +kernel
theorem d_MO_rest_93 : decode b_MO_rest 93 = .ok (.goto (-40), 3) := by decide +kernel
theorem d_MO_rest_96 : decode b_MO_rest 96 = .ok (.lload 7, 2) := by decide +kernel
theorem d_MO_rest_98 : decode b_MO_rest 98 = .ok (.aload_n 0, 1) := by decide +kernel
theorem d_MO_rest_99 : decode b_MO_rest 99 = .ok (.iload_n 1, 1) := by decide +kernel
theorem d_MO_rest_100 : decode b_MO_rest 100 = .ok (.iload 6, 2) := by decide +kernel
theorem d_MO_rest_102 : decode b_MO_rest 102 = .ok (.invokevirtual 39, 3) := by decide +kernel
theorem d_MO_rest_105 : decode b_MO_rest 105 = .ok (.i2l, 1) := by decide +kernel
theorem d_MO_rest_106 : decode b_MO_rest 106 = .ok (.lload_n 2, 1) := by decide +kernel
theorem d_MO_rest_107 : decode b_MO_rest 107 = .ok (.lrem, 1) := by decide +kernel
theorem d_MO_rest_108 : decode b_MO_rest 108 = .ok (.lload_n 2, 1) := by decide +kernel
theorem d_MO_rest_109 : decode b_MO_rest 109 = .ok (.invokestatic 96, 3) := by decide +kernel
theorem d_MO_rest_112 : decode b_MO_rest 112 = .ok (.lstore 4, 2) := by decide +kernel
theorem d_MO_rest_114 : decode b_MO_rest 114 = .ok (.iinc 6 (-1), 3) := by decide +kernel
theorem d_MO_rest_117 : decode b_MO_rest 117 = .ok (.goto (-76), 3) := by decide +kernel
theorem d_MO_rest_120 : decode b_MO_rest 120 = .ok (.aload_n 0, 1) := by decide +kernel
theorem d_MO_rest_121 : decode b_MO_rest 121 = .ok (.getfield 16, 3) := by decide +kernel
theorem d_MO_rest_124 : decode b_MO_rest 124 = .ok (.iload_n 1, 1) := by decide +kernel
theorem d_MO_rest_125 : decode b_MO_rest 125 = .ok (.iaload, 1) := by decide +kernel
theorem d_MO_rest_126 : decode b_MO_rest 126 = .ok (.ifCond .ge 17, 3) := by decide +kernel
theorem d_MO_rest_129 : decode b_MO_rest 129 = .ok (.lload 4, 2) := by decide +kernel
theorem d_MO_rest_131 : decode b_MO_rest 131 = .ok (.lconst 0, 1) := by decide +kernel
theorem d_MO_rest_132 : decode b_MO_rest 132 = .ok (.lcmp, 1) := by decide +kernel
theorem d_MO_rest_133 : decode b_MO_rest 133 = .ok (.ifCond .le 10, 3) := by decide +kernel
theorem d_MO_rest_136 : decode b_MO_rest 136 = .ok (.lload_n 2, 1) := by decide +kernel
theorem d_MO_rest_137 : decode b_MO_rest 137 = .ok (.lload 4, 2) := by decide +kernel
theorem d_MO_rest_139 : decode b_MO_rest 139 = .ok (.lsub, 1) := by decide +kernel
theorem d_MO_rest_140 : decode b_MO_rest 140 = .ok (.goto 5, 3) := by decide +kernel
theorem d_MO_rest_143 : decode b_MO_rest 143 = .ok (.lload 4, 2) := by decide +kernel
theorem d_MO_rest_145 : decode b_MO_rest 145 = .ok (.lreturn, 1) := by decide +kernel
theorem d_MO_isLong_0 : decode b_MO_isLong 0 = .ok (.aload_n 0, 1) := by decide +kernel
theorem d_MO_isLong_1 : decode b_MO_isLong 1 = .ok (.getfield 13, 3) := by decide +kernel
theorem d_MO_isLong_4 : decode b_MO_isLong 4 = .ok (.iload_n 1, 1) := by decide +kernel
theorem d_MO_isLong_5 : decode b_MO_isLong 5 = .ok (.iaload, 1) := by decide +kernel
theorem d_MO_isLong_6 : decode b_MO_isLong 6 = .ok (.iconst 5, 1) := by decide +kernel
theorem d_MO_isLong_7 : decode b_MO_isLong 7 = .ok (.if_icmp .le 5, 3) := by decide +kernel
theorem d_MO_isLong_10 : decode b_MO_isLong 10 = .ok (.iconst 0, 1) := by decide +kernel
theorem d_MO_isLong_11 : decode b_MO_isLong 11 = .ok (.ireturn, 1) := by decide +kernel
theorem d_MO_isLong_12 : decode b_MO_isLong 12 = .ok (.lconst 0, 1) := by decide +kernel
theorem d_MO_isLong_13 : decode b_MO_isLong 13 = .ok (.lstore_n 2, 1) := by decide +kernel
theorem d_MO_isLong_14 : decode b_MO_isLong 14 = .ok (.aload_n 0, 1) := by decide +kernel
theorem d_MO_isLong_15 : decode b_MO_isLong 15 = .ok (.getfield 13, 3) := by decide +kernel
theorem d_MO_isLong_18 : decode b_MO_isLong 18 = .ok (.iload_n 1, 1) := by decide +kernel
theorem d_MO_isLong_19 : decode b_MO_isLong 19 = .ok (.iaload, 1) := by decide +kernel
theorem d_MO_isLong_20 : decode b_MO_isLong 20 = .ok (.iconst 1, 1) := by decide +kernel
theorem d_MO_isLong_21 : decode b_MO_isLong 21 = .ok (.isub, 1) := by decide +kernel
theorem d_MO_isLong_22 : decode b_MO_isLong 22 = .ok (.istore 4, 2) := by decide +kernel
theorem d_MO_isLong_24 : decode b_MO_isLong 24 = .ok (.iload 4, 2) := by decide +kernel
theorem d_MO_isLong_26 : decode b_MO_isLong 26 = .ok (.ifCond .lt 47, 3) := by decide +kernel
theorem d_MO_isLong_29 : decode b_MO_isLong 29 = .ok (.lload_n 2, 1) := by decide +kernel
theorem d_MO_isLong_30 : decode b_MO_isLong 30 = .ok (.ldc2_w 100, 3) := by decide +kernel
theorem d_MO_isLong_33 : decode b_MO_isLong 33 = .ok (.aload_n 0, 1) := by decide +kernel
theorem d_MO_isLong_34 : decode b_MO_isLong 34 = .ok (.iload_n 1, 1) := by decide +kernel
theorem d_MO_isLong_35 : decode b_MO_isLong 35 = .ok (.iload 4, 2) := by decide +kernel
theorem d_MO_isLong_37 : decode b_MO_isLong 37 = .ok (.invokevirtual 39, 3) := by decide +kernel
theorem d_MO_isLong_40 : decode b_MO_isLong 40 = .ok (.i2l, 1) := by decide +kernel
theorem d_MO_isLong_41 : decode b_MO_isLong 41 = .ok (.ladd, 1) := by decide +kernel
theorem d_MO_isLong_42 : decode b_MO_isLong 42 = .ok (.ldc2_w 37, 3) := by decide +kernel
theorem d_MO_isLong_45 : decode b_MO_isLong 45 = .ok (.ldiv, 1) := by decide +kernel
theorem d_MO_isLong_46 : decode b_MO_isLong 46 = .ok (.lcmp, 1) := by decide +kernel
theorem d_MO_isLong_47 : decode b_MO_isLong 47 = .ok (.ifCond .ge 5, 3) := by decide +kernel
theorem d_MO_isLong_50 : decode b_MO_isLong 50 = .ok (.iconst 0, 1) := by decide +kernel
theorem d_MO_isLong_51 : decode b_MO_isLong 51 = .ok (.ireturn, 1) := by decide +kernel
theorem d_MO_isLong_52 : decode b_MO_isLong 52 = .ok (.lload_n 2, 1) := by decide +kernel
theorem d_MO_isLong_53 : decode b_MO_isLong 53 = .ok (.ldc2_w 37, 3) := by decide +kernel
theorem d_MO_isLong_56 : decode b_MO_isLong 56 = .ok (.lmul, 1) := by decide +kernel
theorem d_MO_isLong_57 : decode b_MO_isLong 57 = .ok (.aload_n 0, 1) := by decide +kernel
theorem d_MO_isLong_58 : decode b_MO_isLong 58 = .ok (.iload_n 1, 1) := by decide +kernel
theorem d_MO_isLong_59 : decode b_MO_isLong 59 = .ok (.iload 4, 2) := by decide +kernel
theorem d_MO_isLong_61 : decode b_MO_isLong 61 = .ok (.invokevirtual 39, 3) := by decide +kernel
theorem d_MO_isLong_64 : decode b_MO_isLong 64 = .ok (.i2l, 1) := by decide +kernel
theorem d_MO_isLong_65 : decode b_MO_isLong 65 = .ok (.lsub, 1) := by decide +kernel
theorem d_MO_isLong_66 : decode b_MO_isLong 66 = .ok (.lstore_n 2, 1) := by decide +kernel
theorem d_MO_isLong_67 : decode b_MO_isLong 67 = .ok (.iinc 4 (-1), 3) := by decide +kernel
theorem d_MO_isLong_70 : decode b_MO_isLong 70 = .ok (.goto (-46), 3) := by decide +kernel
theorem d_MO_isLong_73 : decode b_MO_isLong 73 = .ok (.aload_n 0, 1) := by decide +kernel
theorem d_MO_isLong_74 : decode b_MO_isLong 74 = .ok (.getfield 16, 3) := by decide +kernel
theorem d_MO_isLong_77 : decode b_MO_isLong 77 = .ok (.iload_n 1, 1) := by decide +kernel
theorem d_MO_isLong_78 : decode b_MO_isLong 78 = .ok (.iaload, 1) := by decide +kernel
theorem d_MO_isLong_79 : decode b_MO_isLong 79 = .ok (.ifCond .lt 11, 3) := by decide +kernel
theorem d_MO_isLong_82 : decode b_MO_isLong 82 = .ok (.lload_n 2, 1) := by decide +kernel
theorem d_MO_isLong_83 : decode b_MO_isLong 83 = .ok (.ldc2_w 100, 3) := by decide +kernel
theorem d_MO_isLong_86 : decode b_MO_isLong 86 = .ok (.lcmp, 1) := by decide +kernel
theorem d_MO_isLong_87 : decode b_MO_isLong 87 = .ok (.ifCond .le 7, 3) := by decide +kernel
theorem d_MO_isLong_90 : decode b_MO_isLong 90 = .ok (.iconst 1, 1) := by decide +kernel
theorem d_MO_isLong_91 : decode b_MO_isLong 91 = .ok (.goto 4, 3) := by decide +kernel
theorem d_MO_isLong_94 : decode b_MO_isLong 94 = .ok (.iconst 0, 1) := by decide +kernel
theorem d_MO_isLong_95 : decode b_MO_isLong 95 = .ok (.ireturn, 1) := by decide +kernel
theorem d_MO_longOf_0 : decode b_MO_longOf 0 = .ok (.lconst 0, 1) := by decide +kernel
theorem d_MO_longOf_1 : decode b_MO_longOf 1 = .ok (.lstore_n 2, 1) := by decide +kernel
theorem d_MO_longOf_2 : decode b_MO_longOf 2 = .ok (.aload_n 0, 1) := by decide +kernel
theorem d_MO_longOf_3 : decode b_MO_longOf 3 = .ok (.getfield 13, 3) := by decide +kernel
theorem d_MO_longOf_6 : decode b_MO_longOf 6 = .ok (.iload_n 1, 1) := by decide +kernel
theorem d_MO_longOf_7 : decode b_MO_longOf 7 = .ok (.iaload, 1) := by decide +kernel
theorem d_MO_longOf_8 : decode b_MO_longOf 8 = .ok (.iconst 1, 1) := by decide +kernel
theorem d_MO_longOf_9 : decode b_MO_longOf 9 = .ok (.isub, 1) := by decide +kernel
theorem d_MO_longOf_10 : decode b_MO_longOf 10 = .ok (.istore 4, 2) := by decide +kernel
theorem d_MO_longOf_12 : decode b_MO_longOf 12 = .ok (.iload 4, 2) := by decide +kernel
theorem d_MO_longOf_14 : decode b_MO_longOf 14 = .ok (.ifCond .lt 24, 3) := by decide +kernel
theorem d_MO_longOf_17 : decode b_MO_longOf 17 = .ok (.lload_n 2, 1) := by decide +kernel
theorem d_MO_longOf_18 : decode b_MO_longOf 18 = .ok (.ldc2_w 37, 3) := by decide +kernel
theorem d_MO_longOf_21 : decode b_MO_longOf 21 = .ok (.lmul, 1) := by decide +kernel
theorem d_MO_longOf_22 : decode b_MO_longOf 22 = .ok (.aload_n 0, 1) := by decide +kernel
theorem d_MO_longOf_23 : decode b_MO_longOf 23 = .ok (.iload_n 1, 1) := by decide +kernel
theorem d_MO_longOf_24 : decode b_MO_longOf 24 = .ok (.iload 4, 2) := by decide +kernel
theorem d_MO_longOf_26 : decode b_MO_longOf 26 = .ok (.invokevirtual 39, 3) := by decide +kernel
theorem d_MO_longOf_29 : decode b_MO_longOf 29 = .ok (.i2l, 1) := by decide +kernel
theorem d_MO_longOf_30 : decode b_MO_longOf 30 = .ok (.lsub, 1) := by decide +kernel
theorem d_MO_longOf_31 : decode b_MO_longOf 31 = .ok (.lstore_n 2, 1) := by decide +kernel
theorem d_MO_longOf_32 : decode b_MO_longOf 32 = .ok (.iinc 4 (-1), 3) := by decide +kernel
theorem d_MO_longOf_35 : decode b_MO_longOf 35 = .ok (.goto (-23), 3) := by decide +kernel
theorem d_MO_longOf_38 : decode b_MO_longOf 38 = .ok (.aload_n 0, 1) := by decide +kernel
theorem d_MO_longOf_39 : decode b_MO_longOf 39 = .ok (.getfield 16, 3) := by decide +kernel
theorem d_MO_longOf_42 : decode b_MO_longOf 42 = .ok (.iload_n 1, 1) := by decide +kernel
theorem d_MO_longOf_43 : decode b_MO_longOf 43 = .ok (.iaload, 1) := by decide +kernel
theorem d_MO_longOf_44 : decode b_MO_longOf 44 = .ok (.ifCond .ge 7, 3) := by decide +kernel
theorem d_MO_longOf_47 : decode b_MO_longOf 47 = .ok (.lload_n 2, 1) := by decide +kernel
theorem d_MO_longOf_48 : decode b_MO_longOf 48 = .ok (.goto 5, 3) := by decide +kernel
theorem d_MO_longOf_51 : decode b_MO_longOf 51 = .ok (.lload_n 2, 1) := by decide +kernel
theorem d_MO_longOf_52 : decode b_MO_longOf 52 = .ok (.lneg, 1) := by decide +kernel
theorem d_MO_longOf_53 : decode b_MO_longOf 53 = .ok (.lreturn, 1) := by decide +kernel
theorem d_MO_value_0 : decode b_MO_value 0 = .ok (.aload_n 0, 1) := by decide +kernel
theorem d_MO_value_1 : decode b_MO_value 1 = .ok (.iload_n 1, 1) := by decide +kernel
theorem d_MO_value_2 : decode b_MO_value 2 = .ok (.invokestatic 67, 3) := by decide +kernel
theorem d_MO_value_5 : decode b_MO_value 5 = .ok (.iconst 1, 1) := by decide +kernel
theorem d_MO_value_6 : decode b_MO_value 6 = .ok (.invokevirtual 71, 3) := by decide +kernel
theorem d_MO_value_9 : decode b_MO_value 9 = .ok (.ifCond .ne 24, 3) := by decide +kernel
theorem d_MO_value_12 : decode b_MO_value 12 = .ok (.aload_n 0, 1) := by decide +kernel
theorem d_MO_value_13 : decode b_MO_value 13 = .ok (.aload_n 0, 1) := by decide +kernel
theorem d_MO_value_14 : decode b_MO_value 14 = .ok (.iload_n 1, 1) := by decide +kernel
theorem d_MO_value_15 : decode b_MO_value 15 = .ok (.invokevirtual 102, 3) := by decide +kernel
theorem d_MO_value_18 : decode b_MO_value 18 = .ok (.ifCond .ne 7, 3) := by decide +kernel
theorem d_MO_value_21 : decode b_MO_value 21 = .ok (.iconst 1, 1) := by decide +kernel
theorem d_MO_value_22 : decode b_MO_value 22 = .ok (.goto 4, 3) := by decide +kernel
theorem d_MO_value_25 : decode b_MO_value 25 = .ok (.iconst 0, 1) := by decide +kernel
theorem d_MO_value_26 : decode b_MO_value 26 = .ok (.iconst 2, 1) := by decide +kernel
theorem d_MO_value_27 : decode b_MO_value 27 = .ok (.invokevirtual 71, 3) := by decide +kernel
theorem d_MO_value_30 : decode b_MO_value 30 = .ok (.ifCond .eq 7, 3) := by decide +kernel
theorem d_MO_value_33 : decode b_MO_value 33 = .ok (.lconst 0, 1) := by decide +kernel
theorem d_MO_value_34 : decode b_MO_value 34 = .ok (.goto 8, 3) := by decide +kernel
theorem d_MO_value_37 : decode b_MO_value 37 = .ok (.aload_n 0, 1) := by decide +kernel
theorem d_MO_value_38 : decode b_MO_value 38 = .ok (.iload_n 1, 1) := by decide +kernel
theorem d_MO_value_39 : decode b_MO_value 39 = .ok (.invokevirtual 105, 3) := by decide +kernel
theorem d_MO_value_42 : decode b_MO_value 42 = .ok (.lreturn, 1) := by decide +kernel
theorem d_MO_limb_0 : decode b_MO_limb 0 = .ok (.aload_n 0, 1) := by decide +kernel
theorem d_MO_limb_1 : decode b_MO_limb 1 = .ok (.iload_n 1, 1) := by decide +kernel
theorem d_MO_limb_2 : decode b_MO_limb 2 = .ok (.invokestatic 67, 3) := by decide +kernel
theorem d_MO_limb_5 : decode b_MO_limb 5 = .ok (.ifCond .ne 15, 3) := by decide +kernel
theorem d_MO_limb_8 : decode b_MO_limb 8 = .ok (.iload_n 2, 1) := by decide +kernel
theorem d_MO_limb_9 : decode b_MO_limb 9 = .ok (.i2l, 1) := by decide +kernel
theorem d_MO_limb_10 : decode b_MO_limb 10 = .ok (.lconst 0, 1) := by decide +kernel
theorem d_MO_limb_11 : decode b_MO_limb 11 = .ok (.ldc2_w 109, 3) := by decide +kernel
theorem d_MO_limb_14 : decode b_MO_limb 14 = .ok (.invokestatic 87, 3) := by decide +kernel
theorem d_MO_limb_17 : decode b_MO_limb 17 = .ok (.ifCond .ne 7, 3) := by decide +kernel
theorem d_MO_limb_20 : decode b_MO_limb 20 = .ok (.iconst 1, 1) := by decide +kernel
theorem d_MO_limb_21 : decode b_MO_limb 21 = .ok (.goto 4, 3) := by decide +kernel
theorem d_MO_limb_24 : decode b_MO_limb 24 = .ok (.iconst 0, 1) := by decide +kernel
theorem d_MO_limb_25 : decode b_MO_limb 25 = .ok (.iconst 1, 1) := by decide +kernel
theorem d_MO_limb_26 : decode b_MO_limb 26 = .ok (.invokevirtual 71, 3) := by decide +kernel
theorem d_MO_limb_29 : decode b_MO_limb 29 = .ok (.ifCond .eq 5, 3) := by decide +kernel
theorem d_MO_limb_32 : decode b_MO_limb 32 = .ok (.lconst 0, 1) := by decide +kernel
theorem d_MO_limb_33 : decode b_MO_limb 33 = .ok (.lreturn, 1) := by decide +kernel
theorem d_MO_limb_34 : decode b_MO_limb 34 = .ok (.aload_n 0, 1) := by decide +kernel
theorem d_MO_limb_35 : decode b_MO_limb 35 = .ok (.bipush 13, 2) := by decide +kernel
theorem d_MO_limb_37 : decode b_MO_limb 37 = .ok (.iload_n 1, 1) := by decide +kernel
theorem d_MO_limb_38 : decode b_MO_limb 38 = .ok (.invokevirtual 46, 3) := by decide +kernel
theorem d_MO_limb_41 : decode b_MO_limb 41 = .ok (.iconst 0, 1) := by decide +kernel
theorem d_MO_limb_42 : decode b_MO_limb 42 = .ok (.istore_n 3, 1) := by decide +kernel
theorem d_MO_limb_43 : decode b_MO_limb 43 = .ok (.iload_n 3, 1) := by decide +kernel
theorem d_MO_limb_44 : decode b_MO_limb 44 = .ok (.iconst 2, 1) := by decide +kernel
theorem d_MO_limb_45 : decode b_MO_limb 45 = .ok (.iload_n 2, 1) := by decide +kernel
theorem d_MO_limb_46 : decode b_MO_limb 46 = .ok (.imul, 1) := by decide +kernel
theorem d_MO_limb_47 : decode b_MO_limb 47 = .ok (.if_icmp .ge 28, 3) := by decide +kernel
theorem d_MO_limb_50 : decode b_MO_limb 50 = .ok (.aload_n 0, 1) := by decide +kernel
theorem d_MO_limb_51 : decode b_MO_limb 51 = .ok (.getfield 13, 3) := by decide +kernel
theorem d_MO_limb_54 : decode b_MO_limb 54 = .ok (.bipush 13, 2) := by decide +kernel
theorem d_MO_limb_56 : decode b_MO_limb 56 = .ok (.iaload, 1) := by decide +kernel
theorem d_MO_limb_57 : decode b_MO_limb 57 = .ok (.ifCond .le 18, 3) := by decide +kernel
theorem d_MO_limb_60 : decode b_MO_limb 60 = .ok (.aload_n 0, 1) := by decide +kernel
theorem d_MO_limb_61 : decode b_MO_limb 61 = .ok (.bipush 13, 2) := by decide +kernel
theorem d_MO_limb_63 : decode b_MO_limb 63 = .ok (.ldc 63, 2) := by decide +kernel
theorem d_MO_limb_65 : decode b_MO_limb 65 = .ok (.invokevirtual 64, 3) := by decide +kernel
theorem d_MO_limb_68 : decode b_MO_limb 68 = .ok (.pop, 1) := by decide +kernel
theorem d_MO_limb_69 : decode b_MO_limb 69 = .ok (.iinc 3 1, 3) := by decide +kernel
theorem d_MO_limb_72 : decode b_MO_limb 72 = .ok (.goto (-29), 3) := by decide +kernel
theorem d_MO_limb_75 : decode b_MO_limb 75 = .ok (.aload_n 0, 1) := by decide +kernel
theorem d_MO_limb_76 : decode b_MO_limb 76 = .ok (.bipush 13, 2) := by decide +kernel
theorem d_MO_limb_78 : decode b_MO_limb 78 = .ok (.ldc 63, 2) := by decide +kernel
theorem d_MO_limb_80 : decode b_MO_limb 80 = .ok (.invokevirtual 64, 3) := by decide +kernel
theorem d_MO_limb_83 : decode b_MO_limb 83 = .ok (.i2l, 1) := by decide +kernel
theorem d_MO_limb_84 : decode b_MO_limb 84 = .ok (.lstore_n 3, 1) := by decide +kernel
theorem d_MO_limb_85 : decode b_MO_limb 85 = .ok (.lload_n 3, 1) := by decide +kernel
theorem d_MO_limb_86 : decode b_MO_limb 86 = .ok (.ldc2_w 111, 3) := by decide +kernel
theorem d_MO_limb_89 : decode b_MO_limb 89 = .ok (.aload_n 0, 1) := by decide +kernel
theorem d_MO_limb_90 : decode b_MO_limb 90 = .ok (.bipush 13, 2) := by decide +kernel
theorem d_MO_limb_92 : decode b_MO_limb 92 = .ok (.ldc 63, 2) := by decide +kernel
theorem d_MO_limb_94 : decode b_MO_limb 94 = .ok (.invokevirtual 64, 3) := by decide +kernel
theorem d_MO_limb_97 : decode b_MO_limb 97 = .ok (.i2l, 1) := by decide +kernel
theorem d_MO_limb_98 : decode b_MO_limb 98 = .ok (.lmul, 1) := by decide +kernel
theorem d_MO_limb_99 : decode b_MO_limb 99 = .ok (.ladd, 1) := by decide +kernel
theorem d_MO_limb_100 : decode b_MO_limb 100 = .ok (.lreturn, 1) := by decide +kernel
theorem d_MO_look_0 : decode b_MO_look 0 = .ok (.aload_n 0, 1) := by decide +kernel
theorem d_MO_look_1 : decode b_MO_look 1 = .ok (.iload_n 1, 1) := by decide +kernel
theorem d_MO_look_2 : decode b_MO_look 2 = .ok (.invokestatic 67, 3) := by decide +kernel
theorem d_MO_look_5 : decode b_MO_look 5 = .ok (.ifCond .ne 15, 3) := by decide +kernel
theorem d_MO_look_8 : decode b_MO_look 8 = .ok (.iload_n 2, 1) := by decide +kernel
theorem d_MO_look_9 : decode b_MO_look 9 = .ok (.i2l, 1) := by decide +kernel
theorem d_MO_look_10 : decode b_MO_look 10 = .ok (.lconst 0, 1) := by decide +kernel
theorem d_MO_look_11 : decode b_MO_look 11 = .ok (.ldc2_w 113, 3) := by decide +kernel
theorem d_MO_look_14 : decode b_MO_look 14 = .ok (.invokestatic 87, 3) := by decide +kernel
theorem d_MO_look_17 : decode b_MO_look 17 = .ok (.ifCond .ne 7, 3) := by decide +kernel
theorem d_MO_look_20 : decode b_MO_look 20 = .ok (.iconst 1, 1) := by decide +kernel
theorem d_MO_look_21 : decode b_MO_look 21 = .ok (.goto 4, 3) := by decide +kernel
theorem d_MO_look_24 : decode b_MO_look 24 = .ok (.iconst 0, 1) := by decide +kernel
theorem d_MO_look_25 : decode b_MO_look 25 = .ok (.iconst 1, 1) := by decide +kernel
theorem d_MO_look_26 : decode b_MO_look 26 = .ok (.invokevirtual 71, 3) := by decide +kernel
theorem d_MO_look_29 : decode b_MO_look 29 = .ok (.ifCond .eq 5, 3) := by decide +kernel
theorem d_MO_look_32 : decode b_MO_look 32 = .ok (.iconst 0, 1) := by decide +kernel
theorem d_MO_look_33 : decode b_MO_look 33 = .ok (.ireturn, 1) := by decide +kernel
theorem d_MO_look_34 : decode b_MO_look 34 = .ok (.iload_n 2, 1) := by decide +kernel
theorem d_MO_look_35 : decode b_MO_look 35 = .ok (.tableswitch 52 0 2 #[25, 32, 38], 25) := by decide +kernel
theorem d_MO_look_60 : decode b_MO_look 60 = .ok (.aload_n 0, 1) := by decide +kernel
theorem d_MO_look_61 : decode b_MO_look 61 = .ok (.getfield 16, 3) := by decide +kernel
theorem d_MO_look_64 : decode b_MO_look 64 = .ok (.iload_n 1, 1) := by decide +kernel
theorem d_MO_look_65 : decode b_MO_look 65 = .ok (.iaload, 1) := by decide +kernel
theorem d_MO_look_66 : decode b_MO_look 66 = .ok (.ireturn, 1) := by decide +kernel
theorem d_MO_look_67 : decode b_MO_look 67 = .ok (.aload_n 0, 1) := by decide +kernel
theorem d_MO_look_68 : decode b_MO_look 68 = .ok (.iload_n 1, 1) := by decide +kernel
theorem d_MO_look_69 : decode b_MO_look 69 = .ok (.invokevirtual 115, 3) := by decide +kernel
theorem d_MO_look_72 : decode b_MO_look 72 = .ok (.ireturn, 1) := by decide +kernel
theorem d_MO_look_73 : decode b_MO_look 73 = .ok (.aload_n 0, 1) := by decide +kernel
theorem d_MO_look_74 : decode b_MO_look 74 = .ok (.iload_n 1, 1) := by decide +kernel
theorem d_MO_look_75 : decode b_MO_look 75 = .ok (.invokevirtual 102, 3) := by decide +kernel
theorem d_MO_look_78 : decode b_MO_look 78 = .ok (.ifCond .eq 7, 3) := by decide +kernel
theorem d_MO_look_81 : decode b_MO_look 81 = .ok (.iconst 1, 1) := by decide +kernel
theorem d_MO_look_82 : decode b_MO_look 82 = .ok (.goto 4, 3) := by decide +kernel
theorem d_MO_look_85 : decode b_MO_look 85 = .ok (.iconst 0, 1) := by decide +kernel
theorem d_MO_look_86 : decode b_MO_look 86 = .ok (.ireturn, 1) := by decide +kernel
theorem d_MO_look_87 : decode b_MO_look 87 = .ok (.aload_n 0, 1) := by decide +kernel
theorem d_MO_look_88 : decode b_MO_look 88 = .ok (.getfield 13, 3) := by decide +kernel
theorem d_MO_look_91 : decode b_MO_look 91 = .ok (.iload_n 1, 1) := by decide +kernel
theorem d_MO_look_92 : decode b_MO_look 92 = .ok (.iaload, 1) := by decide +kernel
theorem d_MO_look_93 : decode b_MO_look 93 = .ok (.ifCond .ne 5, 3) := by decide +kernel
theorem d_MO_look_96 : decode b_MO_look 96 = .ok (.iconst 0, 1) := by decide +kernel
theorem d_MO_look_97 : decode b_MO_look 97 = .ok (.ireturn, 1) := by decide +kernel
theorem d_MO_look_98 : decode b_MO_look 98 = .ok (.aload_n 0, 1) := by decide +kernel
theorem d_MO_look_99 : decode b_MO_look 99 = .ok (.bipush 13, 2) := by decide +kernel
theorem d_MO_look_101 : decode b_MO_look 101 = .ok (.iload_n 1, 1) := by decide +kernel
theorem d_MO_look_102 : decode b_MO_look 102 = .ok (.invokevirtual 46, 3) := by decide +kernel
theorem d_MO_look_105 : decode b_MO_look 105 = .ok (.iconst 0, 1) := by decide +kernel
theorem d_MO_look_106 : decode b_MO_look 106 = .ok (.istore_n 3, 1) := by decide +kernel
theorem d_MO_look_107 : decode b_MO_look 107 = .ok (.aload_n 0, 1) := by decide +kernel
theorem d_MO_look_108 : decode b_MO_look 108 = .ok (.bipush 13, 2) := by decide +kernel
theorem d_MO_look_110 : decode b_MO_look 110 = .ok (.iconst 0, 1) := by decide +kernel
theorem d_MO_look_111 : decode b_MO_look 111 = .ok (.invokevirtual 39, 3) := by decide +kernel
theorem d_MO_look_114 : decode b_MO_look 114 = .ok (.iconst 2, 1) := by decide +kernel
theorem d_MO_look_115 : decode b_MO_look 115 = .ok (.irem, 1) := by decide +kernel
theorem d_MO_look_116 : decode b_MO_look 116 = .ok (.ifCond .ne 17, 3) := by decide +kernel
theorem d_MO_look_119 : decode b_MO_look 119 = .ok (.aload_n 0, 1) := by decide +kernel
theorem d_MO_look_120 : decode b_MO_look 120 = .ok (.bipush 13, 2) := by decide +kernel
theorem d_MO_look_122 : decode b_MO_look 122 = .ok (.iconst 2, 1) := by decide +kernel
theorem d_MO_look_123 : decode b_MO_look 123 = .ok (.invokevirtual 64, 3) := by decide +kernel
theorem d_MO_look_126 : decode b_MO_look 126 = .ok (.pop, 1) := by decide +kernel
theorem d_MO_look_127 : decode b_MO_look 127 = .ok (.iinc 3 1, 3) := by decide +kernel
theorem d_MO_look_130 : decode b_MO_look 130 = .ok (.goto (-23), 3) := by decide +kernel
theorem d_MO_look_133 : decode b_MO_look 133 = .ok (.iload_n 3, 1) := by decide +kernel
theorem d_MO_look_134 : decode b_MO_look 134 = .ok (.ireturn, 1) := by decide +kernel
theorem d_MO_feed_0 : decode b_MO_feed 0 = .ok (.aload_n 0, 1) := by decide +kernel
theorem d_MO_feed_1 : decode b_MO_feed 1 = .ok (.iload_n 1, 1) := by decide +kernel
theorem d_MO_feed_2 : decode b_MO_feed 2 = .ok (.i2l, 1) := by decide +kernel
theorem d_MO_feed_3 : decode b_MO_feed 3 = .ok (.lconst 1, 1) := by decide +kernel
theorem d_MO_feed_4 : decode b_MO_feed 4 = .ok (.ldc2_w 118, 3) := by decide +kernel
theorem d_MO_feed_7 : decode b_MO_feed 7 = .ok (.invokestatic 87, 3) := by decide +kernel
theorem d_MO_feed_10 : decode b_MO_feed 10 = .ok (.ifCond .ne 7, 3) := by decide +kernel
theorem d_MO_feed_13 : decode b_MO_feed 13 = .ok (.iconst 1, 1) := by decide +kernel
theorem d_MO_feed_14 : decode b_MO_feed 14 = .ok (.goto 4, 3) := by decide +kernel
theorem d_MO_feed_17 : decode b_MO_feed 17 = .ok (.iconst 0, 1) := by decide +kernel
theorem d_MO_feed_18 : decode b_MO_feed 18 = .ok (.iconst 1, 1) := by decide +kernel
theorem d_MO_feed_19 : decode b_MO_feed 19 = .ok (.invokevirtual 71, 3) := by decide +kernel
theorem d_MO_feed_22 : decode b_MO_feed 22 = .ok (.ifCond .ne 28, 3) := by decide +kernel
theorem d_MO_feed_25 : decode b_MO_feed 25 = .ok (.aload_n 0, 1) := by decide +kernel
theorem d_MO_feed_26 : decode b_MO_feed 26 = .ok (.aload_n 0, 1) := by decide +kernel
theorem d_MO_feed_27 : decode b_MO_feed 27 = .ok (.getfield 120, 3) := by decide +kernel
theorem d_MO_feed_30 : decode b_MO_feed 30 = .ok (.iload_n 1, 1) := by decide +kernel
theorem d_MO_feed_31 : decode b_MO_feed 31 = .ok (.iadd, 1) := by decide +kernel
theorem d_MO_feed_32 : decode b_MO_feed 32 = .ok (.sipush 2600, 3) := by decide +kernel
theorem d_MO_feed_35 : decode b_MO_feed 35 = .ok (.if_icmp .le 7, 3) := by decide +kernel
theorem d_MO_feed_38 : decode b_MO_feed 38 = .ok (.iconst 1, 1) := by decide +kernel
theorem d_MO_feed_39 : decode b_MO_feed 39 = .ok (.goto 4, 3) := by decide +kernel
theorem d_MO_feed_42 : decode b_MO_feed 42 = .ok (.iconst 0, 1) := by decide +kernel
theorem d_MO_feed_43 : decode b_MO_feed 43 = .ok (.iconst 2, 1) := by decide +kernel
theorem d_MO_feed_44 : decode b_MO_feed 44 = .ok (.invokevirtual 71, 3) := by decide +kernel
theorem d_MO_feed_47 : decode b_MO_feed 47 = .ok (.ifCond .eq 5, 3) := by decide +kernel
theorem d_MO_feed_50 : decode b_MO_feed 50 = .ok (.iconst 0, 1) := by decide +kernel
theorem d_MO_feed_51 : decode b_MO_feed 51 = .ok (.ireturn, 1) := by decide +kernel
theorem d_MO_feed_52 : decode b_MO_feed 52 = .ok (.iconst 0, 1) := by decide +kernel
theorem d_MO_feed_53 : decode b_MO_feed 53 = .ok (.istore 4, 2) := by decide +kernel
theorem d_MO_feed_55 : decode b_MO_feed 55 = .ok (.iload 4, 2) := by decide +kernel
theorem d_MO_feed_57 : decode b_MO_feed 57 = .ok (.iload_n 1, 1) := by decide +kernel
theorem d_MO_feed_58 : decode b_MO_feed 58 = .ok (.if_icmp .ge 33, 3) := by decide +kernel
theorem d_MO_feed_61 : decode b_MO_feed 61 = .ok (.aload_n 0, 1) := by decide +kernel
theorem d_MO_feed_62 : decode b_MO_feed 62 = .ok (.getfield 19, 3) := by decide +kernel
theorem d_MO_feed_65 : decode b_MO_feed 65 = .ok (.aload_n 0, 1) := by decide +kernel
theorem d_MO_feed_66 : decode b_MO_feed 66 = .ok (.getfield 120, 3) := by decide +kernel
theorem d_MO_feed_69 : decode b_MO_feed 69 = .ok (.iload 4, 2) := by decide +kernel
theorem d_MO_feed_71 : decode b_MO_feed 71 = .ok (.iadd, 1) := by decide +kernel
theorem d_MO_feed_72 : decode b_MO_feed 72 = .ok (.lload_n 2, 1) := by decide +kernel
theorem d_MO_feed_73 : decode b_MO_feed 73 = .ok (.bipush 8, 2) := by decide +kernel
theorem d_MO_feed_75 : decode b_MO_feed 75 = .ok (.iload 4, 2) := by decide +kernel
theorem d_MO_feed_77 : decode b_MO_feed 77 = .ok (.imul, 1) := by decide +kernel
theorem d_MO_feed_78 : decode b_MO_feed 78 = .ok (.lshr, 1) := by decide +kernel
theorem d_MO_feed_79 : decode b_MO_feed 79 = .ok (.ldc2_w 109, 3) := by decide +kernel
theorem d_MO_feed_82 : decode b_MO_feed 82 = .ok (.land, 1) := by decide +kernel
theorem d_MO_feed_83 : decode b_MO_feed 83 = .ok (.l2i, 1) := by decide +kernel
theorem d_MO_feed_84 : decode b_MO_feed 84 = .ok (.iastore, 1) := by decide +kernel
theorem d_MO_feed_85 : decode b_MO_feed 85 = .ok (.iinc 4 1, 3) := by decide +kernel
theorem d_MO_feed_88 : decode b_MO_feed 88 = .ok (.goto (-33), 3) := by decide +kernel
theorem d_MO_feed_91 : decode b_MO_feed 91 = .ok (.aload_n 0, 1) := by decide +kernel
theorem d_MO_feed_92 : decode b_MO_feed 92 = .ok (.dup, 1) := by decide +kernel
theorem d_MO_feed_93 : decode b_MO_feed 93 = .ok (.getfield 120, 3) := by decide +kernel
theorem d_MO_feed_96 : decode b_MO_feed 96 = .ok (.iload_n 1, 1) := by decide +kernel
theorem d_MO_feed_97 : decode b_MO_feed 97 = .ok (.iadd, 1) := by decide +kernel
theorem d_MO_feed_98 : decode b_MO_feed 98 = .ok (.putfield 120, 3) := by decide +kernel
theorem d_MO_feed_101 : decode b_MO_feed 101 = .ok (.aload_n 0, 1) := by decide +kernel
theorem d_MO_feed_102 : decode b_MO_feed 102 = .ok (.getfield 120, 3) := by decide +kernel
theorem d_MO_feed_105 : decode b_MO_feed 105 = .ok (.ireturn, 1) := by decide +kernel
theorem d_MO_reads_0 : decode b_MO_reads 0 = .ok (.aload_n 0, 1) := by decide +kernel
theorem d_MO_reads_1 : decode b_MO_reads 1 = .ok (.getfield 120, 3) := by decide +kernel
theorem d_MO_reads_4 : decode b_MO_reads 4 = .ok (.ifCond .le 18, 3) := by decide +kernel
theorem d_MO_reads_7 : decode b_MO_reads 7 = .ok (.aload_n 0, 1) := by decide +kernel
theorem d_MO_reads_8 : decode b_MO_reads 8 = .ok (.getfield 19, 3) := by decide +kernel
theorem d_MO_reads_11 : decode b_MO_reads 11 = .ok (.iconst 0, 1) := by decide +kernel
theorem d_MO_reads_12 : decode b_MO_reads 12 = .ok (.iaload, 1) := by decide +kernel
theorem d_MO_reads_13 : decode b_MO_reads 13 = .ok (.bipush 45, 2) := by decide +kernel
theorem d_MO_reads_15 : decode b_MO_reads 15 = .ok (.if_icmp .ne 7, 3) := by decide +kernel
theorem d_MO_reads_18 : decode b_MO_reads 18 = .ok (.iconst 1, 1) := by decide +kernel
theorem d_MO_reads_19 : decode b_MO_reads 19 = .ok (.goto 4, 3) := by decide +kernel
theorem d_MO_reads_22 : decode b_MO_reads 22 = .ok (.iconst 0, 1) := by decide +kernel
theorem d_MO_reads_23 : decode b_MO_reads 23 = .ok (.istore_n 1, 1) := by decide +kernel
theorem d_MO_reads_24 : decode b_MO_reads 24 = .ok (.iload_n 1, 1) := by decide +kernel
theorem d_MO_reads_25 : decode b_MO_reads 25 = .ok (.ifCond .eq 7, 3) := by decide +kernel
theorem d_MO_reads_28 : decode b_MO_reads 28 = .ok (.iconst 1, 1) := by decide +kernel
theorem d_MO_reads_29 : decode b_MO_reads 29 = .ok (.goto 4, 3) := by decide +kernel
theorem d_MO_reads_32 : decode b_MO_reads 32 = .ok (.iconst 0, 1) := by decide +kernel
theorem d_MO_reads_33 : decode b_MO_reads 33 = .ok (.istore_n 2, 1) := by decide +kernel
theorem d_MO_reads_34 : decode b_MO_reads 34 = .ok (.aload_n 0, 1) := by decide +kernel
theorem d_MO_reads_35 : decode b_MO_reads 35 = .ok (.getfield 120, 3) := by decide +kernel
theorem d_MO_reads_38 : decode b_MO_reads 38 = .ok (.iload_n 2, 1) := by decide +kernel
theorem d_MO_reads_39 : decode b_MO_reads 39 = .ok (.if_icmp .eq 39, 3) := by decide +kernel
theorem d_MO_reads_42 : decode b_MO_reads 42 = .ok (.iload_n 1, 1) := by decide +kernel
theorem d_MO_reads_43 : decode b_MO_reads 43 = .ok (.ifCond .eq 14, 3) := by decide +kernel
theorem d_MO_reads_46 : decode b_MO_reads 46 = .ok (.aload_n 0, 1) := by decide +kernel
theorem d_MO_reads_47 : decode b_MO_reads 47 = .ok (.getfield 19, 3) := by decide +kernel
theorem d_MO_reads_50 : decode b_MO_reads 50 = .ok (.iconst 1, 1) := by decide +kernel
theorem d_MO_reads_51 : decode b_MO_reads 51 = .ok (.iaload, 1) := by decide +kernel
theorem d_MO_reads_52 : decode b_MO_reads 52 = .ok (.bipush 48, 2) := by decide +kernel
theorem d_MO_reads_54 : decode b_MO_reads 54 = .ok (.if_icmp .eq 24, 3) := by decide +kernel
theorem d_MO_reads_57 : decode b_MO_reads 57 = .ok (.aload_n 0, 1) := by decide +kernel
theorem d_MO_reads_58 : decode b_MO_reads 58 = .ok (.getfield 19, 3) := by decide +kernel
theorem d_MO_reads_61 : decode b_MO_reads 61 = .ok (.iload_n 2, 1) := by decide +kernel
theorem d_MO_reads_62 : decode b_MO_reads 62 = .ok (.iaload, 1) := by decide +kernel
theorem d_MO_reads_63 : decode b_MO_reads 63 = .ok (.bipush 48, 2) := by decide +kernel
theorem d_MO_reads_65 : decode b_MO_reads 65 = .ok (.if_icmp .ne 15, 3) := by decide +kernel
theorem d_MO_reads_68 : decode b_MO_reads 68 = .ok (.aload_n 0, 1) := by decide +kernel
theorem d_MO_reads_69 : decode b_MO_reads 69 = .ok (.getfield 120, 3) := by decide +kernel
theorem d_MO_reads_72 : decode b_MO_reads 72 = .ok (.iload_n 2, 1) := by decide +kernel
theorem d_MO_reads_73 : decode b_MO_reads 73 = .ok (.iconst 1, 1) := by decide +kernel
theorem d_MO_reads_74 : decode b_MO_reads 74 = .ok (.iadd, 1) := by decide +kernel
theorem d_MO_reads_75 : decode b_MO_reads 75 = .ok (.if_icmp .le 5, 3) := by decide +kernel
theorem d_MO_reads_78 : decode b_MO_reads 78 = .ok (.iconst 0, 1) := by decide +kernel
theorem d_MO_reads_79 : decode b_MO_reads 79 = .ok (.ireturn, 1) := by decide +kernel
theorem d_MO_reads_80 : decode b_MO_reads 80 = .ok (.iload_n 2, 1) := by decide +kernel
theorem d_MO_reads_81 : decode b_MO_reads 81 = .ok (.istore_n 3, 1) := by decide +kernel
theorem d_MO_reads_82 : decode b_MO_reads 82 = .ok (.iload_n 3, 1) := by decide +kernel
theorem d_MO_reads_83 : decode b_MO_reads 83 = .ok (.aload_n 0, 1) := by decide +kernel
theorem d_MO_reads_84 : decode b_MO_reads 84 = .ok (.getfield 120, 3) := by decide +kernel
theorem d_MO_reads_87 : decode b_MO_reads 87 = .ok (.if_icmp .ge 33, 3) := by decide +kernel
theorem d_MO_reads_90 : decode b_MO_reads 90 = .ok (.aload_n 0, 1) := by decide +kernel
theorem d_MO_reads_91 : decode b_MO_reads 91 = .ok (.getfield 19, 3) := by decide +kernel
theorem d_MO_reads_94 : decode b_MO_reads 94 = .ok (.iload_n 3, 1) := by decide +kernel
theorem d_MO_reads_95 : decode b_MO_reads 95 = .ok (.iaload, 1) := by decide +kernel
theorem d_MO_reads_96 : decode b_MO_reads 96 = .ok (.bipush 48, 2) := by decide +kernel
theorem d_MO_reads_98 : decode b_MO_reads 98 = .ok (.if_icmp .lt 14, 3) := by decide +kernel
theorem d_MO_reads_101 : decode b_MO_reads 101 = .ok (.aload_n 0, 1) := by decide +kernel
theorem d_MO_reads_102 : decode b_MO_reads 102 = .ok (.getfield 19, 3) := by decide +kernel
theorem d_MO_reads_105 : decode b_MO_reads 105 = .ok (.iload_n 3, 1) := by decide +kernel
theorem d_MO_reads_106 : decode b_MO_reads 106 = .ok (.iaload, 1) := by decide +kernel
theorem d_MO_reads_107 : decode b_MO_reads 107 = .ok (.bipush 57, 2) := by decide +kernel
theorem d_MO_reads_109 : decode b_MO_reads 109 = .ok (.if_icmp .le 5, 3) := by decide +kernel
theorem d_MO_reads_112 : decode b_MO_reads 112 = .ok (.iconst 0, 1) := by decide +kernel
theorem d_MO_reads_113 : decode b_MO_reads 113 = .ok (.ireturn, 1) := by decide +kernel
theorem d_MO_reads_114 : decode b_MO_reads 114 = .ok (.iinc 3 1, 3) := by decide +kernel
theorem d_MO_reads_117 : decode b_MO_reads 117 = .ok (.goto (-35), 3) := by decide +kernel
theorem d_MO_reads_120 : decode b_MO_reads 120 = .ok (.iconst 0, 1) := by decide +kernel
theorem d_MO_reads_121 : decode b_MO_reads 121 = .ok (.istore_n 3, 1) := by decide +kernel
theorem d_MO_reads_122 : decode b_MO_reads 122 = .ok (.aload_n 0, 1) := by decide +kernel
theorem d_MO_reads_123 : decode b_MO_reads 123 = .ok (.getfield 120, 3) := by decide +kernel
theorem d_MO_reads_126 : decode b_MO_reads 126 = .ok (.istore 4, 2) := by decide +kernel
theorem d_MO_reads_128 : decode b_MO_reads 128 = .ok (.iload 4, 2) := by decide +kernel
theorem d_MO_reads_130 : decode b_MO_reads 130 = .ok (.iload_n 2, 1) := by decide +kernel
theorem d_MO_reads_131 : decode b_MO_reads 131 = .ok (.if_icmp .le 76, 3) := by decide +kernel
theorem d_MO_reads_134 : decode b_MO_reads 134 = .ok (.iconst 0, 1) := by decide +kernel
theorem d_MO_reads_135 : decode b_MO_reads 135 = .ok (.istore 5, 2) := by decide +kernel
theorem d_MO_reads_137 : decode b_MO_reads 137 = .ok (.iload 4, 2) := by decide +kernel
theorem d_MO_reads_139 : decode b_MO_reads 139 = .ok (.iconst 4, 1) := by decide +kernel
theorem d_MO_reads_140 : decode b_MO_reads 140 = .ok (.isub, 1) := by decide +kernel
theorem d_MO_reads_141 : decode b_MO_reads 141 = .ok (.iload_n 2, 1) := by decide +kernel
theorem d_MO_reads_142 : decode b_MO_reads 142 = .ok (.if_icmp .ge 7, 3) := by decide +kernel
theorem d_MO_reads_145 : decode b_MO_reads 145 = .ok (.iload_n 2, 1) := by decide +kernel
theorem d_MO_reads_146 : decode b_MO_reads 146 = .ok (.goto 7, 3) := by decide +kernel
theorem d_MO_reads_149 : decode b_MO_reads 149 = .ok (.iload 4, 2) := by decide +kernel
theorem d_MO_reads_151 : decode b_MO_reads 151 = .ok (.iconst 4, 1) := by decide +kernel
theorem d_MO_reads_152 : decode b_MO_reads 152 = .ok (.isub, 1) := by decide +kernel
theorem d_MO_reads_153 : decode b_MO_reads 153 = .ok (.istore 6, 2) := by decide +kernel
theorem d_MO_reads_155 : decode b_MO_reads 155 = .ok (.iload 6, 2) := by decide +kernel
theorem d_MO_reads_157 : decode b_MO_reads 157 = .ok (.iload 4, 2) := by decide +kernel
theorem d_MO_reads_159 : decode b_MO_reads 159 = .ok (.if_icmp .ge 27, 3) := by decide +kernel
theorem d_MO_reads_162 : decode b_MO_reads 162 = .ok (.bipush 10, 2) := by decide +kernel
theorem d_MO_reads_164 : decode b_MO_reads 164 = .ok (.iload 5, 2) := by decide +kernel
theorem d_MO_reads_166 : decode b_MO_reads 166 = .ok (.imul, 1) := by decide +kernel
theorem d_MO_reads_167 : decode b_MO_reads 167 = .ok (.aload_n 0, 1) := by decide +kernel
theorem d_MO_reads_168 : decode b_MO_reads 168 = .ok (.getfield 19, 3) := by decide +kernel
theorem d_MO_reads_171 : decode b_MO_reads 171 = .ok (.iload 6, 2) := by decide +kernel
theorem d_MO_reads_173 : decode b_MO_reads 173 = .ok (.iaload, 1) := by decide +kernel
theorem d_MO_reads_174 : decode b_MO_reads 174 = .ok (.iadd, 1) := by decide +kernel
theorem d_MO_reads_175 : decode b_MO_reads 175 = .ok (.bipush 48, 2) := by decide +kernel
theorem d_MO_reads_177 : decode b_MO_reads 177 = .ok (.isub, 1) := by decide +kernel
theorem d_MO_reads_178 : decode b_MO_reads 178 = .ok (.istore 5, 2) := by decide +kernel
theorem d_MO_reads_180 : decode b_MO_reads 180 = .ok (.iinc 6 1, 3) := by decide +kernel
theorem d_MO_reads_183 : decode b_MO_reads 183 = .ok (.goto (-28), 3) := by decide +kernel
theorem d_MO_reads_186 : decode b_MO_reads 186 = .ok (.aload_n 0, 1) := by decide +kernel
theorem d_MO_reads_187 : decode b_MO_reads 187 = .ok (.getfield 7, 3) := by decide +kernel
theorem d_MO_reads_190 : decode b_MO_reads 190 = .ok (.sipush 22100, 3) := by decide +kernel
theorem d_MO_reads_193 : decode b_MO_reads 193 = .ok (.iload_n 3, 1) := by decide +kernel
theorem d_MO_reads_194 : decode b_MO_reads 194 = .ok (.iadd, 1) := by decide +kernel
theorem d_MO_reads_195 : decode b_MO_reads 195 = .ok (.iload 5, 2) := by decide +kernel
theorem d_MO_reads_197 : decode b_MO_reads 197 = .ok (.iastore, 1) := by decide +kernel
theorem d_MO_reads_198 : decode b_MO_reads 198 = .ok (.iinc 3 1, 3) := by decide +kernel
theorem d_MO_reads_201 : decode b_MO_reads 201 = .ok (.iinc 4 (-4), 3) := by decide +kernel
theorem d_MO_reads_204 : decode b_MO_reads 204 = .ok (.goto (-76), 3) := by decide +kernel
theorem d_MO_reads_207 : decode b_MO_reads 207 = .ok (.aload_n 0, 1) := by decide +kernel
theorem d_MO_reads_208 : decode b_MO_reads 208 = .ok (.getfield 16, 3) := by decide +kernel
theorem d_MO_reads_211 : decode b_MO_reads 211 = .ok (.bipush 17, 2) := by decide +kernel
theorem d_MO_reads_213 : decode b_MO_reads 213 = .ok (.iload_n 1, 1) := by decide +kernel
theorem d_MO_reads_214 : decode b_MO_reads 214 = .ok (.ifCond .eq 7, 3) := by decide +kernel
theorem d_MO_reads_217 : decode b_MO_reads 217 = .ok (.iconst (-1), 1) := by decide +kernel
theorem d_MO_reads_218 : decode b_MO_reads 218 = .ok (.goto 4, 3) := by decide +kernel
theorem d_MO_reads_221 : decode b_MO_reads 221 = .ok (.iconst 1, 1) := by decide +kernel
theorem d_MO_reads_222 : decode b_MO_reads 222 = .ok (.iastore, 1) := by decide +kernel
theorem d_MO_reads_223 : decode b_MO_reads 223 = .ok (.aload_n 0, 1) := by decide +kernel
theorem d_MO_reads_224 : decode b_MO_reads 224 = .ok (.bipush 17, 2) := by decide +kernel
theorem d_MO_reads_226 : decode b_MO_reads 226 = .ok (.iload_n 3, 1) := by decide +kernel
theorem d_MO_reads_227 : decode b_MO_reads 227 = .ok (.invokevirtual 43, 3) := by decide +kernel
theorem d_MO_reads_230 : decode b_MO_reads 230 = .ok (.aload_n 0, 1) := by decide +kernel
theorem d_MO_reads_231 : decode b_MO_reads 231 = .ok (.bipush 17, 2) := by decide +kernel
theorem d_MO_reads_233 : decode b_MO_reads 233 = .ok (.bipush 12, 2) := by decide +kernel
theorem d_MO_reads_235 : decode b_MO_reads 235 = .ok (.invokevirtual 53, 3) := by decide +kernel
theorem d_MO_reads_238 : decode b_MO_reads 238 = .ok (.ifCond .ge 7, 3) := by decide +kernel
theorem d_MO_reads_241 : decode b_MO_reads 241 = .ok (.iconst 1, 1) := by decide +kernel
theorem d_MO_reads_242 : decode b_MO_reads 242 = .ok (.goto 4, 3) := by decide +kernel
theorem d_MO_reads_245 : decode b_MO_reads 245 = .ok (.iconst 0, 1) := by decide +kernel
theorem d_MO_reads_246 : decode b_MO_reads 246 = .ok (.ireturn, 1) := by decide +kernel
theorem d_MO_read_0 : decode b_MO_read 0 = .ok (.aload_n 0, 1) := by decide +kernel
theorem d_MO_read_1 : decode b_MO_read 1 = .ok (.iload_n 1, 1) := by decide +kernel
theorem d_MO_read_2 : decode b_MO_read 2 = .ok (.invokestatic 67, 3) := by decide +kernel
theorem d_MO_read_5 : decode b_MO_read 5 = .ok (.iconst 1, 1) := by decide +kernel
theorem d_MO_read_6 : decode b_MO_read 6 = .ok (.invokevirtual 71, 3) := by decide +kernel
theorem d_MO_read_9 : decode b_MO_read 9 = .ok (.ifCond .eq 5, 3) := by decide +kernel
theorem d_MO_read_12 : decode b_MO_read 12 = .ok (.iconst 0, 1) := by decide +kernel
theorem d_MO_read_13 : decode b_MO_read 13 = .ok (.ireturn, 1) := by decide +kernel
theorem d_MO_read_14 : decode b_MO_read 14 = .ok (.aload_n 0, 1) := by decide +kernel
theorem d_MO_read_15 : decode b_MO_read 15 = .ok (.invokevirtual 123, 3) := by decide +kernel
theorem d_MO_read_18 : decode b_MO_read 18 = .ok (.istore_n 2, 1) := by decide +kernel
theorem d_MO_read_19 : decode b_MO_read 19 = .ok (.aload_n 0, 1) := by decide +kernel
theorem d_MO_read_20 : decode b_MO_read 20 = .ok (.iconst 0, 1) := by decide +kernel
theorem d_MO_read_21 : decode b_MO_read 21 = .ok (.putfield 120, 3) := by decide +kernel
theorem d_MO_read_24 : decode b_MO_read 24 = .ok (.iload_n 2, 1) := by decide +kernel
theorem d_MO_read_25 : decode b_MO_read 25 = .ok (.ifCond .eq 10, 3) := by decide +kernel
theorem d_MO_read_28 : decode b_MO_read 28 = .ok (.aload_n 0, 1) := by decide +kernel
theorem d_MO_read_29 : decode b_MO_read 29 = .ok (.iload_n 1, 1) := by decide +kernel
theorem d_MO_read_30 : decode b_MO_read 30 = .ok (.bipush 17, 2) := by decide +kernel
theorem d_MO_read_32 : decode b_MO_read 32 = .ok (.invokevirtual 46, 3) := by decide +kernel
theorem d_MO_read_35 : decode b_MO_read 35 = .ok (.iload_n 2, 1) := by decide +kernel
theorem d_MO_read_36 : decode b_MO_read 36 = .ok (.ireturn, 1) := by decide +kernel
theorem d_MO_say_0 : decode b_MO_say 0 = .ok (.aload_n 0, 1) := by decide +kernel
theorem d_MO_say_1 : decode b_MO_say 1 = .ok (.getfield 22, 3) := by decide +kernel
theorem d_MO_say_4 : decode b_MO_say 4 = .ok (.aload_n 0, 1) := by decide +kernel
theorem d_MO_say_5 : decode b_MO_say 5 = .ok (.getfield 127, 3) := by decide +kernel
theorem d_MO_say_8 : decode b_MO_say 8 = .ok (.iload_n 1, 1) := by decide +kernel
theorem d_MO_say_9 : decode b_MO_say 9 = .ok (.iastore, 1) := by decide +kernel
theorem d_MO_say_10 : decode b_MO_say 10 = .ok (.aload_n 0, 1) := by decide +kernel
theorem d_MO_say_11 : decode b_MO_say 11 = .ok (.dup, 1) := by decide +kernel
theorem d_MO_say_12 : decode b_MO_say 12 = .ok (.getfield 127, 3) := by decide +kernel
theorem d_MO_say_15 : decode b_MO_say 15 = .ok (.iconst 1, 1) := by decide +kernel
theorem d_MO_say_16 : decode b_MO_say 16 = .ok (.iadd, 1) := by decide +kernel
theorem d_MO_say_17 : decode b_MO_say 17 = .ok (.putfield 127, 3) := by decide +kernel
theorem d_MO_say_20 : decode b_MO_say 20 = .ok (.return_, 1) := by decide +kernel
theorem d_MO_write_0 : decode b_MO_write 0 = .ok (.aload_n 0, 1) := by decide +kernel
theorem d_MO_write_1 : decode b_MO_write 1 = .ok (.iload_n 1, 1) := by decide +kernel
theorem d_MO_write_2 : decode b_MO_write 2 = .ok (.invokestatic 67, 3) := by decide +kernel
theorem d_MO_write_5 : decode b_MO_write 5 = .ok (.iconst 1, 1) := by decide +kernel
theorem d_MO_write_6 : decode b_MO_write 6 = .ok (.invokevirtual 71, 3) := by decide +kernel
theorem d_MO_write_9 : decode b_MO_write 9 = .ok (.ifCond .eq 5, 3) := by decide +kernel
theorem d_MO_write_12 : decode b_MO_write 12 = .ok (.iconst 0, 1) := by decide +kernel
theorem d_MO_write_13 : decode b_MO_write 13 = .ok (.ireturn, 1) := by decide +kernel
theorem d_MO_write_14 : decode b_MO_write 14 = .ok (.aload_n 0, 1) := by decide +kernel
theorem d_MO_write_15 : decode b_MO_write 15 = .ok (.iconst 0, 1) := by decide +kernel
theorem d_MO_write_16 : decode b_MO_write 16 = .ok (.putfield 127, 3) := by decide +kernel
theorem d_MO_write_19 : decode b_MO_write 19 = .ok (.aload_n 0, 1) := by decide +kernel
theorem d_MO_write_20 : decode b_MO_write 20 = .ok (.getfield 16, 3) := by decide +kernel
theorem d_MO_write_23 : decode b_MO_write 23 = .ok (.iload_n 1, 1) := by decide +kernel
theorem d_MO_write_24 : decode b_MO_write 24 = .ok (.iaload, 1) := by decide +kernel
theorem d_MO_write_25 : decode b_MO_write 25 = .ok (.ifCond .ge 9, 3) := by decide +kernel
theorem d_MO_write_28 : decode b_MO_write 28 = .ok (.aload_n 0, 1) := by decide +kernel
theorem d_MO_write_29 : decode b_MO_write 29 = .ok (.bipush 45, 2) := by decide +kernel
theorem d_MO_write_31 : decode b_MO_write 31 = .ok (.invokevirtual 130, 3) := by decide +kernel
theorem d_MO_write_34 : decode b_MO_write 34 = .ok (.aload_n 0, 1) := by decide +kernel
theorem d_MO_write_35 : decode b_MO_write 35 = .ok (.getfield 16, 3) := by decide +kernel
theorem d_MO_write_38 : decode b_MO_write 38 = .ok (.iload_n 1, 1) := by decide +kernel
theorem d_MO_write_39 : decode b_MO_write 39 = .ok (.iaload, 1) := by decide +kernel
theorem d_MO_write_40 : decode b_MO_write 40 = .ok (.ifCond .ne 9, 3) := by decide +kernel
theorem d_MO_write_43 : decode b_MO_write 43 = .ok (.aload_n 0, 1) := by decide +kernel
theorem d_MO_write_44 : decode b_MO_write 44 = .ok (.bipush 48, 2) := by decide +kernel
theorem d_MO_write_46 : decode b_MO_write 46 = .ok (.invokevirtual 130, 3) := by decide +kernel
theorem d_MO_write_49 : decode b_MO_write 49 = .ok (.aload_n 0, 1) := by decide +kernel
theorem d_MO_write_50 : decode b_MO_write 50 = .ok (.getfield 13, 3) := by decide +kernel
theorem d_MO_write_53 : decode b_MO_write 53 = .ok (.iload_n 1, 1) := by decide +kernel
theorem d_MO_write_54 : decode b_MO_write 54 = .ok (.iaload, 1) := by decide +kernel
theorem d_MO_write_55 : decode b_MO_write 55 = .ok (.iconst 1, 1) := by decide +kernel
theorem d_MO_write_56 : decode b_MO_write 56 = .ok (.isub, 1) := by decide +kernel
theorem d_MO_write_57 : decode b_MO_write 57 = .ok (.istore_n 2, 1) := by decide +kernel
theorem d_MO_write_58 : decode b_MO_write 58 = .ok (.iload_n 2, 1) := by decide +kernel
theorem d_MO_write_59 : decode b_MO_write 59 = .ok (.ifCond .lt 120, 3) := by decide +kernel
theorem d_MO_write_62 : decode b_MO_write 62 = .ok (.aload_n 0, 1) := by decide +kernel
theorem d_MO_write_63 : decode b_MO_write 63 = .ok (.iload_n 1, 1) := by decide +kernel
theorem d_MO_write_64 : decode b_MO_write 64 = .ok (.iload_n 2, 1) := by decide +kernel
theorem d_MO_write_65 : decode b_MO_write 65 = .ok (.invokevirtual 39, 3) := by decide +kernel
theorem d_MO_write_68 : decode b_MO_write 68 = .ok (.istore_n 3, 1) := by decide +kernel
theorem d_MO_write_69 : decode b_MO_write 69 = .ok (.iload_n 2, 1) := by decide +kernel
theorem d_MO_write_70 : decode b_MO_write 70 = .ok (.aload_n 0, 1) := by decide +kernel
theorem d_MO_write_71 : decode b_MO_write 71 = .ok (.getfield 13, 3) := by decide +kernel
theorem d_MO_write_74 : decode b_MO_write 74 = .ok (.iload_n 1, 1) := by decide +kernel
theorem d_MO_write_75 : decode b_MO_write 75 = .ok (.iaload, 1) := by decide +kernel
theorem d_MO_write_76 : decode b_MO_write 76 = .ok (.iconst 1, 1) := by decide +kernel
theorem d_MO_write_77 : decode b_MO_write 77 = .ok (.isub, 1) := by decide +kernel
theorem d_MO_write_78 : decode b_MO_write 78 = .ok (.if_icmp .ne 7, 3) := by decide +kernel
theorem d_MO_write_81 : decode b_MO_write 81 = .ok (.iconst 1, 1) := by decide +kernel
theorem d_MO_write_82 : decode b_MO_write 82 = .ok (.goto 4, 3) := by decide +kernel
theorem d_MO_write_85 : decode b_MO_write 85 = .ok (.iconst 0, 1) := by decide +kernel
theorem d_MO_write_86 : decode b_MO_write 86 = .ok (.istore 4, 2) := by decide +kernel
theorem d_MO_write_88 : decode b_MO_write 88 = .ok (.iload 4, 2) := by decide +kernel
theorem d_MO_write_90 : decode b_MO_write 90 = .ok (.ifCond .eq 10, 3) := by decide +kernel
theorem d_MO_write_93 : decode b_MO_write 93 = .ok (.iload_n 3, 1) := by decide +kernel
theorem d_MO_write_94 : decode b_MO_write 94 = .ok (.sipush 999, 3) := by decide +kernel
theorem d_MO_write_97 : decode b_MO_write 97 = .ok (.if_icmp .le 15, 3) := by decide +kernel
theorem d_MO_write_100 : decode b_MO_write 100 = .ok (.aload_n 0, 1) := by decide +kernel
theorem d_MO_write_101 : decode b_MO_write 101 = .ok (.bipush 48, 2) := by decide +kernel
theorem d_MO_write_103 : decode b_MO_write 103 = .ok (.iload_n 3, 1) := by decide +kernel
theorem d_MO_write_104 : decode b_MO_write 104 = .ok (.sipush 1000, 3) := by decide +kernel
theorem d_MO_write_107 : decode b_MO_write 107 = .ok (.idiv, 1) := by decide +kernel
theorem d_MO_write_108 : decode b_MO_write 108 = .ok (.iadd, 1) := by decide +kernel
theorem d_MO_write_109 : decode b_MO_write 109 = .ok (.invokevirtual 130, 3) := by decide +kernel
theorem d_MO_write_112 : decode b_MO_write 112 = .ok (.iload 4, 2) := by decide +kernel
theorem d_MO_write_114 : decode b_MO_write 114 = .ok (.ifCond .eq 9, 3) := by decide +kernel
theorem d_MO_write_117 : decode b_MO_write 117 = .ok (.iload_n 3, 1) := by decide +kernel
theorem d_MO_write_118 : decode b_MO_write 118 = .ok (.bipush 99, 2) := by decide +kernel
theorem d_MO_write_120 : decode b_MO_write 120 = .ok (.if_icmp .le 17, 3) := by decide +kernel
theorem d_MO_write_123 : decode b_MO_write 123 = .ok (.aload_n 0, 1) := by decide +kernel
theorem d_MO_write_124 : decode b_MO_write 124 = .ok (.bipush 48, 2) := by decide +kernel
theorem d_MO_write_126 : decode b_MO_write 126 = .ok (.iload_n 3, 1) := by decide +kernel
theorem d_MO_write_127 : decode b_MO_write 127 = .ok (.bipush 100, 2) := by decide +kernel
theorem d_MO_write_129 : decode b_MO_write 129 = .ok (.idiv, 1) := by decide +kernel
theorem d_MO_write_130 : decode b_MO_write 130 = .ok (.bipush 10, 2) := by decide +kernel
theorem d_MO_write_132 : decode b_MO_write 132 = .ok (.irem, 1) := by decide +kernel
theorem d_MO_write_133 : decode b_MO_write 133 = .ok (.iadd, 1) := by decide +kernel
theorem d_MO_write_134 : decode b_MO_write 134 = .ok (.invokevirtual 130, 3) := by decide +kernel
theorem d_MO_write_137 : decode b_MO_write 137 = .ok (.iload 4, 2) := by decide +kernel
theorem d_MO_write_139 : decode b_MO_write 139 = .ok (.ifCond .eq 9, 3) := by decide +kernel
theorem d_MO_write_142 : decode b_MO_write 142 = .ok (.iload_n 3, 1) := by decide +kernel
theorem d_MO_write_143 : decode b_MO_write 143 = .ok (.bipush 9, 2) := by decide +kernel
theorem d_MO_write_145 : decode b_MO_write 145 = .ok (.if_icmp .le 17, 3) := by decide +kernel
theorem d_MO_write_148 : decode b_MO_write 148 = .ok (.aload_n 0, 1) := by decide +kernel
theorem d_MO_write_149 : decode b_MO_write 149 = .ok (.bipush 48, 2) := by decide +kernel
theorem d_MO_write_151 : decode b_MO_write 151 = .ok (.iload_n 3, 1) := by decide +kernel
theorem d_MO_write_152 : decode b_MO_write 152 = .ok (.bipush 10, 2) := by decide +kernel
theorem d_MO_write_154 : decode b_MO_write 154 = .ok (.idiv, 1) := by decide +kernel
theorem d_MO_write_155 : decode b_MO_write 155 = .ok (.bipush 10, 2) := by decide +kernel
theorem d_MO_write_157 : decode b_MO_write 157 = .ok (.irem, 1) := by decide +kernel
theorem d_MO_write_158 : decode b_MO_write 158 = .ok (.iadd, 1) := by decide +kernel
theorem d_MO_write_159 : decode b_MO_write 159 = .ok (.invokevirtual 130, 3) := by decide +kernel
theorem d_MO_write_162 : decode b_MO_write 162 = .ok (.aload_n 0, 1) := by decide +kernel
theorem d_MO_write_163 : decode b_MO_write 163 = .ok (.bipush 48, 2) := by decide +kernel
theorem d_MO_write_165 : decode b_MO_write 165 = .ok (.iload_n 3, 1) := by decide +kernel
theorem d_MO_write_166 : decode b_MO_write 166 = .ok (.bipush 10, 2) := by decide +kernel
theorem d_MO_write_168 : decode b_MO_write 168 = .ok (.irem, 1) := by decide +kernel
theorem d_MO_write_169 : decode b_MO_write 169 = .ok (.iadd, 1) := by decide +kernel
theorem d_MO_write_170 : decode b_MO_write 170 = .ok (.invokevirtual 130, 3) := by decide +kernel
theorem d_MO_write_173 : decode b_MO_write 173 = .ok (.iinc 2 (-1), 3) := by decide +kernel
theorem d_MO_write_176 : decode b_MO_write 176 = .ok (.goto (-118), 3) := by decide +kernel
theorem d_MO_write_179 : decode b_MO_write 179 = .ok (.aload_n 0, 1) := by decide +kernel
theorem d_MO_write_180 : decode b_MO_write 180 = .ok (.getfield 127, 3) := by decide +kernel
theorem d_MO_write_183 : decode b_MO_write 183 = .ok (.ireturn, 1) := by decide +kernel
theorem d_MO_out_0 : decode b_MO_out 0 = .ok (.aload_n 0, 1) := by decide +kernel
theorem d_MO_out_1 : decode b_MO_out 1 = .ok (.iload_n 1, 1) := by decide +kernel
theorem d_MO_out_2 : decode b_MO_out 2 = .ok (.i2l, 1) := by decide +kernel
theorem d_MO_out_3 : decode b_MO_out 3 = .ok (.lconst 0, 1) := by decide +kernel
theorem d_MO_out_4 : decode b_MO_out 4 = .ok (.aload_n 0, 1) := by decide +kernel
theorem d_MO_out_5 : decode b_MO_out 5 = .ok (.getfield 127, 3) := by decide +kernel
theorem d_MO_out_8 : decode b_MO_out 8 = .ok (.iconst 1, 1) := by decide +kernel
theorem d_MO_out_9 : decode b_MO_out 9 = .ok (.isub, 1) := by decide +kernel
theorem d_MO_out_10 : decode b_MO_out 10 = .ok (.i2l, 1) := by decide +kernel
theorem d_MO_out_11 : decode b_MO_out 11 = .ok (.invokestatic 87, 3) := by decide +kernel
theorem d_MO_out_14 : decode b_MO_out 14 = .ok (.ifCond .ne 7, 3) := by decide +kernel
theorem d_MO_out_17 : decode b_MO_out 17 = .ok (.iconst 1, 1) := by decide +kernel
theorem d_MO_out_18 : decode b_MO_out 18 = .ok (.goto 4, 3) := by decide +kernel
theorem d_MO_out_21 : decode b_MO_out 21 = .ok (.iconst 0, 1) := by decide +kernel
theorem d_MO_out_22 : decode b_MO_out 22 = .ok (.iconst 1, 1) := by decide +kernel
theorem d_MO_out_23 : decode b_MO_out 23 = .ok (.invokevirtual 71, 3) := by decide +kernel
theorem d_MO_out_26 : decode b_MO_out 26 = .ok (.ifCond .eq 5, 3) := by decide +kernel
theorem d_MO_out_29 : decode b_MO_out 29 = .ok (.lconst 0, 1) := by decide +kernel
theorem d_MO_out_30 : decode b_MO_out 30 = .ok (.lreturn, 1) := by decide +kernel
theorem d_MO_out_31 : decode b_MO_out 31 = .ok (.lconst 0, 1) := by decide +kernel
theorem d_MO_out_32 : decode b_MO_out 32 = .ok (.lstore_n 2, 1) := by decide +kernel
theorem d_MO_out_33 : decode b_MO_out 33 = .ok (.iconst 0, 1) := by decide +kernel
theorem d_MO_out_34 : decode b_MO_out 34 = .ok (.istore 4, 2) := by decide +kernel
theorem d_MO_out_36 : decode b_MO_out 36 = .ok (.iload 4, 2) := by decide +kernel
theorem d_MO_out_38 : decode b_MO_out 38 = .ok (.bipush 8, 2) := by decide +kernel
theorem d_MO_out_40 : decode b_MO_out 40 = .ok (.if_icmp .ge 39, 3) := by decide +kernel
theorem d_MO_out_43 : decode b_MO_out 43 = .ok (.iload_n 1, 1) := by decide +kernel
theorem d_MO_out_44 : decode b_MO_out 44 = .ok (.iload 4, 2) := by decide +kernel
theorem d_MO_out_46 : decode b_MO_out 46 = .ok (.iadd, 1) := by decide +kernel
theorem d_MO_out_47 : decode b_MO_out 47 = .ok (.aload_n 0, 1) := by decide +kernel
theorem d_MO_out_48 : decode b_MO_out 48 = .ok (.getfield 127, 3) := by decide +kernel
theorem d_MO_out_51 : decode b_MO_out 51 = .ok (.if_icmp .ge 28, 3) := by decide +kernel
theorem d_MO_out_54 : decode b_MO_out 54 = .ok (.lload_n 2, 1) := by decide +kernel
theorem d_MO_out_55 : decode b_MO_out 55 = .ok (.aload_n 0, 1) := by decide +kernel
theorem d_MO_out_56 : decode b_MO_out 56 = .ok (.getfield 22, 3) := by decide +kernel
theorem d_MO_out_59 : decode b_MO_out 59 = .ok (.iload_n 1, 1) := by decide +kernel
theorem d_MO_out_60 : decode b_MO_out 60 = .ok (.iload 4, 2) := by decide +kernel
theorem d_MO_out_62 : decode b_MO_out 62 = .ok (.iadd, 1) := by decide +kernel
theorem d_MO_out_63 : decode b_MO_out 63 = .ok (.iaload, 1) := by decide +kernel
theorem d_MO_out_64 : decode b_MO_out 64 = .ok (.i2l, 1) := by decide +kernel
theorem d_MO_out_65 : decode b_MO_out 65 = .ok (.bipush 8, 2) := by decide +kernel
theorem d_MO_out_67 : decode b_MO_out 67 = .ok (.iload 4, 2) := by decide +kernel
theorem d_MO_out_69 : decode b_MO_out 69 = .ok (.imul, 1) := by decide +kernel
theorem d_MO_out_70 : decode b_MO_out 70 = .ok (.lshl, 1) := by decide +kernel
theorem d_MO_out_71 : decode b_MO_out 71 = .ok (.lor, 1) := by decide +kernel
theorem d_MO_out_72 : decode b_MO_out 72 = .ok (.lstore_n 2, 1) := by decide +kernel
theorem d_MO_out_73 : decode b_MO_out 73 = .ok (.iinc 4 1, 3) := by decide +kernel
theorem d_MO_out_76 : decode b_MO_out 76 = .ok (.goto (-40), 3) := by decide +kernel
theorem d_MO_out_79 : decode b_MO_out 79 = .ok (.lload_n 2, 1) := by decide +kernel
theorem d_MO_out_80 : decode b_MO_out 80 = .ok (.lreturn, 1) := by decide +kernel
theorem d_MO_text_0 : decode b_MO_text 0 = .ok (.aload_n 0, 1) := by decide +kernel
theorem d_MO_text_1 : decode b_MO_text 1 = .ok (.iload_n 1, 1) := by decide +kernel
theorem d_MO_text_2 : decode b_MO_text 2 = .ok (.i2l, 1) := by decide +kernel
theorem d_MO_text_3 : decode b_MO_text 3 = .ok (.lconst 0, 1) := by decide +kernel
theorem d_MO_text_4 : decode b_MO_text 4 = .ok (.lconst 1, 1) := by decide +kernel
theorem d_MO_text_5 : decode b_MO_text 5 = .ok (.invokestatic 87, 3) := by decide +kernel
theorem d_MO_text_8 : decode b_MO_text 8 = .ok (.ifCond .ne 7, 3) := by decide +kernel
theorem d_MO_text_11 : decode b_MO_text 11 = .ok (.iconst 1, 1) := by decide +kernel
theorem d_MO_text_12 : decode b_MO_text 12 = .ok (.goto 4, 3) := by decide +kernel
theorem d_MO_text_15 : decode b_MO_text 15 = .ok (.iconst 0, 1) := by decide +kernel
theorem d_MO_text_16 : decode b_MO_text 16 = .ok (.iconst 1, 1) := by decide +kernel
theorem d_MO_text_17 : decode b_MO_text 17 = .ok (.invokevirtual 71, 3) := by decide +kernel
theorem d_MO_text_20 : decode b_MO_text 20 = .ok (.ifCond .eq 7, 3) := by decide +kernel
theorem d_MO_text_23 : decode b_MO_text 23 = .ok (.iconst 0, 1) := by decide +kernel
theorem d_MO_text_24 : decode b_MO_text 24 = .ok (.goto 18, 3) := by decide +kernel
theorem d_MO_text_27 : decode b_MO_text 27 = .ok (.iload_n 1, 1) := by decide +kernel
theorem d_MO_text_28 : decode b_MO_text 28 = .ok (.ifCond .ne 10, 3) := by decide +kernel
theorem d_MO_text_31 : decode b_MO_text 31 = .ok (.aload_n 0, 1) := by decide +kernel
theorem d_MO_text_32 : decode b_MO_text 32 = .ok (.getfield 120, 3) := by decide +kernel
theorem d_MO_text_35 : decode b_MO_text 35 = .ok (.goto 7, 3) := by decide +kernel
theorem d_MO_text_38 : decode b_MO_text 38 = .ok (.aload_n 0, 1) := by decide +kernel
theorem d_MO_text_39 : decode b_MO_text 39 = .ok (.getfield 127, 3) := by decide +kernel
theorem d_MO_text_42 : decode b_MO_text 42 = .ok (.ireturn, 1) := by decide +kernel
abbrev rm_MO_setRow : Room := { frames := 0, cells := 0, slots := 0, locals := 0 }
def bk_MO_setRow_83 (rc_37 : Nat → Int32 → Int64 → ah_H → Prop) (K : ah_H → Prop) (x43 : Nat) (x44 : Int32) (x45 : Int64) (s46 : Int64) (s47 : Int32) (s48 : Nat) (h49 : ah_H) : Prop :=
  ∀ v50 : Int32, v50 = s46.toInt32 → ah_T h49 s48 = 100 ∧ vp_in s47 (ah_N h49 s48) ∧ ∀ h53 : ah_H, h53 = ah_cI h49 s48 (upd (ah_bI h49 s48) s47.toNatClampNeg v50) → ∀ v56 : Int64, v56 = x45 / (10000 : Int64) → ah_T h53 x43 = 5 ∧ ∃ q58, ah_R h53 14 x43 = some q58 ∧ ah_T h53 q58 = 100 ∧ vp_in x44 (ah_N h53 q58) ∧ ∀ v62 : Int32, v62 = (ah_bI h53 q58 x44.toNatClampNeg) + (1 : Int32) → vp_in x44 (ah_N h53 q58) ∧ ∀ h64 : ah_H, h64 = ah_cI h53 q58 (upd (ah_bI h53 q58) x44.toNatClampNeg v62) → rc_37 x43 x44 v56 h64
def lp_MO_setRow_37 (xt_106 : ah_H → Prop) (K : ah_H → Prop) : Nat → Nat → Int32 → Int64 → ah_H → Prop
  | 0, _, _, _, _ => False
  | n + 1, x29, x30, x31, h32 =>
    (x31 = (0 : Int64) → (xt_106 h32)) ∧ (¬ x31 = (0 : Int64) → (∀ v34 : Int64, v34 = x31 - x31 / (10000 : Int64) * (10000 : Int64) → ah_T h32 x29 = 5 ∧ ∃ q36, ah_R h32 13 x29 = some q36 ∧ ∃ q38, ah_R h32 14 x29 = some q38 ∧ ah_T h32 q38 = 100 ∧ vp_in x30 (ah_N h32 q38) ∧ ((0 : Int64) ≤ v34 → (bk_MO_setRow_83 (lp_MO_setRow_37 xt_106 K n) K x29 x30 x31 v34 (((1300 : Int32) * x30) + (ah_bI h32 q38 x30.toNatClampNeg)) q36 h32)) ∧ (¬ (0 : Int64) ≤ v34 → (bk_MO_setRow_83 (lp_MO_setRow_37 xt_106 K n) K x29 x30 x31 (-v34) (((1300 : Int32) * x30) + (ah_bI h32 q38 x30.toNatClampNeg)) q36 h32))))
def bk_MO_setRow_36  (K : ah_H → Prop) (x17 : Nat) (x18 : Int32) (x19 : Int64) (s20 : Int32) (s21 : Int32) (s22 : Nat) (h23 : ah_H) : Prop :=
  ah_T h23 s22 = 100 ∧ vp_in s21 (ah_N h23 s22) ∧ ∀ h26 : ah_H, h26 = ah_cI h23 s22 (upd (ah_bI h23 s22) s21.toNatClampNeg s20) → ∃ k70, lp_MO_setRow_37 (fun  h69 => K h69) K k70 x17 x18 x19 h26
def w_MO_setRow (a1 : Nat) (a2 : Int32) (a3 : Int64) (h0 : ah_H) (K : ah_H → Prop) : Prop :=
  ah_T h0 a1 = 5 ∧ ∃ q5, ah_R h0 14 a1 = some q5 ∧ ah_T h0 q5 = 100 ∧ vp_in a2 (ah_N h0 q5) ∧ ∀ h9 : ah_H, h9 = ah_cI h0 q5 (upd (ah_bI h0 q5) a2.toNatClampNeg (0 : Int32)) → ∃ q13, ah_R h9 15 a1 = some q13 ∧ ((0 : Int64) ≤ a3 → ((a3 ≤ (0 : Int64) → (bk_MO_setRow_36 K a1 a2 a3 (0 : Int32) a2 q13 h9)) ∧ (¬ a3 ≤ (0 : Int64) → (bk_MO_setRow_36 K a1 a2 a3 (1 : Int32) a2 q13 h9)))) ∧ (¬ (0 : Int64) ≤ a3 → (bk_MO_setRow_36 K a1 a2 a3 (-1 : Int32) a2 q13 h9))
abbrev rm_MO_at : Room := { frames := 0, cells := 0, slots := 0, locals := 0 }
def bk_MO_at_30  (K : Int32 → ah_H → Prop) (s11 : Int32) (h12 : ah_H) : Prop :=
  K s11 h12
def bk_MO_at_29  (K : Int32 → ah_H → Prop)  (h10 : ah_H) : Prop :=
  bk_MO_at_30 K (0 : Int32) h10
def w_MO_at (a1 : Nat) (a2 : Int32) (a3 : Int32) (h0 : ah_H) (K : Int32 → ah_H → Prop) : Prop :=
  ah_T h0 a1 = 5 ∧ ∃ q5, ah_R h0 14 a1 = some q5 ∧ ah_T h0 q5 = 100 ∧ vp_in a2 (ah_N h0 q5) ∧ ((ah_bI h0 q5 a2.toNatClampNeg) ≤ a3 → (bk_MO_at_29 K h0)) ∧ (¬ (ah_bI h0 q5 a2.toNatClampNeg) ≤ a3 → ((a3 < 0 → (bk_MO_at_29 K h0)) ∧ (¬ a3 < 0 → (∃ q14, ah_R h0 13 a1 = some q14 ∧ ah_T h0 q14 = 100 ∧ vp_in (((1300 : Int32) * a2) + a3) (ah_N h0 q14) ∧ bk_MO_at_30 K (ah_bI h0 q14 (((1300 : Int32) * a2) + a3).toNatClampNeg) h0))))
abbrev rm_MO_scale : Room := { frames := 1, cells := 0, slots := 0, locals := 22 }
def lp_MO_scale_5 (xt_61 : Nat → Int32 → Int32 → ah_H → Prop) (K : ah_H → Prop) : Nat → Nat → Int32 → Int32 → Int32 → Int32 → ah_H → Prop
  | 0, _, _, _, _, _, _ => False
  | n + 1, x4, x5, x6, x7, x8, h9 =>
    ah_T h9 x4 = 5 ∧ ∃ q11, ah_R h9 14 x4 = some q11 ∧ ah_T h9 q11 = 100 ∧ vp_in x5 (ah_N h9 q11) ∧ ((ah_bI h9 q11 x5.toNatClampNeg) ≤ x8 → (xt_61 x4 x5 x7 h9)) ∧ (¬ (ah_bI h9 q11 x5.toNatClampNeg) ≤ x8 → (w_MO_at x4 x5 x8 h9 (fun r17 h16 => ah_m h9 h16 → ∀ v21 : Int32, v21 = (r17 * x6) + x7 → ∃ q22, ah_R h16 13 x4 = some q22 ∧ ∀ v24 : Int32, v24 = v21 - v21 / (10000 : Int32) * (10000 : Int32) → ah_T h16 q22 = 100 ∧ vp_in (((1300 : Int32) * x5) + x8) (ah_N h16 q22) ∧ ∀ h27 : ah_H, h27 = ah_cI h16 q22 (upd (ah_bI h16 q22) (((1300 : Int32) * x5) + x8).toNatClampNeg v24) → ∀ v32 : Int32, v32 = v21 / (10000 : Int32) → ∀ v33 : Int32, v33 = x8 + 1 → (lp_MO_scale_5 xt_61 K n) x4 x5 x6 v32 v33 h27)))
def lp_MO_scale_61 (xt_106 : ah_H → Prop) (K : ah_H → Prop) : Nat → Nat → Int32 → Int32 → ah_H → Prop
  | 0, _, _, _, _ => False
  | n + 1, x38, x39, x40, h41 =>
    (x40 ≤ 0 → (xt_106 h41)) ∧ (¬ x40 ≤ 0 → (ah_T h41 x38 = 5 ∧ ∃ q44, ah_R h41 13 x38 = some q44 ∧ ∃ q46, ah_R h41 14 x38 = some q46 ∧ ah_T h41 q46 = 100 ∧ vp_in x39 (ah_N h41 q46) ∧ ∀ v50 : Int32, v50 = x40 - x40 / (10000 : Int32) * (10000 : Int32) → ah_T h41 q44 = 100 ∧ vp_in (((1300 : Int32) * x39) + (ah_bI h41 q46 x39.toNatClampNeg)) (ah_N h41 q44) ∧ ∀ h53 : ah_H, h53 = ah_cI h41 q44 (upd (ah_bI h41 q44) (((1300 : Int32) * x39) + (ah_bI h41 q46 x39.toNatClampNeg)).toNatClampNeg v50) → ∀ v58 : Int32, v58 = x40 / (10000 : Int32) → ∃ q59, ah_R h53 14 x38 = some q59 ∧ ah_T h53 q59 = 100 ∧ vp_in x39 (ah_N h53 q59) ∧ ∀ v63 : Int32, v63 = (ah_bI h53 q59 x39.toNatClampNeg) + (1 : Int32) → vp_in x39 (ah_N h53 q59) ∧ ∀ h65 : ah_H, h65 = ah_cI h53 q59 (upd (ah_bI h53 q59) x39.toNatClampNeg v63) → (lp_MO_scale_61 xt_106 K n) x38 x39 v58 h65))
def w_MO_scale (a1 : Nat) (a2 : Int32) (a3 : Int32) (h0 : ah_H) (K : ah_H → Prop) : Prop :=
  ∃ k73, lp_MO_scale_5 (fun (x34 : Nat) (x35 : Int32) (x36 : Int32) h37 => ∃ k72, lp_MO_scale_61 (fun  h71 => K h71) K k72 x34 x35 x36 h37) K k73 a1 a2 a3 (0 : Int32) (0 : Int32) h0
abbrev rm_MO_init : Room := { frames := 2, cells := 5, slots := 28636, locals := 47 }
def lp_MO_init_56 (xt_78 : ah_H → Prop) (K : ah_H → Prop) : Nat → Nat → Int32 → ah_H → Prop
  | 0, _, _, _ => False
  | n + 1, x80, x81, h82 =>
    ((1024 : Int32) ≤ x81 → (xt_78 h82)) ∧ (¬ (1024 : Int32) ≤ x81 → (ah_T h82 x80 = 5 ∧ w_MO_scale x80 (12 : Int32) (256 : Int32) h82 (fun h85 => ah_m h82 h85 → ∀ v88 : Int32, v88 = x81 + 1 → (lp_MO_init_56 xt_78 K n) x80 v88 h85)))
def w_MO_init (a1 : Nat) (h0 : ah_H) (K : ah_H → Prop) : Prop :=
  ∀ q2 : Nat, ah_T h0 q2 = 0 → ∀ h4 : ah_H, h4 = ah_new h0 q2 100 23400 → ah_T h4 a1 = 5 ∧ ∀ h8 : ah_H, h8 = ah_sR h4 13 a1 (some q2) → ∀ q12 : Nat, ah_T h8 q12 = 0 → ∀ h14 : ah_H, h14 = ah_new h8 q12 100 18 → ∀ h19 : ah_H, h19 = ah_sR h14 14 a1 (some q12) → ∀ q24 : Nat, ah_T h19 q24 = 0 → ∀ h26 : ah_H, h26 = ah_new h19 q24 100 18 → ∀ h32 : ah_H, h32 = ah_sR h26 15 a1 (some q24) → ∀ q38 : Nat, ah_T h32 q38 = 0 → ∀ h40 : ah_H, h40 = ah_new h32 q38 100 2600 → ∀ h47 : ah_H, h47 = ah_sR h40 16 a1 (some q38) → ∀ q54 : Nat, ah_T h47 q54 = 0 → ∀ h56 : ah_H, h56 = ah_new h47 q54 100 2600 → ∀ h64 : ah_H, h64 = ah_sR h56 17 a1 (some q54) → w_MO_setRow a1 (12 : Int32) (1 : Int64) h64 (fun h72 => ah_m h64 h72 → ∃ k90, lp_MO_init_56 (fun  h89 => K h89) K k90 a1 (0 : Int32) h72)
abbrev rm_MO_thrown : Room := { frames := 0, cells := 0, slots := 0, locals := 0 }
def w_MO_thrown (a1 : Nat) (h0 : ah_H) (K : Int32 → ah_H → Prop) : Prop :=
  ah_T h0 a1 = 5 ∧ K (ah_I h0 4 a1) h0
abbrev rm_MO_fails : Room := { frames := 0, cells := 0, slots := 0, locals := 0 }
def bk_MO_fails_10  (K : Int32 → ah_H → Prop) (x5 : Int32) (s6 : Int32) (s7 : Nat) (h8 : ah_H) : Prop :=
  ah_T h8 s7 = 5 ∧ ∀ h10 : ah_H, h10 = ah_sI h8 4 s7 s6 → (x5 = 0 ∨ x5 = 1) ∧ K x5 h10
def w_MO_fails (a1 : Nat) (a2 : Int32) (a3 : Int32) (h0 : ah_H) (K : Int32 → ah_H → Prop) : Prop :=
  (a2 = 0 → (bk_MO_fails_10 K a2 (0 : Int32) a1 h0)) ∧ (¬ a2 = 0 → (bk_MO_fails_10 K a2 a3 a1 h0))
abbrev rm_MO_in : Room := { frames := 0, cells := 0, slots := 0, locals := 0 }
def bk_MO_in_18  (K : Int32 → ah_H → Prop) (s6 : Int32) (h7 : ah_H) : Prop :=
  (s6 = 0 ∨ s6 = 1) ∧ K s6 h7
def bk_MO_in_17  (K : Int32 → ah_H → Prop)  (h5 : ah_H) : Prop :=
  bk_MO_in_18 K (0 : Int32) h5
def w_MO_in (a1 : Int64) (a2 : Int64) (a3 : Int64) (h0 : ah_H) (K : Int32 → ah_H → Prop) : Prop :=
  (a1 < a2 → (bk_MO_in_17 K h0)) ∧ (¬ a1 < a2 → ((a3 < a1 → (bk_MO_in_17 K h0)) ∧ (¬ a3 < a1 → (bk_MO_in_18 K (1 : Int32) h0))))
abbrev rm_MO_isNone : Room := { frames := 0, cells := 0, slots := 0, locals := 0 }
def bk_MO_isNone_15  (K : Int32 → ah_H → Prop) (s4 : Int32) (h5 : ah_H) : Prop :=
  (s4 = 0 ∨ s4 = 1) ∧ K s4 h5
def bk_MO_isNone_10  (K : Int32 → ah_H → Prop)  (h3 : ah_H) : Prop :=
  bk_MO_isNone_15 K (1 : Int32) h3
def w_MO_isNone (a1 : Int32) (h0 : ah_H) (K : Int32 → ah_H → Prop) : Prop :=
  (a1 < 0 → (bk_MO_isNone_10 K h0)) ∧ (¬ a1 < 0 → ((a1 < (12 : Int32) → (bk_MO_isNone_15 K (0 : Int32) h0)) ∧ (¬ a1 < (12 : Int32) → (bk_MO_isNone_10 K h0))))
abbrev rm_MO_copyRow : Room := { frames := 0, cells := 0, slots := 0, locals := 0 }
def lp_MO_copyRow_2 (xt_42 : Nat → Int32 → Int32 → ah_H → Prop) (K : ah_H → Prop) : Nat → Nat → Int32 → Int32 → Int32 → ah_H → Prop
  | 0, _, _, _, _, _ => False
  | n + 1, x4, x5, x6, x7, h8 =>
    ah_T h8 x4 = 5 ∧ ∃ q10, ah_R h8 14 x4 = some q10 ∧ ah_T h8 q10 = 100 ∧ vp_in x6 (ah_N h8 q10) ∧ ((ah_bI h8 q10 x6.toNatClampNeg) ≤ x7 → (xt_42 x4 x5 x6 h8)) ∧ (¬ (ah_bI h8 q10 x6.toNatClampNeg) ≤ x7 → (∃ q15, ah_R h8 13 x4 = some q15 ∧ ∃ q17, ah_R h8 13 x4 = some q17 ∧ ah_T h8 q17 = 100 ∧ vp_in (((1300 : Int32) * x6) + x7) (ah_N h8 q17) ∧ ∀ v21 : Int32, v21 = ah_bI h8 q17 (((1300 : Int32) * x6) + x7).toNatClampNeg → ah_T h8 q15 = 100 ∧ vp_in (((1300 : Int32) * x5) + x7) (ah_N h8 q15) ∧ ∀ h24 : ah_H, h24 = ah_cI h8 q15 (upd (ah_bI h8 q15) (((1300 : Int32) * x5) + x7).toNatClampNeg v21) → ∀ v30 : Int32, v30 = x7 + 1 → (lp_MO_copyRow_2 xt_42 K n) x4 x5 x6 v30 h24))
def w_MO_copyRow (a1 : Nat) (a2 : Int32) (a3 : Int32) (h0 : ah_H) (K : ah_H → Prop) : Prop :=
  ∃ k66, lp_MO_copyRow_2 (fun (x31 : Nat) (x32 : Int32) (x33 : Int32) h34 => ah_T h34 x31 = 5 ∧ ∃ q36, ah_R h34 14 x31 = some q36 ∧ ∃ q38, ah_R h34 14 x31 = some q38 ∧ ah_T h34 q38 = 100 ∧ vp_in x33 (ah_N h34 q38) ∧ ∀ v42 : Int32, v42 = ah_bI h34 q38 x33.toNatClampNeg → ah_T h34 q36 = 100 ∧ vp_in x32 (ah_N h34 q36) ∧ ∀ h45 : ah_H, h45 = ah_cI h34 q36 (upd (ah_bI h34 q36) x32.toNatClampNeg v42) → ∃ q50, ah_R h45 15 x31 = some q50 ∧ ∃ q52, ah_R h45 15 x31 = some q52 ∧ ah_T h45 q52 = 100 ∧ vp_in x33 (ah_N h45 q52) ∧ ∀ v56 : Int32, v56 = ah_bI h45 q52 x33.toNatClampNeg → ah_T h45 q50 = 100 ∧ vp_in x32 (ah_N h45 q50) ∧ ∀ h59 : ah_H, h59 = ah_cI h45 q50 (upd (ah_bI h45 q50) x32.toNatClampNeg v56) → K h59) K k66 a1 a2 a3 (0 : Int32) h0
abbrev rm_MO_trim : Room := { frames := 0, cells := 0, slots := 0, locals := 0 }
def lp_MO_trim_7 (xt_51 : Nat → Int32 → ah_H → Prop) (K : ah_H → Prop) : Nat → Nat → Int32 → ah_H → Prop
  | 0, _, _, _ => False
  | n + 1, x13, x14, h15 =>
    ah_T h15 x13 = 5 ∧ ∃ q17, ah_R h15 14 x13 = some q17 ∧ ah_T h15 q17 = 100 ∧ vp_in x14 (ah_N h15 q17) ∧ ((ah_bI h15 q17 x14.toNatClampNeg) ≤ 0 → (xt_51 x13 x14 h15)) ∧ (¬ (ah_bI h15 q17 x14.toNatClampNeg) ≤ 0 → (∃ q22, ah_R h15 13 x13 = some q22 ∧ ∃ q24, ah_R h15 14 x13 = some q24 ∧ ah_T h15 q24 = 100 ∧ vp_in x14 (ah_N h15 q24) ∧ ah_T h15 q22 = 100 ∧ vp_in ((((1300 : Int32) * x14) + (ah_bI h15 q24 x14.toNatClampNeg)) - (1 : Int32)) (ah_N h15 q22) ∧ (¬ (ah_bI h15 q22 ((((1300 : Int32) * x14) + (ah_bI h15 q24 x14.toNatClampNeg)) - (1 : Int32)).toNatClampNeg) = 0 → (xt_51 x13 x14 h15)) ∧ ((ah_bI h15 q22 ((((1300 : Int32) * x14) + (ah_bI h15 q24 x14.toNatClampNeg)) - (1 : Int32)).toNatClampNeg) = 0 → (∃ q31, ah_R h15 14 x13 = some q31 ∧ ah_T h15 q31 = 100 ∧ vp_in x14 (ah_N h15 q31) ∧ ∀ v35 : Int32, v35 = (ah_bI h15 q31 x14.toNatClampNeg) - (1 : Int32) → vp_in x14 (ah_N h15 q31) ∧ ∀ h37 : ah_H, h37 = ah_cI h15 q31 (upd (ah_bI h15 q31) x14.toNatClampNeg v35) → (lp_MO_trim_7 xt_51 K n) x13 x14 h37))))
def bk_MO_trim_67  (K : ah_H → Prop)  (h56 : ah_H) : Prop :=
  K h56
def bk_MO_trim_51  (K : ah_H → Prop) (x47 : Nat) (x48 : Int32) (h49 : ah_H) : Prop :=
  ah_T h49 x47 = 5 ∧ ∃ q51, ah_R h49 14 x47 = some q51 ∧ ah_T h49 q51 = 100 ∧ vp_in x48 (ah_N h49 q51) ∧ (¬ (ah_bI h49 q51 x48.toNatClampNeg) = 0 → (bk_MO_trim_67 K h49)) ∧ ((ah_bI h49 q51 x48.toNatClampNeg) = 0 → (∃ q57, ah_R h49 15 x47 = some q57 ∧ ah_T h49 q57 = 100 ∧ vp_in x48 (ah_N h49 q57) ∧ ∀ h61 : ah_H, h61 = ah_cI h49 q57 (upd (ah_bI h49 q57) x48.toNatClampNeg (0 : Int32)) → bk_MO_trim_67 K h61))
def w_MO_trim (a1 : Nat) (a2 : Int32) (a3 : Int32) (h0 : ah_H) (K : ah_H → Prop) : Prop :=
  ah_T h0 a1 = 5 ∧ ∃ q5, ah_R h0 14 a1 = some q5 ∧ ah_T h0 q5 = 100 ∧ vp_in a2 (ah_N h0 q5) ∧ ∀ h9 : ah_H, h9 = ah_cI h0 q5 (upd (ah_bI h0 q5) a2.toNatClampNeg a3) → ∃ k66, lp_MO_trim_7 (fun (x44 : Nat) (x45 : Int32) h46 => bk_MO_trim_51 K x44 x45 h46) K k66 a1 a2 h9
abbrev rm_MO_against : Room := { frames := 1, cells := 0, slots := 0, locals := 22 }
def lp_MO_against_45 (xt_64 : Nat → Int32 → Int32 → Int32 → ah_H → Prop) (xt_91 : ah_H → Prop) (K : Int32 → ah_H → Prop) : Nat → Nat → Int32 → Int32 → Int32 → ah_H → Prop
  | 0, _, _, _, _, _ => False
  | n + 1, x19, x20, x21, x22, h23 =>
    (x22 < 0 → (xt_91 h23)) ∧ (¬ x22 < 0 → (ah_T h23 x19 = 5 ∧ w_MO_at x19 x20 x22 h23 (fun r27 h26 => ah_m h23 h26 → w_MO_at x19 x21 x22 h26 (fun r31 h30 => ah_m h26 h30 → (r27 = r31 → (∀ v35 : Int32, v35 = x22 + (-1) → (lp_MO_against_45 xt_64 xt_91 K n) x19 x20 x21 v35 h30)) ∧ (¬ r27 = r31 → (xt_64 x19 x20 x21 x22 h30))))))
def bk_MO_against_84  (K : Int32 → ah_H → Prop) (s51 : Int32) (h52 : ah_H) : Prop :=
  K s51 h52
def bk_MO_against_35  (K : Int32 → ah_H → Prop) (s64 : Int32) (h65 : ah_H) : Prop :=
  K s64 h65
def w_MO_against (a1 : Nat) (a2 : Int32) (a3 : Int32) (h0 : ah_H) (K : Int32 → ah_H → Prop) : Prop :=
  ah_T h0 a1 = 5 ∧ ∃ q5, ah_R h0 14 a1 = some q5 ∧ ah_T h0 q5 = 100 ∧ vp_in a2 (ah_N h0 q5) ∧ ∃ q9, ah_R h0 14 a1 = some q9 ∧ ah_T h0 q9 = 100 ∧ vp_in a3 (ah_N h0 q9) ∧ ((ah_bI h0 q5 a2.toNatClampNeg) = (ah_bI h0 q9 a3.toNatClampNeg) → (∃ q14, ah_R h0 14 a1 = some q14 ∧ ah_T h0 q14 = 100 ∧ vp_in a2 (ah_N h0 q14) ∧ ∀ v18 : Int32, v18 = (ah_bI h0 q14 a2.toNatClampNeg) - (1 : Int32) → ∃ k54, lp_MO_against_45 (fun (x36 : Nat) (x37 : Int32) (x38 : Int32) (x39 : Int32) h40 => ah_T h40 x36 = 5 ∧ w_MO_at x36 x37 x39 h40 (fun r43 h42 => ah_m h40 h42 → w_MO_at x36 x38 x39 h42 (fun r47 h46 => ah_m h42 h46 → (r47 ≤ r43 → (bk_MO_against_84 K (1 : Int32) h46)) ∧ (¬ r47 ≤ r43 → (bk_MO_against_84 K (-1 : Int32) h46))))) (fun  h53 => K (0 : Int32) h53) K k54 a1 a2 a3 v18 h0)) ∧ (¬ (ah_bI h0 q5 a2.toNatClampNeg) = (ah_bI h0 q9 a3.toNatClampNeg) → (∃ q55, ah_R h0 14 a1 = some q55 ∧ ah_T h0 q55 = 100 ∧ vp_in a2 (ah_N h0 q55) ∧ ∃ q59, ah_R h0 14 a1 = some q59 ∧ ah_T h0 q59 = 100 ∧ vp_in a3 (ah_N h0 q59) ∧ ((ah_bI h0 q59 a3.toNatClampNeg) ≤ (ah_bI h0 q55 a2.toNatClampNeg) → (bk_MO_against_35 K (1 : Int32) h0)) ∧ (¬ (ah_bI h0 q59 a3.toNatClampNeg) ≤ (ah_bI h0 q55 a2.toNatClampNeg) → (bk_MO_against_35 K (-1 : Int32) h0))))
abbrev rm_MO_joins : Room := { frames := 1, cells := 0, slots := 0, locals := 22 }
def bk_MO_joins_90 (rc_38 : Nat → Int32 → Int32 → Int32 → Int32 → Int32 → Int32 → Int32 → ah_H → Prop) (K : ah_H → Prop) (x49 : Nat) (x50 : Int32) (x51 : Int32) (x52 : Int32) (x53 : Int32) (x54 : Int32) (x55 : Int32) (x56 : Int32) (s57 : Int32) (h58 : ah_H) : Prop :=
  ah_T h58 x49 = 5 ∧ ∃ q60, ah_R h58 13 x49 = some q60 ∧ ∀ v62 : Int32, v62 = x56 - (s57 * (10000 : Int32)) → ah_T h58 q60 = 100 ∧ vp_in (((1300 : Int32) * x50) + x55) (ah_N h58 q60) ∧ ∀ h65 : ah_H, h65 = ah_cI h58 q60 (upd (ah_bI h58 q60) (((1300 : Int32) * x50) + x55).toNatClampNeg v62) → ∀ v69 : Int32, v69 = x55 + 1 → rc_38 x49 x50 x51 x52 x53 x54 s57 v69 h65
def lp_MO_joins_38 (xt_120 : Nat → Int32 → Int32 → Int32 → ah_H → Prop) (K : ah_H → Prop) : Nat → Nat → Int32 → Int32 → Int32 → Int32 → Int32 → Int32 → Int32 → ah_H → Prop
  | 0, _, _, _, _, _, _, _, _, _ => False
  | n + 1, x27, x28, x29, x30, x31, x32, x33, x34, h35 =>
    (x32 ≤ x34 → (xt_120 x27 x28 x32 x33 h35)) ∧ (¬ x32 ≤ x34 → (ah_T h35 x27 = 5 ∧ w_MO_at x27 x29 x34 h35 (fun r39 h38 => ah_m h35 h38 → w_MO_at x27 x30 x34 h38 (fun r43 h42 => ah_m h38 h42 → ∀ v46 : Int32, v46 = (r39 + (x31 * r43)) + x33 → (0 ≤ v46 → ((v46 < (10000 : Int32) → (bk_MO_joins_90 (lp_MO_joins_38 xt_120 K n) K x27 x28 x29 x30 x31 x32 x34 v46 (0 : Int32) h42)) ∧ (¬ v46 < (10000 : Int32) → (bk_MO_joins_90 (lp_MO_joins_38 xt_120 K n) K x27 x28 x29 x30 x31 x32 x34 v46 (1 : Int32) h42)))) ∧ (¬ 0 ≤ v46 → (bk_MO_joins_90 (lp_MO_joins_38 xt_120 K n) K x27 x28 x29 x30 x31 x32 x34 v46 (-1 : Int32) h42))))))
def bk_MO_joins_30  (K : ah_H → Prop) (x20 : Nat) (x21 : Int32) (x22 : Int32) (x23 : Int32) (x24 : Int32) (s25 : Int32) (h26 : ah_H) : Prop :=
  ∃ k88, lp_MO_joins_38 (fun (x70 : Nat) (x71 : Int32) (x72 : Int32) (x73 : Int32) h74 => ah_T h74 x70 = 5 ∧ ∃ q76, ah_R h74 13 x70 = some q76 ∧ ah_T h74 q76 = 100 ∧ vp_in (((1300 : Int32) * x71) + x72) (ah_N h74 q76) ∧ ∀ h80 : ah_H, h80 = ah_cI h74 q76 (upd (ah_bI h74 q76) (((1300 : Int32) * x71) + x72).toNatClampNeg x73) → w_MO_trim x70 x71 (x72 + (1 : Int32)) h80 (fun h84 => ah_m h80 h84 → K h84)) K k88 x20 x21 x22 x23 x24 s25 (0 : Int32) (0 : Int32) h26
def w_MO_joins (a1 : Nat) (a2 : Int32) (a3 : Int32) (a4 : Int32) (a5 : Int32) (h0 : ah_H) (K : ah_H → Prop) : Prop :=
  ah_T h0 a1 = 5 ∧ ∃ q7, ah_R h0 14 a1 = some q7 ∧ ah_T h0 q7 = 100 ∧ vp_in a3 (ah_N h0 q7) ∧ ∃ q11, ah_R h0 14 a1 = some q11 ∧ ah_T h0 q11 = 100 ∧ vp_in a4 (ah_N h0 q11) ∧ ((ah_bI h0 q7 a3.toNatClampNeg) ≤ (ah_bI h0 q11 a4.toNatClampNeg) → (∃ q16, ah_R h0 14 a1 = some q16 ∧ ah_T h0 q16 = 100 ∧ vp_in a4 (ah_N h0 q16) ∧ bk_MO_joins_30 K a1 a2 a3 a4 a5 (ah_bI h0 q16 a4.toNatClampNeg) h0)) ∧ (¬ (ah_bI h0 q7 a3.toNatClampNeg) ≤ (ah_bI h0 q11 a4.toNatClampNeg) → (∃ q89, ah_R h0 14 a1 = some q89 ∧ ah_T h0 q89 = 100 ∧ vp_in a3 (ah_N h0 q89) ∧ bk_MO_joins_30 K a1 a2 a3 a4 a5 (ah_bI h0 q89 a3.toNatClampNeg) h0))
abbrev rm_MO_sum : Room := { frames := 2, cells := 0, slots := 0, locals := 50 }
def bk_MO_sum_123  (K : ah_H → Prop)  (h35 : ah_H) : Prop :=
  K h35
def bk_MO_sum_45  (K : ah_H → Prop) (x17 : Nat) (x18 : Int32) (x19 : Int32) (x20 : Int32) (h21 : ah_H) : Prop :=
  ah_T h21 x17 = 5 ∧ ∃ q23, ah_R h21 15 x17 = some q23 ∧ ah_T h21 q23 = 100 ∧ vp_in (17 : Int32) (ah_N h21 q23) ∧ ∀ h27 : ah_H, h27 = ah_cI h21 q23 (upd (ah_bI h21 q23) (17 : Int32).toNatClampNeg x20) → w_MO_joins x17 (17 : Int32) x18 x19 (1 : Int32) h27 (fun h31 => ah_m h27 h31 → bk_MO_sum_123 K h31)
def bk_MO_sum_96  (K : ah_H → Prop) (x51 : Nat) (x52 : Int32) (x53 : Int32) (x54 : Int32) (s55 : Int32) (s56 : Int32) (s57 : Nat) (h58 : ah_H) : Prop :=
  ah_T h58 s57 = 100 ∧ vp_in s56 (ah_N h58 s57) ∧ ∀ h61 : ah_H, h61 = ah_cI h58 s57 (upd (ah_bI h58 s57) s56.toNatClampNeg s55) → (x54 < 0 → (ah_T h61 x51 = 5 ∧ w_MO_joins x51 (17 : Int32) x53 x52 (-1 : Int32) h61 (fun h66 => ah_m h61 h66 → bk_MO_sum_123 K h66))) ∧ (¬ x54 < 0 → (ah_T h61 x51 = 5 ∧ w_MO_joins x51 (17 : Int32) x52 x53 (-1 : Int32) h61 (fun h71 => ah_m h61 h71 → bk_MO_sum_123 K h71)))
def w_MO_sum (a1 : Nat) (a2 : Int32) (a3 : Int32) (a4 : Int32) (h0 : ah_H) (K : ah_H → Prop) : Prop :=
  ah_T h0 a1 = 5 ∧ ∃ q6, ah_R h0 15 a1 = some q6 ∧ ah_T h0 q6 = 100 ∧ vp_in a3 (ah_N h0 q6) ∧ ∀ v10 : Int32, v10 = a4 * (ah_bI h0 q6 a3.toNatClampNeg) → (¬ v10 = 0 → (∃ q12, ah_R h0 15 a1 = some q12 ∧ ah_T h0 q12 = 100 ∧ vp_in a2 (ah_N h0 q12) ∧ ((ah_bI h0 q12 a2.toNatClampNeg) = 0 → (bk_MO_sum_45 K a1 a2 a3 v10 h0)) ∧ (¬ (ah_bI h0 q12 a2.toNatClampNeg) = 0 → (∃ q36, ah_R h0 15 a1 = some q36 ∧ ah_T h0 q36 = 100 ∧ vp_in a2 (ah_N h0 q36) ∧ (¬ (ah_bI h0 q36 a2.toNatClampNeg) = v10 → (w_MO_against a1 a2 a3 h0 (fun r42 h41 => ah_m h0 h41 → ∃ q48, ah_R h41 15 a1 = some q48 ∧ (r42 < 0 → (bk_MO_sum_96 K a1 a2 a3 r42 v10 (17 : Int32) q48 h41)) ∧ (¬ r42 < 0 → (∃ q75, ah_R h41 15 a1 = some q75 ∧ ah_T h41 q75 = 100 ∧ vp_in a2 (ah_N h41 q75) ∧ bk_MO_sum_96 K a1 a2 a3 r42 (ah_bI h41 q75 a2.toNatClampNeg) (17 : Int32) q48 h41))))) ∧ ((ah_bI h0 q36 a2.toNatClampNeg) = v10 → (bk_MO_sum_45 K a1 a2 a3 v10 h0)))))) ∧ (v10 = 0 → (w_MO_copyRow a1 (17 : Int32) a2 h0 (fun h79 => ah_m h0 h79 → bk_MO_sum_123 K h79)))
abbrev rm_MO_product : Room := { frames := 1, cells := 0, slots := 0, locals := 22 }
def lp_MO_product_17 (xt_41 : Nat → Int32 → Int32 → Int32 → ah_H → Prop) (K : ah_H → Prop) : Nat → Nat → Int32 → Int32 → Int32 → Int32 → ah_H → Prop
  | 0, _, _, _, _, _, _ => False
  | n + 1, x14, x15, x16, x17, x18, h19 =>
    (x17 ≤ x18 → (xt_41 x14 x15 x16 x17 h19)) ∧ (¬ x17 ≤ x18 → (ah_T h19 x14 = 5 ∧ ∃ q22, ah_R h19 13 x14 = some q22 ∧ ah_T h19 q22 = 100 ∧ vp_in ((22100 : Int32) + x18) (ah_N h19 q22) ∧ ∀ h26 : ah_H, h26 = ah_cI h19 q22 (upd (ah_bI h19 q22) ((22100 : Int32) + x18).toNatClampNeg (0 : Int32)) → ∀ v30 : Int32, v30 = x18 + 1 → (lp_MO_product_17 xt_41 K n) x14 x15 x16 x17 v30 h26))
def lp_MO_product_61 (xt_141 : Nat → Int32 → Int32 → Int32 → Int32 → Int32 → ah_H → Prop) (K : ah_H → Prop) : Nat → Nat → Int32 → Int32 → Int32 → Int32 → Int32 → Int32 → ah_H → Prop
  | 0, _, _, _, _, _, _, _, _ => False
  | n + 1, x48, x49, x50, x51, x52, x53, x54, h55 =>
    ah_T h55 x48 = 5 ∧ ∃ q57, ah_R h55 14 x48 = some q57 ∧ ah_T h55 q57 = 100 ∧ vp_in x50 (ah_N h55 q57) ∧ ((ah_bI h55 q57 x50.toNatClampNeg) ≤ x54 → (xt_141 x48 x49 x50 x51 x52 x53 h55)) ∧ (¬ (ah_bI h55 q57 x50.toNatClampNeg) ≤ x54 → (∃ q62, ah_R h55 13 x48 = some q62 ∧ ah_T h55 q62 = 100 ∧ vp_in (((22100 : Int32) + x52) + x54) (ah_N h55 q62) ∧ w_MO_at x48 x49 x52 h55 (fun r67 h66 => ah_m h55 h66 → w_MO_at x48 x50 x54 h66 (fun r73 h72 => ah_m h66 h72 → ∀ v78 : Int32, v78 = ((ah_bI h55 q62 (((22100 : Int32) + x52) + x54).toNatClampNeg) + (r67 * r73)) + x53 → ∃ q79, ah_R h72 13 x48 = some q79 ∧ ∀ v81 : Int32, v81 = v78 - v78 / (10000 : Int32) * (10000 : Int32) → ah_T h72 q79 = 100 ∧ vp_in (((22100 : Int32) + x52) + x54) (ah_N h72 q79) ∧ ∀ h84 : ah_H, h84 = ah_cI h72 q79 (upd (ah_bI h72 q79) (((22100 : Int32) + x52) + x54).toNatClampNeg v81) → ∀ v90 : Int32, v90 = v78 / (10000 : Int32) → ∀ v91 : Int32, v91 = x54 + 1 → (lp_MO_product_61 xt_141 K n) x48 x49 x50 x51 x52 v90 v91 h84))))
def lp_MO_product_44 (xt_167 : Nat → Int32 → Int32 → Int32 → ah_H → Prop) (K : ah_H → Prop) : Nat → Nat → Int32 → Int32 → Int32 → Int32 → ah_H → Prop
  | 0, _, _, _, _, _, _ => False
  | n + 1, x36, x37, x38, x39, x40, h41 =>
    ah_T h41 x36 = 5 ∧ ∃ q43, ah_R h41 14 x36 = some q43 ∧ ah_T h41 q43 = 100 ∧ vp_in x37 (ah_N h41 q43) ∧ ((ah_bI h41 q43 x37.toNatClampNeg) ≤ x40 → (xt_167 x36 x37 x38 x39 h41)) ∧ (¬ (ah_bI h41 q43 x37.toNatClampNeg) ≤ x40 → (∃ k114, lp_MO_product_61 (fun (x92 : Nat) (x93 : Int32) (x94 : Int32) (x95 : Int32) (x96 : Int32) (x97 : Int32) h98 => ah_T h98 x92 = 5 ∧ ∃ q100, ah_R h98 13 x92 = some q100 ∧ ∃ q102, ah_R h98 14 x92 = some q102 ∧ ah_T h98 q102 = 100 ∧ vp_in x94 (ah_N h98 q102) ∧ ah_T h98 q100 = 100 ∧ vp_in (((22100 : Int32) + x96) + (ah_bI h98 q102 x94.toNatClampNeg)) (ah_N h98 q100) ∧ ∀ h108 : ah_H, h108 = ah_cI h98 q100 (upd (ah_bI h98 q100) (((22100 : Int32) + x96) + (ah_bI h98 q102 x94.toNatClampNeg)).toNatClampNeg x97) → ∀ v113 : Int32, v113 = x96 + 1 → (lp_MO_product_44 xt_167 K n) x92 x93 x94 x95 v113 h108) K k114 x36 x37 x38 x39 x40 (0 : Int32) (0 : Int32) h41))
def w_MO_product (a1 : Nat) (a2 : Int32) (a3 : Int32) (h0 : ah_H) (K : ah_H → Prop) : Prop :=
  ah_T h0 a1 = 5 ∧ ∃ q5, ah_R h0 14 a1 = some q5 ∧ ah_T h0 q5 = 100 ∧ vp_in a2 (ah_N h0 q5) ∧ ∃ q9, ah_R h0 14 a1 = some q9 ∧ ah_T h0 q9 = 100 ∧ vp_in a3 (ah_N h0 q9) ∧ ∀ v13 : Int32, v13 = (ah_bI h0 q5 a2.toNatClampNeg) + (ah_bI h0 q9 a3.toNatClampNeg) → ∃ k147, lp_MO_product_17 (fun (x31 : Nat) (x32 : Int32) (x33 : Int32) (x34 : Int32) h35 => ∃ k146, lp_MO_product_44 (fun (x115 : Nat) (x116 : Int32) (x117 : Int32) (x118 : Int32) h119 => ah_T h119 x115 = 5 ∧ ∃ q121, ah_R h119 15 x115 = some q121 ∧ ∃ q123, ah_R h119 15 x115 = some q123 ∧ ah_T h119 q123 = 100 ∧ vp_in x116 (ah_N h119 q123) ∧ ∃ q127, ah_R h119 15 x115 = some q127 ∧ ah_T h119 q127 = 100 ∧ vp_in x117 (ah_N h119 q127) ∧ ∀ v131 : Int32, v131 = (ah_bI h119 q123 x116.toNatClampNeg) * (ah_bI h119 q127 x117.toNatClampNeg) → ah_T h119 q121 = 100 ∧ vp_in (17 : Int32) (ah_N h119 q121) ∧ ∀ h134 : ah_H, h134 = ah_cI h119 q121 (upd (ah_bI h119 q121) (17 : Int32).toNatClampNeg v131) → w_MO_trim x115 (17 : Int32) x118 h134 (fun h140 => ah_m h134 h140 → K h140)) K k146 x31 x32 x33 x34 (0 : Int32) h35) K k147 a1 a2 a3 v13 (0 : Int32) h0
abbrev rm_MO_parts : Room := { frames := 1, cells := 0, slots := 0, locals := 22 }
def lp_MO_parts_12 (xt_60 : Nat → Int32 → Int32 → ah_H → Prop) (K : Int32 → ah_H → Prop) : Nat → Nat → Int32 → Int32 → Int32 → Int32 → ah_H → Prop
  | 0, _, _, _, _, _, _ => False
  | n + 1, x10, x11, x12, x13, x14, h15 =>
    (x14 < 0 → (xt_60 x10 x11 x13 h15)) ∧ (¬ x14 < 0 → (ah_T h15 x10 = 5 ∧ w_MO_at x10 x11 x14 h15 (fun r19 h18 => ah_m h15 h18 → ∀ v22 : Int32, v22 = (x13 * (10000 : Int32)) + r19 → ∃ q23, ah_R h18 13 x10 = some q23 ∧ (¬ x12 = 0) ∧ ∀ v26 : Int32, v26 = v22 / x12 → ah_T h18 q23 = 100 ∧ vp_in (((1300 : Int32) * x11) + x14) (ah_N h18 q23) ∧ ∀ h29 : ah_H, h29 = ah_cI h18 q23 (upd (ah_bI h18 q23) (((1300 : Int32) * x11) + x14).toNatClampNeg v26) → (¬ x12 = 0) ∧ ∀ v34 : Int32, v34 = v22 - v22 / x12 * x12 → ∀ v35 : Int32, v35 = x14 + (-1) → (lp_MO_parts_12 xt_60 K n) x10 x11 x12 v34 v35 h29)))
def w_MO_parts (a1 : Nat) (a2 : Int32) (a3 : Int32) (h0 : ah_H) (K : Int32 → ah_H → Prop) : Prop :=
  ah_T h0 a1 = 5 ∧ ∃ q5, ah_R h0 14 a1 = some q5 ∧ ah_T h0 q5 = 100 ∧ vp_in a2 (ah_N h0 q5) ∧ ∀ v9 : Int32, v9 = (ah_bI h0 q5 a2.toNatClampNeg) - (1 : Int32) → ∃ k49, lp_MO_parts_12 (fun (x36 : Nat) (x37 : Int32) (x38 : Int32) h39 => ah_T h39 x36 = 5 ∧ ∃ q41, ah_R h39 14 x36 = some q41 ∧ ah_T h39 q41 = 100 ∧ vp_in x37 (ah_N h39 q41) ∧ w_MO_trim x36 x37 (ah_bI h39 q41 x37.toNatClampNeg) h39 (fun h45 => ah_m h39 h45 → K x38 h45)) K k49 a1 a2 a3 (0 : Int32) v9 h0
abbrev rm_MO_guess : Room := { frames := 1, cells := 0, slots := 0, locals := 22 }
def lp_MO_guess_15 (xt_45 : Nat → Int32 → Int32 → Int64 → Int64 → ah_H → Prop) (K : Int32 → ah_H → Prop) : Nat → Nat → Int32 → Int32 → Int64 → Int64 → Int32 → ah_H → Prop
  | 0, _, _, _, _, _, _, _ => False
  | n + 1, x9, x10, x11, x12, x13, x14, h15 =>
    ((4 : Int32) ≤ x14 → (xt_45 x9 x10 x11 x12 x13 h15)) ∧ (¬ (4 : Int32) ≤ x14 → (ah_T h15 x9 = 5 ∧ w_MO_at x9 (16 : Int32) (x11 - x14) h15 (fun r19 h18 => ah_m h15 h18 → ∀ v22 : Int64, v22 = (x12 * (10000 : Int64)) + r19.toInt64 → ∀ v23 : Int32, v23 = x14 + 1 → (lp_MO_guess_15 xt_45 K n) x9 x10 x11 v22 x13 v23 h18)))
def lp_MO_guess_48 (xt_79 : Int64 → Int64 → ah_H → Prop) (K : Int32 → ah_H → Prop) : Nat → Nat → Int32 → Int32 → Int64 → Int64 → Int32 → ah_H → Prop
  | 0, _, _, _, _, _, _, _ => False
  | n + 1, x30, x31, x32, x33, x34, x35, h36 =>
    ((4 : Int32) ≤ x35 → (xt_79 x33 x34 h36)) ∧ (¬ (4 : Int32) ≤ x35 → (ah_T h36 x30 = 5 ∧ w_MO_at x30 x31 (x32 - x35) h36 (fun r40 h39 => ah_m h36 h39 → ∀ v43 : Int64, v43 = (x34 * (10000 : Int64)) + r40.toInt64 → ∀ v44 : Int32, v44 = x35 + 1 → (lp_MO_guess_48 xt_79 K n) x30 x31 x32 x33 v43 v44 h39)))
def bk_MO_guess_101  (K : Int32 → ah_H → Prop) (s51 : Int32) (h52 : ah_H) : Prop :=
  K s51 h52
def w_MO_guess (a1 : Nat) (a2 : Int32) (h0 : ah_H) (K : Int32 → ah_H → Prop) : Prop :=
  ah_T h0 a1 = 5 ∧ ∃ q4, ah_R h0 14 a1 = some q4 ∧ ah_T h0 q4 = 100 ∧ vp_in a2 (ah_N h0 q4) ∧ ∀ v8 : Int32, v8 = ah_bI h0 q4 a2.toNatClampNeg → ∃ k54, lp_MO_guess_15 (fun (x24 : Nat) (x25 : Int32) (x26 : Int32) (x27 : Int64) (x28 : Int64) h29 => ∃ k53, lp_MO_guess_48 (fun (x45 : Int64) (x46 : Int64) h47 => (¬ (x46 + (1 : Int64)) = 0) ∧ ∀ v49 : Int64, v49 = x45 / (x46 + (1 : Int64)) → ((1 : Int64) ≤ v49 → (bk_MO_guess_101 K v49.toInt32 h47)) ∧ (¬ (1 : Int64) ≤ v49 → (bk_MO_guess_101 K (1 : Int32) h47))) K k53 x24 x25 x26 x27 x28 (1 : Int32) h29) K k54 a1 a2 v8 (0 : Int64) (0 : Int64) (0 : Int32) h0
abbrev rm_MO_lessens : Room := { frames := 1, cells := 0, slots := 0, locals := 22 }
def bk_MO_lessens_59 (rc_5 : Nat → Int32 → Int32 → Int32 → Int32 → ah_H → Prop) (K : ah_H → Prop) (x28 : Nat) (x29 : Int32) (x30 : Int32) (x31 : Int32) (x32 : Int32) (s33 : Int32) (h34 : ah_H) : Prop :=
  ah_T h34 x28 = 5 ∧ ∃ q36, ah_R h34 13 x28 = some q36 ∧ ∀ v38 : Int32, v38 = x32 - (s33 * (10000 : Int32)) → ah_T h34 q36 = 100 ∧ vp_in ((20800 : Int32) + x31) (ah_N h34 q36) ∧ ∀ h41 : ah_H, h41 = ah_cI h34 q36 (upd (ah_bI h34 q36) ((20800 : Int32) + x31).toNatClampNeg v38) → ∀ v45 : Int32, v45 = x31 + 1 → rc_5 x28 x29 x30 s33 v45 h41
def lp_MO_lessens_5 (xt_85 : Nat → ah_H → Prop) (K : ah_H → Prop) : Nat → Nat → Int32 → Int32 → Int32 → Int32 → ah_H → Prop
  | 0, _, _, _, _, _, _ => False
  | n + 1, x4, x5, x6, x7, x8, h9 =>
    ah_T h9 x4 = 5 ∧ ∃ q11, ah_R h9 14 x4 = some q11 ∧ ah_T h9 q11 = 100 ∧ vp_in (16 : Int32) (ah_N h9 q11) ∧ ((ah_bI h9 q11 (16 : Int32).toNatClampNeg) ≤ x8 → (xt_85 x4 h9)) ∧ (¬ (ah_bI h9 q11 (16 : Int32).toNatClampNeg) ≤ x8 → (w_MO_at x4 (16 : Int32) x8 h9 (fun r17 h16 => ah_m h9 h16 → w_MO_at x4 x5 x8 h16 (fun r22 h21 => ah_m h16 h21 → ∀ v26 : Int32, v26 = (r17 - (r22 * x6)) + x7 → (0 ≤ v26 → (bk_MO_lessens_59 (lp_MO_lessens_5 xt_85 K n) K x4 x5 x6 x8 v26 (0 : Int32) h21)) ∧ (¬ 0 ≤ v26 → (bk_MO_lessens_59 (lp_MO_lessens_5 xt_85 K n) K x4 x5 x6 x8 v26 (-(((9999 : Int32) - v26) / (10000 : Int32))) h21))))))
def w_MO_lessens (a1 : Nat) (a2 : Int32) (a3 : Int32) (h0 : ah_H) (K : ah_H → Prop) : Prop :=
  ∃ k57, lp_MO_lessens_5 (fun (x46 : Nat) h47 => ah_T h47 x46 = 5 ∧ ∃ q49, ah_R h47 14 x46 = some q49 ∧ ah_T h47 q49 = 100 ∧ vp_in (16 : Int32) (ah_N h47 q49) ∧ w_MO_trim x46 (16 : Int32) (ah_bI h47 q49 (16 : Int32).toNatClampNeg) h47 (fun h53 => ah_m h47 h53 → K h53)) K k57 a1 a2 a3 (0 : Int32) (0 : Int32) h0
abbrev rm_MO_quotient : Room := { frames := 2, cells := 0, slots := 0, locals := 50 }
def lp_MO_quotient_10 (xt_34 : Nat → Int32 → Int32 → Int32 → ah_H → Prop) (K : ah_H → Prop) : Nat → Nat → Int32 → Int32 → Int32 → Int32 → ah_H → Prop
  | 0, _, _, _, _, _, _ => False
  | n + 1, x10, x11, x12, x13, x14, h15 =>
    (x13 ≤ x14 → (xt_34 x10 x11 x12 x13 h15)) ∧ (¬ x13 ≤ x14 → (ah_T h15 x10 = 5 ∧ ∃ q18, ah_R h15 13 x10 = some q18 ∧ ah_T h15 q18 = 100 ∧ vp_in ((19500 : Int32) + x14) (ah_N h15 q18) ∧ ∀ h22 : ah_H, h22 = ah_cI h15 q18 (upd (ah_bI h15 q18) ((19500 : Int32) + x14).toNatClampNeg (0 : Int32)) → ∀ v26 : Int32, v26 = x14 + 1 → (lp_MO_quotient_10 xt_34 K n) x10 x11 x12 x13 v26 h22))
def lp_MO_quotient_61 (xt_96 : Nat → Int32 → Int32 → Int32 → Int32 → ah_H → Prop) (K : ah_H → Prop) : Nat → Nat → Int32 → Int32 → Int32 → Int32 → Int32 → ah_H → Prop
  | 0, _, _, _, _, _, _, _ => False
  | n + 1, x55, x56, x57, x58, x59, x60, h61 =>
    (x60 ≤ 0 → (xt_96 x55 x56 x57 x58 x59 h61)) ∧ (¬ x60 ≤ 0 → (ah_T h61 x55 = 5 ∧ ∃ q64, ah_R h61 13 x55 = some q64 ∧ ∃ q66, ah_R h61 13 x55 = some q66 ∧ ah_T h61 q66 = 100 ∧ vp_in (((20800 : Int32) + x60) - (1 : Int32)) (ah_N h61 q66) ∧ ∀ v70 : Int32, v70 = ah_bI h61 q66 (((20800 : Int32) + x60) - (1 : Int32)).toNatClampNeg → ah_T h61 q64 = 100 ∧ vp_in ((20800 : Int32) + x60) (ah_N h61 q64) ∧ ∀ h73 : ah_H, h73 = ah_cI h61 q64 (upd (ah_bI h61 q64) ((20800 : Int32) + x60).toNatClampNeg v70) → ∀ v78 : Int32, v78 = x60 + (-1) → (lp_MO_quotient_61 xt_96 K n) x55 x56 x57 x58 x59 v78 h73))
def lp_MO_quotient_126 (xt_169 : Nat → Int32 → Int32 → Int32 → Int32 → ah_H → Prop) (K : ah_H → Prop) : Nat → Nat → Int32 → Int32 → Int32 → Int32 → ah_H → Prop
  | 0, _, _, _, _, _, _ => False
  | n + 1, x107, x108, x109, x110, x111, h112 =>
    ah_T h112 x107 = 5 ∧ w_MO_against x107 (16 : Int32) x109 h112 (fun r115 h114 => ah_m h112 h114 → (r115 < 0 → (xt_169 x107 x108 x109 x110 x111 h114)) ∧ (¬ r115 < 0 → (w_MO_guess x107 x109 h114 (fun r120 h119 => ah_m h114 h119 → ∃ q123, ah_R h119 13 x107 = some q123 ∧ ah_T h119 q123 = 100 ∧ vp_in ((19500 : Int32) + x111) (ah_N h119 q123) ∧ ∀ v127 : Int32, v127 = (ah_bI h119 q123 ((19500 : Int32) + x111).toNatClampNeg) + r120 → vp_in ((19500 : Int32) + x111) (ah_N h119 q123) ∧ ∀ h129 : ah_H, h129 = ah_cI h119 q123 (upd (ah_bI h119 q123) ((19500 : Int32) + x111).toNatClampNeg v127) → w_MO_lessens x107 x109 r120 h129 (fun h133 => ah_m h129 h133 → (lp_MO_quotient_126 xt_169 K n) x107 x108 x109 x110 x111 h133)))))
def lp_MO_quotient_47 (xt_175 : Nat → Int32 → ah_H → Prop) (K : ah_H → Prop) : Nat → Nat → Int32 → Int32 → Int32 → Int32 → ah_H → Prop
  | 0, _, _, _, _, _, _ => False
  | n + 1, x42, x43, x44, x45, x46, h47 =>
    (x46 < 0 → (xt_175 x42 x45 h47)) ∧ (¬ x46 < 0 → (ah_T h47 x42 = 5 ∧ ∃ q50, ah_R h47 14 x42 = some q50 ∧ ah_T h47 q50 = 100 ∧ vp_in (16 : Int32) (ah_N h47 q50) ∧ ∀ v54 : Int32, v54 = ah_bI h47 q50 (16 : Int32).toNatClampNeg → ∃ k145, lp_MO_quotient_61 (fun (x79 : Nat) (x80 : Int32) (x81 : Int32) (x82 : Int32) (x83 : Int32) h84 => ah_T h84 x79 = 5 ∧ ∃ q86, ah_R h84 13 x79 = some q86 ∧ w_MO_at x79 x80 x83 h84 (fun r89 h88 => ah_m h84 h88 → ah_T h88 q86 = 100 ∧ vp_in (20800 : Int32) (ah_N h88 q86) ∧ ∀ h94 : ah_H, h94 = ah_cI h88 q86 (upd (ah_bI h88 q86) (20800 : Int32).toNatClampNeg r89) → ∃ q98, ah_R h94 14 x79 = some q98 ∧ ah_T h94 q98 = 100 ∧ vp_in (16 : Int32) (ah_N h94 q98) ∧ w_MO_trim x79 (16 : Int32) ((ah_bI h94 q98 (16 : Int32).toNatClampNeg) + (1 : Int32)) h94 (fun h102 => ah_m h94 h102 → ∃ k144, lp_MO_quotient_126 (fun (x137 : Nat) (x138 : Int32) (x139 : Int32) (x140 : Int32) (x141 : Int32) h142 => ∀ v143 : Int32, v143 = x141 + (-1) → (lp_MO_quotient_47 xt_175 K n) x137 x138 x139 x140 v143 h142) K k144 x79 x80 x81 x82 x83 h102))) K k145 x42 x43 x44 x45 x46 v54 h47))
def bk_MO_quotient_211  (K : ah_H → Prop) (s169 : Int32) (s170 : Int32) (s171 : Nat) (h172 : ah_H) : Prop :=
  ah_T h172 s171 = 100 ∧ vp_in s170 (ah_N h172 s171) ∧ ∀ h175 : ah_H, h175 = ah_cI h172 s171 (upd (ah_bI h172 s171) s170.toNatClampNeg s169) → K h175
def w_MO_quotient (a1 : Nat) (a2 : Int32) (a3 : Int32) (h0 : ah_H) (K : ah_H → Prop) : Prop :=
  ah_T h0 a1 = 5 ∧ ∃ q5, ah_R h0 14 a1 = some q5 ∧ ah_T h0 q5 = 100 ∧ vp_in a2 (ah_N h0 q5) ∧ ∀ v9 : Int32, v9 = ah_bI h0 q5 a2.toNatClampNeg → ∃ k179, lp_MO_quotient_10 (fun (x27 : Nat) (x28 : Int32) (x29 : Int32) (x30 : Int32) h31 => ah_T h31 x27 = 5 ∧ ∃ q33, ah_R h31 14 x27 = some q33 ∧ ah_T h31 q33 = 100 ∧ vp_in (16 : Int32) (ah_N h31 q33) ∧ ∀ h37 : ah_H, h37 = ah_cI h31 q33 (upd (ah_bI h31 q33) (16 : Int32).toNatClampNeg (0 : Int32)) → ∀ v41 : Int32, v41 = x30 - (1 : Int32) → ∃ k178, lp_MO_quotient_47 (fun (x146 : Nat) (x147 : Int32) h148 => ah_T h148 x146 = 5 ∧ ∃ q150, ah_R h148 15 x146 = some q150 ∧ ah_T h148 q150 = 100 ∧ vp_in (15 : Int32) (ah_N h148 q150) ∧ ∀ h154 : ah_H, h154 = ah_cI h148 q150 (upd (ah_bI h148 q150) (15 : Int32).toNatClampNeg (1 : Int32)) → w_MO_trim x146 (15 : Int32) x147 h154 (fun h158 => ah_m h154 h158 → ∃ q162, ah_R h158 15 x146 = some q162 ∧ ∃ q164, ah_R h158 14 x146 = some q164 ∧ ah_T h158 q164 = 100 ∧ vp_in (16 : Int32) (ah_N h158 q164) ∧ ((ah_bI h158 q164 (16 : Int32).toNatClampNeg) ≤ 0 → (bk_MO_quotient_211 K (0 : Int32) (16 : Int32) q162 h158)) ∧ (¬ (ah_bI h158 q164 (16 : Int32).toNatClampNeg) ≤ 0 → (bk_MO_quotient_211 K (1 : Int32) (16 : Int32) q162 h158)))) K k178 x27 x28 x29 x30 v41 h37) K k179 a1 a2 a3 v9 (0 : Int32) h0
abbrev rm_MO_becomes : Room := { frames := 2, cells := 0, slots := 0, locals := 45 }
def w_MO_becomes (a1 : Nat) (a2 : Int32) (h0 : ah_H) (K : Int32 → ah_H → Prop) : Prop :=
  ah_T h0 a1 = 5 ∧ w_MO_against a1 (17 : Int32) (12 : Int32) h0 (fun r5 h4 => ah_m h0 h4 → (r5 < 0 → (w_MO_copyRow a1 a2 (17 : Int32) h4 (fun h9 => ah_m h4 h9 → K (1 : Int32) h9))) ∧ (¬ r5 < 0 → (K (0 : Int32) h4)))
abbrev rm_MO_bits : Room := { frames := 2, cells := 0, slots := 0, locals := 47 }
def lp_MO_bits_11 (xt_36 : Int32 → Int32 → ah_H → Prop) (K : Int32 → ah_H → Prop) : Nat → Nat → Int32 → Int32 → ah_H → Prop
  | 0, _, _, _, _ => False
  | n + 1, x7, x8, x9, h10 =>
    ah_T h10 x7 = 5 ∧ ∃ q12, ah_R h10 14 x7 = some q12 ∧ ah_T h10 q12 = 100 ∧ vp_in (13 : Int32) (ah_N h10 q12) ∧ ((ah_bI h10 q12 (13 : Int32).toNatClampNeg) ≤ 0 → (xt_36 x8 x9 h10)) ∧ (¬ (ah_bI h10 q12 (13 : Int32).toNatClampNeg) ≤ 0 → (w_MO_parts x7 (13 : Int32) (65536 : Int32) h10 (fun r18 h17 => ah_m h10 h17 → ∀ v22 : Int32, v22 = x8 + 16 → (lp_MO_bits_11 xt_36 K n) x7 v22 r18 h17)))
def lp_MO_bits_39 (xt_52 : Int32 → Int32 → ah_H → Prop) (K : Int32 → ah_H → Prop) : Nat → Int32 → Int32 → Int32 → ah_H → Prop
  | 0, _, _, _, _ => False
  | n + 1, x26, x27, x28, h29 =>
    ((x27 >>> (x28 &&& 31)) ≤ 0 → (xt_52 x26 x28 h29)) ∧ (¬ (x27 >>> (x28 &&& 31)) ≤ 0 → (∀ v31 : Int32, v31 = x28 + 1 → (lp_MO_bits_39 xt_52 K n) x26 x27 v31 h29))
def bk_MO_bits_67  (K : Int32 → ah_H → Prop) (s36 : Int32) (h37 : ah_H) : Prop :=
  K s36 h37
def w_MO_bits (a1 : Nat) (a2 : Int32) (h0 : ah_H) (K : Int32 → ah_H → Prop) : Prop :=
  ah_T h0 a1 = 5 ∧ w_MO_copyRow a1 (13 : Int32) a2 h0 (fun h4 => ah_m h0 h4 → ∃ k39, lp_MO_bits_11 (fun (x23 : Int32) (x24 : Int32) h25 => ∃ k38, lp_MO_bits_39 (fun (x32 : Int32) (x33 : Int32) h34 => (¬ x32 = 0 → (bk_MO_bits_67 K ((x32 - (16 : Int32)) + x33) h34)) ∧ (x32 = 0 → (bk_MO_bits_67 K (0 : Int32) h34))) K k38 x23 x24 (0 : Int32) h25) K k39 a1 (0 : Int32) (0 : Int32) h4)
abbrev rm_MO_set : Room := { frames := 1, cells := 0, slots := 0, locals := 27 }
def w_MO_set (a1 : Nat) (a2 : Int32) (a3 : Int64) (h0 : ah_H) (K : ah_H → Prop) : Prop :=
  w_MO_isNone a2 h0 (fun r5 h4 => ah_m h0 h4 → ah_T h4 a1 = 5 ∧ w_MO_fails a1 r5 (1 : Int32) h4 (fun r9 h8 => ah_m h4 h8 → (r9 = 0 → (w_MO_setRow a1 a2 a3 h8 (fun h13 => ah_m h8 h13 → K h13))) ∧ (¬ r9 = 0 → (K h8))))
abbrev rm_MO_copy : Room := { frames := 1, cells := 0, slots := 0, locals := 23 }
def bk_MO_copy_20  (K : ah_H → Prop) (x13 : Nat) (x14 : Int32) (x15 : Int32) (s16 : Int32) (s17 : Nat) (h18 : ah_H) : Prop :=
  ah_T h18 s17 = 5 ∧ w_MO_fails s17 s16 (1 : Int32) h18 (fun r21 h20 => ah_m h18 h20 → (r21 = 0 → (ah_T h20 x13 = 5 ∧ w_MO_copyRow x13 (13 : Int32) x15 h20 (fun h26 => ah_m h20 h26 → w_MO_copyRow x13 x14 (13 : Int32) h26 (fun h30 => ah_m h26 h30 → K h30)))) ∧ (¬ r21 = 0 → (K h20)))
def bk_MO_copy_15  (K : ah_H → Prop) (x8 : Nat) (x9 : Int32) (x10 : Int32) (s11 : Nat) (h12 : ah_H) : Prop :=
  bk_MO_copy_20 K x8 x9 x10 (1 : Int32) s11 h12
def w_MO_copy (a1 : Nat) (a2 : Int32) (a3 : Int32) (h0 : ah_H) (K : ah_H → Prop) : Prop :=
  w_MO_isNone a2 h0 (fun r5 h4 => ah_m h0 h4 → (¬ r5 = 0 → (bk_MO_copy_15 K a1 a2 a3 a1 h4)) ∧ (r5 = 0 → (w_MO_isNone a3 h4 (fun r35 h34 => ah_m h4 h34 → (r35 = 0 → (bk_MO_copy_20 K a1 a2 a3 (0 : Int32) a1 h34)) ∧ (¬ r35 = 0 → (bk_MO_copy_15 K a1 a2 a3 a1 h34))))))
abbrev rm_MO_add : Room := { frames := 3, cells := 0, slots := 0, locals := 75 }
def bk_MO_add_56  (K : ah_H → Prop) (s39 : Int32) (s40 : Nat) (h41 : ah_H) : Prop :=
  ah_T h41 s40 = 5 ∧ w_MO_fails s40 s39 (2 : Int32) h41 (fun r44 h43 => ah_m h41 h43 → K h43)
def bk_MO_add_27  (K : ah_H → Prop) (x15 : Nat) (x16 : Int32) (x17 : Int32) (x18 : Int32) (s19 : Int32) (s20 : Nat) (h21 : ah_H) : Prop :=
  ah_T h21 s20 = 5 ∧ w_MO_fails s20 s19 (1 : Int32) h21 (fun r24 h23 => ah_m h21 h23 → (r24 = 0 → (ah_T h23 x15 = 5 ∧ w_MO_sum x15 x17 x18 (1 : Int32) h23 (fun h29 => ah_m h23 h29 → w_MO_becomes x15 x16 h29 (fun r34 h33 => ah_m h29 h33 → (¬ r34 = 0 → (bk_MO_add_56 K (0 : Int32) x15 h33)) ∧ (r34 = 0 → (bk_MO_add_56 K (1 : Int32) x15 h33)))))) ∧ (¬ r24 = 0 → (K h23)))
def bk_MO_add_22  (K : ah_H → Prop) (x9 : Nat) (x10 : Int32) (x11 : Int32) (x12 : Int32) (s13 : Nat) (h14 : ah_H) : Prop :=
  bk_MO_add_27 K x9 x10 x11 x12 (1 : Int32) s13 h14
def w_MO_add (a1 : Nat) (a2 : Int32) (a3 : Int32) (a4 : Int32) (h0 : ah_H) (K : ah_H → Prop) : Prop :=
  w_MO_isNone a2 h0 (fun r6 h5 => ah_m h0 h5 → (¬ r6 = 0 → (bk_MO_add_22 K a1 a2 a3 a4 a1 h5)) ∧ (r6 = 0 → (w_MO_isNone a3 h5 (fun r48 h47 => ah_m h5 h47 → (¬ r48 = 0 → (bk_MO_add_22 K a1 a2 a3 a4 a1 h47)) ∧ (r48 = 0 → (w_MO_isNone a4 h47 (fun r52 h51 => ah_m h47 h51 → (r52 = 0 → (bk_MO_add_27 K a1 a2 a3 a4 (0 : Int32) a1 h51)) ∧ (¬ r52 = 0 → (bk_MO_add_22 K a1 a2 a3 a4 a1 h51)))))))))
abbrev rm_MO_subtract : Room := { frames := 3, cells := 0, slots := 0, locals := 75 }
def bk_MO_subtract_56  (K : ah_H → Prop) (s39 : Int32) (s40 : Nat) (h41 : ah_H) : Prop :=
  ah_T h41 s40 = 5 ∧ w_MO_fails s40 s39 (2 : Int32) h41 (fun r44 h43 => ah_m h41 h43 → K h43)
def bk_MO_subtract_27  (K : ah_H → Prop) (x15 : Nat) (x16 : Int32) (x17 : Int32) (x18 : Int32) (s19 : Int32) (s20 : Nat) (h21 : ah_H) : Prop :=
  ah_T h21 s20 = 5 ∧ w_MO_fails s20 s19 (1 : Int32) h21 (fun r24 h23 => ah_m h21 h23 → (r24 = 0 → (ah_T h23 x15 = 5 ∧ w_MO_sum x15 x17 x18 (-1 : Int32) h23 (fun h29 => ah_m h23 h29 → w_MO_becomes x15 x16 h29 (fun r34 h33 => ah_m h29 h33 → (¬ r34 = 0 → (bk_MO_subtract_56 K (0 : Int32) x15 h33)) ∧ (r34 = 0 → (bk_MO_subtract_56 K (1 : Int32) x15 h33)))))) ∧ (¬ r24 = 0 → (K h23)))
def bk_MO_subtract_22  (K : ah_H → Prop) (x9 : Nat) (x10 : Int32) (x11 : Int32) (x12 : Int32) (s13 : Nat) (h14 : ah_H) : Prop :=
  bk_MO_subtract_27 K x9 x10 x11 x12 (1 : Int32) s13 h14
def w_MO_subtract (a1 : Nat) (a2 : Int32) (a3 : Int32) (a4 : Int32) (h0 : ah_H) (K : ah_H → Prop) : Prop :=
  w_MO_isNone a2 h0 (fun r6 h5 => ah_m h0 h5 → (¬ r6 = 0 → (bk_MO_subtract_22 K a1 a2 a3 a4 a1 h5)) ∧ (r6 = 0 → (w_MO_isNone a3 h5 (fun r48 h47 => ah_m h5 h47 → (¬ r48 = 0 → (bk_MO_subtract_22 K a1 a2 a3 a4 a1 h47)) ∧ (r48 = 0 → (w_MO_isNone a4 h47 (fun r52 h51 => ah_m h47 h51 → (r52 = 0 → (bk_MO_subtract_27 K a1 a2 a3 a4 (0 : Int32) a1 h51)) ∧ (¬ r52 = 0 → (bk_MO_subtract_22 K a1 a2 a3 a4 a1 h51)))))))))
abbrev rm_MO_multiply : Room := { frames := 3, cells := 0, slots := 0, locals := 66 }
def bk_MO_multiply_55  (K : ah_H → Prop) (s39 : Int32) (s40 : Nat) (h41 : ah_H) : Prop :=
  ah_T h41 s40 = 5 ∧ w_MO_fails s40 s39 (2 : Int32) h41 (fun r44 h43 => ah_m h41 h43 → K h43)
def bk_MO_multiply_27  (K : ah_H → Prop) (x15 : Nat) (x16 : Int32) (x17 : Int32) (x18 : Int32) (s19 : Int32) (s20 : Nat) (h21 : ah_H) : Prop :=
  ah_T h21 s20 = 5 ∧ w_MO_fails s20 s19 (1 : Int32) h21 (fun r24 h23 => ah_m h21 h23 → (r24 = 0 → (ah_T h23 x15 = 5 ∧ w_MO_product x15 x17 x18 h23 (fun h29 => ah_m h23 h29 → w_MO_becomes x15 x16 h29 (fun r34 h33 => ah_m h29 h33 → (¬ r34 = 0 → (bk_MO_multiply_55 K (0 : Int32) x15 h33)) ∧ (r34 = 0 → (bk_MO_multiply_55 K (1 : Int32) x15 h33)))))) ∧ (¬ r24 = 0 → (K h23)))
def bk_MO_multiply_22  (K : ah_H → Prop) (x9 : Nat) (x10 : Int32) (x11 : Int32) (x12 : Int32) (s13 : Nat) (h14 : ah_H) : Prop :=
  bk_MO_multiply_27 K x9 x10 x11 x12 (1 : Int32) s13 h14
def w_MO_multiply (a1 : Nat) (a2 : Int32) (a3 : Int32) (a4 : Int32) (h0 : ah_H) (K : ah_H → Prop) : Prop :=
  w_MO_isNone a2 h0 (fun r6 h5 => ah_m h0 h5 → (¬ r6 = 0 → (bk_MO_multiply_22 K a1 a2 a3 a4 a1 h5)) ∧ (r6 = 0 → (w_MO_isNone a3 h5 (fun r48 h47 => ah_m h5 h47 → (¬ r48 = 0 → (bk_MO_multiply_22 K a1 a2 a3 a4 a1 h47)) ∧ (r48 = 0 → (w_MO_isNone a4 h47 (fun r52 h51 => ah_m h47 h51 → (r52 = 0 → (bk_MO_multiply_27 K a1 a2 a3 a4 (0 : Int32) a1 h51)) ∧ (¬ r52 = 0 → (bk_MO_multiply_22 K a1 a2 a3 a4 a1 h51)))))))))
abbrev rm_MO_times : Room := { frames := 3, cells := 0, slots := 0, locals := 66 }
def bk_MO_times_56  (K : ah_H → Prop) (s43 : Int32) (s44 : Nat) (h45 : ah_H) : Prop :=
  ah_T h45 s44 = 5 ∧ w_MO_fails s44 s43 (2 : Int32) h45 (fun r48 h47 => ah_m h45 h47 → K h47)
def bk_MO_times_20  (K : ah_H → Prop) (x15 : Nat) (x16 : Int32) (x17 : Int32) (x18 : Int64) (s19 : Int32) (s20 : Nat) (h21 : ah_H) : Prop :=
  ah_T h21 s20 = 5 ∧ w_MO_fails s20 s19 (1 : Int32) h21 (fun r24 h23 => ah_m h21 h23 → (r24 = 0 → (ah_T h23 x15 = 5 ∧ w_MO_setRow x15 (13 : Int32) x18 h23 (fun h29 => ah_m h23 h29 → w_MO_product x15 x17 (13 : Int32) h29 (fun h33 => ah_m h29 h33 → w_MO_becomes x15 x16 h33 (fun r38 h37 => ah_m h33 h37 → (¬ r38 = 0 → (bk_MO_times_56 K (0 : Int32) x15 h37)) ∧ (r38 = 0 → (bk_MO_times_56 K (1 : Int32) x15 h37))))))) ∧ (¬ r24 = 0 → (K h23)))
def bk_MO_times_15  (K : ah_H → Prop) (x9 : Nat) (x10 : Int32) (x11 : Int32) (x12 : Int64) (s13 : Nat) (h14 : ah_H) : Prop :=
  bk_MO_times_20 K x9 x10 x11 x12 (1 : Int32) s13 h14
def w_MO_times (a1 : Nat) (a2 : Int32) (a3 : Int32) (a4 : Int64) (h0 : ah_H) (K : ah_H → Prop) : Prop :=
  w_MO_isNone a2 h0 (fun r6 h5 => ah_m h0 h5 → (¬ r6 = 0 → (bk_MO_times_15 K a1 a2 a3 a4 a1 h5)) ∧ (r6 = 0 → (w_MO_isNone a3 h5 (fun r52 h51 => ah_m h5 h51 → (r52 = 0 → (bk_MO_times_20 K a1 a2 a3 a4 (0 : Int32) a1 h51)) ∧ (¬ r52 = 0 → (bk_MO_times_15 K a1 a2 a3 a4 a1 h51))))))
abbrev rm_MO_shift : Room := { frames := 3, cells := 0, slots := 0, locals := 66 }
def bk_MO_shift_84 (rc_50 : Nat → Int32 → Int32 → ah_H → Prop) (K : ah_H → Prop) (x45 : Nat) (x46 : Int32) (x47 : Int32) (s48 : Int32) (s49 : Int32) (s50 : Int32) (s51 : Nat) (h52 : ah_H) : Prop :=
  ah_T h52 s51 = 5 ∧ w_MO_scale s51 s50 (s49 <<< (s48 &&& 31)) h52 (fun h54 => ah_m h52 h54 → ∀ v57 : Int32, v57 = x47 + (-13) → rc_50 x45 x46 v57 h54)
def lp_MO_shift_50 (xt_94 : Nat → Int32 → ah_H → Prop) (K : ah_H → Prop) : Nat → Nat → Int32 → Int32 → ah_H → Prop
  | 0, _, _, _, _ => False
  | n + 1, x33, x34, x35, h36 =>
    (x35 ≤ 0 → (xt_94 x33 x34 h36)) ∧ (¬ x35 ≤ 0 → (ah_T h36 x33 = 5 ∧ w_MO_against x33 (17 : Int32) (12 : Int32) h36 (fun r40 h39 => ah_m h36 h39 → (0 ≤ r40 → (xt_94 x33 x34 h39)) ∧ (¬ 0 ≤ r40 → (((13 : Int32) ≤ x35 → (bk_MO_shift_84 (lp_MO_shift_50 xt_94 K n) K x33 x34 x35 (13 : Int32) (1 : Int32) (17 : Int32) x33 h39)) ∧ (¬ (13 : Int32) ≤ x35 → (bk_MO_shift_84 (lp_MO_shift_50 xt_94 K n) K x33 x34 x35 x35 (1 : Int32) (17 : Int32) x33 h39)))))))
def bk_MO_shift_108  (K : ah_H → Prop) (s70 : Int32) (s71 : Nat) (h72 : ah_H) : Prop :=
  ah_T h72 s71 = 5 ∧ w_MO_fails s71 s70 (2 : Int32) h72 (fun r75 h74 => ah_m h72 h74 → K h74)
def bk_MO_shift_94  (K : ah_H → Prop) (x61 : Nat) (x62 : Int32) (h63 : ah_H) : Prop :=
  ah_T h63 x61 = 5 ∧ w_MO_becomes x61 x62 h63 (fun r66 h65 => ah_m h63 h65 → (¬ r66 = 0 → (bk_MO_shift_108 K (0 : Int32) x61 h65)) ∧ (r66 = 0 → (bk_MO_shift_108 K (1 : Int32) x61 h65)))
def bk_MO_shift_32  (K : ah_H → Prop) (x15 : Nat) (x16 : Int32) (x17 : Int32) (x18 : Int32) (s19 : Int32) (s20 : Nat) (h21 : ah_H) : Prop :=
  ah_T h21 s20 = 5 ∧ w_MO_fails s20 s19 (1 : Int32) h21 (fun r24 h23 => ah_m h21 h23 → (r24 = 0 → (ah_T h23 x15 = 5 ∧ w_MO_copyRow x15 (17 : Int32) x17 h23 (fun h29 => ah_m h23 h29 → ∃ k78, lp_MO_shift_50 (fun (x58 : Nat) (x59 : Int32) h60 => bk_MO_shift_94 K x58 x59 h60) K k78 x15 x16 x18 h29))) ∧ (¬ r24 = 0 → (K h23)))
def bk_MO_shift_27  (K : ah_H → Prop) (x9 : Nat) (x10 : Int32) (x11 : Int32) (x12 : Int32) (s13 : Nat) (h14 : ah_H) : Prop :=
  bk_MO_shift_32 K x9 x10 x11 x12 (1 : Int32) s13 h14
def w_MO_shift (a1 : Nat) (a2 : Int32) (a3 : Int32) (a4 : Int32) (h0 : ah_H) (K : ah_H → Prop) : Prop :=
  w_MO_isNone a2 h0 (fun r6 h5 => ah_m h0 h5 → (¬ r6 = 0 → (bk_MO_shift_27 K a1 a2 a3 a4 a1 h5)) ∧ (r6 = 0 → (w_MO_isNone a3 h5 (fun r80 h79 => ah_m h5 h79 → (¬ r80 = 0 → (bk_MO_shift_27 K a1 a2 a3 a4 a1 h79)) ∧ (r80 = 0 → (w_MO_in a4.toInt64 (0 : Int64) (8192 : Int64) h79 (fun r84 h83 => ah_m h79 h83 → (¬ r84 = 0 → (bk_MO_shift_32 K a1 a2 a3 a4 (0 : Int32) a1 h83)) ∧ (r84 = 0 → (bk_MO_shift_27 K a1 a2 a3 a4 a1 h83)))))))))
abbrev rm_MO_half : Room := { frames := 3, cells := 0, slots := 0, locals := 75 }
def bk_MO_half_94 (rc_61 : Nat → Int32 → Int32 → Int32 → Int32 → ah_H → Prop) (K : ah_H → Prop) (x62 : Nat) (x63 : Int32) (x64 : Int32) (x65 : Int32) (x66 : Int32) (h67 : ah_H) : Prop :=
  ∀ v68 : Int32, v68 = x66 + (-13) → rc_61 x62 x63 x64 x65 v68 h67
def bk_MO_half_84 (rc_61 : Nat → Int32 → Int32 → Int32 → Int32 → ah_H → Prop) (K : ah_H → Prop) (x46 : Nat) (x47 : Int32) (x48 : Int32) (x49 : Int32) (x50 : Int32) (s51 : Int32) (s52 : Int32) (s53 : Int32) (s54 : Nat) (h55 : ah_H) : Prop :=
  ah_T h55 s54 = 5 ∧ w_MO_parts s54 s53 (s52 <<< (s51 &&& 31)) h55 (fun r58 h57 => ah_m h55 h57 → (r58 ≤ 0 → (bk_MO_half_94 rc_61 K x46 x47 x48 x49 x50 h57)) ∧ (¬ r58 ≤ 0 → (bk_MO_half_94 rc_61 K x46 x47 x48 (1 : Int32) x50 h57)))
def lp_MO_half_61 (xt_100 : Nat → Int32 → Int32 → Int32 → ah_H → Prop) (K : ah_H → Prop) : Nat → Nat → Int32 → Int32 → Int32 → Int32 → ah_H → Prop
  | 0, _, _, _, _, _, _ => False
  | n + 1, x38, x39, x40, x41, x42, h43 =>
    (x42 ≤ 0 → (xt_100 x38 x39 x40 x41 h43)) ∧ (¬ x42 ≤ 0 → (((13 : Int32) ≤ x42 → (bk_MO_half_84 (lp_MO_half_61 xt_100 K n) K x38 x39 x40 x41 x42 (13 : Int32) (1 : Int32) (13 : Int32) x38 h43)) ∧ (¬ (13 : Int32) ≤ x42 → (bk_MO_half_84 (lp_MO_half_61 xt_100 K n) K x38 x39 x40 x41 x42 x42 (1 : Int32) (13 : Int32) x38 h43))))
def bk_MO_half_162  (K : ah_H → Prop) (x75 : Nat) (x76 : Int32) (h77 : ah_H) : Prop :=
  ah_T h77 x75 = 5 ∧ w_MO_copyRow x75 x76 (13 : Int32) h77 (fun h79 => ah_m h77 h79 → K h79)
def bk_MO_half_145  (K : ah_H → Prop) (x101 : Nat) (x102 : Int32) (h103 : ah_H) : Prop :=
  ah_T h103 x101 = 5 ∧ w_MO_sum x101 (13 : Int32) (14 : Int32) (1 : Int32) h103 (fun h105 => ah_m h103 h105 → w_MO_copyRow x101 x102 (17 : Int32) h105 (fun h108 => ah_m h105 h108 → K h108))
def bk_MO_half_32  (K : ah_H → Prop) (x15 : Nat) (x16 : Int32) (x17 : Int32) (x18 : Int32) (s19 : Int32) (s20 : Nat) (h21 : ah_H) : Prop :=
  ah_T h21 s20 = 5 ∧ w_MO_fails s20 s19 (1 : Int32) h21 (fun r24 h23 => ah_m h21 h23 → (r24 = 0 → (ah_T h23 x15 = 5 ∧ w_MO_copyRow x15 (13 : Int32) x17 h23 (fun h29 => ah_m h23 h29 → ∃ q33, ah_R h29 15 x15 = some q33 ∧ ah_T h29 q33 = 100 ∧ vp_in x17 (ah_N h29 q33) ∧ ∀ v37 : Int32, v37 = ah_bI h29 q33 x17.toNatClampNeg → ∃ k121, lp_MO_half_61 (fun (x69 : Nat) (x70 : Int32) (x71 : Int32) (x72 : Int32) h73 => (0 ≤ x71 → (bk_MO_half_162 K x69 x70 h73)) ∧ (¬ 0 ≤ x71 → ((x72 = 0 → (bk_MO_half_162 K x69 x70 h73)) ∧ (¬ x72 = 0 → (ah_T h73 x69 = 5 ∧ ∃ q84, ah_R h73 15 x69 = some q84 ∧ ah_T h73 q84 = 100 ∧ vp_in (13 : Int32) (ah_N h73 q84) ∧ ∀ h88 : ah_H, h88 = ah_cI h73 q84 (upd (ah_bI h73 q84) (13 : Int32).toNatClampNeg (-1 : Int32)) → w_MO_setRow x69 (14 : Int32) (-1 : Int64) h88 (fun h92 => ah_m h88 h92 → ∃ q96, ah_R h92 14 x69 = some q96 ∧ ah_T h92 q96 = 100 ∧ vp_in (13 : Int32) (ah_N h92 q96) ∧ (¬ (ah_bI h92 q96 (13 : Int32).toNatClampNeg) = 0 → (bk_MO_half_145 K x69 x70 h92)) ∧ ((ah_bI h92 q96 (13 : Int32).toNatClampNeg) = 0 → (∃ q111, ah_R h92 15 x69 = some q111 ∧ ah_T h92 q111 = 100 ∧ vp_in (13 : Int32) (ah_N h92 q111) ∧ ∀ h115 : ah_H, h115 = ah_cI h92 q111 (upd (ah_bI h92 q111) (13 : Int32).toNatClampNeg (0 : Int32)) → bk_MO_half_145 K x69 x70 h115)))))))) K k121 x15 x16 v37 (0 : Int32) x18 h29))) ∧ (¬ r24 = 0 → (K h23)))
def bk_MO_half_27  (K : ah_H → Prop) (x9 : Nat) (x10 : Int32) (x11 : Int32) (x12 : Int32) (s13 : Nat) (h14 : ah_H) : Prop :=
  bk_MO_half_32 K x9 x10 x11 x12 (1 : Int32) s13 h14
def w_MO_half (a1 : Nat) (a2 : Int32) (a3 : Int32) (a4 : Int32) (h0 : ah_H) (K : ah_H → Prop) : Prop :=
  w_MO_isNone a2 h0 (fun r6 h5 => ah_m h0 h5 → (¬ r6 = 0 → (bk_MO_half_27 K a1 a2 a3 a4 a1 h5)) ∧ (r6 = 0 → (w_MO_isNone a3 h5 (fun r123 h122 => ah_m h5 h122 → (¬ r123 = 0 → (bk_MO_half_27 K a1 a2 a3 a4 a1 h122)) ∧ (r123 = 0 → (w_MO_in a4.toInt64 (0 : Int64) (8192 : Int64) h122 (fun r127 h126 => ah_m h122 h126 → (¬ r127 = 0 → (bk_MO_half_32 K a1 a2 a3 a4 (0 : Int32) a1 h126)) ∧ (r127 = 0 → (bk_MO_half_27 K a1 a2 a3 a4 a1 h126)))))))))
abbrev rm_MO_divide : Room := { frames := 3, cells := 0, slots := 0, locals := 75 }
def bk_MO_divide_73  (K : ah_H → Prop)  (h31 : ah_H) : Prop :=
  K h31
def bk_MO_divide_229  (K : ah_H → Prop) (x112 : Nat) (x113 : Int32) (x114 : Int32) (h115 : ah_H) : Prop :=
  ah_T h115 x112 = 5 ∧ w_MO_copyRow x112 x113 (15 : Int32) h115 (fun h117 => ah_m h115 h117 → w_MO_copyRow x112 x114 (16 : Int32) h117 (fun h120 => ah_m h117 h120 → K h120))
def bk_MO_divide_209  (K : ah_H → Prop) (x106 : Nat) (x107 : Int32) (x108 : Int32) (x109 : Int32) (h110 : ah_H) : Prop :=
  (0 ≤ x109 → (bk_MO_divide_229 K x106 x107 x108 h110)) ∧ (¬ 0 ≤ x109 → (ah_T h110 x106 = 5 ∧ ∃ q124, ah_R h110 15 x106 = some q124 ∧ ∃ q126, ah_R h110 15 x106 = some q126 ∧ ah_T h110 q126 = 100 ∧ vp_in (16 : Int32) (ah_N h110 q126) ∧ ∀ v130 : Int32, v130 = -(ah_bI h110 q126 (16 : Int32).toNatClampNeg) → ah_T h110 q124 = 100 ∧ vp_in (16 : Int32) (ah_N h110 q124) ∧ ∀ h133 : ah_H, h133 = ah_cI h110 q124 (upd (ah_bI h110 q124) (16 : Int32).toNatClampNeg v130) → bk_MO_divide_229 K x106 x107 x108 h133))
def bk_MO_divide_189  (K : ah_H → Prop) (x99 : Nat) (x100 : Int32) (x101 : Int32) (x102 : Int32) (x103 : Int32) (h104 : ah_H) : Prop :=
  (x103 = 0 → (bk_MO_divide_209 K x99 x100 x101 x102 h104)) ∧ (¬ x103 = 0 → (ah_T h104 x99 = 5 ∧ ∃ q139, ah_R h104 15 x99 = some q139 ∧ ∃ q141, ah_R h104 15 x99 = some q141 ∧ ah_T h104 q141 = 100 ∧ vp_in (15 : Int32) (ah_N h104 q141) ∧ ∀ v145 : Int32, v145 = -(ah_bI h104 q141 (15 : Int32).toNatClampNeg) → ah_T h104 q139 = 100 ∧ vp_in (15 : Int32) (ah_N h104 q139) ∧ ∀ h148 : ah_H, h148 = ah_cI h104 q139 (upd (ah_bI h104 q139) (15 : Int32).toNatClampNeg v145) → bk_MO_divide_209 K x99 x100 x101 x102 h148))
def bk_MO_divide_131  (K : ah_H → Prop) (x92 : Nat) (x93 : Int32) (x94 : Int32) (x95 : Int32) (s96 : Int32) (h97 : ah_H) : Prop :=
  (s96 = 0 → (bk_MO_divide_189 K x92 x93 x94 x95 s96 h97)) ∧ (¬ s96 = 0 → (ah_T h97 x92 = 5 ∧ ∃ q154, ah_R h97 15 x92 = some q154 ∧ ah_T h97 q154 = 100 ∧ vp_in (16 : Int32) (ah_N h97 q154) ∧ ((ah_bI h97 q154 (16 : Int32).toNatClampNeg) ≤ 0 → (bk_MO_divide_189 K x92 x93 x94 x95 s96 h97)) ∧ (¬ (ah_bI h97 q154 (16 : Int32).toNatClampNeg) ≤ 0 → (w_MO_setRow x92 (13 : Int32) (1 : Int64) h97 (fun h159 => ah_m h97 h159 → w_MO_sum x92 (15 : Int32) (13 : Int32) (1 : Int32) h159 (fun h163 => ah_m h159 h163 → w_MO_copyRow x92 (15 : Int32) (17 : Int32) h163 (fun h167 => ah_m h163 h167 → w_MO_sum x92 (14 : Int32) (16 : Int32) (-1 : Int32) h167 (fun h171 => ah_m h167 h171 → w_MO_copyRow x92 (16 : Int32) (17 : Int32) h171 (fun h175 => ah_m h171 h175 → bk_MO_divide_189 K x92 x93 x94 x95 s96 h175)))))))))
def bk_MO_divide_130  (K : ah_H → Prop) (x87 : Nat) (x88 : Int32) (x89 : Int32) (x90 : Int32) (h91 : ah_H) : Prop :=
  bk_MO_divide_131 K x87 x88 x89 x90 (0 : Int32) h91
def bk_MO_divide_66  (K : ah_H → Prop) (x38 : Nat) (x39 : Int32) (x40 : Int32) (x41 : Int32) (x42 : Int32) (s43 : Int32) (s44 : Nat) (h45 : ah_H) : Prop :=
  ah_T h45 s44 = 5 ∧ w_MO_fails s44 s43 (2 : Int32) h45 (fun r48 h47 => ah_m h45 h47 → (r48 = 0 → (ah_T h47 x38 = 5 ∧ ∃ q53, ah_R h47 15 x38 = some q53 ∧ ah_T h47 q53 = 100 ∧ vp_in x41 (ah_N h47 q53) ∧ ∀ v57 : Int32, v57 = ah_bI h47 q53 x41.toNatClampNeg → ∃ q58, ah_R h47 15 x38 = some q58 ∧ ah_T h47 q58 = 100 ∧ vp_in x42 (ah_N h47 q58) ∧ ∀ v62 : Int32, v62 = ah_bI h47 q58 x42.toNatClampNeg → w_MO_quotient x38 x41 x42 h47 (fun h63 => ah_m h47 h63 → w_MO_copyRow x38 (14 : Int32) x42 h63 (fun h69 => ah_m h63 h69 → ∃ q75, ah_R h69 15 x38 = some q75 ∧ ah_T h69 q75 = 100 ∧ vp_in (14 : Int32) (ah_N h69 q75) ∧ ∀ h79 : ah_H, h79 = ah_cI h69 q75 (upd (ah_bI h69 q75) (14 : Int32).toNatClampNeg (1 : Int32)) → (v57 = 0 → (bk_MO_divide_130 K x38 x39 x40 v62 h79)) ∧ (¬ v57 = 0 → ((v57 = v62 → (bk_MO_divide_130 K x38 x39 x40 v62 h79)) ∧ (¬ v57 = v62 → (bk_MO_divide_131 K x38 x39 x40 v62 (1 : Int32) h79)))))))) ∧ (¬ r48 = 0 → (bk_MO_divide_73 K h47)))
def bk_MO_divide_40  (K : ah_H → Prop) (x17 : Nat) (x18 : Int32) (x19 : Int32) (x20 : Int32) (x21 : Int32) (s22 : Int32) (s23 : Nat) (h24 : ah_H) : Prop :=
  ah_T h24 s23 = 5 ∧ w_MO_fails s23 s22 (1 : Int32) h24 (fun r27 h26 => ah_m h24 h26 → (¬ r27 = 0 → (bk_MO_divide_73 K h26)) ∧ (r27 = 0 → (ah_T h26 x17 = 5 ∧ ∃ q33, ah_R h26 15 x17 = some q33 ∧ ah_T h26 q33 = 100 ∧ vp_in (x21 &&& (15 : Int32)) (ah_N h26 q33) ∧ (¬ (ah_bI h26 q33 (x21 &&& (15 : Int32)).toNatClampNeg) = 0 → (bk_MO_divide_66 K x17 x18 x19 x20 x21 (0 : Int32) x17 h26)) ∧ ((ah_bI h26 q33 (x21 &&& (15 : Int32)).toNatClampNeg) = 0 → (bk_MO_divide_66 K x17 x18 x19 x20 x21 (1 : Int32) x17 h26)))))
def bk_MO_divide_35  (K : ah_H → Prop) (x10 : Nat) (x11 : Int32) (x12 : Int32) (x13 : Int32) (x14 : Int32) (s15 : Nat) (h16 : ah_H) : Prop :=
  bk_MO_divide_40 K x10 x11 x12 x13 x14 (1 : Int32) s15 h16
def w_MO_divide (a1 : Nat) (a2 : Int32) (a3 : Int32) (a4 : Int32) (a5 : Int32) (h0 : ah_H) (K : ah_H → Prop) : Prop :=
  w_MO_isNone a2 h0 (fun r7 h6 => ah_m h0 h6 → (¬ r7 = 0 → (bk_MO_divide_35 K a1 a2 a3 a4 a5 a1 h6)) ∧ (r7 = 0 → (w_MO_isNone a3 h6 (fun r181 h180 => ah_m h6 h180 → (¬ r181 = 0 → (bk_MO_divide_35 K a1 a2 a3 a4 a5 a1 h180)) ∧ (r181 = 0 → (w_MO_isNone a4 h180 (fun r185 h184 => ah_m h180 h184 → (¬ r185 = 0 → (bk_MO_divide_35 K a1 a2 a3 a4 a5 a1 h184)) ∧ (r185 = 0 → (w_MO_isNone a5 h184 (fun r189 h188 => ah_m h184 h188 → (¬ r189 = 0 → (bk_MO_divide_35 K a1 a2 a3 a4 a5 a1 h188)) ∧ (r189 = 0 → ((¬ a2 = a3 → (bk_MO_divide_40 K a1 a2 a3 a4 a5 (0 : Int32) a1 h188)) ∧ (a2 = a3 → (bk_MO_divide_35 K a1 a2 a3 a4 a5 a1 h188))))))))))))))
abbrev rm_MO_gcd : Room := { frames := 3, cells := 0, slots := 0, locals := 75 }
def lp_MO_gcd_49 (xt_86 : Nat → Int32 → ah_H → Prop) (K : ah_H → Prop) : Nat → Nat → Int32 → ah_H → Prop
  | 0, _, _, _ => False
  | n + 1, x37, x38, h39 =>
    ah_T h39 x37 = 5 ∧ ∃ q41, ah_R h39 14 x37 = some q41 ∧ ah_T h39 q41 = 100 ∧ vp_in (14 : Int32) (ah_N h39 q41) ∧ ((ah_bI h39 q41 (14 : Int32).toNatClampNeg) ≤ 0 → (xt_86 x37 x38 h39)) ∧ (¬ (ah_bI h39 q41 (14 : Int32).toNatClampNeg) ≤ 0 → (w_MO_quotient x37 (13 : Int32) (14 : Int32) h39 (fun h46 => ah_m h39 h46 → w_MO_copyRow x37 (13 : Int32) (14 : Int32) h46 (fun h50 => ah_m h46 h50 → w_MO_copyRow x37 (14 : Int32) (16 : Int32) h50 (fun h54 => ah_m h50 h54 → (lp_MO_gcd_49 xt_86 K n) x37 x38 h54)))))
def bk_MO_gcd_107  (K : ah_H → Prop) (x69 : Nat) (x70 : Int32) (s71 : Int32) (s72 : Int32) (s73 : Nat) (h74 : ah_H) : Prop :=
  ah_T h74 s73 = 100 ∧ vp_in s72 (ah_N h74 s73) ∧ ∀ h77 : ah_H, h77 = ah_cI h74 s73 (upd (ah_bI h74 s73) s72.toNatClampNeg s71) → ah_T h77 x69 = 5 ∧ w_MO_copyRow x69 x70 (13 : Int32) h77 (fun h81 => ah_m h77 h81 → K h81)
def bk_MO_gcd_27  (K : ah_H → Prop) (x15 : Nat) (x16 : Int32) (x17 : Int32) (x18 : Int32) (s19 : Int32) (s20 : Nat) (h21 : ah_H) : Prop :=
  ah_T h21 s20 = 5 ∧ w_MO_fails s20 s19 (1 : Int32) h21 (fun r24 h23 => ah_m h21 h23 → (r24 = 0 → (ah_T h23 x15 = 5 ∧ w_MO_copyRow x15 (13 : Int32) x17 h23 (fun h29 => ah_m h23 h29 → w_MO_copyRow x15 (14 : Int32) x18 h29 (fun h33 => ah_m h29 h33 → ∃ k85, lp_MO_gcd_49 (fun (x58 : Nat) (x59 : Int32) h60 => ah_T h60 x58 = 5 ∧ ∃ q62, ah_R h60 15 x58 = some q62 ∧ ∃ q64, ah_R h60 14 x58 = some q64 ∧ ah_T h60 q64 = 100 ∧ vp_in (13 : Int32) (ah_N h60 q64) ∧ ((ah_bI h60 q64 (13 : Int32).toNatClampNeg) ≤ 0 → (bk_MO_gcd_107 K x58 x59 (0 : Int32) (13 : Int32) q62 h60)) ∧ (¬ (ah_bI h60 q64 (13 : Int32).toNatClampNeg) ≤ 0 → (bk_MO_gcd_107 K x58 x59 (1 : Int32) (13 : Int32) q62 h60))) K k85 x15 x16 h33)))) ∧ (¬ r24 = 0 → (K h23)))
def bk_MO_gcd_22  (K : ah_H → Prop) (x9 : Nat) (x10 : Int32) (x11 : Int32) (x12 : Int32) (s13 : Nat) (h14 : ah_H) : Prop :=
  bk_MO_gcd_27 K x9 x10 x11 x12 (1 : Int32) s13 h14
def w_MO_gcd (a1 : Nat) (a2 : Int32) (a3 : Int32) (a4 : Int32) (h0 : ah_H) (K : ah_H → Prop) : Prop :=
  w_MO_isNone a2 h0 (fun r6 h5 => ah_m h0 h5 → (¬ r6 = 0 → (bk_MO_gcd_22 K a1 a2 a3 a4 a1 h5)) ∧ (r6 = 0 → (w_MO_isNone a3 h5 (fun r87 h86 => ah_m h5 h86 → (¬ r87 = 0 → (bk_MO_gcd_22 K a1 a2 a3 a4 a1 h86)) ∧ (r87 = 0 → (w_MO_isNone a4 h86 (fun r91 h90 => ah_m h86 h90 → (r91 = 0 → (bk_MO_gcd_27 K a1 a2 a3 a4 (0 : Int32) a1 h90)) ∧ (¬ r91 = 0 → (bk_MO_gcd_22 K a1 a2 a3 a4 a1 h90)))))))))
abbrev rm_MO_negate : Room := { frames := 1, cells := 0, slots := 0, locals := 23 }
def bk_MO_negate_20  (K : ah_H → Prop) (x13 : Nat) (x14 : Int32) (x15 : Int32) (s16 : Int32) (s17 : Nat) (h18 : ah_H) : Prop :=
  ah_T h18 s17 = 5 ∧ w_MO_fails s17 s16 (1 : Int32) h18 (fun r21 h20 => ah_m h18 h20 → (r21 = 0 → (ah_T h20 x13 = 5 ∧ w_MO_copyRow x13 (13 : Int32) x15 h20 (fun h26 => ah_m h20 h26 → ∃ q30, ah_R h26 15 x13 = some q30 ∧ ∃ q32, ah_R h26 15 x13 = some q32 ∧ ah_T h26 q32 = 100 ∧ vp_in (13 : Int32) (ah_N h26 q32) ∧ ∀ v36 : Int32, v36 = -(ah_bI h26 q32 (13 : Int32).toNatClampNeg) → ah_T h26 q30 = 100 ∧ vp_in (13 : Int32) (ah_N h26 q30) ∧ ∀ h39 : ah_H, h39 = ah_cI h26 q30 (upd (ah_bI h26 q30) (13 : Int32).toNatClampNeg v36) → w_MO_copyRow x13 x14 (13 : Int32) h39 (fun h45 => ah_m h39 h45 → K h45)))) ∧ (¬ r21 = 0 → (K h20)))
def bk_MO_negate_15  (K : ah_H → Prop) (x8 : Nat) (x9 : Int32) (x10 : Int32) (s11 : Nat) (h12 : ah_H) : Prop :=
  bk_MO_negate_20 K x8 x9 x10 (1 : Int32) s11 h12
def w_MO_negate (a1 : Nat) (a2 : Int32) (a3 : Int32) (h0 : ah_H) (K : ah_H → Prop) : Prop :=
  w_MO_isNone a2 h0 (fun r5 h4 => ah_m h0 h4 → (¬ r5 = 0 → (bk_MO_negate_15 K a1 a2 a3 a1 h4)) ∧ (r5 = 0 → (w_MO_isNone a3 h4 (fun r52 h51 => ah_m h4 h51 → (r52 = 0 → (bk_MO_negate_20 K a1 a2 a3 (0 : Int32) a1 h51)) ∧ (¬ r52 = 0 → (bk_MO_negate_15 K a1 a2 a3 a1 h51))))))
abbrev rm_MO_compare : Room := { frames := 2, cells := 0, slots := 0, locals := 45 }
def bk_MO_compare_64  (K : Int32 → ah_H → Prop) (s56 : Int32) (h57 : ah_H) : Prop :=
  K s56 h57
def bk_MO_compare_20  (K : Int32 → ah_H → Prop) (x13 : Nat) (x14 : Int32) (x15 : Int32) (s16 : Int32) (s17 : Nat) (h18 : ah_H) : Prop :=
  ah_T h18 s17 = 5 ∧ w_MO_fails s17 s16 (1 : Int32) h18 (fun r21 h20 => ah_m h18 h20 → (r21 = 0 → (ah_T h20 x13 = 5 ∧ ∃ q26, ah_R h20 15 x13 = some q26 ∧ ah_T h20 q26 = 100 ∧ vp_in x14 (ah_N h20 q26) ∧ ∃ q30, ah_R h20 15 x13 = some q30 ∧ ah_T h20 q30 = 100 ∧ vp_in x15 (ah_N h20 q30) ∧ ((ah_bI h20 q26 x14.toNatClampNeg) = (ah_bI h20 q30 x15.toNatClampNeg) → (∃ q35, ah_R h20 15 x13 = some q35 ∧ ah_T h20 q35 = 100 ∧ vp_in x14 (ah_N h20 q35) ∧ w_MO_against x13 x14 x15 h20 (fun r40 h39 => ah_m h20 h39 → K ((ah_bI h20 q35 x14.toNatClampNeg) * r40) h39))) ∧ (¬ (ah_bI h20 q26 x14.toNatClampNeg) = (ah_bI h20 q30 x15.toNatClampNeg) → (∃ q47, ah_R h20 15 x13 = some q47 ∧ ah_T h20 q47 = 100 ∧ vp_in x14 (ah_N h20 q47) ∧ ∃ q51, ah_R h20 15 x13 = some q51 ∧ ah_T h20 q51 = 100 ∧ vp_in x15 (ah_N h20 q51) ∧ ((ah_bI h20 q51 x15.toNatClampNeg) ≤ (ah_bI h20 q47 x14.toNatClampNeg) → (bk_MO_compare_64 K (1 : Int32) h20)) ∧ (¬ (ah_bI h20 q51 x15.toNatClampNeg) ≤ (ah_bI h20 q47 x14.toNatClampNeg) → (bk_MO_compare_64 K (-1 : Int32) h20)))))) ∧ (¬ r21 = 0 → (K (0 : Int32) h20)))
def bk_MO_compare_15  (K : Int32 → ah_H → Prop) (x8 : Nat) (x9 : Int32) (x10 : Int32) (s11 : Nat) (h12 : ah_H) : Prop :=
  bk_MO_compare_20 K x8 x9 x10 (1 : Int32) s11 h12
def w_MO_compare (a1 : Nat) (a2 : Int32) (a3 : Int32) (h0 : ah_H) (K : Int32 → ah_H → Prop) : Prop :=
  w_MO_isNone a2 h0 (fun r5 h4 => ah_m h0 h4 → (¬ r5 = 0 → (bk_MO_compare_15 K a1 a2 a3 a1 h4)) ∧ (r5 = 0 → (w_MO_isNone a3 h4 (fun r59 h58 => ah_m h4 h58 → (r59 = 0 → (bk_MO_compare_20 K a1 a2 a3 (0 : Int32) a1 h58)) ∧ (¬ r59 = 0 → (bk_MO_compare_15 K a1 a2 a3 a1 h58))))))
abbrev rm_MO_twice : Room := { frames := 0, cells := 0, slots := 0, locals := 0 }
def bk_MO_twice_21  (K : Int64 → ah_H → Prop) (s5 : Int64) (h6 : ah_H) : Prop :=
  K s5 h6
def w_MO_twice (a1 : Int64) (a2 : Int64) (a3 : Int64) (h0 : ah_H) (K : Int64 → ah_H → Prop) : Prop :=
  (a1 < (a3 - a2) → (bk_MO_twice_21 K (a1 + a2) h0)) ∧ (¬ a1 < (a3 - a2) → (bk_MO_twice_21 K (a1 - (a3 - a2)) h0))
abbrev rm_MO_rest : Room := { frames := 1, cells := 0, slots := 0, locals := 25 }
def bk_MO_rest_90 (rc_53 : Nat → Int32 → Int64 → Int64 → Int32 → Int64 → Int32 → ah_H → Prop) (K : Int64 → ah_H → Prop) (x51 : Nat) (x52 : Int32) (x53 : Int64) (x54 : Int64) (x55 : Int32) (x56 : Int64) (x57 : Int32) (h58 : ah_H) : Prop :=
  ∀ v59 : Int32, v59 = x57 + (-1) → rc_53 x51 x52 x53 x54 x55 x56 v59 h58
def lp_MO_rest_53 (xt_96 : Nat → Int32 → Int64 → Int32 → Int64 → ah_H → Prop) (K : Int64 → ah_H → Prop) : Nat → Nat → Int32 → Int64 → Int64 → Int32 → Int64 → Int32 → ah_H → Prop
  | 0, _, _, _, _, _, _, _, _ => False
  | n + 1, x38, x39, x40, x41, x42, x43, x44, h45 =>
    (x44 < 0 → (xt_96 x38 x39 x40 x42 x43 h45)) ∧ (¬ x44 < 0 → (w_MO_twice x43 x43 x40 h45 (fun r48 h47 => ah_m h45 h47 → (¬ (((10000 : Int32) >>> (x44 &&& 31)) &&& (1 : Int32)) = (1 : Int32) → (bk_MO_rest_90 (lp_MO_rest_53 xt_96 K n) K x38 x39 x40 x41 x42 r48 x44 h47)) ∧ ((((10000 : Int32) >>> (x44 &&& 31)) &&& (1 : Int32)) = (1 : Int32) → (w_MO_twice r48 x41 x40 h47 (fun r61 h60 => ah_m h47 h60 → bk_MO_rest_90 (lp_MO_rest_53 xt_96 K n) K x38 x39 x40 x41 x42 r61 x44 h60))))))
def lp_MO_rest_41 (xt_120 : Nat → Int32 → Int64 → Int64 → ah_H → Prop) (K : Int64 → ah_H → Prop) : Nat → Nat → Int32 → Int64 → Int64 → Int32 → ah_H → Prop
  | 0, _, _, _, _, _, _ => False
  | n + 1, x31, x32, x33, x34, x35, h36 =>
    (x35 < 0 → (xt_120 x31 x32 x33 x34 h36)) ∧ (¬ x35 < 0 → (∃ k80, lp_MO_rest_53 (fun (x63 : Nat) (x64 : Int32) (x65 : Int64) (x66 : Int32) (x67 : Int64) h68 => ah_T h68 x63 = 5 ∧ w_MO_at x63 x64 x66 h68 (fun r71 h70 => ah_m h68 h70 → (¬ x65 = 0) ∧ w_MO_twice x67 (r71.toInt64 - r71.toInt64 / x65 * x65) x65 h70 (fun r76 h75 => ah_m h70 h75 → ∀ v79 : Int32, v79 = x66 + (-1) → (lp_MO_rest_41 xt_120 K n) x63 x64 x65 r76 v79 h75))) K k80 x31 x32 x33 x34 x35 (0 : Int64) (13 : Int32) h36))
def bk_MO_rest_145  (K : Int64 → ah_H → Prop) (s94 : Int64) (h95 : ah_H) : Prop :=
  K s94 h95
def bk_MO_rest_143  (K : Int64 → ah_H → Prop) (x92 : Int64) (h93 : ah_H) : Prop :=
  bk_MO_rest_145 K x92 h93
def bk_MO_rest_19  (K : Int64 → ah_H → Prop) (x13 : Nat) (x14 : Int32) (x15 : Int64) (s16 : Int32) (s17 : Nat) (h18 : ah_H) : Prop :=
  ah_T h18 s17 = 5 ∧ w_MO_fails s17 s16 (1 : Int32) h18 (fun r21 h20 => ah_m h18 h20 → (r21 = 0 → (ah_T h20 x13 = 5 ∧ ∃ q26, ah_R h20 14 x13 = some q26 ∧ ah_T h20 q26 = 100 ∧ vp_in x14 (ah_N h20 q26) ∧ ∀ v30 : Int32, v30 = (ah_bI h20 q26 x14.toNatClampNeg) - (1 : Int32) → ∃ k97, lp_MO_rest_41 (fun (x81 : Nat) (x82 : Int32) (x83 : Int64) (x84 : Int64) h85 => ah_T h85 x81 = 5 ∧ ∃ q87, ah_R h85 15 x81 = some q87 ∧ ah_T h85 q87 = 100 ∧ vp_in x82 (ah_N h85 q87) ∧ (0 ≤ (ah_bI h85 q87 x82.toNatClampNeg) → (bk_MO_rest_143 K x84 h85)) ∧ (¬ 0 ≤ (ah_bI h85 q87 x82.toNatClampNeg) → ((x84 ≤ (0 : Int64) → (bk_MO_rest_143 K x84 h85)) ∧ (¬ x84 ≤ (0 : Int64) → (bk_MO_rest_145 K (x83 - x84) h85))))) K k97 x13 x14 x15 (0 : Int64) v30 h20)) ∧ (¬ r21 = 0 → (K (0 : Int64) h20)))
def bk_MO_rest_14  (K : Int64 → ah_H → Prop) (x8 : Nat) (x9 : Int32) (x10 : Int64) (s11 : Nat) (h12 : ah_H) : Prop :=
  bk_MO_rest_19 K x8 x9 x10 (1 : Int32) s11 h12
def w_MO_rest (a1 : Nat) (a2 : Int32) (a3 : Int64) (h0 : ah_H) (K : Int64 → ah_H → Prop) : Prop :=
  w_MO_isNone a2 h0 (fun r5 h4 => ah_m h0 h4 → (¬ r5 = 0 → (bk_MO_rest_14 K a1 a2 a3 a1 h4)) ∧ (r5 = 0 → (((1 : Int64) ≤ a3 → (bk_MO_rest_19 K a1 a2 a3 (0 : Int32) a1 h4)) ∧ (¬ (1 : Int64) ≤ a3 → (bk_MO_rest_14 K a1 a2 a3 a1 h4)))))
abbrev rm_MO_isLong : Room := { frames := 1, cells := 0, slots := 0, locals := 22 }
def lp_MO_isLong_24 (xt_50 : ah_H → Prop) (xt_73 : Nat → Int32 → Int64 → ah_H → Prop) (K : Int32 → ah_H → Prop) : Nat → Nat → Int32 → Int64 → Int32 → ah_H → Prop
  | 0, _, _, _, _, _ => False
  | n + 1, x14, x15, x16, x17, h18 =>
    (x17 < 0 → (xt_73 x14 x15 x16 h18)) ∧ (¬ x17 < 0 → (ah_T h18 x14 = 5 ∧ w_MO_at x14 x15 x17 h18 (fun r22 h21 => ah_m h18 h21 → ((((-9223372036854775808 : Int64) + r22.toInt64) / (10000 : Int64)) ≤ x16 → (w_MO_at x14 x15 x17 h21 (fun r27 h26 => ah_m h21 h26 → ∀ v30 : Int64, v30 = (x16 * (10000 : Int64)) - r27.toInt64 → ∀ v31 : Int32, v31 = x17 + (-1) → (lp_MO_isLong_24 xt_50 xt_73 K n) x14 x15 v30 v31 h26))) ∧ (¬ (((-9223372036854775808 : Int64) + r22.toInt64) / (10000 : Int64)) ≤ x16 → (xt_50 h21)))))
def bk_MO_isLong_95  (K : Int32 → ah_H → Prop) (s44 : Int32) (h45 : ah_H) : Prop :=
  (s44 = 0 ∨ s44 = 1) ∧ K s44 h45
def bk_MO_isLong_90  (K : Int32 → ah_H → Prop)  (h43 : ah_H) : Prop :=
  bk_MO_isLong_95 K (1 : Int32) h43
def w_MO_isLong (a1 : Nat) (a2 : Int32) (h0 : ah_H) (K : Int32 → ah_H → Prop) : Prop :=
  ah_T h0 a1 = 5 ∧ ∃ q4, ah_R h0 14 a1 = some q4 ∧ ah_T h0 q4 = 100 ∧ vp_in a2 (ah_N h0 q4) ∧ ((ah_bI h0 q4 a2.toNatClampNeg) ≤ (5 : Int32) → (∃ q9, ah_R h0 14 a1 = some q9 ∧ ah_T h0 q9 = 100 ∧ vp_in a2 (ah_N h0 q9) ∧ ∀ v13 : Int32, v13 = (ah_bI h0 q9 a2.toNatClampNeg) - (1 : Int32) → ∃ k48, lp_MO_isLong_24 (fun  h32 => K (0 : Int32) h32) (fun (x33 : Nat) (x34 : Int32) (x35 : Int64) h36 => ah_T h36 x33 = 5 ∧ ∃ q38, ah_R h36 15 x33 = some q38 ∧ ah_T h36 q38 = 100 ∧ vp_in x34 (ah_N h36 q38) ∧ ((ah_bI h36 q38 x34.toNatClampNeg) < 0 → (bk_MO_isLong_90 K h36)) ∧ (¬ (ah_bI h36 q38 x34.toNatClampNeg) < 0 → ((x35 ≤ (-9223372036854775808 : Int64) → (bk_MO_isLong_95 K (0 : Int32) h36)) ∧ (¬ x35 ≤ (-9223372036854775808 : Int64) → (bk_MO_isLong_90 K h36))))) K k48 a1 a2 (0 : Int64) v13 h0)) ∧ (¬ (ah_bI h0 q4 a2.toNatClampNeg) ≤ (5 : Int32) → (K (0 : Int32) h0))
abbrev rm_MO_longOf : Room := { frames := 1, cells := 0, slots := 0, locals := 22 }
def lp_MO_longOf_12 (xt_38 : Nat → Int32 → Int64 → ah_H → Prop) (K : Int64 → ah_H → Prop) : Nat → Nat → Int32 → Int64 → Int32 → ah_H → Prop
  | 0, _, _, _, _, _ => False
  | n + 1, x9, x10, x11, x12, h13 =>
    (x12 < 0 → (xt_38 x9 x10 x11 h13)) ∧ (¬ x12 < 0 → (ah_T h13 x9 = 5 ∧ w_MO_at x9 x10 x12 h13 (fun r17 h16 => ah_m h13 h16 → ∀ v20 : Int64, v20 = (x11 * (10000 : Int64)) - r17.toInt64 → ∀ v21 : Int32, v21 = x12 + (-1) → (lp_MO_longOf_12 xt_38 K n) x9 x10 v20 v21 h16)))
def bk_MO_longOf_53  (K : Int64 → ah_H → Prop) (s32 : Int64) (h33 : ah_H) : Prop :=
  K s32 h33
def w_MO_longOf (a1 : Nat) (a2 : Int32) (h0 : ah_H) (K : Int64 → ah_H → Prop) : Prop :=
  ah_T h0 a1 = 5 ∧ ∃ q4, ah_R h0 14 a1 = some q4 ∧ ah_T h0 q4 = 100 ∧ vp_in a2 (ah_N h0 q4) ∧ ∀ v8 : Int32, v8 = (ah_bI h0 q4 a2.toNatClampNeg) - (1 : Int32) → ∃ k34, lp_MO_longOf_12 (fun (x22 : Nat) (x23 : Int32) (x24 : Int64) h25 => ah_T h25 x22 = 5 ∧ ∃ q27, ah_R h25 15 x22 = some q27 ∧ ah_T h25 q27 = 100 ∧ vp_in x23 (ah_N h25 q27) ∧ (0 ≤ (ah_bI h25 q27 x23.toNatClampNeg) → (bk_MO_longOf_53 K (-x24) h25)) ∧ (¬ 0 ≤ (ah_bI h25 q27 x23.toNatClampNeg) → (bk_MO_longOf_53 K x24 h25))) K k34 a1 a2 (0 : Int64) v8 h0
abbrev rm_MO_value : Room := { frames := 2, cells := 0, slots := 0, locals := 46 }
def bk_MO_value_42  (K : Int64 → ah_H → Prop) (s13 : Int64) (h14 : ah_H) : Prop :=
  K s13 h14
def bk_MO_value_33  (K : Int64 → ah_H → Prop)  (h12 : ah_H) : Prop :=
  bk_MO_value_42 K (0 : Int64) h12
def bk_MO_value_26  (K : Int64 → ah_H → Prop) (x20 : Nat) (x21 : Int32) (s22 : Int32) (s23 : Nat) (h24 : ah_H) : Prop :=
  ah_T h24 s23 = 5 ∧ w_MO_fails s23 s22 (2 : Int32) h24 (fun r27 h26 => ah_m h24 h26 → (r27 = 0 → (ah_T h26 x20 = 5 ∧ w_MO_longOf x20 x21 h26 (fun r33 h32 => ah_m h26 h32 → bk_MO_value_42 K r33 h32))) ∧ (¬ r27 = 0 → (bk_MO_value_33 K h26)))
def w_MO_value (a1 : Nat) (a2 : Int32) (h0 : ah_H) (K : Int64 → ah_H → Prop) : Prop :=
  w_MO_isNone a2 h0 (fun r4 h3 => ah_m h0 h3 → ah_T h3 a1 = 5 ∧ w_MO_fails a1 r4 (1 : Int32) h3 (fun r8 h7 => ah_m h3 h7 → (¬ r8 = 0 → (bk_MO_value_33 K h7)) ∧ (r8 = 0 → (w_MO_isLong a1 a2 h7 (fun r16 h15 => ah_m h7 h15 → (¬ r16 = 0 → (bk_MO_value_26 K a1 a2 (0 : Int32) a1 h15)) ∧ (r16 = 0 → (bk_MO_value_26 K a1 a2 (1 : Int32) a1 h15)))))))
abbrev rm_MO_limb : Room := { frames := 2, cells := 0, slots := 0, locals := 47 }
def lp_MO_limb_43 (xt_75 : Nat → ah_H → Prop) (K : Int64 → ah_H → Prop) : Nat → Nat → Int32 → Int32 → ah_H → Prop
  | 0, _, _, _, _ => False
  | n + 1, x30, x31, x32, h33 =>
    (((2 : Int32) * x31) ≤ x32 → (xt_75 x30 h33)) ∧ (¬ ((2 : Int32) * x31) ≤ x32 → (ah_T h33 x30 = 5 ∧ ∃ q36, ah_R h33 14 x30 = some q36 ∧ ah_T h33 q36 = 100 ∧ vp_in (13 : Int32) (ah_N h33 q36) ∧ ((ah_bI h33 q36 (13 : Int32).toNatClampNeg) ≤ 0 → (xt_75 x30 h33)) ∧ (¬ (ah_bI h33 q36 (13 : Int32).toNatClampNeg) ≤ 0 → (w_MO_parts x30 (13 : Int32) (65536 : Int32) h33 (fun r42 h41 => ah_m h33 h41 → ∀ v46 : Int32, v46 = x32 + 1 → (lp_MO_limb_43 xt_75 K n) x30 x31 v46 h41)))))
def bk_MO_limb_75  (K : Int64 → ah_H → Prop) (x49 : Nat) (h50 : ah_H) : Prop :=
  ah_T h50 x49 = 5 ∧ w_MO_parts x49 (13 : Int32) (65536 : Int32) h50 (fun r53 h52 => ah_m h50 h52 → ∀ v56 : Int64, v56 = r53.toInt64 → w_MO_parts x49 (13 : Int32) (65536 : Int32) h52 (fun r58 h57 => ah_m h52 h57 → K (v56 + ((65536 : Int64) * r58.toInt64)) h57))
def bk_MO_limb_25  (K : Int64 → ah_H → Prop) (x13 : Nat) (x14 : Int32) (x15 : Int32) (s16 : Int32) (s17 : Nat) (h18 : ah_H) : Prop :=
  ah_T h18 s17 = 5 ∧ w_MO_fails s17 s16 (1 : Int32) h18 (fun r21 h20 => ah_m h18 h20 → (r21 = 0 → (ah_T h20 x13 = 5 ∧ w_MO_copyRow x13 (13 : Int32) x14 h20 (fun h26 => ah_m h20 h26 → ∃ k61, lp_MO_limb_43 (fun (x47 : Nat) h48 => bk_MO_limb_75 K x47 h48) K k61 x13 x15 (0 : Int32) h26))) ∧ (¬ r21 = 0 → (K (0 : Int64) h20)))
def bk_MO_limb_20  (K : Int64 → ah_H → Prop) (x8 : Nat) (x9 : Int32) (x10 : Int32) (s11 : Nat) (h12 : ah_H) : Prop :=
  bk_MO_limb_25 K x8 x9 x10 (1 : Int32) s11 h12
def w_MO_limb (a1 : Nat) (a2 : Int32) (a3 : Int32) (h0 : ah_H) (K : Int64 → ah_H → Prop) : Prop :=
  w_MO_isNone a2 h0 (fun r5 h4 => ah_m h0 h4 → (¬ r5 = 0 → (bk_MO_limb_20 K a1 a2 a3 a1 h4)) ∧ (r5 = 0 → (w_MO_in a3.toInt64 (0 : Int64) (255 : Int64) h4 (fun r63 h62 => ah_m h4 h62 → (¬ r63 = 0 → (bk_MO_limb_25 K a1 a2 a3 (0 : Int32) a1 h62)) ∧ (r63 = 0 → (bk_MO_limb_20 K a1 a2 a3 a1 h62))))))
abbrev rm_MO_look : Room := { frames := 3, cells := 0, slots := 0, locals := 71 }
def lp_MO_look_107 (xt_133 : Int32 → ah_H → Prop) (K : Int32 → ah_H → Prop) : Nat → Nat → Int32 → ah_H → Prop
  | 0, _, _, _ => False
  | n + 1, x37, x38, h39 =>
    ah_T h39 x37 = 5 ∧ w_MO_at x37 (13 : Int32) (0 : Int32) h39 (fun r42 h41 => ah_m h39 h41 → (¬ (r42 - r42 / (2 : Int32) * (2 : Int32)) = 0 → (xt_133 x38 h41)) ∧ ((r42 - r42 / (2 : Int32) * (2 : Int32)) = 0 → (w_MO_parts x37 (13 : Int32) (2 : Int32) h41 (fun r47 h46 => ah_m h41 h46 → ∀ v50 : Int32, v50 = x38 + 1 → (lp_MO_look_107 xt_133 K n) x37 v50 h46))))
def bk_MO_look_86  (K : Int32 → ah_H → Prop) (s72 : Int32) (h73 : ah_H) : Prop :=
  K s72 h73
def bk_MO_look_25  (K : Int32 → ah_H → Prop) (x13 : Nat) (x14 : Int32) (x15 : Int32) (s16 : Int32) (s17 : Nat) (h18 : ah_H) : Prop :=
  ah_T h18 s17 = 5 ∧ w_MO_fails s17 s16 (1 : Int32) h18 (fun r21 h20 => ah_m h18 h20 → (r21 = 0 → ((x15.toInt < 0 ∨ 2 < x15.toInt → (ah_T h20 x13 = 5 ∧ ∃ q27, ah_R h20 14 x13 = some q27 ∧ ah_T h20 q27 = 100 ∧ vp_in x14 (ah_N h20 q27) ∧ (¬ (ah_bI h20 q27 x14.toNatClampNeg) = 0 → (w_MO_copyRow x13 (13 : Int32) x14 h20 (fun h32 => ah_m h20 h32 → ∃ k53, lp_MO_look_107 (fun (x51 : Int32) h52 => K x51 h52) K k53 x13 (0 : Int32) h32))) ∧ ((ah_bI h20 q27 x14.toNatClampNeg) = 0 → (K (0 : Int32) h20)))) ∧ (x15.toInt = 0 → (ah_T h20 x13 = 5 ∧ ∃ q55, ah_R h20 15 x13 = some q55 ∧ ah_T h20 q55 = 100 ∧ vp_in x14 (ah_N h20 q55) ∧ K (ah_bI h20 q55 x14.toNatClampNeg) h20)) ∧ (x15.toInt = 1 → (ah_T h20 x13 = 5 ∧ w_MO_bits x13 x14 h20 (fun r61 h60 => ah_m h20 h60 → K r61 h60))) ∧ (x15.toInt = 2 → (ah_T h20 x13 = 5 ∧ w_MO_isLong x13 x14 h20 (fun r67 h66 => ah_m h20 h66 → (r67 = 0 → (bk_MO_look_86 K (0 : Int32) h66)) ∧ (¬ r67 = 0 → (bk_MO_look_86 K (1 : Int32) h66))))))) ∧ (¬ r21 = 0 → (K (0 : Int32) h20)))
def bk_MO_look_20  (K : Int32 → ah_H → Prop) (x8 : Nat) (x9 : Int32) (x10 : Int32) (s11 : Nat) (h12 : ah_H) : Prop :=
  bk_MO_look_25 K x8 x9 x10 (1 : Int32) s11 h12
def w_MO_look (a1 : Nat) (a2 : Int32) (a3 : Int32) (h0 : ah_H) (K : Int32 → ah_H → Prop) : Prop :=
  w_MO_isNone a2 h0 (fun r5 h4 => ah_m h0 h4 → (¬ r5 = 0 → (bk_MO_look_20 K a1 a2 a3 a1 h4)) ∧ (r5 = 0 → (w_MO_in a3.toInt64 (0 : Int64) (3 : Int64) h4 (fun r75 h74 => ah_m h4 h74 → (¬ r75 = 0 → (bk_MO_look_25 K a1 a2 a3 (0 : Int32) a1 h74)) ∧ (r75 = 0 → (bk_MO_look_20 K a1 a2 a3 a1 h74))))))
abbrev rm_MO_feed : Room := { frames := 1, cells := 0, slots := 0, locals := 25 }
def bk_MO_feed_50  (K : Int32 → ah_H → Prop)  (h20 : ah_H) : Prop :=
  K (0 : Int32) h20
def lp_MO_feed_55 (xt_91 : Nat → Int32 → ah_H → Prop) (K : Int32 → ah_H → Prop) : Nat → Nat → Int32 → Int64 → Int32 → ah_H → Prop
  | 0, _, _, _, _, _ => False
  | n + 1, x35, x36, x37, x38, h39 =>
    (x36 ≤ x38 → (xt_91 x35 x36 h39)) ∧ (¬ x36 ≤ x38 → (ah_T h39 x35 = 5 ∧ ∃ q42, ah_R h39 16 x35 = some q42 ∧ ∀ v44 : Int32, v44 = ((x37 >>> (((8 : Int32) * x38).toInt64 &&& 63)) &&& (255 : Int64)).toInt32 → ah_T h39 q42 = 100 ∧ vp_in ((ah_I h39 5 x35) + x38) (ah_N h39 q42) ∧ ∀ h47 : ah_H, h47 = ah_cI h39 q42 (upd (ah_bI h39 q42) ((ah_I h39 5 x35) + x38).toNatClampNeg v44) → ∀ v51 : Int32, v51 = x38 + 1 → (lp_MO_feed_55 xt_91 K n) x35 x36 x37 v51 h47))
def bk_MO_feed_43  (K : Int32 → ah_H → Prop) (x23 : Nat) (x24 : Int32) (x25 : Int64) (s26 : Int32) (s27 : Nat) (h28 : ah_H) : Prop :=
  ah_T h28 s27 = 5 ∧ w_MO_fails s27 s26 (2 : Int32) h28 (fun r31 h30 => ah_m h28 h30 → (r31 = 0 → (∃ k60, lp_MO_feed_55 (fun (x52 : Nat) (x53 : Int32) h54 => ah_T h54 x52 = 5 ∧ ∀ v56 : Int32, v56 = (ah_I h54 5 x52) + x53 → ∀ h57 : ah_H, h57 = ah_sI h54 5 x52 v56 → K (ah_I h57 5 x52) h57) K k60 x23 x24 x25 (0 : Int32) h30)) ∧ (¬ r31 = 0 → (bk_MO_feed_50 K h30)))
def bk_MO_feed_18  (K : Int32 → ah_H → Prop) (x8 : Nat) (x9 : Int32) (x10 : Int64) (s11 : Int32) (s12 : Nat) (h13 : ah_H) : Prop :=
  ah_T h13 s12 = 5 ∧ w_MO_fails s12 s11 (1 : Int32) h13 (fun r16 h15 => ah_m h13 h15 → (¬ r16 = 0 → (bk_MO_feed_50 K h15)) ∧ (r16 = 0 → (ah_T h15 x8 = 5 ∧ (((ah_I h15 5 x8) + x9) ≤ (2600 : Int32) → (bk_MO_feed_43 K x8 x9 x10 (0 : Int32) x8 h15)) ∧ (¬ ((ah_I h15 5 x8) + x9) ≤ (2600 : Int32) → (bk_MO_feed_43 K x8 x9 x10 (1 : Int32) x8 h15)))))
def w_MO_feed (a1 : Nat) (a2 : Int32) (a3 : Int64) (h0 : ah_H) (K : Int32 → ah_H → Prop) : Prop :=
  w_MO_in a2.toInt64 (1 : Int64) (8 : Int64) h0 (fun r5 h4 => ah_m h0 h4 → (¬ r5 = 0 → (bk_MO_feed_18 K a1 a2 a3 (0 : Int32) a1 h4)) ∧ (r5 = 0 → (bk_MO_feed_18 K a1 a2 a3 (1 : Int32) a1 h4)))
abbrev rm_MO_reads : Room := { frames := 2, cells := 0, slots := 0, locals := 45 }
def bk_MO_reads_78  (K : Int32 → ah_H → Prop)  (h16 : ah_H) : Prop :=
  K (0 : Int32) h16
def lp_MO_reads_82 (xt_112 : ah_H → Prop) (xt_120 : Nat → Int32 → Int32 → ah_H → Prop) (K : Int32 → ah_H → Prop) : Nat → Nat → Int32 → Int32 → Int32 → ah_H → Prop
  | 0, _, _, _, _, _ => False
  | n + 1, x32, x33, x34, x35, h36 =>
    ah_T h36 x32 = 5 ∧ ((ah_I h36 5 x32) ≤ x35 → (xt_120 x32 x33 x34 h36)) ∧ (¬ (ah_I h36 5 x32) ≤ x35 → (∃ q39, ah_R h36 16 x32 = some q39 ∧ ah_T h36 q39 = 100 ∧ vp_in x35 (ah_N h36 q39) ∧ ((ah_bI h36 q39 x35.toNatClampNeg) < (48 : Int32) → (xt_112 h36)) ∧ (¬ (ah_bI h36 q39 x35.toNatClampNeg) < (48 : Int32) → (∃ q44, ah_R h36 16 x32 = some q44 ∧ ah_T h36 q44 = 100 ∧ vp_in x35 (ah_N h36 q44) ∧ ((ah_bI h36 q44 x35.toNatClampNeg) ≤ (57 : Int32) → (∀ v49 : Int32, v49 = x35 + 1 → (lp_MO_reads_82 xt_112 xt_120 K n) x32 x33 x34 v49 h36)) ∧ (¬ (ah_bI h36 q44 x35.toNatClampNeg) ≤ (57 : Int32) → (xt_112 h36))))))
def bk_MO_reads_112  (K : Int32 → ah_H → Prop)  (h51 : ah_H) : Prop :=
  K (0 : Int32) h51
def lp_MO_reads_155 (xt_186 : Nat → Int32 → Int32 → Int32 → Int32 → Int32 → ah_H → Prop) (K : Int32 → ah_H → Prop) : Nat → Nat → Int32 → Int32 → Int32 → Int32 → Int32 → Int32 → ah_H → Prop
  | 0, _, _, _, _, _, _, _, _ => False
  | n + 1, x74, x75, x76, x77, x78, x79, x80, h81 =>
    (x78 ≤ x80 → (xt_186 x74 x75 x76 x77 x78 x79 h81)) ∧ (¬ x78 ≤ x80 → (ah_T h81 x74 = 5 ∧ ∃ q84, ah_R h81 16 x74 = some q84 ∧ ah_T h81 q84 = 100 ∧ vp_in x80 (ah_N h81 q84) ∧ ∀ v88 : Int32, v88 = (((10 : Int32) * x79) + (ah_bI h81 q84 x80.toNatClampNeg)) - (48 : Int32) → ∀ v89 : Int32, v89 = x80 + 1 → (lp_MO_reads_155 xt_186 K n) x74 x75 x76 x77 x78 v88 v89 h81))
def bk_MO_reads_153 (rc_128 : Nat → Int32 → Int32 → Int32 → Int32 → ah_H → Prop) (K : Int32 → ah_H → Prop) (x66 : Nat) (x67 : Int32) (x68 : Int32) (x69 : Int32) (x70 : Int32) (x71 : Int32) (s72 : Int32) (h73 : ah_H) : Prop :=
  ∃ k108, lp_MO_reads_155 (fun (x90 : Nat) (x91 : Int32) (x92 : Int32) (x93 : Int32) (x94 : Int32) (x95 : Int32) h96 => ah_T h96 x90 = 5 ∧ ∃ q98, ah_R h96 13 x90 = some q98 ∧ ah_T h96 q98 = 100 ∧ vp_in ((22100 : Int32) + x93) (ah_N h96 q98) ∧ ∀ h102 : ah_H, h102 = ah_cI h96 q98 (upd (ah_bI h96 q98) ((22100 : Int32) + x93).toNatClampNeg x95) → ∀ v106 : Int32, v106 = x93 + 1 → ∀ v107 : Int32, v107 = x94 + (-4) → rc_128 x90 x91 x92 v106 v107 h102) K k108 x66 x67 x68 x69 x70 x71 s72 h73
def lp_MO_reads_128 (xt_207 : Nat → Int32 → Int32 → ah_H → Prop) (K : Int32 → ah_H → Prop) : Nat → Nat → Int32 → Int32 → Int32 → Int32 → ah_H → Prop
  | 0, _, _, _, _, _, _ => False
  | n + 1, x58, x59, x60, x61, x62, h63 =>
    (x62 ≤ x60 → (xt_207 x58 x59 x61 h63)) ∧ (¬ x62 ≤ x60 → ((x60 ≤ (x62 - (4 : Int32)) → (bk_MO_reads_153 (lp_MO_reads_128 xt_207 K n) K x58 x59 x60 x61 x62 (0 : Int32) (x62 - (4 : Int32)) h63)) ∧ (¬ x60 ≤ (x62 - (4 : Int32)) → (bk_MO_reads_153 (lp_MO_reads_128 xt_207 K n) K x58 x59 x60 x61 x62 (0 : Int32) x60 h63))))
def bk_MO_reads_246  (K : Int32 → ah_H → Prop) (s139 : Int32) (h140 : ah_H) : Prop :=
  (s139 = 0 ∨ s139 = 1) ∧ K s139 h140
def bk_MO_reads_222  (K : Int32 → ah_H → Prop) (x117 : Nat) (x118 : Int32) (s119 : Int32) (s120 : Int32) (s121 : Nat) (h122 : ah_H) : Prop :=
  ah_T h122 s121 = 100 ∧ vp_in s120 (ah_N h122 s121) ∧ ∀ h125 : ah_H, h125 = ah_cI h122 s121 (upd (ah_bI h122 s121) s120.toNatClampNeg s119) → ah_T h125 x117 = 5 ∧ w_MO_trim x117 (17 : Int32) x118 h125 (fun h129 => ah_m h125 h129 → w_MO_against x117 (17 : Int32) (12 : Int32) h129 (fun r134 h133 => ah_m h129 h133 → (0 ≤ r134 → (bk_MO_reads_246 K (0 : Int32) h133)) ∧ (¬ 0 ≤ r134 → (bk_MO_reads_246 K (1 : Int32) h133))))
def bk_MO_reads_80  (K : Int32 → ah_H → Prop) (x28 : Nat) (x29 : Int32) (x30 : Int32) (h31 : ah_H) : Prop :=
  ∃ k143, lp_MO_reads_82 (fun  h50 => bk_MO_reads_112 K h50) (fun (x52 : Nat) (x53 : Int32) (x54 : Int32) h55 => ah_T h55 x52 = 5 ∧ ∀ v57 : Int32, v57 = ah_I h55 5 x52 → ∃ k142, lp_MO_reads_128 (fun (x109 : Nat) (x110 : Int32) (x111 : Int32) h112 => ah_T h112 x109 = 5 ∧ ∃ q114, ah_R h112 15 x109 = some q114 ∧ (x110 = 0 → (bk_MO_reads_222 K x109 x111 (1 : Int32) (17 : Int32) q114 h112)) ∧ (¬ x110 = 0 → (bk_MO_reads_222 K x109 x111 (-1 : Int32) (17 : Int32) q114 h112))) K k142 x52 x53 x54 (0 : Int32) v57 h55) K k143 x28 x29 x30 x30 h31
def bk_MO_reads_57  (K : Int32 → ah_H → Prop) (x18 : Nat) (x19 : Int32) (x20 : Int32) (h21 : ah_H) : Prop :=
  ah_T h21 x18 = 5 ∧ ∃ q23, ah_R h21 16 x18 = some q23 ∧ ah_T h21 q23 = 100 ∧ vp_in x20 (ah_N h21 q23) ∧ (¬ (ah_bI h21 q23 x20.toNatClampNeg) = (48 : Int32) → (bk_MO_reads_80 K x18 x19 x20 h21)) ∧ ((ah_bI h21 q23 x20.toNatClampNeg) = (48 : Int32) → (((ah_I h21 5 x18) ≤ (x20 + (1 : Int32)) → (bk_MO_reads_80 K x18 x19 x20 h21)) ∧ (¬ (ah_I h21 5 x18) ≤ (x20 + (1 : Int32)) → (bk_MO_reads_78 K h21))))
def bk_MO_reads_33  (K : Int32 → ah_H → Prop) (x10 : Nat) (x11 : Int32) (s12 : Int32) (h13 : ah_H) : Prop :=
  ah_T h13 x10 = 5 ∧ ((ah_I h13 5 x10) = s12 → (bk_MO_reads_78 K h13)) ∧ (¬ (ah_I h13 5 x10) = s12 → ((x11 = 0 → (bk_MO_reads_57 K x10 x11 s12 h13)) ∧ (¬ x11 = 0 → (∃ q145, ah_R h13 16 x10 = some q145 ∧ ah_T h13 q145 = 100 ∧ vp_in (1 : Int32) (ah_N h13 q145) ∧ ((ah_bI h13 q145 (1 : Int32).toNatClampNeg) = (48 : Int32) → (bk_MO_reads_78 K h13)) ∧ (¬ (ah_bI h13 q145 (1 : Int32).toNatClampNeg) = (48 : Int32) → (bk_MO_reads_57 K x10 x11 s12 h13))))))
def bk_MO_reads_23  (K : Int32 → ah_H → Prop) (x6 : Nat) (s7 : Int32) (h8 : ah_H) : Prop :=
  (s7 = 0 → (bk_MO_reads_33 K x6 s7 (0 : Int32) h8)) ∧ (¬ s7 = 0 → (bk_MO_reads_33 K x6 s7 (1 : Int32) h8))
def bk_MO_reads_22  (K : Int32 → ah_H → Prop) (x4 : Nat) (h5 : ah_H) : Prop :=
  bk_MO_reads_23 K x4 (0 : Int32) h5
def w_MO_reads (a1 : Nat) (h0 : ah_H) (K : Int32 → ah_H → Prop) : Prop :=
  ah_T h0 a1 = 5 ∧ ((ah_I h0 5 a1) ≤ 0 → (bk_MO_reads_22 K a1 h0)) ∧ (¬ (ah_I h0 5 a1) ≤ 0 → (∃ q150, ah_R h0 16 a1 = some q150 ∧ ah_T h0 q150 = 100 ∧ vp_in (0 : Int32) (ah_N h0 q150) ∧ (¬ (ah_bI h0 q150 (0 : Int32).toNatClampNeg) = (45 : Int32) → (bk_MO_reads_22 K a1 h0)) ∧ ((ah_bI h0 q150 (0 : Int32).toNatClampNeg) = (45 : Int32) → (bk_MO_reads_23 K a1 (1 : Int32) h0))))
abbrev rm_MO_read : Room := { frames := 3, cells := 0, slots := 0, locals := 71 }
def bk_MO_read_35  (K : Int32 → ah_H → Prop) (x20 : Int32) (h21 : ah_H) : Prop :=
  (x20 = 0 ∨ x20 = 1) ∧ K x20 h21
def w_MO_read (a1 : Nat) (a2 : Int32) (h0 : ah_H) (K : Int32 → ah_H → Prop) : Prop :=
  w_MO_isNone a2 h0 (fun r4 h3 => ah_m h0 h3 → ah_T h3 a1 = 5 ∧ w_MO_fails a1 r4 (1 : Int32) h3 (fun r8 h7 => ah_m h3 h7 → (r8 = 0 → (w_MO_reads a1 h7 (fun r13 h12 => ah_m h7 h12 → ∀ h16 : ah_H, h16 = ah_sI h12 5 a1 (0 : Int32) → (r13 = 0 → (bk_MO_read_35 K r13 h16)) ∧ (¬ r13 = 0 → (w_MO_copyRow a1 a2 (17 : Int32) h16 (fun h23 => ah_m h16 h23 → bk_MO_read_35 K r13 h23)))))) ∧ (¬ r8 = 0 → (K (0 : Int32) h7))))
abbrev rm_MO_say : Room := { frames := 0, cells := 0, slots := 0, locals := 0 }
def w_MO_say (a1 : Nat) (a2 : Int32) (h0 : ah_H) (K : ah_H → Prop) : Prop :=
  ah_T h0 a1 = 5 ∧ ∃ q4, ah_R h0 17 a1 = some q4 ∧ ah_T h0 q4 = 100 ∧ vp_in (ah_I h0 6 a1) (ah_N h0 q4) ∧ ∀ h8 : ah_H, h8 = ah_cI h0 q4 (upd (ah_bI h0 q4) (ah_I h0 6 a1).toNatClampNeg a2) → ∀ v12 : Int32, v12 = (ah_I h8 6 a1) + (1 : Int32) → ∀ h13 : ah_H, h13 = ah_sI h8 6 a1 v12 → K h13
abbrev rm_MO_write : Room := { frames := 1, cells := 0, slots := 0, locals := 22 }
def bk_MO_write_162 (rc_58 : Nat → Int32 → Int32 → ah_H → Prop) (K : Int32 → ah_H → Prop) (x103 : Nat) (x104 : Int32) (x105 : Int32) (x106 : Int32) (h107 : ah_H) : Prop :=
  ah_T h107 x103 = 5 ∧ w_MO_say x103 ((48 : Int32) + (x106 - x106 / (10 : Int32) * (10 : Int32))) h107 (fun h109 => ah_m h107 h109 → ∀ v112 : Int32, v112 = x105 + (-1) → rc_58 x103 x104 v112 h109)
def bk_MO_write_148 (rc_58 : Nat → Int32 → Int32 → ah_H → Prop) (K : Int32 → ah_H → Prop) (x94 : Nat) (x95 : Int32) (x96 : Int32) (x97 : Int32) (h98 : ah_H) : Prop :=
  ah_T h98 x94 = 5 ∧ w_MO_say x94 ((48 : Int32) + ((x97 / (10 : Int32)) - (x97 / (10 : Int32)) / (10 : Int32) * (10 : Int32))) h98 (fun h100 => ah_m h98 h100 → bk_MO_write_162 rc_58 K x94 x95 x96 x97 h100)
def bk_MO_write_137 (rc_58 : Nat → Int32 → Int32 → ah_H → Prop) (K : Int32 → ah_H → Prop) (x87 : Nat) (x88 : Int32) (x89 : Int32) (x90 : Int32) (x91 : Int32) (h92 : ah_H) : Prop :=
  (x91 = 0 → (bk_MO_write_148 rc_58 K x87 x88 x89 x90 h92)) ∧ (¬ x91 = 0 → ((x90 ≤ (9 : Int32) → (bk_MO_write_162 rc_58 K x87 x88 x89 x90 h92)) ∧ (¬ x90 ≤ (9 : Int32) → (bk_MO_write_148 rc_58 K x87 x88 x89 x90 h92))))
def bk_MO_write_123 (rc_58 : Nat → Int32 → Int32 → ah_H → Prop) (K : Int32 → ah_H → Prop) (x77 : Nat) (x78 : Int32) (x79 : Int32) (x80 : Int32) (x81 : Int32) (h82 : ah_H) : Prop :=
  ah_T h82 x77 = 5 ∧ w_MO_say x77 ((48 : Int32) + ((x80 / (100 : Int32)) - (x80 / (100 : Int32)) / (10 : Int32) * (10 : Int32))) h82 (fun h84 => ah_m h82 h84 → bk_MO_write_137 rc_58 K x77 x78 x79 x80 x81 h84)
def bk_MO_write_112 (rc_58 : Nat → Int32 → Int32 → ah_H → Prop) (K : Int32 → ah_H → Prop) (x70 : Nat) (x71 : Int32) (x72 : Int32) (x73 : Int32) (x74 : Int32) (h75 : ah_H) : Prop :=
  (x74 = 0 → (bk_MO_write_123 rc_58 K x70 x71 x72 x73 x74 h75)) ∧ (¬ x74 = 0 → ((x73 ≤ (99 : Int32) → (bk_MO_write_137 rc_58 K x70 x71 x72 x73 x74 h75)) ∧ (¬ x73 ≤ (99 : Int32) → (bk_MO_write_123 rc_58 K x70 x71 x72 x73 x74 h75))))
def bk_MO_write_100 (rc_58 : Nat → Int32 → Int32 → ah_H → Prop) (K : Int32 → ah_H → Prop) (x60 : Nat) (x61 : Int32) (x62 : Int32) (x63 : Int32) (x64 : Int32) (h65 : ah_H) : Prop :=
  ah_T h65 x60 = 5 ∧ w_MO_say x60 ((48 : Int32) + (x63 / (1000 : Int32))) h65 (fun h67 => ah_m h65 h67 → bk_MO_write_112 rc_58 K x60 x61 x62 x63 x64 h67)
def bk_MO_write_86 (rc_58 : Nat → Int32 → Int32 → ah_H → Prop) (K : Int32 → ah_H → Prop) (x53 : Nat) (x54 : Int32) (x55 : Int32) (x56 : Int32) (s57 : Int32) (h58 : ah_H) : Prop :=
  (s57 = 0 → (bk_MO_write_100 rc_58 K x53 x54 x55 x56 s57 h58)) ∧ (¬ s57 = 0 → ((x56 ≤ (999 : Int32) → (bk_MO_write_112 rc_58 K x53 x54 x55 x56 s57 h58)) ∧ (¬ x56 ≤ (999 : Int32) → (bk_MO_write_100 rc_58 K x53 x54 x55 x56 s57 h58))))
def lp_MO_write_58 (xt_179 : Nat → ah_H → Prop) (K : Int32 → ah_H → Prop) : Nat → Nat → Int32 → Int32 → ah_H → Prop
  | 0, _, _, _, _ => False
  | n + 1, x38, x39, x40, h41 =>
    (x40 < 0 → (xt_179 x38 h41)) ∧ (¬ x40 < 0 → (ah_T h41 x38 = 5 ∧ w_MO_at x38 x39 x40 h41 (fun r45 h44 => ah_m h41 h44 → ∃ q48, ah_R h44 14 x38 = some q48 ∧ ah_T h44 q48 = 100 ∧ vp_in x39 (ah_N h44 q48) ∧ (¬ x40 = ((ah_bI h44 q48 x39.toNatClampNeg) - (1 : Int32)) → (bk_MO_write_86 (lp_MO_write_58 xt_179 K n) K x38 x39 x40 r45 (0 : Int32) h44)) ∧ (x40 = ((ah_bI h44 q48 x39.toNatClampNeg) - (1 : Int32)) → (bk_MO_write_86 (lp_MO_write_58 xt_179 K n) K x38 x39 x40 r45 (1 : Int32) h44)))))
def bk_MO_write_49  (K : Int32 → ah_H → Prop) (x29 : Nat) (x30 : Int32) (h31 : ah_H) : Prop :=
  ah_T h31 x29 = 5 ∧ ∃ q33, ah_R h31 14 x29 = some q33 ∧ ah_T h31 q33 = 100 ∧ vp_in x30 (ah_N h31 q33) ∧ ∀ v37 : Int32, v37 = (ah_bI h31 q33 x30.toNatClampNeg) - (1 : Int32) → ∃ k119, lp_MO_write_58 (fun (x116 : Nat) h117 => ah_T h117 x116 = 5 ∧ K (ah_I h117 6 x116) h117) K k119 x29 x30 v37 h31
def bk_MO_write_34  (K : Int32 → ah_H → Prop) (x20 : Nat) (x21 : Int32) (h22 : ah_H) : Prop :=
  ah_T h22 x20 = 5 ∧ ∃ q24, ah_R h22 15 x20 = some q24 ∧ ah_T h22 q24 = 100 ∧ vp_in x21 (ah_N h22 q24) ∧ (¬ (ah_bI h22 q24 x21.toNatClampNeg) = 0 → (bk_MO_write_49 K x20 x21 h22)) ∧ ((ah_bI h22 q24 x21.toNatClampNeg) = 0 → (w_MO_say x20 (48 : Int32) h22 (fun h120 => ah_m h22 h120 → bk_MO_write_49 K x20 x21 h120)))
def w_MO_write (a1 : Nat) (a2 : Int32) (h0 : ah_H) (K : Int32 → ah_H → Prop) : Prop :=
  w_MO_isNone a2 h0 (fun r4 h3 => ah_m h0 h3 → ah_T h3 a1 = 5 ∧ w_MO_fails a1 r4 (1 : Int32) h3 (fun r8 h7 => ah_m h3 h7 → (r8 = 0 → (∀ h12 : ah_H, h12 = ah_sI h7 6 a1 (0 : Int32) → ∃ q15, ah_R h12 15 a1 = some q15 ∧ ah_T h12 q15 = 100 ∧ vp_in a2 (ah_N h12 q15) ∧ (0 ≤ (ah_bI h12 q15 a2.toNatClampNeg) → (bk_MO_write_34 K a1 a2 h12)) ∧ (¬ 0 ≤ (ah_bI h12 q15 a2.toNatClampNeg) → (w_MO_say a1 (45 : Int32) h12 (fun h124 => ah_m h12 h124 → bk_MO_write_34 K a1 a2 h124))))) ∧ (¬ r8 = 0 → (K (0 : Int32) h7))))
abbrev rm_MO_out : Room := { frames := 1, cells := 0, slots := 0, locals := 25 }
def lp_MO_out_36 (xt_79 : Int64 → ah_H → Prop) (K : Int64 → ah_H → Prop) : Nat → Nat → Int32 → Int64 → Int32 → ah_H → Prop
  | 0, _, _, _, _, _ => False
  | n + 1, x20, x21, x22, x23, h24 =>
    ((8 : Int32) ≤ x23 → (xt_79 x22 h24)) ∧ (¬ (8 : Int32) ≤ x23 → (ah_T h24 x20 = 5 ∧ ((ah_I h24 6 x20) ≤ (x21 + x23) → (xt_79 x22 h24)) ∧ (¬ (ah_I h24 6 x20) ≤ (x21 + x23) → (∃ q28, ah_R h24 17 x20 = some q28 ∧ ah_T h24 q28 = 100 ∧ vp_in (x21 + x23) (ah_N h24 q28) ∧ ∀ v32 : Int64, v32 = x22 ||| (((ah_bI h24 q28 (x21 + x23).toNatClampNeg).toInt64) <<< (((8 : Int32) * x23).toInt64 &&& 63)) → ∀ v33 : Int32, v33 = x23 + 1 → (lp_MO_out_36 xt_79 K n) x20 x21 v32 v33 h24))))
def bk_MO_out_79  (K : Int64 → ah_H → Prop) (x36 : Int64) (h37 : ah_H) : Prop :=
  K x36 h37
def bk_MO_out_22  (K : Int64 → ah_H → Prop) (x9 : Nat) (x10 : Int32) (s11 : Int32) (s12 : Nat) (h13 : ah_H) : Prop :=
  ah_T h13 s12 = 5 ∧ w_MO_fails s12 s11 (1 : Int32) h13 (fun r16 h15 => ah_m h13 h15 → (r16 = 0 → (∃ k38, lp_MO_out_36 (fun (x34 : Int64) h35 => bk_MO_out_79 K x34 h35) K k38 x9 x10 (0 : Int64) (0 : Int32) h15)) ∧ (¬ r16 = 0 → (K (0 : Int64) h15)))
def w_MO_out (a1 : Nat) (a2 : Int32) (h0 : ah_H) (K : Int64 → ah_H → Prop) : Prop :=
  ah_T h0 a1 = 5 ∧ w_MO_in a2.toInt64 (0 : Int64) (((ah_I h0 6 a1) - (1 : Int32)).toInt64) h0 (fun r5 h4 => ah_m h0 h4 → (¬ r5 = 0 → (bk_MO_out_22 K a1 a2 (0 : Int32) a1 h4)) ∧ (r5 = 0 → (bk_MO_out_22 K a1 a2 (1 : Int32) a1 h4)))
abbrev rm_MO_text : Room := { frames := 1, cells := 0, slots := 0, locals := 25 }
def bk_MO_text_42  (K : Int32 → ah_H → Prop) (s20 : Int32) (h21 : ah_H) : Prop :=
  K s20 h21
def bk_MO_text_16  (K : Int32 → ah_H → Prop) (x7 : Nat) (x8 : Int32) (s9 : Int32) (s10 : Nat) (h11 : ah_H) : Prop :=
  ah_T h11 s10 = 5 ∧ w_MO_fails s10 s9 (1 : Int32) h11 (fun r14 h13 => ah_m h11 h13 → (r14 = 0 → ((¬ x8 = 0 → (ah_T h13 x7 = 5 ∧ bk_MO_text_42 K (ah_I h13 6 x7) h13)) ∧ (x8 = 0 → (ah_T h13 x7 = 5 ∧ bk_MO_text_42 K (ah_I h13 5 x7) h13)))) ∧ (¬ r14 = 0 → (bk_MO_text_42 K (0 : Int32) h13)))
def w_MO_text (a1 : Nat) (a2 : Int32) (h0 : ah_H) (K : Int32 → ah_H → Prop) : Prop :=
  w_MO_in a2.toInt64 (0 : Int64) (1 : Int64) h0 (fun r4 h3 => ah_m h0 h3 → (¬ r4 = 0 → (bk_MO_text_16 K a1 a2 (0 : Int32) a1 h3)) ∧ (r4 = 0 → (bk_MO_text_16 K a1 a2 (1 : Int32) a1 h3)))
set_option maxHeartbeats 4000000 in
set_option maxRecDepth 100000 in
theorem tb_MO_setRow_83 {p : Program} {l : Launch} {e : Env} {s : State} {m : MethodId} {args : Array Value} {below : List Frame} {meth : Method} {c : Code} {G : zG} (C : cx_C p l s m args meth c G y_MO_setRow b_MO_setRow 8 none "BigDeskModel" (Cond.code y_MO_setRow b_MO_setRow 8 none :: zx_T) []) {K : ah_H → Prop} {h0 : ah_H} {cells slots : Nat} (hcl : cells + 0 ≤ 0) (hsl : slots + 0 ≤ 0) {rc_37 : Nat → Int32 → Int64 → ah_H → Prop} (hc_rc_37 : ∀ (z0 : Nat) (z1 : Int32) (z2 : Int64) (hz : ah_H) (H : Heap) (locs : List Loc) (ls : Array Slot), rc_37 z0 z1 z2 hz → ah_m h0 hz → ah_W G s.heap hz H locs → lv_has ls 8 [(0, .ref z0), (1, .int z1), (4, .long z2)] → W p l e rm_MO_setRow s m args below meth c H locs cells slots (MQ below (va_Qv (fun h9 => K h9 ∧ ah_m h0 h9) (ah_B G) (fun q => G.2.2 ≤ q)) args s 0 0 (fun q => G.2.2 ≤ q)) (F0 m 37 ls [])) (x43 : Nat) (x44 : Int32) (x45 : Int64) (s46 : Int64) (s47 : Int32) (s48 : Nat) (h49 : ah_H) (H : Heap) (locs : List Loc) (ls : Array Slot) (w : bk_MO_setRow_83 rc_37 K x43 x44 x45 s46 s47 s48 h49) (hm : ah_m h0 h49) (hW : ah_W G s.heap h49 H locs) (hl : lv_has ls 8 [(0, .ref x43), (1, .int x44), (4, .long x45)]) : W p l e rm_MO_setRow s m args below meth c H locs cells slots (MQ below (va_Qv (fun h9 => K h9 ∧ ah_m h0 h9) (ah_B G) (fun q => G.2.2 ≤ q)) args s 0 0 (fun q => G.2.2 ≤ q)) (F0 m 83 ls [.long s46, .int s47, .ref s48]) := by
  unfold bk_MO_setRow_83 at w
  obtain ⟨hx, hb, hr, hml, hown, hts, hT, hlk, hK, hX, htb, hin, hst⟩ := id C
  have hw : ∀ {w9 : Cond}, w9 ∈ zx_T → w9.before _ s = true := fun h9 => hts _ (hT _ h9)
  refine lv_l2i hx hb d_MO_setRow_83 rfl ?_
  refine lv_topi (fun v50 ev50 => ?_)
  have w := w v50 ev50
  obtain ⟨t51, w⟩ := w
  obtain ⟨i52, w⟩ := w
  refine hb_iast hx hb hK hW t51 (by decide) (by decide) 0 rfl i52 d_MO_setRow_84 (fun H locs h53 eh53 hW => ?_)
  have w := w h53 eh53
  have mm54 : ah_m h49 h53 := ah_m.rf.st (by rw [eh53]; rfl) (by rw [eh53]; rfl)
  have hm := hm.tr mm54
  have t55 := mm54.tg t51 (by decide)
  refine lv_lload hx hb d_MO_setRow_85 (lv_at hl 2 rfl) ?_
  refine lv_ldc2 (v := 10000) hx hb hown (hw wd_637) d_MO_setRow_87 ?_
  refine lv_ldiv hx hb d_MO_setRow_90 (by decide) ?_
  refine lv_topl (fun v56 ev56 => ?_)
  have w := w v56 ev56
  refine lv_lstore (lv' := [(4, .long v56), (0, .ref x43), (1, .int x44)]) hx hb d_MO_setRow_91 hl (by decide) rfl (fun ls hl => ?_)
  refine lv_aload_n hx hb d_MO_setRow_93 rfl (lv_at hl 1 rfl) ?_
  obtain ⟨t57, w⟩ := w
  obtain ⟨q58, e59, w⟩ := w
  refine hb_get (ci := 4) (C := "BigDeskModel") (T := T_MO) (N := 8) hx hb hts (fun w9 h9 => hT w9 (u_MO w9 h9)) hown hK hW t57 rfl (by decide) 2 (by decide) (hw wd_648) (fun _ h9 => h9) (q := (2, 14)) rfl (v := .ref q58) (ah_f_R e59) d_MO_setRow_94 ?_
  refine lv_iload_n hx hb d_MO_setRow_97 rfl (lv_at hl 2 rfl) ?_
  refine lv_dup2_11 hx hb d_MO_setRow_98 rfl rfl ?_
  obtain ⟨t60, w⟩ := w
  obtain ⟨i61, w⟩ := w
  refine hb_iald hx hb hK hW t60 (by decide) (by decide) 0 rfl i61 d_MO_setRow_99 ?_
  refine lv_iconst (v := 1) hx hb d_MO_setRow_100 (by decide) ?_
  refine lv_iadd hx hb d_MO_setRow_101 ?_
  refine lv_topi (fun v62 ev62 => ?_)
  have w := w v62 ev62
  obtain ⟨i63, w⟩ := w
  refine hb_iast hx hb hK hW t60 (by decide) (by decide) 0 rfl i63 d_MO_setRow_102 (fun H locs h64 eh64 hW => ?_)
  have w := w h64 eh64
  have mm65 : ah_m h53 h64 := ah_m.rf.st (by rw [eh64]; rfl) (by rw [eh64]; rfl)
  have hm := hm.tr mm65
  have t66 := mm65.tg t55 (by decide)
  have t67 := mm65.tg t57 (by decide)
  have t68 := mm65.tg t60 (by decide)
  refine lv_goto (tgt := 37) hx hb d_MO_setRow_103 (by decide) ?_
  exact hc_rc_37 x43 x44 v56 h64 _ _ _ w hm hW (lv_sub hl [1, 2, 0] rfl)
set_option maxHeartbeats 4000000 in
set_option maxRecDepth 100000 in
theorem tl_MO_setRow_37 {p : Program} {l : Launch} {e : Env} {s : State} {m : MethodId} {args : Array Value} {below : List Frame} {meth : Method} {c : Code} {G : zG} (C : cx_C p l s m args meth c G y_MO_setRow b_MO_setRow 8 none "BigDeskModel" (Cond.code y_MO_setRow b_MO_setRow 8 none :: zx_T) []) {K : ah_H → Prop} {h0 : ah_H} {cells slots : Nat} (hcl : cells + 0 ≤ 0) (hsl : slots + 0 ≤ 0) {xt_106 : ah_H → Prop} (hc_xt_106 : ∀ (hz : ah_H) (H : Heap) (locs : List Loc) (ls : Array Slot), xt_106 hz → ah_m h0 hz → ah_W G s.heap hz H locs → lv_has ls 8 [] → W p l e rm_MO_setRow s m args below meth c H locs cells slots (MQ below (va_Qv (fun h9 => K h9 ∧ ah_m h0 h9) (ah_B G) (fun q => G.2.2 ≤ q)) args s 0 0 (fun q => G.2.2 ≤ q)) (F0 m 106 ls [])) : ∀ (n : Nat) (x29 : Nat) (x30 : Int32) (x31 : Int64) (h32 : ah_H) (H : Heap) (locs : List Loc) (ls : Array Slot), lp_MO_setRow_37 xt_106 K n x29 x30 x31 h32 → ah_m h0 h32 → ah_W G s.heap h32 H locs → lv_has ls 8 [(0, .ref x29), (1, .int x30), (4, .long x31)] → W p l e rm_MO_setRow s m args below meth c H locs cells slots (MQ below (va_Qv (fun h9 => K h9 ∧ ah_m h0 h9) (ah_B G) (fun q => G.2.2 ≤ q)) args s 0 0 (fun q => G.2.2 ≤ q)) (F0 m 37 ls []) := by
  obtain ⟨hx, hb, hr, hml, hown, hts, hT, hlk, hK, hX, htb, hin, hst⟩ := id C
  have hw : ∀ {w9 : Cond}, w9 ∈ zx_T → w9.before _ s = true := fun h9 => hts _ (hT _ h9)
  intro n
  induction n with
  | zero =>
    intro x29 x30 x31 h32 H locs ls w
    exact absurd w (by intro z9; exact z9)
  | succ n ih =>
    intro x29 x30 x31 h32 H locs ls w hm hW hl
    unfold lp_MO_setRow_37 at w
    refine lv_lload hx hb d_MO_setRow_37 (lv_at hl 2 rfl) ?_
    refine lv_lconst (v := 0) hx hb d_MO_setRow_39 (by decide) ?_
    refine hb_lcmp_eq (tgt := 106) hx hb d_MO_setRow_40 d_MO_setRow_41 (by decide) (fun c33 => ?_) (fun c33 => ?_)
    · have w := w.1 c33
      exact hc_xt_106  h32 _ _ _ w hm hW (lv_sub hl [] rfl)
    · have w := w.2 c33
      refine lv_lload hx hb d_MO_setRow_44 (lv_at hl 2 rfl) ?_
      refine lv_ldc2 (v := 10000) hx hb hown (hw wd_637) d_MO_setRow_46 ?_
      refine lv_lrem hx hb d_MO_setRow_49 (by decide) ?_
      refine lv_topl (fun v34 ev34 => ?_)
      have w := w v34 ev34
      refine lv_lstore (lv' := [(6, .long v34), (0, .ref x29), (1, .int x30), (4, .long x31)]) hx hb d_MO_setRow_50 hl (by decide) rfl (fun ls hl => ?_)
      refine lv_aload_n hx hb d_MO_setRow_52 rfl (lv_at hl 1 rfl) ?_
      obtain ⟨t35, w⟩ := w
      obtain ⟨q36, e37, w⟩ := w
      refine hb_get (ci := 4) (C := "BigDeskModel") (T := T_MO) (N := 8) hx hb hts (fun w9 h9 => hT w9 (u_MO w9 h9)) hown hK hW t35 rfl (by decide) 1 (by decide) (hw wd_647) (fun _ h9 => h9) (q := (2, 13)) rfl (v := .ref q36) (ah_f_R e37) d_MO_setRow_53 ?_
      refine lv_sipush (v := 1300) hx hb d_MO_setRow_56 (by decide) ?_
      refine lv_iload_n hx hb d_MO_setRow_59 rfl (lv_at hl 2 rfl) ?_
      refine lv_imul hx hb d_MO_setRow_60 ?_
      refine lv_aload_n hx hb d_MO_setRow_61 rfl (lv_at hl 1 rfl) ?_
      obtain ⟨q38, e39, w⟩ := w
      refine hb_get (ci := 4) (C := "BigDeskModel") (T := T_MO) (N := 8) hx hb hts (fun w9 h9 => hT w9 (u_MO w9 h9)) hown hK hW t35 rfl (by decide) 2 (by decide) (hw wd_648) (fun _ h9 => h9) (q := (2, 14)) rfl (v := .ref q38) (ah_f_R e39) d_MO_setRow_62 ?_
      refine lv_iload_n hx hb d_MO_setRow_65 rfl (lv_at hl 2 rfl) ?_
      obtain ⟨t40, w⟩ := w
      obtain ⟨i41, w⟩ := w
      refine hb_iald hx hb hK hW t40 (by decide) (by decide) 0 rfl i41 d_MO_setRow_66 ?_
      refine lv_iadd hx hb d_MO_setRow_67 ?_
      refine lv_lload hx hb d_MO_setRow_68 (lv_at hl 0 rfl) ?_
      refine lv_lconst (v := 0) hx hb d_MO_setRow_70 (by decide) ?_
      refine hb_lcmp_ge (tgt := 81) hx hb d_MO_setRow_71 d_MO_setRow_72 (by decide) (fun c42 => ?_) (fun c42 => ?_)
      · have w := w.1 c42
        refine lv_lload hx hb d_MO_setRow_81 (lv_at hl 0 rfl) ?_
        exact tb_MO_setRow_83 C (by omega) (by omega) ih x29 x30 x31 v34 (((1300 : Int32) * x30) + (ah_bI h32 q38 x30.toNatClampNeg)) q36 h32 _ _ _ w hm hW (lv_sub hl [1, 2, 3] rfl)
      · have w := w.2 c42
        refine lv_lload hx hb d_MO_setRow_75 (lv_at hl 0 rfl) ?_
        refine lv_lneg hx hb d_MO_setRow_77 ?_
        refine lv_goto (tgt := 83) hx hb d_MO_setRow_78 (by decide) ?_
        exact tb_MO_setRow_83 C (by omega) (by omega) ih x29 x30 x31 (-v34) (((1300 : Int32) * x30) + (ah_bI h32 q38 x30.toNatClampNeg)) q36 h32 _ _ _ w hm hW (lv_sub hl [1, 2, 3] rfl)
set_option maxHeartbeats 4000000 in
set_option maxRecDepth 100000 in
theorem tb_MO_setRow_36 {p : Program} {l : Launch} {e : Env} {s : State} {m : MethodId} {args : Array Value} {below : List Frame} {meth : Method} {c : Code} {G : zG} (C : cx_C p l s m args meth c G y_MO_setRow b_MO_setRow 8 none "BigDeskModel" (Cond.code y_MO_setRow b_MO_setRow 8 none :: zx_T) []) {K : ah_H → Prop} {h0 : ah_H} {cells slots : Nat} (hcl : cells + 0 ≤ 0) (hsl : slots + 0 ≤ 0)  (x17 : Nat) (x18 : Int32) (x19 : Int64) (s20 : Int32) (s21 : Int32) (s22 : Nat) (h23 : ah_H) (H : Heap) (locs : List Loc) (ls : Array Slot) (w : bk_MO_setRow_36 K x17 x18 x19 s20 s21 s22 h23) (hm : ah_m h0 h23) (hW : ah_W G s.heap h23 H locs) (hl : lv_has ls 8 [(0, .ref x17), (1, .int x18), (4, .long x19)]) : W p l e rm_MO_setRow s m args below meth c H locs cells slots (MQ below (va_Qv (fun h9 => K h9 ∧ ah_m h0 h9) (ah_B G) (fun q => G.2.2 ≤ q)) args s 0 0 (fun q => G.2.2 ≤ q)) (F0 m 36 ls [.int s20, .int s21, .ref s22]) := by
  unfold bk_MO_setRow_36 at w
  obtain ⟨hx, hb, hr, hml, hown, hts, hT, hlk, hK, hX, htb, hin, hst⟩ := id C
  have hw : ∀ {w9 : Cond}, w9 ∈ zx_T → w9.before _ s = true := fun h9 => hts _ (hT _ h9)
  obtain ⟨t24, w⟩ := w
  obtain ⟨i25, w⟩ := w
  refine hb_iast hx hb hK hW t24 (by decide) (by decide) 0 rfl i25 d_MO_setRow_36 (fun H locs h26 eh26 hW => ?_)
  have w := w h26 eh26
  have mm27 : ah_m h23 h26 := ah_m.rf.st (by rw [eh26]; rfl) (by rw [eh26]; rfl)
  have hm := hm.tr mm27
  have t28 := mm27.tg t24 (by decide)
  obtain ⟨k70, w⟩ := w
  refine tl_MO_setRow_37 C (by omega) (by omega) (fun  h69 H locs ls w hm hW hl => ?_) k70 x17 x18 x19 h26 _ _ _ w hm hW (lv_sub hl [0, 1, 2] rfl)
  · exact hb_vret (K := fun h9 => K h9 ∧ ah_m h0 h9) hx hb hr hlk hK hX hW ⟨w, hm⟩ (by omega) (by omega) d_MO_setRow_106
set_option maxHeartbeats 4000000 in
set_option maxRecDepth 100000 in
theorem m_MO_setRow {l : Launch} (G : zG) (a1 : Nat) (a2 : Int32) (a3 : Int64) (h0 : ah_H) {K : ah_H → Prop} (hst : l.stackTraces = false) (w : w_MO_setRow a1 a2 a3 h0 K) : Met l y_MO_setRow (Cond.code y_MO_setRow b_MO_setRow 8 none :: zx_T) rm_MO_setRow (va_Pc [.ref a1, .int a2, .long a3] (ah_B G h0)) (va_Qv (fun h9 => K h9 ∧ ah_m h0 h9) (ah_B G) (fun q => G.2.2 ≤ q)) 0 0 (fun q => G.2.2 ≤ q) := by
  refine Met.ofW (cc := b_MO_setRow) (maxL := 8) (ret := none) (by decide) rfl ?_
  intro p e s m args below meth c s₁ B hml hv
  have htb := cx_out B (atoms_spec B.pre _ List.mem_cons_self)
  obtain ⟨rfl, hB⟩ := hv
  have C : cx_C p l s m _ meth c G y_MO_setRow b_MO_setRow 8 none "BigDeskModel" (Cond.code y_MO_setRow b_MO_setRow 8 none :: zx_T) [] := ⟨B.exec, B.bytes, B.returns, hml, findClass_of_methodNamed B.named, atoms_spec B.pre, cx_hd, B.notSynchronized, hB.2.2.1, hB.2.2.2, htb, fun z9 => (name_of_methodNamed B.named B.method).1.trans z9, hst⟩
  obtain ⟨hx, hb, hr, hml, hown, hts, hT, hlk, hK, hX, htb, hin, hst⟩ := id C
  have hw : ∀ {w9 : Cond}, w9 ∈ zx_T → w9.before _ s = true := fun h9 => hts _ (hT _ h9)
  have hW : ah_W G s.heap h0 s.heap [] := ⟨hB.1, hB.2.1, va_S.rf⟩
  have hm : ah_m h0 h0 := ah_m.rf
  have hcl : 0 + 0 ≤ 0 := by decide
  have hsl : 0 + 0 ≤ 0 := by decide
  have hl := lv_entry ([.ref a1, .int a2, .long a3]) (n := 8) (Nat.le_of_ble_eq_true rfl)
  rw [lg_entry_eq]
  generalize (lg_sl ([.ref a1, .int a2, .long a3]) ++ List.replicate (8 - (lg_sl ([.ref a1, .int a2, .long a3])).length) Slot.unset).toArray = ls at hl ⊢
  have hl : lv_has ls 8 [(0, .ref a1), (1, .int a2), (2, .long a3)] := hl
  unfold w_MO_setRow at w
  refine lv_lload_n hx hb d_MO_setRow_0 rfl (lv_at hl 2 rfl) ?_
  refine lv_lstore (lv' := [(4, .long a3), (0, .ref a1), (1, .int a2), (2, .long a3)]) hx hb d_MO_setRow_1 hl (by decide) rfl (fun ls hl => ?_)
  refine lv_aload_n hx hb d_MO_setRow_3 rfl (lv_at hl 1 rfl) ?_
  obtain ⟨t4, w⟩ := w
  obtain ⟨q5, e6, w⟩ := w
  refine hb_get (ci := 4) (C := "BigDeskModel") (T := T_MO) (N := 8) hx hb hts (fun w9 h9 => hT w9 (u_MO w9 h9)) hown hK hW t4 rfl (by decide) 2 (by decide) (hw wd_648) (fun _ h9 => h9) (q := (2, 14)) rfl (v := .ref q5) (ah_f_R e6) d_MO_setRow_4 ?_
  refine lv_iload_n hx hb d_MO_setRow_7 rfl (lv_at hl 2 rfl) ?_
  refine lv_iconst (v := 0) hx hb d_MO_setRow_8 (by decide) ?_
  obtain ⟨t7, w⟩ := w
  obtain ⟨i8, w⟩ := w
  refine hb_iast hx hb hK hW t7 (by decide) (by decide) 0 rfl i8 d_MO_setRow_9 (fun H locs h9 eh9 hW => ?_)
  have w := w h9 eh9
  have mm10 : ah_m h0 h9 := ah_m.rf.st (by rw [eh9]; rfl) (by rw [eh9]; rfl)
  have hm := hm.tr mm10
  have t11 := mm10.tg t4 (by decide)
  have t12 := mm10.tg t7 (by decide)
  refine lv_aload_n hx hb d_MO_setRow_10 rfl (lv_at hl 1 rfl) ?_
  obtain ⟨q13, e14, w⟩ := w
  refine hb_get (ci := 4) (C := "BigDeskModel") (T := T_MO) (N := 8) hx hb hts (fun w9 h9 => hT w9 (u_MO w9 h9)) hown hK hW t11 rfl (by decide) 3 (by decide) (hw wd_649) (fun _ h9 => h9) (q := (2, 15)) rfl (v := .ref q13) (ah_f_R e14) d_MO_setRow_11 ?_
  refine lv_iload_n hx hb d_MO_setRow_14 rfl (lv_at hl 2 rfl) ?_
  refine lv_lload_n hx hb d_MO_setRow_15 rfl (lv_at hl 3 rfl) ?_
  refine lv_lconst (v := 0) hx hb d_MO_setRow_16 (by decide) ?_
  refine hb_lcmp_ge (tgt := 25) hx hb d_MO_setRow_17 d_MO_setRow_18 (by decide) (fun c15 => ?_) (fun c15 => ?_)
  · have w := w.1 c15
    refine lv_lload_n hx hb d_MO_setRow_25 rfl (lv_at hl 3 rfl) ?_
    refine lv_lconst (v := 0) hx hb d_MO_setRow_26 (by decide) ?_
    refine hb_lcmp_le (tgt := 35) hx hb d_MO_setRow_27 d_MO_setRow_28 (by decide) (fun c16 => ?_) (fun c16 => ?_)
    · have w := w.1 c16
      refine lv_iconst (v := 0) hx hb d_MO_setRow_35 (by decide) ?_
      exact tb_MO_setRow_36 C (by omega) (by omega)  a1 a2 a3 (0 : Int32) a2 q13 h9 _ _ _ w hm hW (lv_sub hl [1, 2, 0] rfl)
    · have w := w.2 c16
      refine lv_iconst (v := 1) hx hb d_MO_setRow_31 (by decide) ?_
      refine lv_goto (tgt := 36) hx hb d_MO_setRow_32 (by decide) ?_
      exact tb_MO_setRow_36 C (by omega) (by omega)  a1 a2 a3 (1 : Int32) a2 q13 h9 _ _ _ w hm hW (lv_sub hl [1, 2, 0] rfl)
  · have w := w.2 c15
    refine lv_iconst (v := -1) hx hb d_MO_setRow_21 (by decide) ?_
    refine lv_goto (tgt := 36) hx hb d_MO_setRow_22 (by decide) ?_
    exact tb_MO_setRow_36 C (by omega) (by omega)  a1 a2 a3 (-1 : Int32) a2 q13 h9 _ _ _ w hm hW (lv_sub hl [1, 2, 0] rfl)
set_option maxHeartbeats 4000000 in
set_option maxRecDepth 100000 in
theorem tb_MO_at_30 {p : Program} {l : Launch} {e : Env} {s : State} {m : MethodId} {args : Array Value} {below : List Frame} {meth : Method} {c : Code} {G : zG} (C : cx_C p l s m args meth c G y_MO_at b_MO_at 3 (some .int) "BigDeskModel" (Cond.code y_MO_at b_MO_at 3 (some .int) :: zx_T) []) {K : Int32 → ah_H → Prop} {h0 : ah_H} {cells slots : Nat} (hcl : cells + 0 ≤ 0) (hsl : slots + 0 ≤ 0)  (s11 : Int32) (h12 : ah_H) (H : Heap) (locs : List Loc) (ls : Array Slot) (w : bk_MO_at_30 K s11 h12) (hm : ah_m h0 h12) (hW : ah_W G s.heap h12 H locs) (hl : lv_has ls 3 []) : W p l e rm_MO_at s m args below meth c H locs cells slots (MQ below (va_Qi (fun r9 h9 => K r9 h9 ∧ ah_m h0 h9) (ah_B G) (fun q => G.2.2 ≤ q)) args s 0 0 (fun q => G.2.2 ≤ q)) (F0 m 30 ls [.int s11]) := by
  unfold bk_MO_at_30 at w
  obtain ⟨hx, hb, hr, hml, hown, hts, hT, hlk, hK, hX, htb, hin, hst⟩ := id C
  have hw : ∀ {w9 : Cond}, w9 ∈ zx_T → w9.before _ s = true := fun h9 => hts _ (hT _ h9)
  exact hb_iret (K := fun r9 h9 => K r9 h9 ∧ ah_m h0 h9) hx hb hr hlk hK hX hW ⟨w, hm⟩ (by omega) (by omega) d_MO_at_30
set_option maxHeartbeats 4000000 in
set_option maxRecDepth 100000 in
theorem tb_MO_at_29 {p : Program} {l : Launch} {e : Env} {s : State} {m : MethodId} {args : Array Value} {below : List Frame} {meth : Method} {c : Code} {G : zG} (C : cx_C p l s m args meth c G y_MO_at b_MO_at 3 (some .int) "BigDeskModel" (Cond.code y_MO_at b_MO_at 3 (some .int) :: zx_T) []) {K : Int32 → ah_H → Prop} {h0 : ah_H} {cells slots : Nat} (hcl : cells + 0 ≤ 0) (hsl : slots + 0 ≤ 0)   (h10 : ah_H) (H : Heap) (locs : List Loc) (ls : Array Slot) (w : bk_MO_at_29 K h10) (hm : ah_m h0 h10) (hW : ah_W G s.heap h10 H locs) (hl : lv_has ls 3 []) : W p l e rm_MO_at s m args below meth c H locs cells slots (MQ below (va_Qi (fun r9 h9 => K r9 h9 ∧ ah_m h0 h9) (ah_B G) (fun q => G.2.2 ≤ q)) args s 0 0 (fun q => G.2.2 ≤ q)) (F0 m 29 ls []) := by
  unfold bk_MO_at_29 at w
  obtain ⟨hx, hb, hr, hml, hown, hts, hT, hlk, hK, hX, htb, hin, hst⟩ := id C
  have hw : ∀ {w9 : Cond}, w9 ∈ zx_T → w9.before _ s = true := fun h9 => hts _ (hT _ h9)
  refine lv_iconst (v := 0) hx hb d_MO_at_29 (by decide) ?_
  exact tb_MO_at_30 C (by omega) (by omega)  (0 : Int32) h10 _ _ _ w hm hW (lv_sub hl [] rfl)
set_option maxHeartbeats 4000000 in
set_option maxRecDepth 100000 in
theorem m_MO_at {l : Launch} (G : zG) (a1 : Nat) (a2 : Int32) (a3 : Int32) (h0 : ah_H) {K : Int32 → ah_H → Prop} (hst : l.stackTraces = false) (w : w_MO_at a1 a2 a3 h0 K) : Met l y_MO_at (Cond.code y_MO_at b_MO_at 3 (some .int) :: zx_T) rm_MO_at (va_Pc [.ref a1, .int a2, .int a3] (ah_B G h0)) (va_Qi (fun r9 h9 => K r9 h9 ∧ ah_m h0 h9) (ah_B G) (fun q => G.2.2 ≤ q)) 0 0 (fun q => G.2.2 ≤ q) := by
  refine Met.ofW (cc := b_MO_at) (maxL := 3) (ret := (some .int)) (by decide) rfl ?_
  intro p e s m args below meth c s₁ B hml hv
  have htb := cx_out B (atoms_spec B.pre _ List.mem_cons_self)
  obtain ⟨rfl, hB⟩ := hv
  have C : cx_C p l s m _ meth c G y_MO_at b_MO_at 3 (some .int) "BigDeskModel" (Cond.code y_MO_at b_MO_at 3 (some .int) :: zx_T) [] := ⟨B.exec, B.bytes, B.returns, hml, findClass_of_methodNamed B.named, atoms_spec B.pre, cx_hd, B.notSynchronized, hB.2.2.1, hB.2.2.2, htb, fun z9 => (name_of_methodNamed B.named B.method).1.trans z9, hst⟩
  obtain ⟨hx, hb, hr, hml, hown, hts, hT, hlk, hK, hX, htb, hin, hst⟩ := id C
  have hw : ∀ {w9 : Cond}, w9 ∈ zx_T → w9.before _ s = true := fun h9 => hts _ (hT _ h9)
  have hW : ah_W G s.heap h0 s.heap [] := ⟨hB.1, hB.2.1, va_S.rf⟩
  have hm : ah_m h0 h0 := ah_m.rf
  have hcl : 0 + 0 ≤ 0 := by decide
  have hsl : 0 + 0 ≤ 0 := by decide
  have hl := lv_entry ([.ref a1, .int a2, .int a3]) (n := 3) (Nat.le_of_ble_eq_true rfl)
  rw [lg_entry_eq]
  generalize (lg_sl ([.ref a1, .int a2, .int a3]) ++ List.replicate (3 - (lg_sl ([.ref a1, .int a2, .int a3])).length) Slot.unset).toArray = ls at hl ⊢
  have hl : lv_has ls 3 [(0, .ref a1), (1, .int a2), (2, .int a3)] := hl
  unfold w_MO_at at w
  refine lv_iload_n hx hb d_MO_at_0 rfl (lv_at hl 2 rfl) ?_
  refine lv_aload_n hx hb d_MO_at_1 rfl (lv_at hl 0 rfl) ?_
  obtain ⟨t4, w⟩ := w
  obtain ⟨q5, e6, w⟩ := w
  refine hb_get (ci := 4) (C := "BigDeskModel") (T := T_MO) (N := 8) hx hb hts (fun w9 h9 => hT w9 (u_MO w9 h9)) hown hK hW t4 rfl (by decide) 2 (by decide) (hw wd_648) (fun _ h9 => h9) (q := (2, 14)) rfl (v := .ref q5) (ah_f_R e6) d_MO_at_2 ?_
  refine lv_iload_n hx hb d_MO_at_5 rfl (lv_at hl 1 rfl) ?_
  obtain ⟨t7, w⟩ := w
  obtain ⟨i8, w⟩ := w
  refine hb_iald hx hb hK hW t7 (by decide) (by decide) 0 rfl i8 d_MO_at_6 ?_
  refine lv_icmp_ge (tgt := 29) hx hb d_MO_at_7 (by decide) (fun c9 => ?_) (fun c9 => ?_)
  · have w := w.1 c9
    exact tb_MO_at_29 C (by omega) (by omega)   h0 _ _ _ w hm hW (lv_sub hl [] rfl)
  · have w := w.2 c9
    refine lv_iload_n hx hb d_MO_at_10 rfl (lv_at hl 2 rfl) ?_
    refine lv_if_lt (tgt := 29) hx hb d_MO_at_11 (by decide) (fun c13 => ?_) (fun c13 => ?_)
    · have w := w.1 c13
      exact tb_MO_at_29 C (by omega) (by omega)   h0 _ _ _ w hm hW (lv_sub hl [] rfl)
    · have w := w.2 c13
      refine lv_aload_n hx hb d_MO_at_14 rfl (lv_at hl 0 rfl) ?_
      obtain ⟨q14, e15, w⟩ := w
      refine hb_get (ci := 4) (C := "BigDeskModel") (T := T_MO) (N := 8) hx hb hts (fun w9 h9 => hT w9 (u_MO w9 h9)) hown hK hW t4 rfl (by decide) 1 (by decide) (hw wd_647) (fun _ h9 => h9) (q := (2, 13)) rfl (v := .ref q14) (ah_f_R e15) d_MO_at_15 ?_
      refine lv_sipush (v := 1300) hx hb d_MO_at_18 (by decide) ?_
      refine lv_iload_n hx hb d_MO_at_21 rfl (lv_at hl 1 rfl) ?_
      refine lv_imul hx hb d_MO_at_22 ?_
      refine lv_iload_n hx hb d_MO_at_23 rfl (lv_at hl 2 rfl) ?_
      refine lv_iadd hx hb d_MO_at_24 ?_
      obtain ⟨t16, w⟩ := w
      obtain ⟨i17, w⟩ := w
      refine hb_iald hx hb hK hW t16 (by decide) (by decide) 0 rfl i17 d_MO_at_25 ?_
      refine lv_goto (tgt := 30) hx hb d_MO_at_26 (by decide) ?_
      exact tb_MO_at_30 C (by omega) (by omega)  (ah_bI h0 q14 (((1300 : Int32) * a2) + a3).toNatClampNeg) h0 _ _ _ w hm hW (lv_sub hl [] rfl)
set_option maxHeartbeats 4000000 in
set_option maxRecDepth 100000 in
theorem tl_MO_scale_5 {p : Program} {l : Launch} {e : Env} {s : State} {m : MethodId} {args : Array Value} {below : List Frame} {meth : Method} {c : Code} {G : zG} (C : cx_C p l s m args meth c G y_MO_scale b_MO_scale 6 none "BigDeskModel" (Cond.code y_MO_scale b_MO_scale 6 none :: zx_T) []) {K : ah_H → Prop} {h0 : ah_H} {cells slots : Nat} (hcl : cells + 0 ≤ 0) (hsl : slots + 0 ≤ 0) {xt_61 : Nat → Int32 → Int32 → ah_H → Prop} (hc_xt_61 : ∀ (z0 : Nat) (z1 : Int32) (z2 : Int32) (hz : ah_H) (H : Heap) (locs : List Loc) (ls : Array Slot), xt_61 z0 z1 z2 hz → ah_m h0 hz → ah_W G s.heap hz H locs → lv_has ls 6 [(0, .ref z0), (1, .int z1), (3, .int z2)] → W p l e rm_MO_scale s m args below meth c H locs cells slots (MQ below (va_Qv (fun h9 => K h9 ∧ ah_m h0 h9) (ah_B G) (fun q => G.2.2 ≤ q)) args s 0 0 (fun q => G.2.2 ≤ q)) (F0 m 61 ls [])) : ∀ (n : Nat) (x4 : Nat) (x5 : Int32) (x6 : Int32) (x7 : Int32) (x8 : Int32) (h9 : ah_H) (H : Heap) (locs : List Loc) (ls : Array Slot), lp_MO_scale_5 xt_61 K n x4 x5 x6 x7 x8 h9 → ah_m h0 h9 → ah_W G s.heap h9 H locs → lv_has ls 6 [(0, .ref x4), (1, .int x5), (2, .int x6), (3, .int x7), (4, .int x8)] → W p l e rm_MO_scale s m args below meth c H locs cells slots (MQ below (va_Qv (fun h9 => K h9 ∧ ah_m h0 h9) (ah_B G) (fun q => G.2.2 ≤ q)) args s 0 0 (fun q => G.2.2 ≤ q)) (F0 m 5 ls []) := by
  obtain ⟨hx, hb, hr, hml, hown, hts, hT, hlk, hK, hX, htb, hin, hst⟩ := id C
  have hw : ∀ {w9 : Cond}, w9 ∈ zx_T → w9.before _ s = true := fun h9 => hts _ (hT _ h9)
  intro n
  induction n with
  | zero =>
    intro x4 x5 x6 x7 x8 h9 H locs ls w
    exact absurd w (by intro z9; exact z9)
  | succ n ih =>
    intro x4 x5 x6 x7 x8 h9 H locs ls w hm hW hl
    unfold lp_MO_scale_5 at w
    refine lv_iload hx hb d_MO_scale_5 (lv_at hl 4 rfl) ?_
    refine lv_aload_n hx hb d_MO_scale_7 rfl (lv_at hl 0 rfl) ?_
    obtain ⟨t10, w⟩ := w
    obtain ⟨q11, e12, w⟩ := w
    refine hb_get (ci := 4) (C := "BigDeskModel") (T := T_MO) (N := 8) hx hb hts (fun w9 h9 => hT w9 (u_MO w9 h9)) hown hK hW t10 rfl (by decide) 2 (by decide) (hw wd_648) (fun _ h9 => h9) (q := (2, 14)) rfl (v := .ref q11) (ah_f_R e12) d_MO_scale_8 ?_
    refine lv_iload_n hx hb d_MO_scale_11 rfl (lv_at hl 1 rfl) ?_
    obtain ⟨t13, w⟩ := w
    obtain ⟨i14, w⟩ := w
    refine hb_iald hx hb hK hW t13 (by decide) (by decide) 0 rfl i14 d_MO_scale_12 ?_
    refine lv_icmp_ge (tgt := 61) hx hb d_MO_scale_13 (by decide) (fun c15 => ?_) (fun c15 => ?_)
    · have w := w.1 c15
      exact hc_xt_61 x4 x5 x7 h9 _ _ _ w hm hW (lv_sub hl [0, 1, 3] rfl)
    · have w := w.2 c15
      refine lv_aload_n hx hb d_MO_scale_16 rfl (lv_at hl 0 rfl) ?_
      refine lv_iload_n hx hb d_MO_scale_17 rfl (lv_at hl 1 rfl) ?_
      refine lv_iload hx hb d_MO_scale_18 (lv_at hl 4 rfl) ?_
      refine hb_calli (va_runV (As := [.int x5, .int x8]) (rest := []) ⟨hx, hb, hml, hown, hts⟩ (m_MO_at G x4 x5 x8 h9 hst w) (cwV 2 hts (zx_gV hT wd_642 wd_644 wd_s14 wd_5 wd_645) rfl rfl rfl (by decide +kernel) ⟨Nat.le_of_ble_eq_true rfl, Nat.le_of_ble_eq_true rfl⟩) (hb_preV hK hX hW t10 (by decide) rfl) rfl rfl hl.1 rfl (lv_room (Nat.le_of_ble_eq_true rfl)) d_MO_scale_20 ⟨(by show _ ≤ 0; omega), (by show _ ≤ 0; omega)⟩) hW (fun r17 h16 H locs hk hW => ?_)
      obtain ⟨w, mm18⟩ := hk
      have w := w mm18
      have hm := hm.tr mm18
      have t19 := mm18.tg t10 (by decide)
      have t20 := mm18.tg t13 (by decide)
      refine lv_iload_n hx hb d_MO_scale_23 rfl (lv_at hl 2 rfl) ?_
      refine lv_imul hx hb d_MO_scale_24 ?_
      refine lv_iload_n hx hb d_MO_scale_25 rfl (lv_at hl 3 rfl) ?_
      refine lv_iadd hx hb d_MO_scale_26 ?_
      refine lv_topi (fun v21 ev21 => ?_)
      have w := w v21 ev21
      refine lv_istore (lv' := [(5, .int v21), (0, .ref x4), (1, .int x5), (2, .int x6), (3, .int x7), (4, .int x8)]) hx hb d_MO_scale_27 hl (by decide) rfl (fun ls hl => ?_)
      refine lv_aload_n hx hb d_MO_scale_29 rfl (lv_at hl 1 rfl) ?_
      obtain ⟨q22, e23, w⟩ := w
      refine hb_get (ci := 4) (C := "BigDeskModel") (T := T_MO) (N := 8) hx hb hts (fun w9 h9 => hT w9 (u_MO w9 h9)) hown hK hW t19 rfl (by decide) 1 (by decide) (hw wd_647) (fun _ h9 => h9) (q := (2, 13)) rfl (v := .ref q22) (ah_f_R e23) d_MO_scale_30 ?_
      refine lv_sipush (v := 1300) hx hb d_MO_scale_33 (by decide) ?_
      refine lv_iload_n hx hb d_MO_scale_36 rfl (lv_at hl 2 rfl) ?_
      refine lv_imul hx hb d_MO_scale_37 ?_
      refine lv_iload hx hb d_MO_scale_38 (lv_at hl 5 rfl) ?_
      refine lv_iadd hx hb d_MO_scale_40 ?_
      refine lv_iload hx hb d_MO_scale_41 (lv_at hl 0 rfl) ?_
      refine lv_sipush (v := 10000) hx hb d_MO_scale_43 (by decide) ?_
      refine lv_irem hx hb d_MO_scale_46 (by decide) ?_
      refine lv_topi (fun v24 ev24 => ?_)
      have w := w v24 ev24
      obtain ⟨t25, w⟩ := w
      obtain ⟨i26, w⟩ := w
      refine hb_iast hx hb hK hW t25 (by decide) (by decide) 0 rfl i26 d_MO_scale_47 (fun H locs h27 eh27 hW => ?_)
      have w := w h27 eh27
      have mm28 : ah_m h16 h27 := ah_m.rf.st (by rw [eh27]; rfl) (by rw [eh27]; rfl)
      have hm := hm.tr mm28
      have t29 := mm28.tg t19 (by decide)
      have t30 := mm28.tg t20 (by decide)
      have t31 := mm28.tg t25 (by decide)
      refine lv_iload hx hb d_MO_scale_48 (lv_at hl 0 rfl) ?_
      refine lv_sipush (v := 10000) hx hb d_MO_scale_50 (by decide) ?_
      refine lv_idiv hx hb d_MO_scale_53 (by decide) ?_
      refine lv_topi (fun v32 ev32 => ?_)
      have w := w v32 ev32
      refine lv_istore_n (lv' := [(3, .int v32), (5, .int v21), (0, .ref x4), (1, .int x5), (2, .int x6), (4, .int x8)]) hx hb d_MO_scale_54 rfl hl (by decide) rfl (fun ls hl => ?_)
      obtain ⟨v33, ev33⟩ : ∃ y9 : Int32, y9 = x8 + 1 := ⟨_, rfl⟩
      have w := w v33 ev33
      refine lv_iinc (v := v33) (lv' := [(4, .int v33), (3, .int v32), (5, .int v21), (0, .ref x4), (1, .int x5), (2, .int x6)]) hx hb d_MO_scale_55 hl (k := 5) rfl (by rw [ev33]; rfl) (by decide) rfl (fun ls hl => ?_)
      refine lv_goto (tgt := 5) hx hb d_MO_scale_58 (by decide) ?_
      exact ih x4 x5 x6 v32 v33 h27 _ _ _ w hm hW (lv_sub hl [3, 4, 5, 1, 0] rfl)
set_option maxHeartbeats 4000000 in
set_option maxRecDepth 100000 in
theorem tl_MO_scale_61 {p : Program} {l : Launch} {e : Env} {s : State} {m : MethodId} {args : Array Value} {below : List Frame} {meth : Method} {c : Code} {G : zG} (C : cx_C p l s m args meth c G y_MO_scale b_MO_scale 6 none "BigDeskModel" (Cond.code y_MO_scale b_MO_scale 6 none :: zx_T) []) {K : ah_H → Prop} {h0 : ah_H} {cells slots : Nat} (hcl : cells + 0 ≤ 0) (hsl : slots + 0 ≤ 0) {xt_106 : ah_H → Prop} (hc_xt_106 : ∀ (hz : ah_H) (H : Heap) (locs : List Loc) (ls : Array Slot), xt_106 hz → ah_m h0 hz → ah_W G s.heap hz H locs → lv_has ls 6 [] → W p l e rm_MO_scale s m args below meth c H locs cells slots (MQ below (va_Qv (fun h9 => K h9 ∧ ah_m h0 h9) (ah_B G) (fun q => G.2.2 ≤ q)) args s 0 0 (fun q => G.2.2 ≤ q)) (F0 m 106 ls [])) : ∀ (n : Nat) (x38 : Nat) (x39 : Int32) (x40 : Int32) (h41 : ah_H) (H : Heap) (locs : List Loc) (ls : Array Slot), lp_MO_scale_61 xt_106 K n x38 x39 x40 h41 → ah_m h0 h41 → ah_W G s.heap h41 H locs → lv_has ls 6 [(0, .ref x38), (1, .int x39), (3, .int x40)] → W p l e rm_MO_scale s m args below meth c H locs cells slots (MQ below (va_Qv (fun h9 => K h9 ∧ ah_m h0 h9) (ah_B G) (fun q => G.2.2 ≤ q)) args s 0 0 (fun q => G.2.2 ≤ q)) (F0 m 61 ls []) := by
  obtain ⟨hx, hb, hr, hml, hown, hts, hT, hlk, hK, hX, htb, hin, hst⟩ := id C
  have hw : ∀ {w9 : Cond}, w9 ∈ zx_T → w9.before _ s = true := fun h9 => hts _ (hT _ h9)
  intro n
  induction n with
  | zero =>
    intro x38 x39 x40 h41 H locs ls w
    exact absurd w (by intro z9; exact z9)
  | succ n ih =>
    intro x38 x39 x40 h41 H locs ls w hm hW hl
    unfold lp_MO_scale_61 at w
    refine lv_iload_n hx hb d_MO_scale_61 rfl (lv_at hl 2 rfl) ?_
    refine lv_if_le (tgt := 106) hx hb d_MO_scale_62 (by decide) (fun c42 => ?_) (fun c42 => ?_)
    · have w := w.1 c42
      exact hc_xt_106  h41 _ _ _ w hm hW (lv_sub hl [] rfl)
    · have w := w.2 c42
      refine lv_aload_n hx hb d_MO_scale_65 rfl (lv_at hl 0 rfl) ?_
      obtain ⟨t43, w⟩ := w
      obtain ⟨q44, e45, w⟩ := w
      refine hb_get (ci := 4) (C := "BigDeskModel") (T := T_MO) (N := 8) hx hb hts (fun w9 h9 => hT w9 (u_MO w9 h9)) hown hK hW t43 rfl (by decide) 1 (by decide) (hw wd_647) (fun _ h9 => h9) (q := (2, 13)) rfl (v := .ref q44) (ah_f_R e45) d_MO_scale_66 ?_
      refine lv_sipush (v := 1300) hx hb d_MO_scale_69 (by decide) ?_
      refine lv_iload_n hx hb d_MO_scale_72 rfl (lv_at hl 1 rfl) ?_
      refine lv_imul hx hb d_MO_scale_73 ?_
      refine lv_aload_n hx hb d_MO_scale_74 rfl (lv_at hl 0 rfl) ?_
      obtain ⟨q46, e47, w⟩ := w
      refine hb_get (ci := 4) (C := "BigDeskModel") (T := T_MO) (N := 8) hx hb hts (fun w9 h9 => hT w9 (u_MO w9 h9)) hown hK hW t43 rfl (by decide) 2 (by decide) (hw wd_648) (fun _ h9 => h9) (q := (2, 14)) rfl (v := .ref q46) (ah_f_R e47) d_MO_scale_75 ?_
      refine lv_iload_n hx hb d_MO_scale_78 rfl (lv_at hl 1 rfl) ?_
      obtain ⟨t48, w⟩ := w
      obtain ⟨i49, w⟩ := w
      refine hb_iald hx hb hK hW t48 (by decide) (by decide) 0 rfl i49 d_MO_scale_79 ?_
      refine lv_iadd hx hb d_MO_scale_80 ?_
      refine lv_iload_n hx hb d_MO_scale_81 rfl (lv_at hl 2 rfl) ?_
      refine lv_sipush (v := 10000) hx hb d_MO_scale_82 (by decide) ?_
      refine lv_irem hx hb d_MO_scale_85 (by decide) ?_
      refine lv_topi (fun v50 ev50 => ?_)
      have w := w v50 ev50
      obtain ⟨t51, w⟩ := w
      obtain ⟨i52, w⟩ := w
      refine hb_iast hx hb hK hW t51 (by decide) (by decide) 0 rfl i52 d_MO_scale_86 (fun H locs h53 eh53 hW => ?_)
      have w := w h53 eh53
      have mm54 : ah_m h41 h53 := ah_m.rf.st (by rw [eh53]; rfl) (by rw [eh53]; rfl)
      have hm := hm.tr mm54
      have t55 := mm54.tg t43 (by decide)
      have t56 := mm54.tg t48 (by decide)
      have t57 := mm54.tg t51 (by decide)
      refine lv_iload_n hx hb d_MO_scale_87 rfl (lv_at hl 2 rfl) ?_
      refine lv_sipush (v := 10000) hx hb d_MO_scale_88 (by decide) ?_
      refine lv_idiv hx hb d_MO_scale_91 (by decide) ?_
      refine lv_topi (fun v58 ev58 => ?_)
      have w := w v58 ev58
      refine lv_istore_n (lv' := [(3, .int v58), (0, .ref x38), (1, .int x39)]) hx hb d_MO_scale_92 rfl hl (by decide) rfl (fun ls hl => ?_)
      refine lv_aload_n hx hb d_MO_scale_93 rfl (lv_at hl 1 rfl) ?_
      obtain ⟨q59, e60, w⟩ := w
      refine hb_get (ci := 4) (C := "BigDeskModel") (T := T_MO) (N := 8) hx hb hts (fun w9 h9 => hT w9 (u_MO w9 h9)) hown hK hW t55 rfl (by decide) 2 (by decide) (hw wd_648) (fun _ h9 => h9) (q := (2, 14)) rfl (v := .ref q59) (ah_f_R e60) d_MO_scale_94 ?_
      refine lv_iload_n hx hb d_MO_scale_97 rfl (lv_at hl 2 rfl) ?_
      refine lv_dup2_11 hx hb d_MO_scale_98 rfl rfl ?_
      obtain ⟨t61, w⟩ := w
      obtain ⟨i62, w⟩ := w
      refine hb_iald hx hb hK hW t61 (by decide) (by decide) 0 rfl i62 d_MO_scale_99 ?_
      refine lv_iconst (v := 1) hx hb d_MO_scale_100 (by decide) ?_
      refine lv_iadd hx hb d_MO_scale_101 ?_
      refine lv_topi (fun v63 ev63 => ?_)
      have w := w v63 ev63
      obtain ⟨i64, w⟩ := w
      refine hb_iast hx hb hK hW t61 (by decide) (by decide) 0 rfl i64 d_MO_scale_102 (fun H locs h65 eh65 hW => ?_)
      have w := w h65 eh65
      have mm66 : ah_m h53 h65 := ah_m.rf.st (by rw [eh65]; rfl) (by rw [eh65]; rfl)
      have hm := hm.tr mm66
      have t67 := mm66.tg t55 (by decide)
      have t68 := mm66.tg t56 (by decide)
      have t69 := mm66.tg t57 (by decide)
      have t70 := mm66.tg t61 (by decide)
      refine lv_goto (tgt := 61) hx hb d_MO_scale_103 (by decide) ?_
      exact ih x38 x39 v58 h65 _ _ _ w hm hW (lv_sub hl [1, 2, 0] rfl)
set_option maxHeartbeats 4000000 in
set_option maxRecDepth 100000 in
theorem m_MO_scale {l : Launch} (G : zG) (a1 : Nat) (a2 : Int32) (a3 : Int32) (h0 : ah_H) {K : ah_H → Prop} (hst : l.stackTraces = false) (w : w_MO_scale a1 a2 a3 h0 K) : Met l y_MO_scale (Cond.code y_MO_scale b_MO_scale 6 none :: zx_T) rm_MO_scale (va_Pc [.ref a1, .int a2, .int a3] (ah_B G h0)) (va_Qv (fun h9 => K h9 ∧ ah_m h0 h9) (ah_B G) (fun q => G.2.2 ≤ q)) 0 0 (fun q => G.2.2 ≤ q) := by
  refine Met.ofW (cc := b_MO_scale) (maxL := 6) (ret := none) (by decide) rfl ?_
  intro p e s m args below meth c s₁ B hml hv
  have htb := cx_out B (atoms_spec B.pre _ List.mem_cons_self)
  obtain ⟨rfl, hB⟩ := hv
  have C : cx_C p l s m _ meth c G y_MO_scale b_MO_scale 6 none "BigDeskModel" (Cond.code y_MO_scale b_MO_scale 6 none :: zx_T) [] := ⟨B.exec, B.bytes, B.returns, hml, findClass_of_methodNamed B.named, atoms_spec B.pre, cx_hd, B.notSynchronized, hB.2.2.1, hB.2.2.2, htb, fun z9 => (name_of_methodNamed B.named B.method).1.trans z9, hst⟩
  obtain ⟨hx, hb, hr, hml, hown, hts, hT, hlk, hK, hX, htb, hin, hst⟩ := id C
  have hw : ∀ {w9 : Cond}, w9 ∈ zx_T → w9.before _ s = true := fun h9 => hts _ (hT _ h9)
  have hW : ah_W G s.heap h0 s.heap [] := ⟨hB.1, hB.2.1, va_S.rf⟩
  have hm : ah_m h0 h0 := ah_m.rf
  have hcl : 0 + 0 ≤ 0 := by decide
  have hsl : 0 + 0 ≤ 0 := by decide
  have hl := lv_entry ([.ref a1, .int a2, .int a3]) (n := 6) (Nat.le_of_ble_eq_true rfl)
  rw [lg_entry_eq]
  generalize (lg_sl ([.ref a1, .int a2, .int a3]) ++ List.replicate (6 - (lg_sl ([.ref a1, .int a2, .int a3])).length) Slot.unset).toArray = ls at hl ⊢
  have hl : lv_has ls 6 [(0, .ref a1), (1, .int a2), (2, .int a3)] := hl
  unfold w_MO_scale at w
  refine lv_iconst (v := 0) hx hb d_MO_scale_0 (by decide) ?_
  refine lv_istore_n (lv' := [(3, .int (0 : Int32)), (0, .ref a1), (1, .int a2), (2, .int a3)]) hx hb d_MO_scale_1 rfl hl (by decide) rfl (fun ls hl => ?_)
  refine lv_iconst (v := 0) hx hb d_MO_scale_2 (by decide) ?_
  refine lv_istore (lv' := [(4, .int (0 : Int32)), (3, .int (0 : Int32)), (0, .ref a1), (1, .int a2), (2, .int a3)]) hx hb d_MO_scale_3 hl (by decide) rfl (fun ls hl => ?_)
  obtain ⟨k73, w⟩ := w
  refine tl_MO_scale_5 C (by omega) (by omega) (fun x34 x35 x36 h37 H locs ls w hm hW hl => ?_) k73 a1 a2 a3 (0 : Int32) (0 : Int32) h0 _ _ _ w hm hW (lv_sub hl [2, 3, 4, 1, 0] rfl)
  · obtain ⟨k72, w⟩ := w
    refine tl_MO_scale_61 C (by omega) (by omega) (fun  h71 H locs ls w hm hW hl => ?_) k72 x34 x35 x36 h37 _ _ _ w hm hW (lv_sub hl [0, 1, 2] rfl)
    · exact hb_vret (K := fun h9 => K h9 ∧ ah_m h0 h9) hx hb hr hlk hK hX hW ⟨w, hm⟩ (by omega) (by omega) d_MO_scale_106
set_option maxHeartbeats 4000000 in
set_option maxRecDepth 100000 in
theorem tl_MO_init_56 {p : Program} {l : Launch} {e : Env} {s : State} {m : MethodId} {args : Array Value} {below : List Frame} {meth : Method} {c : Code} {G : zG} (C : cx_C p l s m args meth c G y_MO_init b_MO_init 2 none "BigDeskModel" (Cond.code y_MO_init b_MO_init 2 none :: zx_T) []) {K : ah_H → Prop} {h0 : ah_H} {cells slots : Nat} (hcl : cells + 0 ≤ 5) (hsl : slots + 0 ≤ 28636) {xt_78 : ah_H → Prop} (hc_xt_78 : ∀ (hz : ah_H) (H : Heap) (locs : List Loc) (ls : Array Slot), xt_78 hz → ah_m h0 hz → ah_W G s.heap hz H locs → lv_has ls 2 [] → W p l e rm_MO_init s m args below meth c H locs cells slots (MQ below (va_Qv (fun h9 => K h9 ∧ ah_m h0 h9) (ah_B G) (fun q => G.2.2 ≤ q)) args s 5 28636 (fun q => G.2.2 ≤ q)) (F0 m 78 ls [])) : ∀ (n : Nat) (x80 : Nat) (x81 : Int32) (h82 : ah_H) (H : Heap) (locs : List Loc) (ls : Array Slot), lp_MO_init_56 xt_78 K n x80 x81 h82 → ah_m h0 h82 → ah_W G s.heap h82 H locs → lv_has ls 2 [(0, .ref x80), (1, .int x81)] → W p l e rm_MO_init s m args below meth c H locs cells slots (MQ below (va_Qv (fun h9 => K h9 ∧ ah_m h0 h9) (ah_B G) (fun q => G.2.2 ≤ q)) args s 5 28636 (fun q => G.2.2 ≤ q)) (F0 m 56 ls []) := by
  obtain ⟨hx, hb, hr, hml, hown, hts, hT, hlk, hK, hX, htb, hin, hst⟩ := id C
  have hw : ∀ {w9 : Cond}, w9 ∈ zx_T → w9.before _ s = true := fun h9 => hts _ (hT _ h9)
  intro n
  induction n with
  | zero =>
    intro x80 x81 h82 H locs ls w
    exact absurd w (by intro z9; exact z9)
  | succ n ih =>
    intro x80 x81 h82 H locs ls w hm hW hl
    unfold lp_MO_init_56 at w
    refine lv_iload_n hx hb d_MO_init_56 rfl (lv_at hl 1 rfl) ?_
    refine lv_sipush (v := 1024) hx hb d_MO_init_57 (by decide) ?_
    refine lv_icmp_ge (tgt := 78) hx hb d_MO_init_60 (by decide) (fun c83 => ?_) (fun c83 => ?_)
    · have w := w.1 c83
      exact hc_xt_78  h82 _ _ _ w hm hW (lv_sub hl [] rfl)
    · have w := w.2 c83
      refine lv_aload_n hx hb d_MO_init_63 rfl (lv_at hl 0 rfl) ?_
      refine lv_bipush (v := 12) hx hb d_MO_init_64 (by decide) ?_
      refine lv_sipush (v := 256) hx hb d_MO_init_66 (by decide) ?_
      obtain ⟨t84, w⟩ := w
      refine hb_callv (va_runV (As := [.int (12 : Int32), .int (256 : Int32)]) (rest := []) ⟨hx, hb, hml, hown, hts⟩ (m_MO_scale G x80 (12 : Int32) (256 : Int32) h82 hst w) (cwV 2 hts (zx_gV hT wd_638 wd_640 wd_s13 wd_5 wd_641) rfl rfl rfl (by decide +kernel) ⟨Nat.le_of_ble_eq_true rfl, Nat.le_of_ble_eq_true rfl⟩) (hb_preV hK hX hW t84 (by decide) rfl) rfl rfl hl.1 rfl (lv_room (Nat.le_of_ble_eq_true rfl)) d_MO_init_69 ⟨(by show _ ≤ 5; omega), (by show _ ≤ 28636; omega)⟩) hW (fun h85 H locs hk hW => ?_)
      obtain ⟨w, mm86⟩ := hk
      have w := w mm86
      have hm := hm.tr mm86
      have t87 := mm86.tg t84 (by decide)
      obtain ⟨v88, ev88⟩ : ∃ y9 : Int32, y9 = x81 + 1 := ⟨_, rfl⟩
      have w := w v88 ev88
      refine lv_iinc (v := v88) (lv' := [(1, .int v88), (0, .ref x80)]) hx hb d_MO_init_72 hl (k := 1) rfl (by rw [ev88]; rfl) (by decide) rfl (fun ls hl => ?_)
      refine lv_goto (tgt := 56) hx hb d_MO_init_75 (by decide) ?_
      exact ih x80 v88 h85 _ _ _ w hm hW (lv_sub hl [1, 0] rfl)
set_option maxHeartbeats 4000000 in
set_option maxRecDepth 100000 in
theorem m_MO_init {l : Launch} (G : zG) (a1 : Nat) (h0 : ah_H) {K : ah_H → Prop} (hst : l.stackTraces = false) (w : w_MO_init a1 h0 K) : Met l y_MO_init (Cond.code y_MO_init b_MO_init 2 none :: zx_T) rm_MO_init (va_Pc [.ref a1] (ah_B G h0)) (va_Qv (fun h9 => K h9 ∧ ah_m h0 h9) (ah_B G) (fun q => G.2.2 ≤ q)) 5 28636 (fun q => G.2.2 ≤ q) := by
  refine Met.ofW (cc := b_MO_init) (maxL := 2) (ret := none) (by decide) rfl ?_
  intro p e s m args below meth c s₁ B hml hv
  have htb := cx_out B (atoms_spec B.pre _ List.mem_cons_self)
  obtain ⟨rfl, hB⟩ := hv
  have C : cx_C p l s m _ meth c G y_MO_init b_MO_init 2 none "BigDeskModel" (Cond.code y_MO_init b_MO_init 2 none :: zx_T) [] := ⟨B.exec, B.bytes, B.returns, hml, findClass_of_methodNamed B.named, atoms_spec B.pre, cx_hd, B.notSynchronized, hB.2.2.1, hB.2.2.2, htb, fun z9 => (name_of_methodNamed B.named B.method).1.trans z9, hst⟩
  obtain ⟨hx, hb, hr, hml, hown, hts, hT, hlk, hK, hX, htb, hin, hst⟩ := id C
  have hw : ∀ {w9 : Cond}, w9 ∈ zx_T → w9.before _ s = true := fun h9 => hts _ (hT _ h9)
  have hW : ah_W G s.heap h0 s.heap [] := ⟨hB.1, hB.2.1, va_S.rf⟩
  have hm : ah_m h0 h0 := ah_m.rf
  have hcl : 0 + 5 ≤ 5 := by decide
  have hsl : 0 + 28636 ≤ 28636 := by decide
  have hl := lv_entry ([.ref a1]) (n := 2) (Nat.le_of_ble_eq_true rfl)
  rw [lg_entry_eq]
  generalize (lg_sl ([.ref a1]) ++ List.replicate (2 - (lg_sl ([.ref a1])).length) Slot.unset).toArray = ls at hl ⊢
  have hl : lv_has ls 2 [(0, .ref a1)] := hl
  unfold w_MO_init at w
  refine lv_aload_n hx hb d_MO_init_0 rfl (lv_at hl 0 rfl) ?_
  refine W.objInit hx hb hown (hw wd_632) (hw wd_24) (hw wd_25) rfl (by rw [hml]; exact hl.1) rfl d_MO_init_1 (Nat.le_of_ble_eq_true rfl) (Nat.le_of_ble_eq_true rfl) ?_
  refine W.eq (g2 := F0 m 4 ls []) rfl ?_
  refine lv_aload_n hx hb d_MO_init_4 rfl (lv_at hl 0 rfl) ?_
  refine lv_sipush (v := 23400) hx hb d_MO_init_5 (by decide) ?_
  refine hb_newa (atype := .int) (t := 100) (N := 23400) hx hb (hw wd_671) hK hW 0 rfl (by decide) (by decide) (by decide) (ah_nwI _ _) (by show _ ≤ 5; omega) (by show _ ≤ 28636; omega) d_MO_init_8 (fun q2 H z3 hW => ?_)
  obtain ⟨h4, eh4⟩ : ∃ z9, z9 = ah_new h0 q2 100 23400 := ⟨_, rfl⟩
  rw [← eh4] at hW
  have w := w q2 z3 h4 eh4
  have mm5 : ah_m h0 h4 := (ah_m.rf.nw z3).eq eh4
  have hm := hm.tr mm5
  have t6 : ah_T h4 q2 = 100 := by rw [eh4]; exact va_up_self _ _ _
  obtain ⟨t7, w⟩ := w
  refine hb_putF (ci := 4) (C := "BigDeskModel") (T := T_MO) (N := 8) hx hb hts (fun w9 h9 => hT w9 (u_MO w9 h9)) t_MO o_MO n_MO hown hK hW t7 rfl (by decide) 1 (by decide) (hw wd_647) (fun _ h9 => h9) rfl (hin rfl) rfl (ty := t_MO 1) (by decide +kernel) (q := (2, 13)) rfl (by decide) (v := .ref q2) rfl rfl (ah_one_R h4 13 a1 (some q2)) d_MO_init_10 (fun H locs h8 eh8 hW => ?_)
  have w := w h8 eh8
  have mm9 : ah_m h4 h8 := ah_m.rf.st (by rw [eh8]; rfl) (by rw [eh8]; rfl)
  have hm := hm.tr mm9
  have t10 := mm9.tg t6 (by decide)
  have t11 := mm9.tg t7 (by decide)
  refine lv_aload_n hx hb d_MO_init_13 rfl (lv_at hl 0 rfl) ?_
  refine lv_bipush (v := 18) hx hb d_MO_init_14 (by decide) ?_
  refine hb_newa (atype := .int) (t := 100) (N := 18) hx hb (hw wd_671) hK hW 0 rfl (by decide) (by decide) (by decide) (ah_nwI _ _) (by show _ ≤ 5; omega) (by show _ ≤ 28636; omega) d_MO_init_16 (fun q12 H z13 hW => ?_)
  obtain ⟨h14, eh14⟩ : ∃ z9, z9 = ah_new h8 q12 100 18 := ⟨_, rfl⟩
  rw [← eh14] at hW
  have w := w q12 z13 h14 eh14
  have mm15 : ah_m h8 h14 := (ah_m.rf.nw z13).eq eh14
  have hm := hm.tr mm15
  have t16 := mm15.tg t10 (by decide)
  have t17 := mm15.tg t11 (by decide)
  have t18 : ah_T h14 q12 = 100 := by rw [eh14]; exact va_up_self _ _ _
  refine hb_putF (ci := 4) (C := "BigDeskModel") (T := T_MO) (N := 8) hx hb hts (fun w9 h9 => hT w9 (u_MO w9 h9)) t_MO o_MO n_MO hown hK hW t17 rfl (by decide) 2 (by decide) (hw wd_648) (fun _ h9 => h9) rfl (hin rfl) rfl (ty := t_MO 2) (by decide +kernel) (q := (2, 14)) rfl (by decide) (v := .ref q12) rfl rfl (ah_one_R h14 14 a1 (some q12)) d_MO_init_18 (fun H locs h19 eh19 hW => ?_)
  have w := w h19 eh19
  have mm20 : ah_m h14 h19 := ah_m.rf.st (by rw [eh19]; rfl) (by rw [eh19]; rfl)
  have hm := hm.tr mm20
  have t21 := mm20.tg t16 (by decide)
  have t22 := mm20.tg t17 (by decide)
  have t23 := mm20.tg t18 (by decide)
  refine lv_aload_n hx hb d_MO_init_21 rfl (lv_at hl 0 rfl) ?_
  refine lv_bipush (v := 18) hx hb d_MO_init_22 (by decide) ?_
  refine hb_newa (atype := .int) (t := 100) (N := 18) hx hb (hw wd_671) hK hW 0 rfl (by decide) (by decide) (by decide) (ah_nwI _ _) (by show _ ≤ 5; omega) (by show _ ≤ 28636; omega) d_MO_init_24 (fun q24 H z25 hW => ?_)
  obtain ⟨h26, eh26⟩ : ∃ z9, z9 = ah_new h19 q24 100 18 := ⟨_, rfl⟩
  rw [← eh26] at hW
  have w := w q24 z25 h26 eh26
  have mm27 : ah_m h19 h26 := (ah_m.rf.nw z25).eq eh26
  have hm := hm.tr mm27
  have t28 := mm27.tg t21 (by decide)
  have t29 := mm27.tg t22 (by decide)
  have t30 := mm27.tg t23 (by decide)
  have t31 : ah_T h26 q24 = 100 := by rw [eh26]; exact va_up_self _ _ _
  refine hb_putF (ci := 4) (C := "BigDeskModel") (T := T_MO) (N := 8) hx hb hts (fun w9 h9 => hT w9 (u_MO w9 h9)) t_MO o_MO n_MO hown hK hW t29 rfl (by decide) 3 (by decide) (hw wd_649) (fun _ h9 => h9) rfl (hin rfl) rfl (ty := t_MO 3) (by decide +kernel) (q := (2, 15)) rfl (by decide) (v := .ref q24) rfl rfl (ah_one_R h26 15 a1 (some q24)) d_MO_init_26 (fun H locs h32 eh32 hW => ?_)
  have w := w h32 eh32
  have mm33 : ah_m h26 h32 := ah_m.rf.st (by rw [eh32]; rfl) (by rw [eh32]; rfl)
  have hm := hm.tr mm33
  have t34 := mm33.tg t28 (by decide)
  have t35 := mm33.tg t29 (by decide)
  have t36 := mm33.tg t30 (by decide)
  have t37 := mm33.tg t31 (by decide)
  refine lv_aload_n hx hb d_MO_init_29 rfl (lv_at hl 0 rfl) ?_
  refine lv_sipush (v := 2600) hx hb d_MO_init_30 (by decide) ?_
  refine hb_newa (atype := .int) (t := 100) (N := 2600) hx hb (hw wd_671) hK hW 0 rfl (by decide) (by decide) (by decide) (ah_nwI _ _) (by show _ ≤ 5; omega) (by show _ ≤ 28636; omega) d_MO_init_33 (fun q38 H z39 hW => ?_)
  obtain ⟨h40, eh40⟩ : ∃ z9, z9 = ah_new h32 q38 100 2600 := ⟨_, rfl⟩
  rw [← eh40] at hW
  have w := w q38 z39 h40 eh40
  have mm41 : ah_m h32 h40 := (ah_m.rf.nw z39).eq eh40
  have hm := hm.tr mm41
  have t42 := mm41.tg t34 (by decide)
  have t43 := mm41.tg t35 (by decide)
  have t44 := mm41.tg t36 (by decide)
  have t45 := mm41.tg t37 (by decide)
  have t46 : ah_T h40 q38 = 100 := by rw [eh40]; exact va_up_self _ _ _
  refine hb_putF (ci := 4) (C := "BigDeskModel") (T := T_MO) (N := 8) hx hb hts (fun w9 h9 => hT w9 (u_MO w9 h9)) t_MO o_MO n_MO hown hK hW t43 rfl (by decide) 4 (by decide) (hw wd_650) (fun _ h9 => h9) rfl (hin rfl) rfl (ty := t_MO 4) (by decide +kernel) (q := (2, 16)) rfl (by decide) (v := .ref q38) rfl rfl (ah_one_R h40 16 a1 (some q38)) d_MO_init_35 (fun H locs h47 eh47 hW => ?_)
  have w := w h47 eh47
  have mm48 : ah_m h40 h47 := ah_m.rf.st (by rw [eh47]; rfl) (by rw [eh47]; rfl)
  have hm := hm.tr mm48
  have t49 := mm48.tg t42 (by decide)
  have t50 := mm48.tg t43 (by decide)
  have t51 := mm48.tg t44 (by decide)
  have t52 := mm48.tg t45 (by decide)
  have t53 := mm48.tg t46 (by decide)
  refine lv_aload_n hx hb d_MO_init_38 rfl (lv_at hl 0 rfl) ?_
  refine lv_sipush (v := 2600) hx hb d_MO_init_39 (by decide) ?_
  refine hb_newa (atype := .int) (t := 100) (N := 2600) hx hb (hw wd_671) hK hW 0 rfl (by decide) (by decide) (by decide) (ah_nwI _ _) (by show _ ≤ 5; omega) (by show _ ≤ 28636; omega) d_MO_init_42 (fun q54 H z55 hW => ?_)
  obtain ⟨h56, eh56⟩ : ∃ z9, z9 = ah_new h47 q54 100 2600 := ⟨_, rfl⟩
  rw [← eh56] at hW
  have w := w q54 z55 h56 eh56
  have mm57 : ah_m h47 h56 := (ah_m.rf.nw z55).eq eh56
  have hm := hm.tr mm57
  have t58 := mm57.tg t49 (by decide)
  have t59 := mm57.tg t50 (by decide)
  have t60 := mm57.tg t51 (by decide)
  have t61 := mm57.tg t52 (by decide)
  have t62 := mm57.tg t53 (by decide)
  have t63 : ah_T h56 q54 = 100 := by rw [eh56]; exact va_up_self _ _ _
  refine hb_putF (ci := 4) (C := "BigDeskModel") (T := T_MO) (N := 8) hx hb hts (fun w9 h9 => hT w9 (u_MO w9 h9)) t_MO o_MO n_MO hown hK hW t59 rfl (by decide) 6 (by decide) (hw wd_652) (fun _ h9 => h9) rfl (hin rfl) rfl (ty := t_MO 6) (by decide +kernel) (q := (2, 17)) rfl (by decide) (v := .ref q54) rfl rfl (ah_one_R h56 17 a1 (some q54)) d_MO_init_44 (fun H locs h64 eh64 hW => ?_)
  have w := w h64 eh64
  have mm65 : ah_m h56 h64 := ah_m.rf.st (by rw [eh64]; rfl) (by rw [eh64]; rfl)
  have hm := hm.tr mm65
  have t66 := mm65.tg t58 (by decide)
  have t67 := mm65.tg t59 (by decide)
  have t68 := mm65.tg t60 (by decide)
  have t69 := mm65.tg t61 (by decide)
  have t70 := mm65.tg t62 (by decide)
  have t71 := mm65.tg t63 (by decide)
  refine lv_aload_n hx hb d_MO_init_47 rfl (lv_at hl 0 rfl) ?_
  refine lv_bipush (v := 12) hx hb d_MO_init_48 (by decide) ?_
  refine lv_lconst (v := 1) hx hb d_MO_init_50 (by decide) ?_
  refine hb_callv (va_runV (As := [.int (12 : Int32), .long (1 : Int64)]) (rest := []) ⟨hx, hb, hml, hown, hts⟩ (m_MO_setRow G a1 (12 : Int32) (1 : Int64) h64 hst w) (cwV 2 hts (zx_gV hT wd_633 wd_635 wd_s12 wd_5 wd_636) rfl rfl rfl (by decide +kernel) ⟨Nat.le_of_ble_eq_true rfl, Nat.le_of_ble_eq_true rfl⟩) (hb_preV hK hX hW t67 (by decide) rfl) rfl rfl hl.1 rfl (lv_room (Nat.le_of_ble_eq_true rfl)) d_MO_init_51 ⟨(by show _ ≤ 5; omega), (by show _ ≤ 28636; omega)⟩) hW (fun h72 H locs hk hW => ?_)
  obtain ⟨w, mm73⟩ := hk
  have w := w mm73
  have hm := hm.tr mm73
  have t74 := mm73.tg t66 (by decide)
  have t75 := mm73.tg t67 (by decide)
  have t76 := mm73.tg t68 (by decide)
  have t77 := mm73.tg t69 (by decide)
  have t78 := mm73.tg t70 (by decide)
  have t79 := mm73.tg t71 (by decide)
  refine lv_iconst (v := 0) hx hb d_MO_init_54 (by decide) ?_
  refine lv_istore_n (lv' := [(1, .int (0 : Int32)), (0, .ref a1)]) hx hb d_MO_init_55 rfl hl (by decide) rfl (fun ls hl => ?_)
  obtain ⟨k90, w⟩ := w
  refine tl_MO_init_56 C (by omega) (by omega) (fun  h89 H locs ls w hm hW hl => ?_) k90 a1 (0 : Int32) h72 _ _ _ w hm hW (lv_sub hl [1, 0] rfl)
  · exact hb_vret (K := fun h9 => K h9 ∧ ah_m h0 h9) hx hb hr hlk hK hX hW ⟨w, hm⟩ (by omega) (by omega) d_MO_init_78
set_option maxHeartbeats 4000000 in
set_option maxRecDepth 100000 in
theorem m_MO_thrown {l : Launch} (G : zG) (a1 : Nat) (h0 : ah_H) {K : Int32 → ah_H → Prop} (hst : l.stackTraces = false) (w : w_MO_thrown a1 h0 K) : Met l y_MO_thrown (Cond.code y_MO_thrown b_MO_thrown 1 (some .int) :: zx_T) rm_MO_thrown (va_Pc [.ref a1] (ah_B G h0)) (va_Qi (fun r9 h9 => K r9 h9 ∧ ah_m h0 h9) (ah_B G) (fun q => G.2.2 ≤ q)) 0 0 (fun q => G.2.2 ≤ q) := by
  refine Met.ofW (cc := b_MO_thrown) (maxL := 1) (ret := (some .int)) (by decide) rfl ?_
  intro p e s m args below meth c s₁ B hml hv
  have htb := cx_out B (atoms_spec B.pre _ List.mem_cons_self)
  obtain ⟨rfl, hB⟩ := hv
  have C : cx_C p l s m _ meth c G y_MO_thrown b_MO_thrown 1 (some .int) "BigDeskModel" (Cond.code y_MO_thrown b_MO_thrown 1 (some .int) :: zx_T) [] := ⟨B.exec, B.bytes, B.returns, hml, findClass_of_methodNamed B.named, atoms_spec B.pre, cx_hd, B.notSynchronized, hB.2.2.1, hB.2.2.2, htb, fun z9 => (name_of_methodNamed B.named B.method).1.trans z9, hst⟩
  obtain ⟨hx, hb, hr, hml, hown, hts, hT, hlk, hK, hX, htb, hin, hst⟩ := id C
  have hw : ∀ {w9 : Cond}, w9 ∈ zx_T → w9.before _ s = true := fun h9 => hts _ (hT _ h9)
  have hW : ah_W G s.heap h0 s.heap [] := ⟨hB.1, hB.2.1, va_S.rf⟩
  have hm : ah_m h0 h0 := ah_m.rf
  have hcl : 0 + 0 ≤ 0 := by decide
  have hsl : 0 + 0 ≤ 0 := by decide
  have hl := lv_entry ([.ref a1]) (n := 1) (Nat.le_of_ble_eq_true rfl)
  rw [lg_entry_eq]
  generalize (lg_sl ([.ref a1]) ++ List.replicate (1 - (lg_sl ([.ref a1])).length) Slot.unset).toArray = ls at hl ⊢
  have hl : lv_has ls 1 [(0, .ref a1)] := hl
  unfold w_MO_thrown at w
  refine lv_aload_n hx hb d_MO_thrown_0 rfl (lv_at hl 0 rfl) ?_
  obtain ⟨t2, w⟩ := w
  refine hb_get (ci := 4) (C := "BigDeskModel") (T := T_MO) (N := 8) hx hb hts (fun w9 h9 => hT w9 (u_MO w9 h9)) hown hK hW t2 rfl (by decide) 0 (by decide) (hw wd_646) (fun _ h9 => h9) (q := (0, 4)) rfl (v := .int (ah_I h0 4 a1)) rfl d_MO_thrown_1 ?_
  exact hb_iret (K := fun r9 h9 => K r9 h9 ∧ ah_m h0 h9) hx hb hr hlk hK hX hW ⟨w, hm⟩ (by omega) (by omega) d_MO_thrown_4
set_option maxHeartbeats 4000000 in
set_option maxRecDepth 100000 in
theorem tb_MO_fails_10 {p : Program} {l : Launch} {e : Env} {s : State} {m : MethodId} {args : Array Value} {below : List Frame} {meth : Method} {c : Code} {G : zG} (C : cx_C p l s m args meth c G y_MO_fails b_MO_fails 3 (some .boolean) "BigDeskModel" (Cond.code y_MO_fails b_MO_fails 3 (some .boolean) :: zx_T) []) {K : Int32 → ah_H → Prop} {h0 : ah_H} {cells slots : Nat} (hcl : cells + 0 ≤ 0) (hsl : slots + 0 ≤ 0)  (x5 : Int32) (s6 : Int32) (s7 : Nat) (h8 : ah_H) (H : Heap) (locs : List Loc) (ls : Array Slot) (w : bk_MO_fails_10 K x5 s6 s7 h8) (hm : ah_m h0 h8) (hW : ah_W G s.heap h8 H locs) (hl : lv_has ls 3 [(1, .int x5)]) : W p l e rm_MO_fails s m args below meth c H locs cells slots (MQ below (va_Qi (fun r9 h9 => K r9 h9 ∧ ah_m h0 h9) (ah_B G) (fun q => G.2.2 ≤ q)) args s 0 0 (fun q => G.2.2 ≤ q)) (F0 m 10 ls [.int s6, .ref s7]) := by
  unfold bk_MO_fails_10 at w
  obtain ⟨hx, hb, hr, hml, hown, hts, hT, hlk, hK, hX, htb, hin, hst⟩ := id C
  have hw : ∀ {w9 : Cond}, w9 ∈ zx_T → w9.before _ s = true := fun h9 => hts _ (hT _ h9)
  obtain ⟨t9, w⟩ := w
  refine hb_put (ci := 4) (C := "BigDeskModel") (T := T_MO) (N := 8) hx hb hts (fun w9 h9 => hT w9 (u_MO w9 h9)) t_MO o_MO n_MO hown hK hW t9 rfl (by decide) 0 (by decide) (hw wd_646) (fun _ h9 => h9) rfl (ty := t_MO 0) (by decide +kernel) (q := (0, 4)) rfl (by decide) (v := .int s6) rfl rfl (ah_one_I h8 4 s7 s6) d_MO_fails_10 (fun H locs h10 eh10 hW => ?_)
  have w := w h10 eh10
  have mm11 : ah_m h8 h10 := ah_m.rf.st (by rw [eh10]; rfl) (by rw [eh10]; rfl)
  have hm := hm.tr mm11
  have t12 := mm11.tg t9 (by decide)
  refine lv_iload_n hx hb d_MO_fails_13 rfl (lv_at hl 0 rfl) ?_
  obtain ⟨z13, w⟩ := w
  exact hb_zret (K := fun r9 h9 => K r9 h9 ∧ ah_m h0 h9) hx hb hr hlk z13 hK hX hW ⟨w, hm⟩ (by omega) (by omega) d_MO_fails_14
set_option maxHeartbeats 4000000 in
set_option maxRecDepth 100000 in
theorem m_MO_fails {l : Launch} (G : zG) (a1 : Nat) (a2 : Int32) (a3 : Int32) (h0 : ah_H) {K : Int32 → ah_H → Prop} (hst : l.stackTraces = false) (w : w_MO_fails a1 a2 a3 h0 K) : Met l y_MO_fails (Cond.code y_MO_fails b_MO_fails 3 (some .boolean) :: zx_T) rm_MO_fails (va_Pc [.ref a1, .int a2, .int a3] (ah_B G h0)) (va_Qi (fun r9 h9 => K r9 h9 ∧ ah_m h0 h9) (ah_B G) (fun q => G.2.2 ≤ q)) 0 0 (fun q => G.2.2 ≤ q) := by
  refine Met.ofW (cc := b_MO_fails) (maxL := 3) (ret := (some .boolean)) (by decide) rfl ?_
  intro p e s m args below meth c s₁ B hml hv
  have htb := cx_out B (atoms_spec B.pre _ List.mem_cons_self)
  obtain ⟨rfl, hB⟩ := hv
  have C : cx_C p l s m _ meth c G y_MO_fails b_MO_fails 3 (some .boolean) "BigDeskModel" (Cond.code y_MO_fails b_MO_fails 3 (some .boolean) :: zx_T) [] := ⟨B.exec, B.bytes, B.returns, hml, findClass_of_methodNamed B.named, atoms_spec B.pre, cx_hd, B.notSynchronized, hB.2.2.1, hB.2.2.2, htb, fun z9 => (name_of_methodNamed B.named B.method).1.trans z9, hst⟩
  obtain ⟨hx, hb, hr, hml, hown, hts, hT, hlk, hK, hX, htb, hin, hst⟩ := id C
  have hw : ∀ {w9 : Cond}, w9 ∈ zx_T → w9.before _ s = true := fun h9 => hts _ (hT _ h9)
  have hW : ah_W G s.heap h0 s.heap [] := ⟨hB.1, hB.2.1, va_S.rf⟩
  have hm : ah_m h0 h0 := ah_m.rf
  have hcl : 0 + 0 ≤ 0 := by decide
  have hsl : 0 + 0 ≤ 0 := by decide
  have hl := lv_entry ([.ref a1, .int a2, .int a3]) (n := 3) (Nat.le_of_ble_eq_true rfl)
  rw [lg_entry_eq]
  generalize (lg_sl ([.ref a1, .int a2, .int a3]) ++ List.replicate (3 - (lg_sl ([.ref a1, .int a2, .int a3])).length) Slot.unset).toArray = ls at hl ⊢
  have hl : lv_has ls 3 [(0, .ref a1), (1, .int a2), (2, .int a3)] := hl
  unfold w_MO_fails at w
  refine lv_aload_n hx hb d_MO_fails_0 rfl (lv_at hl 0 rfl) ?_
  refine lv_iload_n hx hb d_MO_fails_1 rfl (lv_at hl 1 rfl) ?_
  refine lv_if_eq (tgt := 9) hx hb d_MO_fails_2 (by decide) (fun c4 => ?_) (fun c4 => ?_)
  · have w := w.1 c4
    refine lv_iconst (v := 0) hx hb d_MO_fails_9 (by decide) ?_
    exact tb_MO_fails_10 C (by omega) (by omega)  a2 (0 : Int32) a1 h0 _ _ _ w hm hW (lv_sub hl [1] rfl)
  · have w := w.2 c4
    refine lv_iload_n hx hb d_MO_fails_5 rfl (lv_at hl 2 rfl) ?_
    refine lv_goto (tgt := 10) hx hb d_MO_fails_6 (by decide) ?_
    exact tb_MO_fails_10 C (by omega) (by omega)  a2 a3 a1 h0 _ _ _ w hm hW (lv_sub hl [1] rfl)
set_option maxHeartbeats 4000000 in
set_option maxRecDepth 100000 in
theorem tb_MO_in_18 {p : Program} {l : Launch} {e : Env} {s : State} {m : MethodId} {args : Array Value} {below : List Frame} {meth : Method} {c : Code} {G : zG} (C : cx_C p l s m args meth c G y_MO_in b_MO_in 6 (some .boolean) "BigDeskModel" (Cond.code y_MO_in b_MO_in 6 (some .boolean) :: zx_T) []) {K : Int32 → ah_H → Prop} {h0 : ah_H} {cells slots : Nat} (hcl : cells + 0 ≤ 0) (hsl : slots + 0 ≤ 0)  (s6 : Int32) (h7 : ah_H) (H : Heap) (locs : List Loc) (ls : Array Slot) (w : bk_MO_in_18 K s6 h7) (hm : ah_m h0 h7) (hW : ah_W G s.heap h7 H locs) (hl : lv_has ls 6 []) : W p l e rm_MO_in s m args below meth c H locs cells slots (MQ below (va_Qi (fun r9 h9 => K r9 h9 ∧ ah_m h0 h9) (ah_B G) (fun q => G.2.2 ≤ q)) args s 0 0 (fun q => G.2.2 ≤ q)) (F0 m 18 ls [.int s6]) := by
  unfold bk_MO_in_18 at w
  obtain ⟨hx, hb, hr, hml, hown, hts, hT, hlk, hK, hX, htb, hin, hst⟩ := id C
  have hw : ∀ {w9 : Cond}, w9 ∈ zx_T → w9.before _ s = true := fun h9 => hts _ (hT _ h9)
  obtain ⟨z8, w⟩ := w
  exact hb_zret (K := fun r9 h9 => K r9 h9 ∧ ah_m h0 h9) hx hb hr hlk z8 hK hX hW ⟨w, hm⟩ (by omega) (by omega) d_MO_in_18
set_option maxHeartbeats 4000000 in
set_option maxRecDepth 100000 in
theorem tb_MO_in_17 {p : Program} {l : Launch} {e : Env} {s : State} {m : MethodId} {args : Array Value} {below : List Frame} {meth : Method} {c : Code} {G : zG} (C : cx_C p l s m args meth c G y_MO_in b_MO_in 6 (some .boolean) "BigDeskModel" (Cond.code y_MO_in b_MO_in 6 (some .boolean) :: zx_T) []) {K : Int32 → ah_H → Prop} {h0 : ah_H} {cells slots : Nat} (hcl : cells + 0 ≤ 0) (hsl : slots + 0 ≤ 0)   (h5 : ah_H) (H : Heap) (locs : List Loc) (ls : Array Slot) (w : bk_MO_in_17 K h5) (hm : ah_m h0 h5) (hW : ah_W G s.heap h5 H locs) (hl : lv_has ls 6 []) : W p l e rm_MO_in s m args below meth c H locs cells slots (MQ below (va_Qi (fun r9 h9 => K r9 h9 ∧ ah_m h0 h9) (ah_B G) (fun q => G.2.2 ≤ q)) args s 0 0 (fun q => G.2.2 ≤ q)) (F0 m 17 ls []) := by
  unfold bk_MO_in_17 at w
  obtain ⟨hx, hb, hr, hml, hown, hts, hT, hlk, hK, hX, htb, hin, hst⟩ := id C
  have hw : ∀ {w9 : Cond}, w9 ∈ zx_T → w9.before _ s = true := fun h9 => hts _ (hT _ h9)
  refine lv_iconst (v := 0) hx hb d_MO_in_17 (by decide) ?_
  exact tb_MO_in_18 C (by omega) (by omega)  (0 : Int32) h5 _ _ _ w hm hW (lv_sub hl [] rfl)
set_option maxHeartbeats 4000000 in
set_option maxRecDepth 100000 in
theorem m_MO_in {l : Launch} (G : zG) (a1 : Int64) (a2 : Int64) (a3 : Int64) (h0 : ah_H) {K : Int32 → ah_H → Prop} (hst : l.stackTraces = false) (w : w_MO_in a1 a2 a3 h0 K) : Met l y_MO_in (Cond.code y_MO_in b_MO_in 6 (some .boolean) :: zx_T) rm_MO_in (va_Pc [.long a1, .long a2, .long a3] (ah_B G h0)) (va_Qi (fun r9 h9 => K r9 h9 ∧ ah_m h0 h9) (ah_B G) (fun q => G.2.2 ≤ q)) 0 0 (fun q => G.2.2 ≤ q) := by
  refine Met.ofW (cc := b_MO_in) (maxL := 6) (ret := (some .boolean)) (by decide) rfl ?_
  intro p e s m args below meth c s₁ B hml hv
  have htb := cx_out B (atoms_spec B.pre _ List.mem_cons_self)
  obtain ⟨rfl, hB⟩ := hv
  have C : cx_C p l s m _ meth c G y_MO_in b_MO_in 6 (some .boolean) "BigDeskModel" (Cond.code y_MO_in b_MO_in 6 (some .boolean) :: zx_T) [] := ⟨B.exec, B.bytes, B.returns, hml, findClass_of_methodNamed B.named, atoms_spec B.pre, cx_hd, B.notSynchronized, hB.2.2.1, hB.2.2.2, htb, fun z9 => (name_of_methodNamed B.named B.method).1.trans z9, hst⟩
  obtain ⟨hx, hb, hr, hml, hown, hts, hT, hlk, hK, hX, htb, hin, hst⟩ := id C
  have hw : ∀ {w9 : Cond}, w9 ∈ zx_T → w9.before _ s = true := fun h9 => hts _ (hT _ h9)
  have hW : ah_W G s.heap h0 s.heap [] := ⟨hB.1, hB.2.1, va_S.rf⟩
  have hm : ah_m h0 h0 := ah_m.rf
  have hcl : 0 + 0 ≤ 0 := by decide
  have hsl : 0 + 0 ≤ 0 := by decide
  have hl := lv_entry ([.long a1, .long a2, .long a3]) (n := 6) (Nat.le_of_ble_eq_true rfl)
  rw [lg_entry_eq]
  generalize (lg_sl ([.long a1, .long a2, .long a3]) ++ List.replicate (6 - (lg_sl ([.long a1, .long a2, .long a3])).length) Slot.unset).toArray = ls at hl ⊢
  have hl : lv_has ls 6 [(0, .long a1), (2, .long a2), (4, .long a3)] := hl
  unfold w_MO_in at w
  refine lv_lload_n hx hb d_MO_in_0 rfl (lv_at hl 0 rfl) ?_
  refine lv_lload_n hx hb d_MO_in_1 rfl (lv_at hl 1 rfl) ?_
  refine hb_lcmp_lt (tgt := 17) hx hb d_MO_in_2 d_MO_in_3 (by decide) (fun c4 => ?_) (fun c4 => ?_)
  · have w := w.1 c4
    exact tb_MO_in_17 C (by omega) (by omega)   h0 _ _ _ w hm hW (lv_sub hl [] rfl)
  · have w := w.2 c4
    refine lv_lload_n hx hb d_MO_in_6 rfl (lv_at hl 0 rfl) ?_
    refine lv_lload hx hb d_MO_in_7 (lv_at hl 2 rfl) ?_
    refine hb_lcmp_gt (tgt := 17) hx hb d_MO_in_9 d_MO_in_10 (by decide) (fun c9 => ?_) (fun c9 => ?_)
    · have w := w.1 c9
      exact tb_MO_in_17 C (by omega) (by omega)   h0 _ _ _ w hm hW (lv_sub hl [] rfl)
    · have w := w.2 c9
      refine lv_iconst (v := 1) hx hb d_MO_in_13 (by decide) ?_
      refine lv_goto (tgt := 18) hx hb d_MO_in_14 (by decide) ?_
      exact tb_MO_in_18 C (by omega) (by omega)  (1 : Int32) h0 _ _ _ w hm hW (lv_sub hl [] rfl)
set_option maxHeartbeats 4000000 in
set_option maxRecDepth 100000 in
theorem tb_MO_isNone_15 {p : Program} {l : Launch} {e : Env} {s : State} {m : MethodId} {args : Array Value} {below : List Frame} {meth : Method} {c : Code} {G : zG} (C : cx_C p l s m args meth c G y_MO_isNone b_MO_isNone 1 (some .boolean) "BigDeskModel" (Cond.code y_MO_isNone b_MO_isNone 1 (some .boolean) :: zx_T) []) {K : Int32 → ah_H → Prop} {h0 : ah_H} {cells slots : Nat} (hcl : cells + 0 ≤ 0) (hsl : slots + 0 ≤ 0)  (s4 : Int32) (h5 : ah_H) (H : Heap) (locs : List Loc) (ls : Array Slot) (w : bk_MO_isNone_15 K s4 h5) (hm : ah_m h0 h5) (hW : ah_W G s.heap h5 H locs) (hl : lv_has ls 1 []) : W p l e rm_MO_isNone s m args below meth c H locs cells slots (MQ below (va_Qi (fun r9 h9 => K r9 h9 ∧ ah_m h0 h9) (ah_B G) (fun q => G.2.2 ≤ q)) args s 0 0 (fun q => G.2.2 ≤ q)) (F0 m 15 ls [.int s4]) := by
  unfold bk_MO_isNone_15 at w
  obtain ⟨hx, hb, hr, hml, hown, hts, hT, hlk, hK, hX, htb, hin, hst⟩ := id C
  have hw : ∀ {w9 : Cond}, w9 ∈ zx_T → w9.before _ s = true := fun h9 => hts _ (hT _ h9)
  obtain ⟨z6, w⟩ := w
  exact hb_zret (K := fun r9 h9 => K r9 h9 ∧ ah_m h0 h9) hx hb hr hlk z6 hK hX hW ⟨w, hm⟩ (by omega) (by omega) d_MO_isNone_15
set_option maxHeartbeats 4000000 in
set_option maxRecDepth 100000 in
theorem tb_MO_isNone_10 {p : Program} {l : Launch} {e : Env} {s : State} {m : MethodId} {args : Array Value} {below : List Frame} {meth : Method} {c : Code} {G : zG} (C : cx_C p l s m args meth c G y_MO_isNone b_MO_isNone 1 (some .boolean) "BigDeskModel" (Cond.code y_MO_isNone b_MO_isNone 1 (some .boolean) :: zx_T) []) {K : Int32 → ah_H → Prop} {h0 : ah_H} {cells slots : Nat} (hcl : cells + 0 ≤ 0) (hsl : slots + 0 ≤ 0)   (h3 : ah_H) (H : Heap) (locs : List Loc) (ls : Array Slot) (w : bk_MO_isNone_10 K h3) (hm : ah_m h0 h3) (hW : ah_W G s.heap h3 H locs) (hl : lv_has ls 1 []) : W p l e rm_MO_isNone s m args below meth c H locs cells slots (MQ below (va_Qi (fun r9 h9 => K r9 h9 ∧ ah_m h0 h9) (ah_B G) (fun q => G.2.2 ≤ q)) args s 0 0 (fun q => G.2.2 ≤ q)) (F0 m 10 ls []) := by
  unfold bk_MO_isNone_10 at w
  obtain ⟨hx, hb, hr, hml, hown, hts, hT, hlk, hK, hX, htb, hin, hst⟩ := id C
  have hw : ∀ {w9 : Cond}, w9 ∈ zx_T → w9.before _ s = true := fun h9 => hts _ (hT _ h9)
  refine lv_iconst (v := 1) hx hb d_MO_isNone_10 (by decide) ?_
  refine lv_goto (tgt := 15) hx hb d_MO_isNone_11 (by decide) ?_
  exact tb_MO_isNone_15 C (by omega) (by omega)  (1 : Int32) h3 _ _ _ w hm hW (lv_sub hl [] rfl)
set_option maxHeartbeats 4000000 in
set_option maxRecDepth 100000 in
theorem m_MO_isNone {l : Launch} (G : zG) (a1 : Int32) (h0 : ah_H) {K : Int32 → ah_H → Prop} (hst : l.stackTraces = false) (w : w_MO_isNone a1 h0 K) : Met l y_MO_isNone (Cond.code y_MO_isNone b_MO_isNone 1 (some .boolean) :: zx_T) rm_MO_isNone (va_Pc [.int a1] (ah_B G h0)) (va_Qi (fun r9 h9 => K r9 h9 ∧ ah_m h0 h9) (ah_B G) (fun q => G.2.2 ≤ q)) 0 0 (fun q => G.2.2 ≤ q) := by
  refine Met.ofW (cc := b_MO_isNone) (maxL := 1) (ret := (some .boolean)) (by decide) rfl ?_
  intro p e s m args below meth c s₁ B hml hv
  have htb := cx_out B (atoms_spec B.pre _ List.mem_cons_self)
  obtain ⟨rfl, hB⟩ := hv
  have C : cx_C p l s m _ meth c G y_MO_isNone b_MO_isNone 1 (some .boolean) "BigDeskModel" (Cond.code y_MO_isNone b_MO_isNone 1 (some .boolean) :: zx_T) [] := ⟨B.exec, B.bytes, B.returns, hml, findClass_of_methodNamed B.named, atoms_spec B.pre, cx_hd, B.notSynchronized, hB.2.2.1, hB.2.2.2, htb, fun z9 => (name_of_methodNamed B.named B.method).1.trans z9, hst⟩
  obtain ⟨hx, hb, hr, hml, hown, hts, hT, hlk, hK, hX, htb, hin, hst⟩ := id C
  have hw : ∀ {w9 : Cond}, w9 ∈ zx_T → w9.before _ s = true := fun h9 => hts _ (hT _ h9)
  have hW : ah_W G s.heap h0 s.heap [] := ⟨hB.1, hB.2.1, va_S.rf⟩
  have hm : ah_m h0 h0 := ah_m.rf
  have hcl : 0 + 0 ≤ 0 := by decide
  have hsl : 0 + 0 ≤ 0 := by decide
  have hl := lv_entry ([.int a1]) (n := 1) (Nat.le_of_ble_eq_true rfl)
  rw [lg_entry_eq]
  generalize (lg_sl ([.int a1]) ++ List.replicate (1 - (lg_sl ([.int a1])).length) Slot.unset).toArray = ls at hl ⊢
  have hl : lv_has ls 1 [(0, .int a1)] := hl
  unfold w_MO_isNone at w
  refine lv_iload_n hx hb d_MO_isNone_0 rfl (lv_at hl 0 rfl) ?_
  refine lv_if_lt (tgt := 10) hx hb d_MO_isNone_1 (by decide) (fun c2 => ?_) (fun c2 => ?_)
  · have w := w.1 c2
    exact tb_MO_isNone_10 C (by omega) (by omega)   h0 _ _ _ w hm hW (lv_sub hl [] rfl)
  · have w := w.2 c2
    refine lv_iload_n hx hb d_MO_isNone_4 rfl (lv_at hl 0 rfl) ?_
    refine lv_bipush (v := 12) hx hb d_MO_isNone_5 (by decide) ?_
    refine lv_icmp_lt (tgt := 14) hx hb d_MO_isNone_7 (by decide) (fun c7 => ?_) (fun c7 => ?_)
    · have w := w.1 c7
      refine lv_iconst (v := 0) hx hb d_MO_isNone_14 (by decide) ?_
      exact tb_MO_isNone_15 C (by omega) (by omega)  (0 : Int32) h0 _ _ _ w hm hW (lv_sub hl [] rfl)
    · have w := w.2 c7
      exact tb_MO_isNone_10 C (by omega) (by omega)   h0 _ _ _ w hm hW (lv_sub hl [] rfl)
set_option maxHeartbeats 4000000 in
set_option maxRecDepth 100000 in
theorem tl_MO_copyRow_2 {p : Program} {l : Launch} {e : Env} {s : State} {m : MethodId} {args : Array Value} {below : List Frame} {meth : Method} {c : Code} {G : zG} (C : cx_C p l s m args meth c G y_MO_copyRow b_MO_copyRow 4 none "BigDeskModel" (Cond.code y_MO_copyRow b_MO_copyRow 4 none :: zx_T) []) {K : ah_H → Prop} {h0 : ah_H} {cells slots : Nat} (hcl : cells + 0 ≤ 0) (hsl : slots + 0 ≤ 0) {xt_42 : Nat → Int32 → Int32 → ah_H → Prop} (hc_xt_42 : ∀ (z0 : Nat) (z1 : Int32) (z2 : Int32) (hz : ah_H) (H : Heap) (locs : List Loc) (ls : Array Slot), xt_42 z0 z1 z2 hz → ah_m h0 hz → ah_W G s.heap hz H locs → lv_has ls 4 [(0, .ref z0), (1, .int z1), (2, .int z2)] → W p l e rm_MO_copyRow s m args below meth c H locs cells slots (MQ below (va_Qv (fun h9 => K h9 ∧ ah_m h0 h9) (ah_B G) (fun q => G.2.2 ≤ q)) args s 0 0 (fun q => G.2.2 ≤ q)) (F0 m 42 ls [])) : ∀ (n : Nat) (x4 : Nat) (x5 : Int32) (x6 : Int32) (x7 : Int32) (h8 : ah_H) (H : Heap) (locs : List Loc) (ls : Array Slot), lp_MO_copyRow_2 xt_42 K n x4 x5 x6 x7 h8 → ah_m h0 h8 → ah_W G s.heap h8 H locs → lv_has ls 4 [(0, .ref x4), (1, .int x5), (2, .int x6), (3, .int x7)] → W p l e rm_MO_copyRow s m args below meth c H locs cells slots (MQ below (va_Qv (fun h9 => K h9 ∧ ah_m h0 h9) (ah_B G) (fun q => G.2.2 ≤ q)) args s 0 0 (fun q => G.2.2 ≤ q)) (F0 m 2 ls []) := by
  obtain ⟨hx, hb, hr, hml, hown, hts, hT, hlk, hK, hX, htb, hin, hst⟩ := id C
  have hw : ∀ {w9 : Cond}, w9 ∈ zx_T → w9.before _ s = true := fun h9 => hts _ (hT _ h9)
  intro n
  induction n with
  | zero =>
    intro x4 x5 x6 x7 h8 H locs ls w
    exact absurd w (by intro z9; exact z9)
  | succ n ih =>
    intro x4 x5 x6 x7 h8 H locs ls w hm hW hl
    unfold lp_MO_copyRow_2 at w
    refine lv_iload_n hx hb d_MO_copyRow_2 rfl (lv_at hl 3 rfl) ?_
    refine lv_aload_n hx hb d_MO_copyRow_3 rfl (lv_at hl 0 rfl) ?_
    obtain ⟨t9, w⟩ := w
    obtain ⟨q10, e11, w⟩ := w
    refine hb_get (ci := 4) (C := "BigDeskModel") (T := T_MO) (N := 8) hx hb hts (fun w9 h9 => hT w9 (u_MO w9 h9)) hown hK hW t9 rfl (by decide) 2 (by decide) (hw wd_648) (fun _ h9 => h9) (q := (2, 14)) rfl (v := .ref q10) (ah_f_R e11) d_MO_copyRow_4 ?_
    refine lv_iload_n hx hb d_MO_copyRow_7 rfl (lv_at hl 2 rfl) ?_
    obtain ⟨t12, w⟩ := w
    obtain ⟨i13, w⟩ := w
    refine hb_iald hx hb hK hW t12 (by decide) (by decide) 0 rfl i13 d_MO_copyRow_8 ?_
    refine lv_icmp_ge (tgt := 42) hx hb d_MO_copyRow_9 (by decide) (fun c14 => ?_) (fun c14 => ?_)
    · have w := w.1 c14
      exact hc_xt_42 x4 x5 x6 h8 _ _ _ w hm hW (lv_sub hl [0, 1, 2] rfl)
    · have w := w.2 c14
      refine lv_aload_n hx hb d_MO_copyRow_12 rfl (lv_at hl 0 rfl) ?_
      obtain ⟨q15, e16, w⟩ := w
      refine hb_get (ci := 4) (C := "BigDeskModel") (T := T_MO) (N := 8) hx hb hts (fun w9 h9 => hT w9 (u_MO w9 h9)) hown hK hW t9 rfl (by decide) 1 (by decide) (hw wd_647) (fun _ h9 => h9) (q := (2, 13)) rfl (v := .ref q15) (ah_f_R e16) d_MO_copyRow_13 ?_
      refine lv_sipush (v := 1300) hx hb d_MO_copyRow_16 (by decide) ?_
      refine lv_iload_n hx hb d_MO_copyRow_19 rfl (lv_at hl 1 rfl) ?_
      refine lv_imul hx hb d_MO_copyRow_20 ?_
      refine lv_iload_n hx hb d_MO_copyRow_21 rfl (lv_at hl 3 rfl) ?_
      refine lv_iadd hx hb d_MO_copyRow_22 ?_
      refine lv_aload_n hx hb d_MO_copyRow_23 rfl (lv_at hl 0 rfl) ?_
      obtain ⟨q17, e18, w⟩ := w
      refine hb_get (ci := 4) (C := "BigDeskModel") (T := T_MO) (N := 8) hx hb hts (fun w9 h9 => hT w9 (u_MO w9 h9)) hown hK hW t9 rfl (by decide) 1 (by decide) (hw wd_647) (fun _ h9 => h9) (q := (2, 13)) rfl (v := .ref q17) (ah_f_R e18) d_MO_copyRow_24 ?_
      refine lv_sipush (v := 1300) hx hb d_MO_copyRow_27 (by decide) ?_
      refine lv_iload_n hx hb d_MO_copyRow_30 rfl (lv_at hl 2 rfl) ?_
      refine lv_imul hx hb d_MO_copyRow_31 ?_
      refine lv_iload_n hx hb d_MO_copyRow_32 rfl (lv_at hl 3 rfl) ?_
      refine lv_iadd hx hb d_MO_copyRow_33 ?_
      obtain ⟨t19, w⟩ := w
      obtain ⟨i20, w⟩ := w
      refine hb_iald hx hb hK hW t19 (by decide) (by decide) 0 rfl i20 d_MO_copyRow_34 ?_
      refine lv_topi (fun v21 ev21 => ?_)
      have w := w v21 ev21
      obtain ⟨t22, w⟩ := w
      obtain ⟨i23, w⟩ := w
      refine hb_iast hx hb hK hW t22 (by decide) (by decide) 0 rfl i23 d_MO_copyRow_35 (fun H locs h24 eh24 hW => ?_)
      have w := w h24 eh24
      have mm25 : ah_m h8 h24 := ah_m.rf.st (by rw [eh24]; rfl) (by rw [eh24]; rfl)
      have hm := hm.tr mm25
      have t26 := mm25.tg t9 (by decide)
      have t27 := mm25.tg t12 (by decide)
      have t28 := mm25.tg t19 (by decide)
      have t29 := mm25.tg t22 (by decide)
      obtain ⟨v30, ev30⟩ : ∃ y9 : Int32, y9 = x7 + 1 := ⟨_, rfl⟩
      have w := w v30 ev30
      refine lv_iinc (v := v30) (lv' := [(3, .int v30), (0, .ref x4), (1, .int x5), (2, .int x6)]) hx hb d_MO_copyRow_36 hl (k := 3) rfl (by rw [ev30]; rfl) (by decide) rfl (fun ls hl => ?_)
      refine lv_goto (tgt := 2) hx hb d_MO_copyRow_39 (by decide) ?_
      exact ih x4 x5 x6 v30 h24 _ _ _ w hm hW (lv_sub hl [1, 2, 3, 0] rfl)
set_option maxHeartbeats 4000000 in
set_option maxRecDepth 100000 in
theorem m_MO_copyRow {l : Launch} (G : zG) (a1 : Nat) (a2 : Int32) (a3 : Int32) (h0 : ah_H) {K : ah_H → Prop} (hst : l.stackTraces = false) (w : w_MO_copyRow a1 a2 a3 h0 K) : Met l y_MO_copyRow (Cond.code y_MO_copyRow b_MO_copyRow 4 none :: zx_T) rm_MO_copyRow (va_Pc [.ref a1, .int a2, .int a3] (ah_B G h0)) (va_Qv (fun h9 => K h9 ∧ ah_m h0 h9) (ah_B G) (fun q => G.2.2 ≤ q)) 0 0 (fun q => G.2.2 ≤ q) := by
  refine Met.ofW (cc := b_MO_copyRow) (maxL := 4) (ret := none) (by decide) rfl ?_
  intro p e s m args below meth c s₁ B hml hv
  have htb := cx_out B (atoms_spec B.pre _ List.mem_cons_self)
  obtain ⟨rfl, hB⟩ := hv
  have C : cx_C p l s m _ meth c G y_MO_copyRow b_MO_copyRow 4 none "BigDeskModel" (Cond.code y_MO_copyRow b_MO_copyRow 4 none :: zx_T) [] := ⟨B.exec, B.bytes, B.returns, hml, findClass_of_methodNamed B.named, atoms_spec B.pre, cx_hd, B.notSynchronized, hB.2.2.1, hB.2.2.2, htb, fun z9 => (name_of_methodNamed B.named B.method).1.trans z9, hst⟩
  obtain ⟨hx, hb, hr, hml, hown, hts, hT, hlk, hK, hX, htb, hin, hst⟩ := id C
  have hw : ∀ {w9 : Cond}, w9 ∈ zx_T → w9.before _ s = true := fun h9 => hts _ (hT _ h9)
  have hW : ah_W G s.heap h0 s.heap [] := ⟨hB.1, hB.2.1, va_S.rf⟩
  have hm : ah_m h0 h0 := ah_m.rf
  have hcl : 0 + 0 ≤ 0 := by decide
  have hsl : 0 + 0 ≤ 0 := by decide
  have hl := lv_entry ([.ref a1, .int a2, .int a3]) (n := 4) (Nat.le_of_ble_eq_true rfl)
  rw [lg_entry_eq]
  generalize (lg_sl ([.ref a1, .int a2, .int a3]) ++ List.replicate (4 - (lg_sl ([.ref a1, .int a2, .int a3])).length) Slot.unset).toArray = ls at hl ⊢
  have hl : lv_has ls 4 [(0, .ref a1), (1, .int a2), (2, .int a3)] := hl
  unfold w_MO_copyRow at w
  refine lv_iconst (v := 0) hx hb d_MO_copyRow_0 (by decide) ?_
  refine lv_istore_n (lv' := [(3, .int (0 : Int32)), (0, .ref a1), (1, .int a2), (2, .int a3)]) hx hb d_MO_copyRow_1 rfl hl (by decide) rfl (fun ls hl => ?_)
  obtain ⟨k66, w⟩ := w
  refine tl_MO_copyRow_2 C (by omega) (by omega) (fun x31 x32 x33 h34 H locs ls w hm hW hl => ?_) k66 a1 a2 a3 (0 : Int32) h0 _ _ _ w hm hW (lv_sub hl [1, 2, 3, 0] rfl)
  · refine lv_aload_n hx hb d_MO_copyRow_42 rfl (lv_at hl 0 rfl) ?_
    obtain ⟨t35, w⟩ := w
    obtain ⟨q36, e37, w⟩ := w
    refine hb_get (ci := 4) (C := "BigDeskModel") (T := T_MO) (N := 8) hx hb hts (fun w9 h9 => hT w9 (u_MO w9 h9)) hown hK hW t35 rfl (by decide) 2 (by decide) (hw wd_648) (fun _ h9 => h9) (q := (2, 14)) rfl (v := .ref q36) (ah_f_R e37) d_MO_copyRow_43 ?_
    refine lv_iload_n hx hb d_MO_copyRow_46 rfl (lv_at hl 1 rfl) ?_
    refine lv_aload_n hx hb d_MO_copyRow_47 rfl (lv_at hl 0 rfl) ?_
    obtain ⟨q38, e39, w⟩ := w
    refine hb_get (ci := 4) (C := "BigDeskModel") (T := T_MO) (N := 8) hx hb hts (fun w9 h9 => hT w9 (u_MO w9 h9)) hown hK hW t35 rfl (by decide) 2 (by decide) (hw wd_648) (fun _ h9 => h9) (q := (2, 14)) rfl (v := .ref q38) (ah_f_R e39) d_MO_copyRow_48 ?_
    refine lv_iload_n hx hb d_MO_copyRow_51 rfl (lv_at hl 2 rfl) ?_
    obtain ⟨t40, w⟩ := w
    obtain ⟨i41, w⟩ := w
    refine hb_iald hx hb hK hW t40 (by decide) (by decide) 0 rfl i41 d_MO_copyRow_52 ?_
    refine lv_topi (fun v42 ev42 => ?_)
    have w := w v42 ev42
    obtain ⟨t43, w⟩ := w
    obtain ⟨i44, w⟩ := w
    refine hb_iast hx hb hK hW t43 (by decide) (by decide) 0 rfl i44 d_MO_copyRow_53 (fun H locs h45 eh45 hW => ?_)
    have w := w h45 eh45
    have mm46 : ah_m h34 h45 := ah_m.rf.st (by rw [eh45]; rfl) (by rw [eh45]; rfl)
    have hm := hm.tr mm46
    have t47 := mm46.tg t35 (by decide)
    have t48 := mm46.tg t40 (by decide)
    have t49 := mm46.tg t43 (by decide)
    refine lv_aload_n hx hb d_MO_copyRow_54 rfl (lv_at hl 0 rfl) ?_
    obtain ⟨q50, e51, w⟩ := w
    refine hb_get (ci := 4) (C := "BigDeskModel") (T := T_MO) (N := 8) hx hb hts (fun w9 h9 => hT w9 (u_MO w9 h9)) hown hK hW t47 rfl (by decide) 3 (by decide) (hw wd_649) (fun _ h9 => h9) (q := (2, 15)) rfl (v := .ref q50) (ah_f_R e51) d_MO_copyRow_55 ?_
    refine lv_iload_n hx hb d_MO_copyRow_58 rfl (lv_at hl 1 rfl) ?_
    refine lv_aload_n hx hb d_MO_copyRow_59 rfl (lv_at hl 0 rfl) ?_
    obtain ⟨q52, e53, w⟩ := w
    refine hb_get (ci := 4) (C := "BigDeskModel") (T := T_MO) (N := 8) hx hb hts (fun w9 h9 => hT w9 (u_MO w9 h9)) hown hK hW t47 rfl (by decide) 3 (by decide) (hw wd_649) (fun _ h9 => h9) (q := (2, 15)) rfl (v := .ref q52) (ah_f_R e53) d_MO_copyRow_60 ?_
    refine lv_iload_n hx hb d_MO_copyRow_63 rfl (lv_at hl 2 rfl) ?_
    obtain ⟨t54, w⟩ := w
    obtain ⟨i55, w⟩ := w
    refine hb_iald hx hb hK hW t54 (by decide) (by decide) 0 rfl i55 d_MO_copyRow_64 ?_
    refine lv_topi (fun v56 ev56 => ?_)
    have w := w v56 ev56
    obtain ⟨t57, w⟩ := w
    obtain ⟨i58, w⟩ := w
    refine hb_iast hx hb hK hW t57 (by decide) (by decide) 0 rfl i58 d_MO_copyRow_65 (fun H locs h59 eh59 hW => ?_)
    have w := w h59 eh59
    have mm60 : ah_m h45 h59 := ah_m.rf.st (by rw [eh59]; rfl) (by rw [eh59]; rfl)
    have hm := hm.tr mm60
    have t61 := mm60.tg t47 (by decide)
    have t62 := mm60.tg t48 (by decide)
    have t63 := mm60.tg t49 (by decide)
    have t64 := mm60.tg t54 (by decide)
    have t65 := mm60.tg t57 (by decide)
    exact hb_vret (K := fun h9 => K h9 ∧ ah_m h0 h9) hx hb hr hlk hK hX hW ⟨w, hm⟩ (by omega) (by omega) d_MO_copyRow_66
set_option maxHeartbeats 4000000 in
set_option maxRecDepth 100000 in
theorem tl_MO_trim_7 {p : Program} {l : Launch} {e : Env} {s : State} {m : MethodId} {args : Array Value} {below : List Frame} {meth : Method} {c : Code} {G : zG} (C : cx_C p l s m args meth c G y_MO_trim b_MO_trim 3 none "BigDeskModel" (Cond.code y_MO_trim b_MO_trim 3 none :: zx_T) []) {K : ah_H → Prop} {h0 : ah_H} {cells slots : Nat} (hcl : cells + 0 ≤ 0) (hsl : slots + 0 ≤ 0) {xt_51 : Nat → Int32 → ah_H → Prop} (hc_xt_51 : ∀ (z0 : Nat) (z1 : Int32) (hz : ah_H) (H : Heap) (locs : List Loc) (ls : Array Slot), xt_51 z0 z1 hz → ah_m h0 hz → ah_W G s.heap hz H locs → lv_has ls 3 [(0, .ref z0), (1, .int z1)] → W p l e rm_MO_trim s m args below meth c H locs cells slots (MQ below (va_Qv (fun h9 => K h9 ∧ ah_m h0 h9) (ah_B G) (fun q => G.2.2 ≤ q)) args s 0 0 (fun q => G.2.2 ≤ q)) (F0 m 51 ls [])) : ∀ (n : Nat) (x13 : Nat) (x14 : Int32) (h15 : ah_H) (H : Heap) (locs : List Loc) (ls : Array Slot), lp_MO_trim_7 xt_51 K n x13 x14 h15 → ah_m h0 h15 → ah_W G s.heap h15 H locs → lv_has ls 3 [(0, .ref x13), (1, .int x14)] → W p l e rm_MO_trim s m args below meth c H locs cells slots (MQ below (va_Qv (fun h9 => K h9 ∧ ah_m h0 h9) (ah_B G) (fun q => G.2.2 ≤ q)) args s 0 0 (fun q => G.2.2 ≤ q)) (F0 m 7 ls []) := by
  obtain ⟨hx, hb, hr, hml, hown, hts, hT, hlk, hK, hX, htb, hin, hst⟩ := id C
  have hw : ∀ {w9 : Cond}, w9 ∈ zx_T → w9.before _ s = true := fun h9 => hts _ (hT _ h9)
  intro n
  induction n with
  | zero =>
    intro x13 x14 h15 H locs ls w
    exact absurd w (by intro z9; exact z9)
  | succ n ih =>
    intro x13 x14 h15 H locs ls w hm hW hl
    unfold lp_MO_trim_7 at w
    refine lv_aload_n hx hb d_MO_trim_7 rfl (lv_at hl 0 rfl) ?_
    obtain ⟨t16, w⟩ := w
    obtain ⟨q17, e18, w⟩ := w
    refine hb_get (ci := 4) (C := "BigDeskModel") (T := T_MO) (N := 8) hx hb hts (fun w9 h9 => hT w9 (u_MO w9 h9)) hown hK hW t16 rfl (by decide) 2 (by decide) (hw wd_648) (fun _ h9 => h9) (q := (2, 14)) rfl (v := .ref q17) (ah_f_R e18) d_MO_trim_8 ?_
    refine lv_iload_n hx hb d_MO_trim_11 rfl (lv_at hl 1 rfl) ?_
    obtain ⟨t19, w⟩ := w
    obtain ⟨i20, w⟩ := w
    refine hb_iald hx hb hK hW t19 (by decide) (by decide) 0 rfl i20 d_MO_trim_12 ?_
    refine lv_if_le (tgt := 51) hx hb d_MO_trim_13 (by decide) (fun c21 => ?_) (fun c21 => ?_)
    · have w := w.1 c21
      exact hc_xt_51 x13 x14 h15 _ _ _ w hm hW (lv_sub hl [0, 1] rfl)
    · have w := w.2 c21
      refine lv_aload_n hx hb d_MO_trim_16 rfl (lv_at hl 0 rfl) ?_
      obtain ⟨q22, e23, w⟩ := w
      refine hb_get (ci := 4) (C := "BigDeskModel") (T := T_MO) (N := 8) hx hb hts (fun w9 h9 => hT w9 (u_MO w9 h9)) hown hK hW t16 rfl (by decide) 1 (by decide) (hw wd_647) (fun _ h9 => h9) (q := (2, 13)) rfl (v := .ref q22) (ah_f_R e23) d_MO_trim_17 ?_
      refine lv_sipush (v := 1300) hx hb d_MO_trim_20 (by decide) ?_
      refine lv_iload_n hx hb d_MO_trim_23 rfl (lv_at hl 1 rfl) ?_
      refine lv_imul hx hb d_MO_trim_24 ?_
      refine lv_aload_n hx hb d_MO_trim_25 rfl (lv_at hl 0 rfl) ?_
      obtain ⟨q24, e25, w⟩ := w
      refine hb_get (ci := 4) (C := "BigDeskModel") (T := T_MO) (N := 8) hx hb hts (fun w9 h9 => hT w9 (u_MO w9 h9)) hown hK hW t16 rfl (by decide) 2 (by decide) (hw wd_648) (fun _ h9 => h9) (q := (2, 14)) rfl (v := .ref q24) (ah_f_R e25) d_MO_trim_26 ?_
      refine lv_iload_n hx hb d_MO_trim_29 rfl (lv_at hl 1 rfl) ?_
      obtain ⟨t26, w⟩ := w
      obtain ⟨i27, w⟩ := w
      refine hb_iald hx hb hK hW t26 (by decide) (by decide) 0 rfl i27 d_MO_trim_30 ?_
      refine lv_iadd hx hb d_MO_trim_31 ?_
      refine lv_iconst (v := 1) hx hb d_MO_trim_32 (by decide) ?_
      refine lv_isub hx hb d_MO_trim_33 ?_
      obtain ⟨t28, w⟩ := w
      obtain ⟨i29, w⟩ := w
      refine hb_iald hx hb hK hW t28 (by decide) (by decide) 0 rfl i29 d_MO_trim_34 ?_
      refine lv_if_ne (tgt := 51) hx hb d_MO_trim_35 (by decide) (fun c30 => ?_) (fun c30 => ?_)
      · have w := w.1 c30
        exact hc_xt_51 x13 x14 h15 _ _ _ w hm hW (lv_sub hl [0, 1] rfl)
      · have w := w.2 c30
        refine lv_aload_n hx hb d_MO_trim_38 rfl (lv_at hl 0 rfl) ?_
        obtain ⟨q31, e32, w⟩ := w
        refine hb_get (ci := 4) (C := "BigDeskModel") (T := T_MO) (N := 8) hx hb hts (fun w9 h9 => hT w9 (u_MO w9 h9)) hown hK hW t16 rfl (by decide) 2 (by decide) (hw wd_648) (fun _ h9 => h9) (q := (2, 14)) rfl (v := .ref q31) (ah_f_R e32) d_MO_trim_39 ?_
        refine lv_iload_n hx hb d_MO_trim_42 rfl (lv_at hl 1 rfl) ?_
        refine lv_dup2_11 hx hb d_MO_trim_43 rfl rfl ?_
        obtain ⟨t33, w⟩ := w
        obtain ⟨i34, w⟩ := w
        refine hb_iald hx hb hK hW t33 (by decide) (by decide) 0 rfl i34 d_MO_trim_44 ?_
        refine lv_iconst (v := 1) hx hb d_MO_trim_45 (by decide) ?_
        refine lv_isub hx hb d_MO_trim_46 ?_
        refine lv_topi (fun v35 ev35 => ?_)
        have w := w v35 ev35
        obtain ⟨i36, w⟩ := w
        refine hb_iast hx hb hK hW t33 (by decide) (by decide) 0 rfl i36 d_MO_trim_47 (fun H locs h37 eh37 hW => ?_)
        have w := w h37 eh37
        have mm38 : ah_m h15 h37 := ah_m.rf.st (by rw [eh37]; rfl) (by rw [eh37]; rfl)
        have hm := hm.tr mm38
        have t39 := mm38.tg t16 (by decide)
        have t40 := mm38.tg t19 (by decide)
        have t41 := mm38.tg t26 (by decide)
        have t42 := mm38.tg t28 (by decide)
        have t43 := mm38.tg t33 (by decide)
        refine lv_goto (tgt := 7) hx hb d_MO_trim_48 (by decide) ?_
        exact ih x13 x14 h37 _ _ _ w hm hW (lv_sub hl [0, 1] rfl)
set_option maxHeartbeats 4000000 in
set_option maxRecDepth 100000 in
theorem tb_MO_trim_67 {p : Program} {l : Launch} {e : Env} {s : State} {m : MethodId} {args : Array Value} {below : List Frame} {meth : Method} {c : Code} {G : zG} (C : cx_C p l s m args meth c G y_MO_trim b_MO_trim 3 none "BigDeskModel" (Cond.code y_MO_trim b_MO_trim 3 none :: zx_T) []) {K : ah_H → Prop} {h0 : ah_H} {cells slots : Nat} (hcl : cells + 0 ≤ 0) (hsl : slots + 0 ≤ 0)   (h56 : ah_H) (H : Heap) (locs : List Loc) (ls : Array Slot) (w : bk_MO_trim_67 K h56) (hm : ah_m h0 h56) (hW : ah_W G s.heap h56 H locs) (hl : lv_has ls 3 []) : W p l e rm_MO_trim s m args below meth c H locs cells slots (MQ below (va_Qv (fun h9 => K h9 ∧ ah_m h0 h9) (ah_B G) (fun q => G.2.2 ≤ q)) args s 0 0 (fun q => G.2.2 ≤ q)) (F0 m 67 ls []) := by
  unfold bk_MO_trim_67 at w
  obtain ⟨hx, hb, hr, hml, hown, hts, hT, hlk, hK, hX, htb, hin, hst⟩ := id C
  have hw : ∀ {w9 : Cond}, w9 ∈ zx_T → w9.before _ s = true := fun h9 => hts _ (hT _ h9)
  exact hb_vret (K := fun h9 => K h9 ∧ ah_m h0 h9) hx hb hr hlk hK hX hW ⟨w, hm⟩ (by omega) (by omega) d_MO_trim_67
set_option maxHeartbeats 4000000 in
set_option maxRecDepth 100000 in
theorem tb_MO_trim_51 {p : Program} {l : Launch} {e : Env} {s : State} {m : MethodId} {args : Array Value} {below : List Frame} {meth : Method} {c : Code} {G : zG} (C : cx_C p l s m args meth c G y_MO_trim b_MO_trim 3 none "BigDeskModel" (Cond.code y_MO_trim b_MO_trim 3 none :: zx_T) []) {K : ah_H → Prop} {h0 : ah_H} {cells slots : Nat} (hcl : cells + 0 ≤ 0) (hsl : slots + 0 ≤ 0)  (x47 : Nat) (x48 : Int32) (h49 : ah_H) (H : Heap) (locs : List Loc) (ls : Array Slot) (w : bk_MO_trim_51 K x47 x48 h49) (hm : ah_m h0 h49) (hW : ah_W G s.heap h49 H locs) (hl : lv_has ls 3 [(0, .ref x47), (1, .int x48)]) : W p l e rm_MO_trim s m args below meth c H locs cells slots (MQ below (va_Qv (fun h9 => K h9 ∧ ah_m h0 h9) (ah_B G) (fun q => G.2.2 ≤ q)) args s 0 0 (fun q => G.2.2 ≤ q)) (F0 m 51 ls []) := by
  unfold bk_MO_trim_51 at w
  obtain ⟨hx, hb, hr, hml, hown, hts, hT, hlk, hK, hX, htb, hin, hst⟩ := id C
  have hw : ∀ {w9 : Cond}, w9 ∈ zx_T → w9.before _ s = true := fun h9 => hts _ (hT _ h9)
  refine lv_aload_n hx hb d_MO_trim_51 rfl (lv_at hl 0 rfl) ?_
  obtain ⟨t50, w⟩ := w
  obtain ⟨q51, e52, w⟩ := w
  refine hb_get (ci := 4) (C := "BigDeskModel") (T := T_MO) (N := 8) hx hb hts (fun w9 h9 => hT w9 (u_MO w9 h9)) hown hK hW t50 rfl (by decide) 2 (by decide) (hw wd_648) (fun _ h9 => h9) (q := (2, 14)) rfl (v := .ref q51) (ah_f_R e52) d_MO_trim_52 ?_
  refine lv_iload_n hx hb d_MO_trim_55 rfl (lv_at hl 1 rfl) ?_
  obtain ⟨t53, w⟩ := w
  obtain ⟨i54, w⟩ := w
  refine hb_iald hx hb hK hW t53 (by decide) (by decide) 0 rfl i54 d_MO_trim_56 ?_
  refine lv_if_ne (tgt := 67) hx hb d_MO_trim_57 (by decide) (fun c55 => ?_) (fun c55 => ?_)
  · have w := w.1 c55
    exact tb_MO_trim_67 C (by omega) (by omega)   h49 _ _ _ w hm hW (lv_sub hl [] rfl)
  · have w := w.2 c55
    refine lv_aload_n hx hb d_MO_trim_60 rfl (lv_at hl 0 rfl) ?_
    obtain ⟨q57, e58, w⟩ := w
    refine hb_get (ci := 4) (C := "BigDeskModel") (T := T_MO) (N := 8) hx hb hts (fun w9 h9 => hT w9 (u_MO w9 h9)) hown hK hW t50 rfl (by decide) 3 (by decide) (hw wd_649) (fun _ h9 => h9) (q := (2, 15)) rfl (v := .ref q57) (ah_f_R e58) d_MO_trim_61 ?_
    refine lv_iload_n hx hb d_MO_trim_64 rfl (lv_at hl 1 rfl) ?_
    refine lv_iconst (v := 0) hx hb d_MO_trim_65 (by decide) ?_
    obtain ⟨t59, w⟩ := w
    obtain ⟨i60, w⟩ := w
    refine hb_iast hx hb hK hW t59 (by decide) (by decide) 0 rfl i60 d_MO_trim_66 (fun H locs h61 eh61 hW => ?_)
    have w := w h61 eh61
    have mm62 : ah_m h49 h61 := ah_m.rf.st (by rw [eh61]; rfl) (by rw [eh61]; rfl)
    have hm := hm.tr mm62
    have t63 := mm62.tg t50 (by decide)
    have t64 := mm62.tg t53 (by decide)
    have t65 := mm62.tg t59 (by decide)
    exact tb_MO_trim_67 C (by omega) (by omega)   h61 _ _ _ w hm hW (lv_sub hl [] rfl)
set_option maxHeartbeats 4000000 in
set_option maxRecDepth 100000 in
theorem m_MO_trim {l : Launch} (G : zG) (a1 : Nat) (a2 : Int32) (a3 : Int32) (h0 : ah_H) {K : ah_H → Prop} (hst : l.stackTraces = false) (w : w_MO_trim a1 a2 a3 h0 K) : Met l y_MO_trim (Cond.code y_MO_trim b_MO_trim 3 none :: zx_T) rm_MO_trim (va_Pc [.ref a1, .int a2, .int a3] (ah_B G h0)) (va_Qv (fun h9 => K h9 ∧ ah_m h0 h9) (ah_B G) (fun q => G.2.2 ≤ q)) 0 0 (fun q => G.2.2 ≤ q) := by
  refine Met.ofW (cc := b_MO_trim) (maxL := 3) (ret := none) (by decide) rfl ?_
  intro p e s m args below meth c s₁ B hml hv
  have htb := cx_out B (atoms_spec B.pre _ List.mem_cons_self)
  obtain ⟨rfl, hB⟩ := hv
  have C : cx_C p l s m _ meth c G y_MO_trim b_MO_trim 3 none "BigDeskModel" (Cond.code y_MO_trim b_MO_trim 3 none :: zx_T) [] := ⟨B.exec, B.bytes, B.returns, hml, findClass_of_methodNamed B.named, atoms_spec B.pre, cx_hd, B.notSynchronized, hB.2.2.1, hB.2.2.2, htb, fun z9 => (name_of_methodNamed B.named B.method).1.trans z9, hst⟩
  obtain ⟨hx, hb, hr, hml, hown, hts, hT, hlk, hK, hX, htb, hin, hst⟩ := id C
  have hw : ∀ {w9 : Cond}, w9 ∈ zx_T → w9.before _ s = true := fun h9 => hts _ (hT _ h9)
  have hW : ah_W G s.heap h0 s.heap [] := ⟨hB.1, hB.2.1, va_S.rf⟩
  have hm : ah_m h0 h0 := ah_m.rf
  have hcl : 0 + 0 ≤ 0 := by decide
  have hsl : 0 + 0 ≤ 0 := by decide
  have hl := lv_entry ([.ref a1, .int a2, .int a3]) (n := 3) (Nat.le_of_ble_eq_true rfl)
  rw [lg_entry_eq]
  generalize (lg_sl ([.ref a1, .int a2, .int a3]) ++ List.replicate (3 - (lg_sl ([.ref a1, .int a2, .int a3])).length) Slot.unset).toArray = ls at hl ⊢
  have hl : lv_has ls 3 [(0, .ref a1), (1, .int a2), (2, .int a3)] := hl
  unfold w_MO_trim at w
  refine lv_aload_n hx hb d_MO_trim_0 rfl (lv_at hl 0 rfl) ?_
  obtain ⟨t4, w⟩ := w
  obtain ⟨q5, e6, w⟩ := w
  refine hb_get (ci := 4) (C := "BigDeskModel") (T := T_MO) (N := 8) hx hb hts (fun w9 h9 => hT w9 (u_MO w9 h9)) hown hK hW t4 rfl (by decide) 2 (by decide) (hw wd_648) (fun _ h9 => h9) (q := (2, 14)) rfl (v := .ref q5) (ah_f_R e6) d_MO_trim_1 ?_
  refine lv_iload_n hx hb d_MO_trim_4 rfl (lv_at hl 1 rfl) ?_
  refine lv_iload_n hx hb d_MO_trim_5 rfl (lv_at hl 2 rfl) ?_
  obtain ⟨t7, w⟩ := w
  obtain ⟨i8, w⟩ := w
  refine hb_iast hx hb hK hW t7 (by decide) (by decide) 0 rfl i8 d_MO_trim_6 (fun H locs h9 eh9 hW => ?_)
  have w := w h9 eh9
  have mm10 : ah_m h0 h9 := ah_m.rf.st (by rw [eh9]; rfl) (by rw [eh9]; rfl)
  have hm := hm.tr mm10
  have t11 := mm10.tg t4 (by decide)
  have t12 := mm10.tg t7 (by decide)
  obtain ⟨k66, w⟩ := w
  refine tl_MO_trim_7 C (by omega) (by omega) (fun x44 x45 h46 H locs ls w hm hW hl => ?_) k66 a1 a2 h9 _ _ _ w hm hW (lv_sub hl [0, 1] rfl)
  · exact tb_MO_trim_51 C (by omega) (by omega)  x44 x45 h46 _ _ _ w hm hW (lv_sub hl [0, 1] rfl)
set_option maxHeartbeats 4000000 in
set_option maxRecDepth 100000 in
theorem tl_MO_against_45 {p : Program} {l : Launch} {e : Env} {s : State} {m : MethodId} {args : Array Value} {below : List Frame} {meth : Method} {c : Code} {G : zG} (C : cx_C p l s m args meth c G y_MO_against b_MO_against 4 (some .int) "BigDeskModel" (Cond.code y_MO_against b_MO_against 4 (some .int) :: zx_T) []) {K : Int32 → ah_H → Prop} {h0 : ah_H} {cells slots : Nat} (hcl : cells + 0 ≤ 0) (hsl : slots + 0 ≤ 0) {xt_64 : Nat → Int32 → Int32 → Int32 → ah_H → Prop} {xt_91 : ah_H → Prop} (hc_xt_64 : ∀ (z0 : Nat) (z1 : Int32) (z2 : Int32) (z3 : Int32) (hz : ah_H) (H : Heap) (locs : List Loc) (ls : Array Slot), xt_64 z0 z1 z2 z3 hz → ah_m h0 hz → ah_W G s.heap hz H locs → lv_has ls 4 [(0, .ref z0), (1, .int z1), (2, .int z2), (3, .int z3)] → W p l e rm_MO_against s m args below meth c H locs cells slots (MQ below (va_Qi (fun r9 h9 => K r9 h9 ∧ ah_m h0 h9) (ah_B G) (fun q => G.2.2 ≤ q)) args s 0 0 (fun q => G.2.2 ≤ q)) (F0 m 64 ls [])) (hc_xt_91 : ∀ (hz : ah_H) (H : Heap) (locs : List Loc) (ls : Array Slot), xt_91 hz → ah_m h0 hz → ah_W G s.heap hz H locs → lv_has ls 4 [] → W p l e rm_MO_against s m args below meth c H locs cells slots (MQ below (va_Qi (fun r9 h9 => K r9 h9 ∧ ah_m h0 h9) (ah_B G) (fun q => G.2.2 ≤ q)) args s 0 0 (fun q => G.2.2 ≤ q)) (F0 m 91 ls [])) : ∀ (n : Nat) (x19 : Nat) (x20 : Int32) (x21 : Int32) (x22 : Int32) (h23 : ah_H) (H : Heap) (locs : List Loc) (ls : Array Slot), lp_MO_against_45 xt_64 xt_91 K n x19 x20 x21 x22 h23 → ah_m h0 h23 → ah_W G s.heap h23 H locs → lv_has ls 4 [(0, .ref x19), (1, .int x20), (2, .int x21), (3, .int x22)] → W p l e rm_MO_against s m args below meth c H locs cells slots (MQ below (va_Qi (fun r9 h9 => K r9 h9 ∧ ah_m h0 h9) (ah_B G) (fun q => G.2.2 ≤ q)) args s 0 0 (fun q => G.2.2 ≤ q)) (F0 m 45 ls []) := by
  obtain ⟨hx, hb, hr, hml, hown, hts, hT, hlk, hK, hX, htb, hin, hst⟩ := id C
  have hw : ∀ {w9 : Cond}, w9 ∈ zx_T → w9.before _ s = true := fun h9 => hts _ (hT _ h9)
  intro n
  induction n with
  | zero =>
    intro x19 x20 x21 x22 h23 H locs ls w
    exact absurd w (by intro z9; exact z9)
  | succ n ih =>
    intro x19 x20 x21 x22 h23 H locs ls w hm hW hl
    unfold lp_MO_against_45 at w
    refine lv_iload_n hx hb d_MO_against_45 rfl (lv_at hl 3 rfl) ?_
    refine lv_if_lt (tgt := 91) hx hb d_MO_against_46 (by decide) (fun c24 => ?_) (fun c24 => ?_)
    · have w := w.1 c24
      exact hc_xt_91  h23 _ _ _ w hm hW (lv_sub hl [] rfl)
    · have w := w.2 c24
      refine lv_aload_n hx hb d_MO_against_49 rfl (lv_at hl 0 rfl) ?_
      refine lv_iload_n hx hb d_MO_against_50 rfl (lv_at hl 1 rfl) ?_
      refine lv_iload_n hx hb d_MO_against_51 rfl (lv_at hl 3 rfl) ?_
      obtain ⟨t25, w⟩ := w
      refine hb_calli (va_runV (As := [.int x20, .int x22]) (rest := []) ⟨hx, hb, hml, hown, hts⟩ (m_MO_at G x19 x20 x22 h23 hst w) (cwV 2 hts (zx_gV hT wd_642 wd_644 wd_s14 wd_5 wd_645) rfl rfl rfl (by decide +kernel) ⟨Nat.le_of_ble_eq_true rfl, Nat.le_of_ble_eq_true rfl⟩) (hb_preV hK hX hW t25 (by decide) rfl) rfl rfl hl.1 rfl (lv_room (Nat.le_of_ble_eq_true rfl)) d_MO_against_52 ⟨(by show _ ≤ 0; omega), (by show _ ≤ 0; omega)⟩) hW (fun r27 h26 H locs hk hW => ?_)
      obtain ⟨w, mm28⟩ := hk
      have w := w mm28
      have hm := hm.tr mm28
      have t29 := mm28.tg t25 (by decide)
      refine lv_aload_n hx hb d_MO_against_55 rfl (lv_at hl 0 rfl) ?_
      refine lv_iload_n hx hb d_MO_against_56 rfl (lv_at hl 2 rfl) ?_
      refine lv_iload_n hx hb d_MO_against_57 rfl (lv_at hl 3 rfl) ?_
      refine hb_calli (va_runV (As := [.int x21, .int x22]) (rest := [.int r27]) ⟨hx, hb, hml, hown, hts⟩ (m_MO_at G x19 x21 x22 h26 hst w) (cwV 2 hts (zx_gV hT wd_642 wd_644 wd_s14 wd_5 wd_645) rfl rfl rfl (by decide +kernel) ⟨Nat.le_of_ble_eq_true rfl, Nat.le_of_ble_eq_true rfl⟩) (hb_preV hK hX hW t29 (by decide) rfl) rfl rfl hl.1 rfl (lv_room (Nat.le_of_ble_eq_true rfl)) d_MO_against_58 ⟨(by show _ ≤ 0; omega), (by show _ ≤ 0; omega)⟩) hW (fun r31 h30 H locs hk hW => ?_)
      obtain ⟨w, mm32⟩ := hk
      have w := w mm32
      have hm := hm.tr mm32
      have t33 := mm32.tg t29 (by decide)
      refine lv_icmp_eq (tgt := 85) hx hb d_MO_against_61 (by decide) (fun c34 => ?_) (fun c34 => ?_)
      · have w := w.1 c34
        obtain ⟨v35, ev35⟩ : ∃ y9 : Int32, y9 = x22 + (-1) := ⟨_, rfl⟩
        have w := w v35 ev35
        refine lv_iinc (v := v35) (lv' := [(3, .int v35), (0, .ref x19), (1, .int x20), (2, .int x21)]) hx hb d_MO_against_85 hl (k := 3) rfl (by rw [ev35]; rfl) (by decide) rfl (fun ls hl => ?_)
        refine lv_goto (tgt := 45) hx hb d_MO_against_88 (by decide) ?_
        exact ih x19 x20 x21 v35 h30 _ _ _ w hm hW (lv_sub hl [1, 2, 3, 0] rfl)
      · have w := w.2 c34
        exact hc_xt_64 x19 x20 x21 x22 h30 _ _ _ w hm hW (lv_sub hl [0, 1, 2, 3] rfl)
set_option maxHeartbeats 4000000 in
set_option maxRecDepth 100000 in
theorem tb_MO_against_84 {p : Program} {l : Launch} {e : Env} {s : State} {m : MethodId} {args : Array Value} {below : List Frame} {meth : Method} {c : Code} {G : zG} (C : cx_C p l s m args meth c G y_MO_against b_MO_against 4 (some .int) "BigDeskModel" (Cond.code y_MO_against b_MO_against 4 (some .int) :: zx_T) []) {K : Int32 → ah_H → Prop} {h0 : ah_H} {cells slots : Nat} (hcl : cells + 0 ≤ 0) (hsl : slots + 0 ≤ 0)  (s51 : Int32) (h52 : ah_H) (H : Heap) (locs : List Loc) (ls : Array Slot) (w : bk_MO_against_84 K s51 h52) (hm : ah_m h0 h52) (hW : ah_W G s.heap h52 H locs) (hl : lv_has ls 4 []) : W p l e rm_MO_against s m args below meth c H locs cells slots (MQ below (va_Qi (fun r9 h9 => K r9 h9 ∧ ah_m h0 h9) (ah_B G) (fun q => G.2.2 ≤ q)) args s 0 0 (fun q => G.2.2 ≤ q)) (F0 m 84 ls [.int s51]) := by
  unfold bk_MO_against_84 at w
  obtain ⟨hx, hb, hr, hml, hown, hts, hT, hlk, hK, hX, htb, hin, hst⟩ := id C
  have hw : ∀ {w9 : Cond}, w9 ∈ zx_T → w9.before _ s = true := fun h9 => hts _ (hT _ h9)
  exact hb_iret (K := fun r9 h9 => K r9 h9 ∧ ah_m h0 h9) hx hb hr hlk hK hX hW ⟨w, hm⟩ (by omega) (by omega) d_MO_against_84
set_option maxHeartbeats 4000000 in
set_option maxRecDepth 100000 in
theorem tb_MO_against_35 {p : Program} {l : Launch} {e : Env} {s : State} {m : MethodId} {args : Array Value} {below : List Frame} {meth : Method} {c : Code} {G : zG} (C : cx_C p l s m args meth c G y_MO_against b_MO_against 4 (some .int) "BigDeskModel" (Cond.code y_MO_against b_MO_against 4 (some .int) :: zx_T) []) {K : Int32 → ah_H → Prop} {h0 : ah_H} {cells slots : Nat} (hcl : cells + 0 ≤ 0) (hsl : slots + 0 ≤ 0)  (s64 : Int32) (h65 : ah_H) (H : Heap) (locs : List Loc) (ls : Array Slot) (w : bk_MO_against_35 K s64 h65) (hm : ah_m h0 h65) (hW : ah_W G s.heap h65 H locs) (hl : lv_has ls 4 []) : W p l e rm_MO_against s m args below meth c H locs cells slots (MQ below (va_Qi (fun r9 h9 => K r9 h9 ∧ ah_m h0 h9) (ah_B G) (fun q => G.2.2 ≤ q)) args s 0 0 (fun q => G.2.2 ≤ q)) (F0 m 35 ls [.int s64]) := by
  unfold bk_MO_against_35 at w
  obtain ⟨hx, hb, hr, hml, hown, hts, hT, hlk, hK, hX, htb, hin, hst⟩ := id C
  have hw : ∀ {w9 : Cond}, w9 ∈ zx_T → w9.before _ s = true := fun h9 => hts _ (hT _ h9)
  exact hb_iret (K := fun r9 h9 => K r9 h9 ∧ ah_m h0 h9) hx hb hr hlk hK hX hW ⟨w, hm⟩ (by omega) (by omega) d_MO_against_35
set_option maxHeartbeats 4000000 in
set_option maxRecDepth 100000 in
theorem m_MO_against {l : Launch} (G : zG) (a1 : Nat) (a2 : Int32) (a3 : Int32) (h0 : ah_H) {K : Int32 → ah_H → Prop} (hst : l.stackTraces = false) (w : w_MO_against a1 a2 a3 h0 K) : Met l y_MO_against (Cond.code y_MO_against b_MO_against 4 (some .int) :: zx_T) rm_MO_against (va_Pc [.ref a1, .int a2, .int a3] (ah_B G h0)) (va_Qi (fun r9 h9 => K r9 h9 ∧ ah_m h0 h9) (ah_B G) (fun q => G.2.2 ≤ q)) 0 0 (fun q => G.2.2 ≤ q) := by
  refine Met.ofW (cc := b_MO_against) (maxL := 4) (ret := (some .int)) (by decide) rfl ?_
  intro p e s m args below meth c s₁ B hml hv
  have htb := cx_out B (atoms_spec B.pre _ List.mem_cons_self)
  obtain ⟨rfl, hB⟩ := hv
  have C : cx_C p l s m _ meth c G y_MO_against b_MO_against 4 (some .int) "BigDeskModel" (Cond.code y_MO_against b_MO_against 4 (some .int) :: zx_T) [] := ⟨B.exec, B.bytes, B.returns, hml, findClass_of_methodNamed B.named, atoms_spec B.pre, cx_hd, B.notSynchronized, hB.2.2.1, hB.2.2.2, htb, fun z9 => (name_of_methodNamed B.named B.method).1.trans z9, hst⟩
  obtain ⟨hx, hb, hr, hml, hown, hts, hT, hlk, hK, hX, htb, hin, hst⟩ := id C
  have hw : ∀ {w9 : Cond}, w9 ∈ zx_T → w9.before _ s = true := fun h9 => hts _ (hT _ h9)
  have hW : ah_W G s.heap h0 s.heap [] := ⟨hB.1, hB.2.1, va_S.rf⟩
  have hm : ah_m h0 h0 := ah_m.rf
  have hcl : 0 + 0 ≤ 0 := by decide
  have hsl : 0 + 0 ≤ 0 := by decide
  have hl := lv_entry ([.ref a1, .int a2, .int a3]) (n := 4) (Nat.le_of_ble_eq_true rfl)
  rw [lg_entry_eq]
  generalize (lg_sl ([.ref a1, .int a2, .int a3]) ++ List.replicate (4 - (lg_sl ([.ref a1, .int a2, .int a3])).length) Slot.unset).toArray = ls at hl ⊢
  have hl : lv_has ls 4 [(0, .ref a1), (1, .int a2), (2, .int a3)] := hl
  unfold w_MO_against at w
  refine lv_aload_n hx hb d_MO_against_0 rfl (lv_at hl 0 rfl) ?_
  obtain ⟨t4, w⟩ := w
  obtain ⟨q5, e6, w⟩ := w
  refine hb_get (ci := 4) (C := "BigDeskModel") (T := T_MO) (N := 8) hx hb hts (fun w9 h9 => hT w9 (u_MO w9 h9)) hown hK hW t4 rfl (by decide) 2 (by decide) (hw wd_648) (fun _ h9 => h9) (q := (2, 14)) rfl (v := .ref q5) (ah_f_R e6) d_MO_against_1 ?_
  refine lv_iload_n hx hb d_MO_against_4 rfl (lv_at hl 1 rfl) ?_
  obtain ⟨t7, w⟩ := w
  obtain ⟨i8, w⟩ := w
  refine hb_iald hx hb hK hW t7 (by decide) (by decide) 0 rfl i8 d_MO_against_5 ?_
  refine lv_aload_n hx hb d_MO_against_6 rfl (lv_at hl 0 rfl) ?_
  obtain ⟨q9, e10, w⟩ := w
  refine hb_get (ci := 4) (C := "BigDeskModel") (T := T_MO) (N := 8) hx hb hts (fun w9 h9 => hT w9 (u_MO w9 h9)) hown hK hW t4 rfl (by decide) 2 (by decide) (hw wd_648) (fun _ h9 => h9) (q := (2, 14)) rfl (v := .ref q9) (ah_f_R e10) d_MO_against_7 ?_
  refine lv_iload_n hx hb d_MO_against_10 rfl (lv_at hl 2 rfl) ?_
  obtain ⟨t11, w⟩ := w
  obtain ⟨i12, w⟩ := w
  refine hb_iald hx hb hK hW t11 (by decide) (by decide) 0 rfl i12 d_MO_against_11 ?_
  refine lv_icmp_eq (tgt := 36) hx hb d_MO_against_12 (by decide) (fun c13 => ?_) (fun c13 => ?_)
  · have w := w.1 c13
    refine lv_aload_n hx hb d_MO_against_36 rfl (lv_at hl 0 rfl) ?_
    obtain ⟨q14, e15, w⟩ := w
    refine hb_get (ci := 4) (C := "BigDeskModel") (T := T_MO) (N := 8) hx hb hts (fun w9 h9 => hT w9 (u_MO w9 h9)) hown hK hW t4 rfl (by decide) 2 (by decide) (hw wd_648) (fun _ h9 => h9) (q := (2, 14)) rfl (v := .ref q14) (ah_f_R e15) d_MO_against_37 ?_
    refine lv_iload_n hx hb d_MO_against_40 rfl (lv_at hl 1 rfl) ?_
    obtain ⟨t16, w⟩ := w
    obtain ⟨i17, w⟩ := w
    refine hb_iald hx hb hK hW t16 (by decide) (by decide) 0 rfl i17 d_MO_against_41 ?_
    refine lv_iconst (v := 1) hx hb d_MO_against_42 (by decide) ?_
    refine lv_isub hx hb d_MO_against_43 ?_
    refine lv_topi (fun v18 ev18 => ?_)
    have w := w v18 ev18
    refine lv_istore_n (lv' := [(3, .int v18), (0, .ref a1), (1, .int a2), (2, .int a3)]) hx hb d_MO_against_44 rfl hl (by decide) rfl (fun ls hl => ?_)
    obtain ⟨k54, w⟩ := w
    refine tl_MO_against_45 C (by omega) (by omega) (fun x36 x37 x38 x39 h40 H locs ls w hm hW hl => ?_) (fun  h53 H locs ls w hm hW hl => ?_) k54 a1 a2 a3 v18 h0 _ _ _ w hm hW (lv_sub hl [1, 2, 3, 0] rfl)
    · refine lv_aload_n hx hb d_MO_against_64 rfl (lv_at hl 0 rfl) ?_
      refine lv_iload_n hx hb d_MO_against_65 rfl (lv_at hl 1 rfl) ?_
      refine lv_iload_n hx hb d_MO_against_66 rfl (lv_at hl 3 rfl) ?_
      obtain ⟨t41, w⟩ := w
      refine hb_calli (va_runV (As := [.int x37, .int x39]) (rest := []) ⟨hx, hb, hml, hown, hts⟩ (m_MO_at G x36 x37 x39 h40 hst w) (cwV 2 hts (zx_gV hT wd_642 wd_644 wd_s14 wd_5 wd_645) rfl rfl rfl (by decide +kernel) ⟨Nat.le_of_ble_eq_true rfl, Nat.le_of_ble_eq_true rfl⟩) (hb_preV hK hX hW t41 (by decide) rfl) rfl rfl hl.1 rfl (lv_room (Nat.le_of_ble_eq_true rfl)) d_MO_against_67 ⟨(by show _ ≤ 0; omega), (by show _ ≤ 0; omega)⟩) hW (fun r43 h42 H locs hk hW => ?_)
      obtain ⟨w, mm44⟩ := hk
      have w := w mm44
      have hm := hm.tr mm44
      have t45 := mm44.tg t41 (by decide)
      refine lv_aload_n hx hb d_MO_against_70 rfl (lv_at hl 0 rfl) ?_
      refine lv_iload_n hx hb d_MO_against_71 rfl (lv_at hl 2 rfl) ?_
      refine lv_iload_n hx hb d_MO_against_72 rfl (lv_at hl 3 rfl) ?_
      refine hb_calli (va_runV (As := [.int x38, .int x39]) (rest := [.int r43]) ⟨hx, hb, hml, hown, hts⟩ (m_MO_at G x36 x38 x39 h42 hst w) (cwV 2 hts (zx_gV hT wd_642 wd_644 wd_s14 wd_5 wd_645) rfl rfl rfl (by decide +kernel) ⟨Nat.le_of_ble_eq_true rfl, Nat.le_of_ble_eq_true rfl⟩) (hb_preV hK hX hW t45 (by decide) rfl) rfl rfl hl.1 rfl (lv_room (Nat.le_of_ble_eq_true rfl)) d_MO_against_73 ⟨(by show _ ≤ 0; omega), (by show _ ≤ 0; omega)⟩) hW (fun r47 h46 H locs hk hW => ?_)
      obtain ⟨w, mm48⟩ := hk
      have w := w mm48
      have hm := hm.tr mm48
      have t49 := mm48.tg t45 (by decide)
      refine lv_icmp_ge (tgt := 83) hx hb d_MO_against_76 (by decide) (fun c50 => ?_) (fun c50 => ?_)
      · have w := w.1 c50
        refine lv_iconst (v := 1) hx hb d_MO_against_83 (by decide) ?_
        exact tb_MO_against_84 C (by omega) (by omega)  (1 : Int32) h46 _ _ _ w hm hW (lv_sub hl [] rfl)
      · have w := w.2 c50
        refine lv_iconst (v := -1) hx hb d_MO_against_79 (by decide) ?_
        refine lv_goto (tgt := 84) hx hb d_MO_against_80 (by decide) ?_
        exact tb_MO_against_84 C (by omega) (by omega)  (-1 : Int32) h46 _ _ _ w hm hW (lv_sub hl [] rfl)
    · refine lv_iconst (v := 0) hx hb d_MO_against_91 (by decide) ?_
      exact hb_iret (K := fun r9 h9 => K r9 h9 ∧ ah_m h0 h9) hx hb hr hlk hK hX hW ⟨w, hm⟩ (by omega) (by omega) d_MO_against_92
  · have w := w.2 c13
    refine lv_aload_n hx hb d_MO_against_15 rfl (lv_at hl 0 rfl) ?_
    obtain ⟨q55, e56, w⟩ := w
    refine hb_get (ci := 4) (C := "BigDeskModel") (T := T_MO) (N := 8) hx hb hts (fun w9 h9 => hT w9 (u_MO w9 h9)) hown hK hW t4 rfl (by decide) 2 (by decide) (hw wd_648) (fun _ h9 => h9) (q := (2, 14)) rfl (v := .ref q55) (ah_f_R e56) d_MO_against_16 ?_
    refine lv_iload_n hx hb d_MO_against_19 rfl (lv_at hl 1 rfl) ?_
    obtain ⟨t57, w⟩ := w
    obtain ⟨i58, w⟩ := w
    refine hb_iald hx hb hK hW t57 (by decide) (by decide) 0 rfl i58 d_MO_against_20 ?_
    refine lv_aload_n hx hb d_MO_against_21 rfl (lv_at hl 0 rfl) ?_
    obtain ⟨q59, e60, w⟩ := w
    refine hb_get (ci := 4) (C := "BigDeskModel") (T := T_MO) (N := 8) hx hb hts (fun w9 h9 => hT w9 (u_MO w9 h9)) hown hK hW t4 rfl (by decide) 2 (by decide) (hw wd_648) (fun _ h9 => h9) (q := (2, 14)) rfl (v := .ref q59) (ah_f_R e60) d_MO_against_22 ?_
    refine lv_iload_n hx hb d_MO_against_25 rfl (lv_at hl 2 rfl) ?_
    obtain ⟨t61, w⟩ := w
    obtain ⟨i62, w⟩ := w
    refine hb_iald hx hb hK hW t61 (by decide) (by decide) 0 rfl i62 d_MO_against_26 ?_
    refine lv_icmp_ge (tgt := 34) hx hb d_MO_against_27 (by decide) (fun c63 => ?_) (fun c63 => ?_)
    · have w := w.1 c63
      refine lv_iconst (v := 1) hx hb d_MO_against_34 (by decide) ?_
      exact tb_MO_against_35 C (by omega) (by omega)  (1 : Int32) h0 _ _ _ w hm hW (lv_sub hl [] rfl)
    · have w := w.2 c63
      refine lv_iconst (v := -1) hx hb d_MO_against_30 (by decide) ?_
      refine lv_goto (tgt := 35) hx hb d_MO_against_31 (by decide) ?_
      exact tb_MO_against_35 C (by omega) (by omega)  (-1 : Int32) h0 _ _ _ w hm hW (lv_sub hl [] rfl)
set_option maxHeartbeats 4000000 in
set_option maxRecDepth 100000 in
theorem tb_MO_joins_90 {p : Program} {l : Launch} {e : Env} {s : State} {m : MethodId} {args : Array Value} {below : List Frame} {meth : Method} {c : Code} {G : zG} (C : cx_C p l s m args meth c G y_MO_joins b_MO_joins 9 none "BigDeskModel" (Cond.code y_MO_joins b_MO_joins 9 none :: zx_T) []) {K : ah_H → Prop} {h0 : ah_H} {cells slots : Nat} (hcl : cells + 0 ≤ 0) (hsl : slots + 0 ≤ 0) {rc_38 : Nat → Int32 → Int32 → Int32 → Int32 → Int32 → Int32 → Int32 → ah_H → Prop} (hc_rc_38 : ∀ (z0 : Nat) (z1 : Int32) (z2 : Int32) (z3 : Int32) (z4 : Int32) (z5 : Int32) (z6 : Int32) (z7 : Int32) (hz : ah_H) (H : Heap) (locs : List Loc) (ls : Array Slot), rc_38 z0 z1 z2 z3 z4 z5 z6 z7 hz → ah_m h0 hz → ah_W G s.heap hz H locs → lv_has ls 9 [(0, .ref z0), (1, .int z1), (2, .int z2), (3, .int z3), (4, .int z4), (5, .int z5), (6, .int z6), (7, .int z7)] → W p l e rm_MO_joins s m args below meth c H locs cells slots (MQ below (va_Qv (fun h9 => K h9 ∧ ah_m h0 h9) (ah_B G) (fun q => G.2.2 ≤ q)) args s 0 0 (fun q => G.2.2 ≤ q)) (F0 m 38 ls [])) (x49 : Nat) (x50 : Int32) (x51 : Int32) (x52 : Int32) (x53 : Int32) (x54 : Int32) (x55 : Int32) (x56 : Int32) (s57 : Int32) (h58 : ah_H) (H : Heap) (locs : List Loc) (ls : Array Slot) (w : bk_MO_joins_90 rc_38 K x49 x50 x51 x52 x53 x54 x55 x56 s57 h58) (hm : ah_m h0 h58) (hW : ah_W G s.heap h58 H locs) (hl : lv_has ls 9 [(0, .ref x49), (1, .int x50), (2, .int x51), (3, .int x52), (4, .int x53), (5, .int x54), (7, .int x55), (8, .int x56)]) : W p l e rm_MO_joins s m args below meth c H locs cells slots (MQ below (va_Qv (fun h9 => K h9 ∧ ah_m h0 h9) (ah_B G) (fun q => G.2.2 ≤ q)) args s 0 0 (fun q => G.2.2 ≤ q)) (F0 m 90 ls [.int s57]) := by
  unfold bk_MO_joins_90 at w
  obtain ⟨hx, hb, hr, hml, hown, hts, hT, hlk, hK, hX, htb, hin, hst⟩ := id C
  have hw : ∀ {w9 : Cond}, w9 ∈ zx_T → w9.before _ s = true := fun h9 => hts _ (hT _ h9)
  refine lv_istore (lv' := [(6, .int s57), (0, .ref x49), (1, .int x50), (2, .int x51), (3, .int x52), (4, .int x53), (5, .int x54), (7, .int x55), (8, .int x56)]) hx hb d_MO_joins_90 hl (by decide) rfl (fun ls hl => ?_)
  refine lv_aload_n hx hb d_MO_joins_92 rfl (lv_at hl 1 rfl) ?_
  obtain ⟨t59, w⟩ := w
  obtain ⟨q60, e61, w⟩ := w
  refine hb_get (ci := 4) (C := "BigDeskModel") (T := T_MO) (N := 8) hx hb hts (fun w9 h9 => hT w9 (u_MO w9 h9)) hown hK hW t59 rfl (by decide) 1 (by decide) (hw wd_647) (fun _ h9 => h9) (q := (2, 13)) rfl (v := .ref q60) (ah_f_R e61) d_MO_joins_93 ?_
  refine lv_sipush (v := 1300) hx hb d_MO_joins_96 (by decide) ?_
  refine lv_iload_n hx hb d_MO_joins_99 rfl (lv_at hl 2 rfl) ?_
  refine lv_imul hx hb d_MO_joins_100 ?_
  refine lv_iload hx hb d_MO_joins_101 (lv_at hl 7 rfl) ?_
  refine lv_iadd hx hb d_MO_joins_103 ?_
  refine lv_iload hx hb d_MO_joins_104 (lv_at hl 8 rfl) ?_
  refine lv_iload hx hb d_MO_joins_106 (lv_at hl 0 rfl) ?_
  refine lv_sipush (v := 10000) hx hb d_MO_joins_108 (by decide) ?_
  refine lv_imul hx hb d_MO_joins_111 ?_
  refine lv_isub hx hb d_MO_joins_112 ?_
  refine lv_topi (fun v62 ev62 => ?_)
  have w := w v62 ev62
  obtain ⟨t63, w⟩ := w
  obtain ⟨i64, w⟩ := w
  refine hb_iast hx hb hK hW t63 (by decide) (by decide) 0 rfl i64 d_MO_joins_113 (fun H locs h65 eh65 hW => ?_)
  have w := w h65 eh65
  have mm66 : ah_m h58 h65 := ah_m.rf.st (by rw [eh65]; rfl) (by rw [eh65]; rfl)
  have hm := hm.tr mm66
  have t67 := mm66.tg t59 (by decide)
  have t68 := mm66.tg t63 (by decide)
  obtain ⟨v69, ev69⟩ : ∃ y9 : Int32, y9 = x55 + 1 := ⟨_, rfl⟩
  have w := w v69 ev69
  refine lv_iinc (v := v69) (lv' := [(7, .int v69), (6, .int s57), (0, .ref x49), (1, .int x50), (2, .int x51), (3, .int x52), (4, .int x53), (5, .int x54), (8, .int x56)]) hx hb d_MO_joins_114 hl (k := 7) rfl (by rw [ev69]; rfl) (by decide) rfl (fun ls hl => ?_)
  refine lv_goto (tgt := 38) hx hb d_MO_joins_117 (by decide) ?_
  exact hc_rc_38 x49 x50 x51 x52 x53 x54 s57 v69 h65 _ _ _ w hm hW (lv_sub hl [2, 3, 4, 5, 6, 7, 1, 0] rfl)
set_option maxHeartbeats 4000000 in
set_option maxRecDepth 100000 in
theorem tl_MO_joins_38 {p : Program} {l : Launch} {e : Env} {s : State} {m : MethodId} {args : Array Value} {below : List Frame} {meth : Method} {c : Code} {G : zG} (C : cx_C p l s m args meth c G y_MO_joins b_MO_joins 9 none "BigDeskModel" (Cond.code y_MO_joins b_MO_joins 9 none :: zx_T) []) {K : ah_H → Prop} {h0 : ah_H} {cells slots : Nat} (hcl : cells + 0 ≤ 0) (hsl : slots + 0 ≤ 0) {xt_120 : Nat → Int32 → Int32 → Int32 → ah_H → Prop} (hc_xt_120 : ∀ (z0 : Nat) (z1 : Int32) (z2 : Int32) (z3 : Int32) (hz : ah_H) (H : Heap) (locs : List Loc) (ls : Array Slot), xt_120 z0 z1 z2 z3 hz → ah_m h0 hz → ah_W G s.heap hz H locs → lv_has ls 9 [(0, .ref z0), (1, .int z1), (5, .int z2), (6, .int z3)] → W p l e rm_MO_joins s m args below meth c H locs cells slots (MQ below (va_Qv (fun h9 => K h9 ∧ ah_m h0 h9) (ah_B G) (fun q => G.2.2 ≤ q)) args s 0 0 (fun q => G.2.2 ≤ q)) (F0 m 120 ls [])) : ∀ (n : Nat) (x27 : Nat) (x28 : Int32) (x29 : Int32) (x30 : Int32) (x31 : Int32) (x32 : Int32) (x33 : Int32) (x34 : Int32) (h35 : ah_H) (H : Heap) (locs : List Loc) (ls : Array Slot), lp_MO_joins_38 xt_120 K n x27 x28 x29 x30 x31 x32 x33 x34 h35 → ah_m h0 h35 → ah_W G s.heap h35 H locs → lv_has ls 9 [(0, .ref x27), (1, .int x28), (2, .int x29), (3, .int x30), (4, .int x31), (5, .int x32), (6, .int x33), (7, .int x34)] → W p l e rm_MO_joins s m args below meth c H locs cells slots (MQ below (va_Qv (fun h9 => K h9 ∧ ah_m h0 h9) (ah_B G) (fun q => G.2.2 ≤ q)) args s 0 0 (fun q => G.2.2 ≤ q)) (F0 m 38 ls []) := by
  obtain ⟨hx, hb, hr, hml, hown, hts, hT, hlk, hK, hX, htb, hin, hst⟩ := id C
  have hw : ∀ {w9 : Cond}, w9 ∈ zx_T → w9.before _ s = true := fun h9 => hts _ (hT _ h9)
  intro n
  induction n with
  | zero =>
    intro x27 x28 x29 x30 x31 x32 x33 x34 h35 H locs ls w
    exact absurd w (by intro z9; exact z9)
  | succ n ih =>
    intro x27 x28 x29 x30 x31 x32 x33 x34 h35 H locs ls w hm hW hl
    unfold lp_MO_joins_38 at w
    refine lv_iload hx hb d_MO_joins_38 (lv_at hl 7 rfl) ?_
    refine lv_iload hx hb d_MO_joins_40 (lv_at hl 5 rfl) ?_
    refine lv_icmp_ge (tgt := 120) hx hb d_MO_joins_42 (by decide) (fun c36 => ?_) (fun c36 => ?_)
    · have w := w.1 c36
      exact hc_xt_120 x27 x28 x32 x33 h35 _ _ _ w hm hW (lv_sub hl [0, 1, 5, 6] rfl)
    · have w := w.2 c36
      refine lv_aload_n hx hb d_MO_joins_45 rfl (lv_at hl 0 rfl) ?_
      refine lv_iload_n hx hb d_MO_joins_46 rfl (lv_at hl 2 rfl) ?_
      refine lv_iload hx hb d_MO_joins_47 (lv_at hl 7 rfl) ?_
      obtain ⟨t37, w⟩ := w
      refine hb_calli (va_runV (As := [.int x29, .int x34]) (rest := []) ⟨hx, hb, hml, hown, hts⟩ (m_MO_at G x27 x29 x34 h35 hst w) (cwV 2 hts (zx_gV hT wd_642 wd_644 wd_s14 wd_5 wd_645) rfl rfl rfl (by decide +kernel) ⟨Nat.le_of_ble_eq_true rfl, Nat.le_of_ble_eq_true rfl⟩) (hb_preV hK hX hW t37 (by decide) rfl) rfl rfl hl.1 rfl (lv_room (Nat.le_of_ble_eq_true rfl)) d_MO_joins_49 ⟨(by show _ ≤ 0; omega), (by show _ ≤ 0; omega)⟩) hW (fun r39 h38 H locs hk hW => ?_)
      obtain ⟨w, mm40⟩ := hk
      have w := w mm40
      have hm := hm.tr mm40
      have t41 := mm40.tg t37 (by decide)
      refine lv_iload hx hb d_MO_joins_52 (lv_at hl 4 rfl) ?_
      refine lv_aload_n hx hb d_MO_joins_54 rfl (lv_at hl 0 rfl) ?_
      refine lv_iload_n hx hb d_MO_joins_55 rfl (lv_at hl 3 rfl) ?_
      refine lv_iload hx hb d_MO_joins_56 (lv_at hl 7 rfl) ?_
      refine hb_calli (va_runV (As := [.int x30, .int x34]) (rest := [.int x31, .int r39]) ⟨hx, hb, hml, hown, hts⟩ (m_MO_at G x27 x30 x34 h38 hst w) (cwV 2 hts (zx_gV hT wd_642 wd_644 wd_s14 wd_5 wd_645) rfl rfl rfl (by decide +kernel) ⟨Nat.le_of_ble_eq_true rfl, Nat.le_of_ble_eq_true rfl⟩) (hb_preV hK hX hW t41 (by decide) rfl) rfl rfl hl.1 rfl (lv_room (Nat.le_of_ble_eq_true rfl)) d_MO_joins_58 ⟨(by show _ ≤ 0; omega), (by show _ ≤ 0; omega)⟩) hW (fun r43 h42 H locs hk hW => ?_)
      obtain ⟨w, mm44⟩ := hk
      have w := w mm44
      have hm := hm.tr mm44
      have t45 := mm44.tg t41 (by decide)
      refine lv_imul hx hb d_MO_joins_61 ?_
      refine lv_iadd hx hb d_MO_joins_62 ?_
      refine lv_iload hx hb d_MO_joins_63 (lv_at hl 6 rfl) ?_
      refine lv_iadd hx hb d_MO_joins_65 ?_
      refine lv_topi (fun v46 ev46 => ?_)
      have w := w v46 ev46
      refine lv_istore (lv' := [(8, .int v46), (0, .ref x27), (1, .int x28), (2, .int x29), (3, .int x30), (4, .int x31), (5, .int x32), (6, .int x33), (7, .int x34)]) hx hb d_MO_joins_66 hl (by decide) rfl (fun ls hl => ?_)
      refine lv_iload hx hb d_MO_joins_68 (lv_at hl 0 rfl) ?_
      refine lv_if_ge (tgt := 77) hx hb d_MO_joins_70 (by decide) (fun c47 => ?_) (fun c47 => ?_)
      · have w := w.1 c47
        refine lv_iload hx hb d_MO_joins_77 (lv_at hl 0 rfl) ?_
        refine lv_sipush (v := 10000) hx hb d_MO_joins_79 (by decide) ?_
        refine lv_icmp_lt (tgt := 89) hx hb d_MO_joins_82 (by decide) (fun c48 => ?_) (fun c48 => ?_)
        · have w := w.1 c48
          refine lv_iconst (v := 0) hx hb d_MO_joins_89 (by decide) ?_
          exact tb_MO_joins_90 C (by omega) (by omega) ih x27 x28 x29 x30 x31 x32 x34 v46 (0 : Int32) h42 _ _ _ w hm hW (lv_sub hl [1, 2, 3, 4, 5, 6, 8, 0] rfl)
        · have w := w.2 c48
          refine lv_iconst (v := 1) hx hb d_MO_joins_85 (by decide) ?_
          refine lv_goto (tgt := 90) hx hb d_MO_joins_86 (by decide) ?_
          exact tb_MO_joins_90 C (by omega) (by omega) ih x27 x28 x29 x30 x31 x32 x34 v46 (1 : Int32) h42 _ _ _ w hm hW (lv_sub hl [1, 2, 3, 4, 5, 6, 8, 0] rfl)
      · have w := w.2 c47
        refine lv_iconst (v := -1) hx hb d_MO_joins_73 (by decide) ?_
        refine lv_goto (tgt := 90) hx hb d_MO_joins_74 (by decide) ?_
        exact tb_MO_joins_90 C (by omega) (by omega) ih x27 x28 x29 x30 x31 x32 x34 v46 (-1 : Int32) h42 _ _ _ w hm hW (lv_sub hl [1, 2, 3, 4, 5, 6, 8, 0] rfl)
set_option maxHeartbeats 4000000 in
set_option maxRecDepth 100000 in
theorem tb_MO_joins_30 {p : Program} {l : Launch} {e : Env} {s : State} {m : MethodId} {args : Array Value} {below : List Frame} {meth : Method} {c : Code} {G : zG} (C : cx_C p l s m args meth c G y_MO_joins b_MO_joins 9 none "BigDeskModel" (Cond.code y_MO_joins b_MO_joins 9 none :: zx_T) []) {K : ah_H → Prop} {h0 : ah_H} {cells slots : Nat} (hcl : cells + 0 ≤ 0) (hsl : slots + 0 ≤ 0)  (x20 : Nat) (x21 : Int32) (x22 : Int32) (x23 : Int32) (x24 : Int32) (s25 : Int32) (h26 : ah_H) (H : Heap) (locs : List Loc) (ls : Array Slot) (w : bk_MO_joins_30 K x20 x21 x22 x23 x24 s25 h26) (hm : ah_m h0 h26) (hW : ah_W G s.heap h26 H locs) (hl : lv_has ls 9 [(0, .ref x20), (1, .int x21), (2, .int x22), (3, .int x23), (4, .int x24)]) : W p l e rm_MO_joins s m args below meth c H locs cells slots (MQ below (va_Qv (fun h9 => K h9 ∧ ah_m h0 h9) (ah_B G) (fun q => G.2.2 ≤ q)) args s 0 0 (fun q => G.2.2 ≤ q)) (F0 m 30 ls [.int s25]) := by
  unfold bk_MO_joins_30 at w
  obtain ⟨hx, hb, hr, hml, hown, hts, hT, hlk, hK, hX, htb, hin, hst⟩ := id C
  have hw : ∀ {w9 : Cond}, w9 ∈ zx_T → w9.before _ s = true := fun h9 => hts _ (hT _ h9)
  refine lv_istore (lv' := [(5, .int s25), (0, .ref x20), (1, .int x21), (2, .int x22), (3, .int x23), (4, .int x24)]) hx hb d_MO_joins_30 hl (by decide) rfl (fun ls hl => ?_)
  refine lv_iconst (v := 0) hx hb d_MO_joins_32 (by decide) ?_
  refine lv_istore (lv' := [(6, .int (0 : Int32)), (5, .int s25), (0, .ref x20), (1, .int x21), (2, .int x22), (3, .int x23), (4, .int x24)]) hx hb d_MO_joins_33 hl (by decide) rfl (fun ls hl => ?_)
  refine lv_iconst (v := 0) hx hb d_MO_joins_35 (by decide) ?_
  refine lv_istore (lv' := [(7, .int (0 : Int32)), (6, .int (0 : Int32)), (5, .int s25), (0, .ref x20), (1, .int x21), (2, .int x22), (3, .int x23), (4, .int x24)]) hx hb d_MO_joins_36 hl (by decide) rfl (fun ls hl => ?_)
  obtain ⟨k88, w⟩ := w
  refine tl_MO_joins_38 C (by omega) (by omega) (fun x70 x71 x72 x73 h74 H locs ls w hm hW hl => ?_) k88 x20 x21 x22 x23 x24 s25 (0 : Int32) (0 : Int32) h26 _ _ _ w hm hW (lv_sub hl [3, 4, 5, 6, 7, 2, 1, 0] rfl)
  · refine lv_aload_n hx hb d_MO_joins_120 rfl (lv_at hl 0 rfl) ?_
    obtain ⟨t75, w⟩ := w
    obtain ⟨q76, e77, w⟩ := w
    refine hb_get (ci := 4) (C := "BigDeskModel") (T := T_MO) (N := 8) hx hb hts (fun w9 h9 => hT w9 (u_MO w9 h9)) hown hK hW t75 rfl (by decide) 1 (by decide) (hw wd_647) (fun _ h9 => h9) (q := (2, 13)) rfl (v := .ref q76) (ah_f_R e77) d_MO_joins_121 ?_
    refine lv_sipush (v := 1300) hx hb d_MO_joins_124 (by decide) ?_
    refine lv_iload_n hx hb d_MO_joins_127 rfl (lv_at hl 1 rfl) ?_
    refine lv_imul hx hb d_MO_joins_128 ?_
    refine lv_iload hx hb d_MO_joins_129 (lv_at hl 2 rfl) ?_
    refine lv_iadd hx hb d_MO_joins_131 ?_
    refine lv_iload hx hb d_MO_joins_132 (lv_at hl 3 rfl) ?_
    obtain ⟨t78, w⟩ := w
    obtain ⟨i79, w⟩ := w
    refine hb_iast hx hb hK hW t78 (by decide) (by decide) 0 rfl i79 d_MO_joins_134 (fun H locs h80 eh80 hW => ?_)
    have w := w h80 eh80
    have mm81 : ah_m h74 h80 := ah_m.rf.st (by rw [eh80]; rfl) (by rw [eh80]; rfl)
    have hm := hm.tr mm81
    have t82 := mm81.tg t75 (by decide)
    have t83 := mm81.tg t78 (by decide)
    refine lv_aload_n hx hb d_MO_joins_135 rfl (lv_at hl 0 rfl) ?_
    refine lv_iload_n hx hb d_MO_joins_136 rfl (lv_at hl 1 rfl) ?_
    refine lv_iload hx hb d_MO_joins_137 (lv_at hl 2 rfl) ?_
    refine lv_iconst (v := 1) hx hb d_MO_joins_139 (by decide) ?_
    refine lv_iadd hx hb d_MO_joins_140 ?_
    refine hb_callv (va_runV (As := [.int x71, .int (x72 + (1 : Int32))]) (rest := []) ⟨hx, hb, hml, hown, hts⟩ (m_MO_trim G x70 x71 (x72 + (1 : Int32)) h80 hst w) (cwV 2 hts (zx_gV hT wd_707 wd_709 wd_s19 wd_5 wd_710) rfl rfl rfl (by decide +kernel) ⟨Nat.le_of_ble_eq_true rfl, Nat.le_of_ble_eq_true rfl⟩) (hb_preV hK hX hW t82 (by decide) rfl) rfl rfl hl.1 rfl (lv_room (Nat.le_of_ble_eq_true rfl)) d_MO_joins_141 ⟨(by show _ ≤ 0; omega), (by show _ ≤ 0; omega)⟩) hW (fun h84 H locs hk hW => ?_)
    obtain ⟨w, mm85⟩ := hk
    have w := w mm85
    have hm := hm.tr mm85
    have t86 := mm85.tg t82 (by decide)
    have t87 := mm85.tg t83 (by decide)
    exact hb_vret (K := fun h9 => K h9 ∧ ah_m h0 h9) hx hb hr hlk hK hX hW ⟨w, hm⟩ (by omega) (by omega) d_MO_joins_144
set_option maxHeartbeats 4000000 in
set_option maxRecDepth 100000 in
theorem m_MO_joins {l : Launch} (G : zG) (a1 : Nat) (a2 : Int32) (a3 : Int32) (a4 : Int32) (a5 : Int32) (h0 : ah_H) {K : ah_H → Prop} (hst : l.stackTraces = false) (w : w_MO_joins a1 a2 a3 a4 a5 h0 K) : Met l y_MO_joins (Cond.code y_MO_joins b_MO_joins 9 none :: zx_T) rm_MO_joins (va_Pc [.ref a1, .int a2, .int a3, .int a4, .int a5] (ah_B G h0)) (va_Qv (fun h9 => K h9 ∧ ah_m h0 h9) (ah_B G) (fun q => G.2.2 ≤ q)) 0 0 (fun q => G.2.2 ≤ q) := by
  refine Met.ofW (cc := b_MO_joins) (maxL := 9) (ret := none) (by decide) rfl ?_
  intro p e s m args below meth c s₁ B hml hv
  have htb := cx_out B (atoms_spec B.pre _ List.mem_cons_self)
  obtain ⟨rfl, hB⟩ := hv
  have C : cx_C p l s m _ meth c G y_MO_joins b_MO_joins 9 none "BigDeskModel" (Cond.code y_MO_joins b_MO_joins 9 none :: zx_T) [] := ⟨B.exec, B.bytes, B.returns, hml, findClass_of_methodNamed B.named, atoms_spec B.pre, cx_hd, B.notSynchronized, hB.2.2.1, hB.2.2.2, htb, fun z9 => (name_of_methodNamed B.named B.method).1.trans z9, hst⟩
  obtain ⟨hx, hb, hr, hml, hown, hts, hT, hlk, hK, hX, htb, hin, hst⟩ := id C
  have hw : ∀ {w9 : Cond}, w9 ∈ zx_T → w9.before _ s = true := fun h9 => hts _ (hT _ h9)
  have hW : ah_W G s.heap h0 s.heap [] := ⟨hB.1, hB.2.1, va_S.rf⟩
  have hm : ah_m h0 h0 := ah_m.rf
  have hcl : 0 + 0 ≤ 0 := by decide
  have hsl : 0 + 0 ≤ 0 := by decide
  have hl := lv_entry ([.ref a1, .int a2, .int a3, .int a4, .int a5]) (n := 9) (Nat.le_of_ble_eq_true rfl)
  rw [lg_entry_eq]
  generalize (lg_sl ([.ref a1, .int a2, .int a3, .int a4, .int a5]) ++ List.replicate (9 - (lg_sl ([.ref a1, .int a2, .int a3, .int a4, .int a5])).length) Slot.unset).toArray = ls at hl ⊢
  have hl : lv_has ls 9 [(0, .ref a1), (1, .int a2), (2, .int a3), (3, .int a4), (4, .int a5)] := hl
  unfold w_MO_joins at w
  refine lv_aload_n hx hb d_MO_joins_0 rfl (lv_at hl 0 rfl) ?_
  obtain ⟨t6, w⟩ := w
  obtain ⟨q7, e8, w⟩ := w
  refine hb_get (ci := 4) (C := "BigDeskModel") (T := T_MO) (N := 8) hx hb hts (fun w9 h9 => hT w9 (u_MO w9 h9)) hown hK hW t6 rfl (by decide) 2 (by decide) (hw wd_648) (fun _ h9 => h9) (q := (2, 14)) rfl (v := .ref q7) (ah_f_R e8) d_MO_joins_1 ?_
  refine lv_iload_n hx hb d_MO_joins_4 rfl (lv_at hl 2 rfl) ?_
  obtain ⟨t9, w⟩ := w
  obtain ⟨i10, w⟩ := w
  refine hb_iald hx hb hK hW t9 (by decide) (by decide) 0 rfl i10 d_MO_joins_5 ?_
  refine lv_aload_n hx hb d_MO_joins_6 rfl (lv_at hl 0 rfl) ?_
  obtain ⟨q11, e12, w⟩ := w
  refine hb_get (ci := 4) (C := "BigDeskModel") (T := T_MO) (N := 8) hx hb hts (fun w9 h9 => hT w9 (u_MO w9 h9)) hown hK hW t6 rfl (by decide) 2 (by decide) (hw wd_648) (fun _ h9 => h9) (q := (2, 14)) rfl (v := .ref q11) (ah_f_R e12) d_MO_joins_7 ?_
  refine lv_iload_n hx hb d_MO_joins_10 rfl (lv_at hl 3 rfl) ?_
  obtain ⟨t13, w⟩ := w
  obtain ⟨i14, w⟩ := w
  refine hb_iald hx hb hK hW t13 (by decide) (by decide) 0 rfl i14 d_MO_joins_11 ?_
  refine lv_icmp_le (tgt := 24) hx hb d_MO_joins_12 (by decide) (fun c15 => ?_) (fun c15 => ?_)
  · have w := w.1 c15
    refine lv_aload_n hx hb d_MO_joins_24 rfl (lv_at hl 0 rfl) ?_
    obtain ⟨q16, e17, w⟩ := w
    refine hb_get (ci := 4) (C := "BigDeskModel") (T := T_MO) (N := 8) hx hb hts (fun w9 h9 => hT w9 (u_MO w9 h9)) hown hK hW t6 rfl (by decide) 2 (by decide) (hw wd_648) (fun _ h9 => h9) (q := (2, 14)) rfl (v := .ref q16) (ah_f_R e17) d_MO_joins_25 ?_
    refine lv_iload_n hx hb d_MO_joins_28 rfl (lv_at hl 3 rfl) ?_
    obtain ⟨t18, w⟩ := w
    obtain ⟨i19, w⟩ := w
    refine hb_iald hx hb hK hW t18 (by decide) (by decide) 0 rfl i19 d_MO_joins_29 ?_
    exact tb_MO_joins_30 C (by omega) (by omega)  a1 a2 a3 a4 a5 (ah_bI h0 q16 a4.toNatClampNeg) h0 _ _ _ w hm hW (lv_sub hl [0, 1, 2, 3, 4] rfl)
  · have w := w.2 c15
    refine lv_aload_n hx hb d_MO_joins_15 rfl (lv_at hl 0 rfl) ?_
    obtain ⟨q89, e90, w⟩ := w
    refine hb_get (ci := 4) (C := "BigDeskModel") (T := T_MO) (N := 8) hx hb hts (fun w9 h9 => hT w9 (u_MO w9 h9)) hown hK hW t6 rfl (by decide) 2 (by decide) (hw wd_648) (fun _ h9 => h9) (q := (2, 14)) rfl (v := .ref q89) (ah_f_R e90) d_MO_joins_16 ?_
    refine lv_iload_n hx hb d_MO_joins_19 rfl (lv_at hl 2 rfl) ?_
    obtain ⟨t91, w⟩ := w
    obtain ⟨i92, w⟩ := w
    refine hb_iald hx hb hK hW t91 (by decide) (by decide) 0 rfl i92 d_MO_joins_20 ?_
    refine lv_goto (tgt := 30) hx hb d_MO_joins_21 (by decide) ?_
    exact tb_MO_joins_30 C (by omega) (by omega)  a1 a2 a3 a4 a5 (ah_bI h0 q89 a3.toNatClampNeg) h0 _ _ _ w hm hW (lv_sub hl [0, 1, 2, 3, 4] rfl)
set_option maxHeartbeats 4000000 in
set_option maxRecDepth 100000 in
theorem tb_MO_sum_123 {p : Program} {l : Launch} {e : Env} {s : State} {m : MethodId} {args : Array Value} {below : List Frame} {meth : Method} {c : Code} {G : zG} (C : cx_C p l s m args meth c G y_MO_sum b_MO_sum 6 none "BigDeskModel" (Cond.code y_MO_sum b_MO_sum 6 none :: zx_T) []) {K : ah_H → Prop} {h0 : ah_H} {cells slots : Nat} (hcl : cells + 0 ≤ 0) (hsl : slots + 0 ≤ 0)   (h35 : ah_H) (H : Heap) (locs : List Loc) (ls : Array Slot) (w : bk_MO_sum_123 K h35) (hm : ah_m h0 h35) (hW : ah_W G s.heap h35 H locs) (hl : lv_has ls 6 []) : W p l e rm_MO_sum s m args below meth c H locs cells slots (MQ below (va_Qv (fun h9 => K h9 ∧ ah_m h0 h9) (ah_B G) (fun q => G.2.2 ≤ q)) args s 0 0 (fun q => G.2.2 ≤ q)) (F0 m 123 ls []) := by
  unfold bk_MO_sum_123 at w
  obtain ⟨hx, hb, hr, hml, hown, hts, hT, hlk, hK, hX, htb, hin, hst⟩ := id C
  have hw : ∀ {w9 : Cond}, w9 ∈ zx_T → w9.before _ s = true := fun h9 => hts _ (hT _ h9)
  exact hb_vret (K := fun h9 => K h9 ∧ ah_m h0 h9) hx hb hr hlk hK hX hW ⟨w, hm⟩ (by omega) (by omega) d_MO_sum_123
set_option maxHeartbeats 4000000 in
set_option maxRecDepth 100000 in
theorem tb_MO_sum_45 {p : Program} {l : Launch} {e : Env} {s : State} {m : MethodId} {args : Array Value} {below : List Frame} {meth : Method} {c : Code} {G : zG} (C : cx_C p l s m args meth c G y_MO_sum b_MO_sum 6 none "BigDeskModel" (Cond.code y_MO_sum b_MO_sum 6 none :: zx_T) []) {K : ah_H → Prop} {h0 : ah_H} {cells slots : Nat} (hcl : cells + 0 ≤ 0) (hsl : slots + 0 ≤ 0)  (x17 : Nat) (x18 : Int32) (x19 : Int32) (x20 : Int32) (h21 : ah_H) (H : Heap) (locs : List Loc) (ls : Array Slot) (w : bk_MO_sum_45 K x17 x18 x19 x20 h21) (hm : ah_m h0 h21) (hW : ah_W G s.heap h21 H locs) (hl : lv_has ls 6 [(0, .ref x17), (1, .int x18), (2, .int x19), (4, .int x20)]) : W p l e rm_MO_sum s m args below meth c H locs cells slots (MQ below (va_Qv (fun h9 => K h9 ∧ ah_m h0 h9) (ah_B G) (fun q => G.2.2 ≤ q)) args s 0 0 (fun q => G.2.2 ≤ q)) (F0 m 45 ls []) := by
  unfold bk_MO_sum_45 at w
  obtain ⟨hx, hb, hr, hml, hown, hts, hT, hlk, hK, hX, htb, hin, hst⟩ := id C
  have hw : ∀ {w9 : Cond}, w9 ∈ zx_T → w9.before _ s = true := fun h9 => hts _ (hT _ h9)
  refine lv_aload_n hx hb d_MO_sum_45 rfl (lv_at hl 0 rfl) ?_
  obtain ⟨t22, w⟩ := w
  obtain ⟨q23, e24, w⟩ := w
  refine hb_get (ci := 4) (C := "BigDeskModel") (T := T_MO) (N := 8) hx hb hts (fun w9 h9 => hT w9 (u_MO w9 h9)) hown hK hW t22 rfl (by decide) 3 (by decide) (hw wd_649) (fun _ h9 => h9) (q := (2, 15)) rfl (v := .ref q23) (ah_f_R e24) d_MO_sum_46 ?_
  refine lv_bipush (v := 17) hx hb d_MO_sum_49 (by decide) ?_
  refine lv_iload hx hb d_MO_sum_51 (lv_at hl 3 rfl) ?_
  obtain ⟨t25, w⟩ := w
  obtain ⟨i26, w⟩ := w
  refine hb_iast hx hb hK hW t25 (by decide) (by decide) 0 rfl i26 d_MO_sum_53 (fun H locs h27 eh27 hW => ?_)
  have w := w h27 eh27
  have mm28 : ah_m h21 h27 := ah_m.rf.st (by rw [eh27]; rfl) (by rw [eh27]; rfl)
  have hm := hm.tr mm28
  have t29 := mm28.tg t22 (by decide)
  have t30 := mm28.tg t25 (by decide)
  refine lv_aload_n hx hb d_MO_sum_54 rfl (lv_at hl 0 rfl) ?_
  refine lv_bipush (v := 17) hx hb d_MO_sum_55 (by decide) ?_
  refine lv_iload_n hx hb d_MO_sum_57 rfl (lv_at hl 1 rfl) ?_
  refine lv_iload_n hx hb d_MO_sum_58 rfl (lv_at hl 2 rfl) ?_
  refine lv_iconst (v := 1) hx hb d_MO_sum_59 (by decide) ?_
  refine hb_callv (va_runV (As := [.int (17 : Int32), .int x18, .int x19, .int (1 : Int32)]) (rest := []) ⟨hx, hb, hml, hown, hts⟩ (m_MO_joins G x17 (17 : Int32) x18 x19 (1 : Int32) h27 hst w) (cwV 4 hts (zx_gV hT wd_703 wd_705 wd_s18 wd_5 wd_706) rfl rfl rfl (by decide +kernel) ⟨Nat.le_of_ble_eq_true rfl, Nat.le_of_ble_eq_true rfl⟩) (hb_preV hK hX hW t29 (by decide) rfl) rfl rfl hl.1 rfl (lv_room (Nat.le_of_ble_eq_true rfl)) d_MO_sum_60 ⟨(by show _ ≤ 0; omega), (by show _ ≤ 0; omega)⟩) hW (fun h31 H locs hk hW => ?_)
  obtain ⟨w, mm32⟩ := hk
  have w := w mm32
  have hm := hm.tr mm32
  have t33 := mm32.tg t29 (by decide)
  have t34 := mm32.tg t30 (by decide)
  refine lv_goto (tgt := 123) hx hb d_MO_sum_63 (by decide) ?_
  exact tb_MO_sum_123 C (by omega) (by omega)   h31 _ _ _ w hm hW (lv_sub hl [] rfl)
set_option maxHeartbeats 4000000 in
set_option maxRecDepth 100000 in
theorem tb_MO_sum_96 {p : Program} {l : Launch} {e : Env} {s : State} {m : MethodId} {args : Array Value} {below : List Frame} {meth : Method} {c : Code} {G : zG} (C : cx_C p l s m args meth c G y_MO_sum b_MO_sum 6 none "BigDeskModel" (Cond.code y_MO_sum b_MO_sum 6 none :: zx_T) []) {K : ah_H → Prop} {h0 : ah_H} {cells slots : Nat} (hcl : cells + 0 ≤ 0) (hsl : slots + 0 ≤ 0)  (x51 : Nat) (x52 : Int32) (x53 : Int32) (x54 : Int32) (s55 : Int32) (s56 : Int32) (s57 : Nat) (h58 : ah_H) (H : Heap) (locs : List Loc) (ls : Array Slot) (w : bk_MO_sum_96 K x51 x52 x53 x54 s55 s56 s57 h58) (hm : ah_m h0 h58) (hW : ah_W G s.heap h58 H locs) (hl : lv_has ls 6 [(0, .ref x51), (1, .int x52), (2, .int x53), (5, .int x54)]) : W p l e rm_MO_sum s m args below meth c H locs cells slots (MQ below (va_Qv (fun h9 => K h9 ∧ ah_m h0 h9) (ah_B G) (fun q => G.2.2 ≤ q)) args s 0 0 (fun q => G.2.2 ≤ q)) (F0 m 96 ls [.int s55, .int s56, .ref s57]) := by
  unfold bk_MO_sum_96 at w
  obtain ⟨hx, hb, hr, hml, hown, hts, hT, hlk, hK, hX, htb, hin, hst⟩ := id C
  have hw : ∀ {w9 : Cond}, w9 ∈ zx_T → w9.before _ s = true := fun h9 => hts _ (hT _ h9)
  obtain ⟨t59, w⟩ := w
  obtain ⟨i60, w⟩ := w
  refine hb_iast hx hb hK hW t59 (by decide) (by decide) 0 rfl i60 d_MO_sum_96 (fun H locs h61 eh61 hW => ?_)
  have w := w h61 eh61
  have mm62 : ah_m h58 h61 := ah_m.rf.st (by rw [eh61]; rfl) (by rw [eh61]; rfl)
  have hm := hm.tr mm62
  have t63 := mm62.tg t59 (by decide)
  refine lv_iload hx hb d_MO_sum_97 (lv_at hl 3 rfl) ?_
  refine lv_if_lt (tgt := 114) hx hb d_MO_sum_99 (by decide) (fun c64 => ?_) (fun c64 => ?_)
  · have w := w.1 c64
    refine lv_aload_n hx hb d_MO_sum_114 rfl (lv_at hl 0 rfl) ?_
    refine lv_bipush (v := 17) hx hb d_MO_sum_115 (by decide) ?_
    refine lv_iload_n hx hb d_MO_sum_117 rfl (lv_at hl 2 rfl) ?_
    refine lv_iload_n hx hb d_MO_sum_118 rfl (lv_at hl 1 rfl) ?_
    refine lv_iconst (v := -1) hx hb d_MO_sum_119 (by decide) ?_
    obtain ⟨t65, w⟩ := w
    refine hb_callv (va_runV (As := [.int (17 : Int32), .int x53, .int x52, .int (-1 : Int32)]) (rest := []) ⟨hx, hb, hml, hown, hts⟩ (m_MO_joins G x51 (17 : Int32) x53 x52 (-1 : Int32) h61 hst w) (cwV 4 hts (zx_gV hT wd_703 wd_705 wd_s18 wd_5 wd_706) rfl rfl rfl (by decide +kernel) ⟨Nat.le_of_ble_eq_true rfl, Nat.le_of_ble_eq_true rfl⟩) (hb_preV hK hX hW t65 (by decide) rfl) rfl rfl hl.1 rfl (lv_room (Nat.le_of_ble_eq_true rfl)) d_MO_sum_120 ⟨(by show _ ≤ 0; omega), (by show _ ≤ 0; omega)⟩) hW (fun h66 H locs hk hW => ?_)
    obtain ⟨w, mm67⟩ := hk
    have w := w mm67
    have hm := hm.tr mm67
    have t68 := mm67.tg t63 (by decide)
    have t69 := mm67.tg t65 (by decide)
    exact tb_MO_sum_123 C (by omega) (by omega)   h66 _ _ _ w hm hW (lv_sub hl [] rfl)
  · have w := w.2 c64
    refine lv_aload_n hx hb d_MO_sum_102 rfl (lv_at hl 0 rfl) ?_
    refine lv_bipush (v := 17) hx hb d_MO_sum_103 (by decide) ?_
    refine lv_iload_n hx hb d_MO_sum_105 rfl (lv_at hl 1 rfl) ?_
    refine lv_iload_n hx hb d_MO_sum_106 rfl (lv_at hl 2 rfl) ?_
    refine lv_iconst (v := -1) hx hb d_MO_sum_107 (by decide) ?_
    obtain ⟨t70, w⟩ := w
    refine hb_callv (va_runV (As := [.int (17 : Int32), .int x52, .int x53, .int (-1 : Int32)]) (rest := []) ⟨hx, hb, hml, hown, hts⟩ (m_MO_joins G x51 (17 : Int32) x52 x53 (-1 : Int32) h61 hst w) (cwV 4 hts (zx_gV hT wd_703 wd_705 wd_s18 wd_5 wd_706) rfl rfl rfl (by decide +kernel) ⟨Nat.le_of_ble_eq_true rfl, Nat.le_of_ble_eq_true rfl⟩) (hb_preV hK hX hW t70 (by decide) rfl) rfl rfl hl.1 rfl (lv_room (Nat.le_of_ble_eq_true rfl)) d_MO_sum_108 ⟨(by show _ ≤ 0; omega), (by show _ ≤ 0; omega)⟩) hW (fun h71 H locs hk hW => ?_)
    obtain ⟨w, mm72⟩ := hk
    have w := w mm72
    have hm := hm.tr mm72
    have t73 := mm72.tg t63 (by decide)
    have t74 := mm72.tg t70 (by decide)
    refine lv_goto (tgt := 123) hx hb d_MO_sum_111 (by decide) ?_
    exact tb_MO_sum_123 C (by omega) (by omega)   h71 _ _ _ w hm hW (lv_sub hl [] rfl)
set_option maxHeartbeats 4000000 in
set_option maxRecDepth 100000 in
theorem m_MO_sum {l : Launch} (G : zG) (a1 : Nat) (a2 : Int32) (a3 : Int32) (a4 : Int32) (h0 : ah_H) {K : ah_H → Prop} (hst : l.stackTraces = false) (w : w_MO_sum a1 a2 a3 a4 h0 K) : Met l y_MO_sum (Cond.code y_MO_sum b_MO_sum 6 none :: zx_T) rm_MO_sum (va_Pc [.ref a1, .int a2, .int a3, .int a4] (ah_B G h0)) (va_Qv (fun h9 => K h9 ∧ ah_m h0 h9) (ah_B G) (fun q => G.2.2 ≤ q)) 0 0 (fun q => G.2.2 ≤ q) := by
  refine Met.ofW (cc := b_MO_sum) (maxL := 6) (ret := none) (by decide) rfl ?_
  intro p e s m args below meth c s₁ B hml hv
  have htb := cx_out B (atoms_spec B.pre _ List.mem_cons_self)
  obtain ⟨rfl, hB⟩ := hv
  have C : cx_C p l s m _ meth c G y_MO_sum b_MO_sum 6 none "BigDeskModel" (Cond.code y_MO_sum b_MO_sum 6 none :: zx_T) [] := ⟨B.exec, B.bytes, B.returns, hml, findClass_of_methodNamed B.named, atoms_spec B.pre, cx_hd, B.notSynchronized, hB.2.2.1, hB.2.2.2, htb, fun z9 => (name_of_methodNamed B.named B.method).1.trans z9, hst⟩
  obtain ⟨hx, hb, hr, hml, hown, hts, hT, hlk, hK, hX, htb, hin, hst⟩ := id C
  have hw : ∀ {w9 : Cond}, w9 ∈ zx_T → w9.before _ s = true := fun h9 => hts _ (hT _ h9)
  have hW : ah_W G s.heap h0 s.heap [] := ⟨hB.1, hB.2.1, va_S.rf⟩
  have hm : ah_m h0 h0 := ah_m.rf
  have hcl : 0 + 0 ≤ 0 := by decide
  have hsl : 0 + 0 ≤ 0 := by decide
  have hl := lv_entry ([.ref a1, .int a2, .int a3, .int a4]) (n := 6) (Nat.le_of_ble_eq_true rfl)
  rw [lg_entry_eq]
  generalize (lg_sl ([.ref a1, .int a2, .int a3, .int a4]) ++ List.replicate (6 - (lg_sl ([.ref a1, .int a2, .int a3, .int a4])).length) Slot.unset).toArray = ls at hl ⊢
  have hl : lv_has ls 6 [(0, .ref a1), (1, .int a2), (2, .int a3), (3, .int a4)] := hl
  unfold w_MO_sum at w
  refine lv_iload_n hx hb d_MO_sum_0 rfl (lv_at hl 3 rfl) ?_
  refine lv_aload_n hx hb d_MO_sum_1 rfl (lv_at hl 0 rfl) ?_
  obtain ⟨t5, w⟩ := w
  obtain ⟨q6, e7, w⟩ := w
  refine hb_get (ci := 4) (C := "BigDeskModel") (T := T_MO) (N := 8) hx hb hts (fun w9 h9 => hT w9 (u_MO w9 h9)) hown hK hW t5 rfl (by decide) 3 (by decide) (hw wd_649) (fun _ h9 => h9) (q := (2, 15)) rfl (v := .ref q6) (ah_f_R e7) d_MO_sum_2 ?_
  refine lv_iload_n hx hb d_MO_sum_5 rfl (lv_at hl 2 rfl) ?_
  obtain ⟨t8, w⟩ := w
  obtain ⟨i9, w⟩ := w
  refine hb_iald hx hb hK hW t8 (by decide) (by decide) 0 rfl i9 d_MO_sum_6 ?_
  refine lv_imul hx hb d_MO_sum_7 ?_
  refine lv_topi (fun v10 ev10 => ?_)
  have w := w v10 ev10
  refine lv_istore (lv' := [(4, .int v10), (0, .ref a1), (1, .int a2), (2, .int a3), (3, .int a4)]) hx hb d_MO_sum_8 hl (by decide) rfl (fun ls hl => ?_)
  refine lv_iload hx hb d_MO_sum_10 (lv_at hl 0 rfl) ?_
  refine lv_if_ne (tgt := 25) hx hb d_MO_sum_12 (by decide) (fun c11 => ?_) (fun c11 => ?_)
  · have w := w.1 c11
    refine lv_aload_n hx hb d_MO_sum_25 rfl (lv_at hl 1 rfl) ?_
    obtain ⟨q12, e13, w⟩ := w
    refine hb_get (ci := 4) (C := "BigDeskModel") (T := T_MO) (N := 8) hx hb hts (fun w9 h9 => hT w9 (u_MO w9 h9)) hown hK hW t5 rfl (by decide) 3 (by decide) (hw wd_649) (fun _ h9 => h9) (q := (2, 15)) rfl (v := .ref q12) (ah_f_R e13) d_MO_sum_26 ?_
    refine lv_iload_n hx hb d_MO_sum_29 rfl (lv_at hl 2 rfl) ?_
    obtain ⟨t14, w⟩ := w
    obtain ⟨i15, w⟩ := w
    refine hb_iald hx hb hK hW t14 (by decide) (by decide) 0 rfl i15 d_MO_sum_30 ?_
    refine lv_if_eq (tgt := 45) hx hb d_MO_sum_31 (by decide) (fun c16 => ?_) (fun c16 => ?_)
    · have w := w.1 c16
      exact tb_MO_sum_45 C (by omega) (by omega)  a1 a2 a3 v10 h0 _ _ _ w hm hW (lv_sub hl [1, 2, 3, 0] rfl)
    · have w := w.2 c16
      refine lv_aload_n hx hb d_MO_sum_34 rfl (lv_at hl 1 rfl) ?_
      obtain ⟨q36, e37, w⟩ := w
      refine hb_get (ci := 4) (C := "BigDeskModel") (T := T_MO) (N := 8) hx hb hts (fun w9 h9 => hT w9 (u_MO w9 h9)) hown hK hW t5 rfl (by decide) 3 (by decide) (hw wd_649) (fun _ h9 => h9) (q := (2, 15)) rfl (v := .ref q36) (ah_f_R e37) d_MO_sum_35 ?_
      refine lv_iload_n hx hb d_MO_sum_38 rfl (lv_at hl 2 rfl) ?_
      obtain ⟨t38, w⟩ := w
      obtain ⟨i39, w⟩ := w
      refine hb_iald hx hb hK hW t38 (by decide) (by decide) 0 rfl i39 d_MO_sum_39 ?_
      refine lv_iload hx hb d_MO_sum_40 (lv_at hl 0 rfl) ?_
      refine lv_icmp_ne (tgt := 66) hx hb d_MO_sum_42 (by decide) (fun c40 => ?_) (fun c40 => ?_)
      · have w := w.1 c40
        refine lv_aload_n hx hb d_MO_sum_66 rfl (lv_at hl 1 rfl) ?_
        refine lv_iload_n hx hb d_MO_sum_67 rfl (lv_at hl 2 rfl) ?_
        refine lv_iload_n hx hb d_MO_sum_68 rfl (lv_at hl 3 rfl) ?_
        refine hb_calli (va_runV (As := [.int a2, .int a3]) (rest := []) ⟨hx, hb, hml, hown, hts⟩ (m_MO_against G a1 a2 a3 h0 hst w) (cwV 2 hts (zx_gV hT wd_711 wd_713 wd_s20 wd_5 wd_714) rfl rfl rfl (by decide +kernel) ⟨Nat.le_of_ble_eq_true rfl, Nat.le_of_ble_eq_true rfl⟩) (hb_preV hK hX hW t5 (by decide) rfl) rfl rfl hl.1 rfl (lv_room (Nat.le_of_ble_eq_true rfl)) d_MO_sum_69 ⟨(by show _ ≤ 0; omega), (by show _ ≤ 0; omega)⟩) hW (fun r42 h41 H locs hk hW => ?_)
        obtain ⟨w, mm43⟩ := hk
        have w := w mm43
        have hm := hm.tr mm43
        have t44 := mm43.tg t5 (by decide)
        have t45 := mm43.tg t8 (by decide)
        have t46 := mm43.tg t14 (by decide)
        have t47 := mm43.tg t38 (by decide)
        refine lv_istore (lv' := [(5, .int r42), (4, .int v10), (0, .ref a1), (1, .int a2), (2, .int a3), (3, .int a4)]) hx hb d_MO_sum_72 hl (by decide) rfl (fun ls hl => ?_)
        refine lv_aload_n hx hb d_MO_sum_74 rfl (lv_at hl 2 rfl) ?_
        obtain ⟨q48, e49, w⟩ := w
        refine hb_get (ci := 4) (C := "BigDeskModel") (T := T_MO) (N := 8) hx hb hts (fun w9 h9 => hT w9 (u_MO w9 h9)) hown hK hW t44 rfl (by decide) 3 (by decide) (hw wd_649) (fun _ h9 => h9) (q := (2, 15)) rfl (v := .ref q48) (ah_f_R e49) d_MO_sum_75 ?_
        refine lv_bipush (v := 17) hx hb d_MO_sum_78 (by decide) ?_
        refine lv_iload hx hb d_MO_sum_80 (lv_at hl 0 rfl) ?_
        refine lv_if_lt (tgt := 94) hx hb d_MO_sum_82 (by decide) (fun c50 => ?_) (fun c50 => ?_)
        · have w := w.1 c50
          refine lv_iload hx hb d_MO_sum_94 (lv_at hl 1 rfl) ?_
          exact tb_MO_sum_96 C (by omega) (by omega)  a1 a2 a3 r42 v10 (17 : Int32) q48 h41 _ _ _ w hm hW (lv_sub hl [2, 3, 4, 0] rfl)
        · have w := w.2 c50
          refine lv_aload_n hx hb d_MO_sum_85 rfl (lv_at hl 2 rfl) ?_
          obtain ⟨q75, e76, w⟩ := w
          refine hb_get (ci := 4) (C := "BigDeskModel") (T := T_MO) (N := 8) hx hb hts (fun w9 h9 => hT w9 (u_MO w9 h9)) hown hK hW t44 rfl (by decide) 3 (by decide) (hw wd_649) (fun _ h9 => h9) (q := (2, 15)) rfl (v := .ref q75) (ah_f_R e76) d_MO_sum_86 ?_
          refine lv_iload_n hx hb d_MO_sum_89 rfl (lv_at hl 3 rfl) ?_
          obtain ⟨t77, w⟩ := w
          obtain ⟨i78, w⟩ := w
          refine hb_iald hx hb hK hW t77 (by decide) (by decide) 0 rfl i78 d_MO_sum_90 ?_
          refine lv_goto (tgt := 96) hx hb d_MO_sum_91 (by decide) ?_
          exact tb_MO_sum_96 C (by omega) (by omega)  a1 a2 a3 r42 (ah_bI h41 q75 a2.toNatClampNeg) (17 : Int32) q48 h41 _ _ _ w hm hW (lv_sub hl [2, 3, 4, 0] rfl)
      · have w := w.2 c40
        exact tb_MO_sum_45 C (by omega) (by omega)  a1 a2 a3 v10 h0 _ _ _ w hm hW (lv_sub hl [1, 2, 3, 0] rfl)
  · have w := w.2 c11
    refine lv_aload_n hx hb d_MO_sum_15 rfl (lv_at hl 1 rfl) ?_
    refine lv_bipush (v := 17) hx hb d_MO_sum_16 (by decide) ?_
    refine lv_iload_n hx hb d_MO_sum_18 rfl (lv_at hl 2 rfl) ?_
    refine hb_callv (va_runV (As := [.int (17 : Int32), .int a2]) (rest := []) ⟨hx, hb, hml, hown, hts⟩ (m_MO_copyRow G a1 (17 : Int32) a2 h0 hst w) (cwV 2 hts (zx_gV hT wd_691 wd_693 wd_s16 wd_5 wd_694) rfl rfl rfl (by decide +kernel) ⟨Nat.le_of_ble_eq_true rfl, Nat.le_of_ble_eq_true rfl⟩) (hb_preV hK hX hW t5 (by decide) rfl) rfl rfl hl.1 rfl (lv_room (Nat.le_of_ble_eq_true rfl)) d_MO_sum_19 ⟨(by show _ ≤ 0; omega), (by show _ ≤ 0; omega)⟩) hW (fun h79 H locs hk hW => ?_)
    obtain ⟨w, mm80⟩ := hk
    have w := w mm80
    have hm := hm.tr mm80
    have t81 := mm80.tg t5 (by decide)
    have t82 := mm80.tg t8 (by decide)
    refine lv_goto (tgt := 123) hx hb d_MO_sum_22 (by decide) ?_
    exact tb_MO_sum_123 C (by omega) (by omega)   h79 _ _ _ w hm hW (lv_sub hl [] rfl)
set_option maxHeartbeats 4000000 in
set_option maxRecDepth 100000 in
theorem tl_MO_product_17 {p : Program} {l : Launch} {e : Env} {s : State} {m : MethodId} {args : Array Value} {below : List Frame} {meth : Method} {c : Code} {G : zG} (C : cx_C p l s m args meth c G y_MO_product b_MO_product 8 none "BigDeskModel" (Cond.code y_MO_product b_MO_product 8 none :: zx_T) []) {K : ah_H → Prop} {h0 : ah_H} {cells slots : Nat} (hcl : cells + 0 ≤ 0) (hsl : slots + 0 ≤ 0) {xt_41 : Nat → Int32 → Int32 → Int32 → ah_H → Prop} (hc_xt_41 : ∀ (z0 : Nat) (z1 : Int32) (z2 : Int32) (z3 : Int32) (hz : ah_H) (H : Heap) (locs : List Loc) (ls : Array Slot), xt_41 z0 z1 z2 z3 hz → ah_m h0 hz → ah_W G s.heap hz H locs → lv_has ls 8 [(0, .ref z0), (1, .int z1), (2, .int z2), (3, .int z3)] → W p l e rm_MO_product s m args below meth c H locs cells slots (MQ below (va_Qv (fun h9 => K h9 ∧ ah_m h0 h9) (ah_B G) (fun q => G.2.2 ≤ q)) args s 0 0 (fun q => G.2.2 ≤ q)) (F0 m 41 ls [])) : ∀ (n : Nat) (x14 : Nat) (x15 : Int32) (x16 : Int32) (x17 : Int32) (x18 : Int32) (h19 : ah_H) (H : Heap) (locs : List Loc) (ls : Array Slot), lp_MO_product_17 xt_41 K n x14 x15 x16 x17 x18 h19 → ah_m h0 h19 → ah_W G s.heap h19 H locs → lv_has ls 8 [(0, .ref x14), (1, .int x15), (2, .int x16), (3, .int x17), (4, .int x18)] → W p l e rm_MO_product s m args below meth c H locs cells slots (MQ below (va_Qv (fun h9 => K h9 ∧ ah_m h0 h9) (ah_B G) (fun q => G.2.2 ≤ q)) args s 0 0 (fun q => G.2.2 ≤ q)) (F0 m 17 ls []) := by
  obtain ⟨hx, hb, hr, hml, hown, hts, hT, hlk, hK, hX, htb, hin, hst⟩ := id C
  have hw : ∀ {w9 : Cond}, w9 ∈ zx_T → w9.before _ s = true := fun h9 => hts _ (hT _ h9)
  intro n
  induction n with
  | zero =>
    intro x14 x15 x16 x17 x18 h19 H locs ls w
    exact absurd w (by intro z9; exact z9)
  | succ n ih =>
    intro x14 x15 x16 x17 x18 h19 H locs ls w hm hW hl
    unfold lp_MO_product_17 at w
    refine lv_iload hx hb d_MO_product_17 (lv_at hl 4 rfl) ?_
    refine lv_iload_n hx hb d_MO_product_19 rfl (lv_at hl 3 rfl) ?_
    refine lv_icmp_ge (tgt := 41) hx hb d_MO_product_20 (by decide) (fun c20 => ?_) (fun c20 => ?_)
    · have w := w.1 c20
      exact hc_xt_41 x14 x15 x16 x17 h19 _ _ _ w hm hW (lv_sub hl [0, 1, 2, 3] rfl)
    · have w := w.2 c20
      refine lv_aload_n hx hb d_MO_product_23 rfl (lv_at hl 0 rfl) ?_
      obtain ⟨t21, w⟩ := w
      obtain ⟨q22, e23, w⟩ := w
      refine hb_get (ci := 4) (C := "BigDeskModel") (T := T_MO) (N := 8) hx hb hts (fun w9 h9 => hT w9 (u_MO w9 h9)) hown hK hW t21 rfl (by decide) 1 (by decide) (hw wd_647) (fun _ h9 => h9) (q := (2, 13)) rfl (v := .ref q22) (ah_f_R e23) d_MO_product_24 ?_
      refine lv_sipush (v := 22100) hx hb d_MO_product_27 (by decide) ?_
      refine lv_iload hx hb d_MO_product_30 (lv_at hl 4 rfl) ?_
      refine lv_iadd hx hb d_MO_product_32 ?_
      refine lv_iconst (v := 0) hx hb d_MO_product_33 (by decide) ?_
      obtain ⟨t24, w⟩ := w
      obtain ⟨i25, w⟩ := w
      refine hb_iast hx hb hK hW t24 (by decide) (by decide) 0 rfl i25 d_MO_product_34 (fun H locs h26 eh26 hW => ?_)
      have w := w h26 eh26
      have mm27 : ah_m h19 h26 := ah_m.rf.st (by rw [eh26]; rfl) (by rw [eh26]; rfl)
      have hm := hm.tr mm27
      have t28 := mm27.tg t21 (by decide)
      have t29 := mm27.tg t24 (by decide)
      obtain ⟨v30, ev30⟩ : ∃ y9 : Int32, y9 = x18 + 1 := ⟨_, rfl⟩
      have w := w v30 ev30
      refine lv_iinc (v := v30) (lv' := [(4, .int v30), (0, .ref x14), (1, .int x15), (2, .int x16), (3, .int x17)]) hx hb d_MO_product_35 hl (k := 4) rfl (by rw [ev30]; rfl) (by decide) rfl (fun ls hl => ?_)
      refine lv_goto (tgt := 17) hx hb d_MO_product_38 (by decide) ?_
      exact ih x14 x15 x16 x17 v30 h26 _ _ _ w hm hW (lv_sub hl [1, 2, 3, 4, 0] rfl)
set_option maxHeartbeats 4000000 in
set_option maxRecDepth 100000 in
theorem tl_MO_product_61 {p : Program} {l : Launch} {e : Env} {s : State} {m : MethodId} {args : Array Value} {below : List Frame} {meth : Method} {c : Code} {G : zG} (C : cx_C p l s m args meth c G y_MO_product b_MO_product 8 none "BigDeskModel" (Cond.code y_MO_product b_MO_product 8 none :: zx_T) []) {K : ah_H → Prop} {h0 : ah_H} {cells slots : Nat} (hcl : cells + 0 ≤ 0) (hsl : slots + 0 ≤ 0) {xt_141 : Nat → Int32 → Int32 → Int32 → Int32 → Int32 → ah_H → Prop} (hc_xt_141 : ∀ (z0 : Nat) (z1 : Int32) (z2 : Int32) (z3 : Int32) (z4 : Int32) (z5 : Int32) (hz : ah_H) (H : Heap) (locs : List Loc) (ls : Array Slot), xt_141 z0 z1 z2 z3 z4 z5 hz → ah_m h0 hz → ah_W G s.heap hz H locs → lv_has ls 8 [(0, .ref z0), (1, .int z1), (2, .int z2), (3, .int z3), (4, .int z4), (5, .int z5)] → W p l e rm_MO_product s m args below meth c H locs cells slots (MQ below (va_Qv (fun h9 => K h9 ∧ ah_m h0 h9) (ah_B G) (fun q => G.2.2 ≤ q)) args s 0 0 (fun q => G.2.2 ≤ q)) (F0 m 141 ls [])) : ∀ (n : Nat) (x48 : Nat) (x49 : Int32) (x50 : Int32) (x51 : Int32) (x52 : Int32) (x53 : Int32) (x54 : Int32) (h55 : ah_H) (H : Heap) (locs : List Loc) (ls : Array Slot), lp_MO_product_61 xt_141 K n x48 x49 x50 x51 x52 x53 x54 h55 → ah_m h0 h55 → ah_W G s.heap h55 H locs → lv_has ls 8 [(0, .ref x48), (1, .int x49), (2, .int x50), (3, .int x51), (4, .int x52), (5, .int x53), (6, .int x54)] → W p l e rm_MO_product s m args below meth c H locs cells slots (MQ below (va_Qv (fun h9 => K h9 ∧ ah_m h0 h9) (ah_B G) (fun q => G.2.2 ≤ q)) args s 0 0 (fun q => G.2.2 ≤ q)) (F0 m 61 ls []) := by
  obtain ⟨hx, hb, hr, hml, hown, hts, hT, hlk, hK, hX, htb, hin, hst⟩ := id C
  have hw : ∀ {w9 : Cond}, w9 ∈ zx_T → w9.before _ s = true := fun h9 => hts _ (hT _ h9)
  intro n
  induction n with
  | zero =>
    intro x48 x49 x50 x51 x52 x53 x54 h55 H locs ls w
    exact absurd w (by intro z9; exact z9)
  | succ n ih =>
    intro x48 x49 x50 x51 x52 x53 x54 h55 H locs ls w hm hW hl
    unfold lp_MO_product_61 at w
    refine lv_iload hx hb d_MO_product_61 (lv_at hl 6 rfl) ?_
    refine lv_aload_n hx hb d_MO_product_63 rfl (lv_at hl 0 rfl) ?_
    obtain ⟨t56, w⟩ := w
    obtain ⟨q57, e58, w⟩ := w
    refine hb_get (ci := 4) (C := "BigDeskModel") (T := T_MO) (N := 8) hx hb hts (fun w9 h9 => hT w9 (u_MO w9 h9)) hown hK hW t56 rfl (by decide) 2 (by decide) (hw wd_648) (fun _ h9 => h9) (q := (2, 14)) rfl (v := .ref q57) (ah_f_R e58) d_MO_product_64 ?_
    refine lv_iload_n hx hb d_MO_product_67 rfl (lv_at hl 2 rfl) ?_
    obtain ⟨t59, w⟩ := w
    obtain ⟨i60, w⟩ := w
    refine hb_iald hx hb hK hW t59 (by decide) (by decide) 0 rfl i60 d_MO_product_68 ?_
    refine lv_icmp_ge (tgt := 141) hx hb d_MO_product_69 (by decide) (fun c61 => ?_) (fun c61 => ?_)
    · have w := w.1 c61
      exact hc_xt_141 x48 x49 x50 x51 x52 x53 h55 _ _ _ w hm hW (lv_sub hl [0, 1, 2, 3, 4, 5] rfl)
    · have w := w.2 c61
      refine lv_aload_n hx hb d_MO_product_72 rfl (lv_at hl 0 rfl) ?_
      obtain ⟨q62, e63, w⟩ := w
      refine hb_get (ci := 4) (C := "BigDeskModel") (T := T_MO) (N := 8) hx hb hts (fun w9 h9 => hT w9 (u_MO w9 h9)) hown hK hW t56 rfl (by decide) 1 (by decide) (hw wd_647) (fun _ h9 => h9) (q := (2, 13)) rfl (v := .ref q62) (ah_f_R e63) d_MO_product_73 ?_
      refine lv_sipush (v := 22100) hx hb d_MO_product_76 (by decide) ?_
      refine lv_iload hx hb d_MO_product_79 (lv_at hl 4 rfl) ?_
      refine lv_iadd hx hb d_MO_product_81 ?_
      refine lv_iload hx hb d_MO_product_82 (lv_at hl 6 rfl) ?_
      refine lv_iadd hx hb d_MO_product_84 ?_
      obtain ⟨t64, w⟩ := w
      obtain ⟨i65, w⟩ := w
      refine hb_iald hx hb hK hW t64 (by decide) (by decide) 0 rfl i65 d_MO_product_85 ?_
      refine lv_aload_n hx hb d_MO_product_86 rfl (lv_at hl 0 rfl) ?_
      refine lv_iload_n hx hb d_MO_product_87 rfl (lv_at hl 1 rfl) ?_
      refine lv_iload hx hb d_MO_product_88 (lv_at hl 4 rfl) ?_
      refine hb_calli (va_runV (As := [.int x49, .int x52]) (rest := [.int (ah_bI h55 q62 (((22100 : Int32) + x52) + x54).toNatClampNeg)]) ⟨hx, hb, hml, hown, hts⟩ (m_MO_at G x48 x49 x52 h55 hst w) (cwV 2 hts (zx_gV hT wd_642 wd_644 wd_s14 wd_5 wd_645) rfl rfl rfl (by decide +kernel) ⟨Nat.le_of_ble_eq_true rfl, Nat.le_of_ble_eq_true rfl⟩) (hb_preV hK hX hW t56 (by decide) rfl) rfl rfl hl.1 rfl (lv_room (Nat.le_of_ble_eq_true rfl)) d_MO_product_90 ⟨(by show _ ≤ 0; omega), (by show _ ≤ 0; omega)⟩) hW (fun r67 h66 H locs hk hW => ?_)
      obtain ⟨w, mm68⟩ := hk
      have w := w mm68
      have hm := hm.tr mm68
      have t69 := mm68.tg t56 (by decide)
      have t70 := mm68.tg t59 (by decide)
      have t71 := mm68.tg t64 (by decide)
      refine lv_aload_n hx hb d_MO_product_93 rfl (lv_at hl 0 rfl) ?_
      refine lv_iload_n hx hb d_MO_product_94 rfl (lv_at hl 2 rfl) ?_
      refine lv_iload hx hb d_MO_product_95 (lv_at hl 6 rfl) ?_
      refine hb_calli (va_runV (As := [.int x50, .int x54]) (rest := [.int r67, .int (ah_bI h55 q62 (((22100 : Int32) + x52) + x54).toNatClampNeg)]) ⟨hx, hb, hml, hown, hts⟩ (m_MO_at G x48 x50 x54 h66 hst w) (cwV 2 hts (zx_gV hT wd_642 wd_644 wd_s14 wd_5 wd_645) rfl rfl rfl (by decide +kernel) ⟨Nat.le_of_ble_eq_true rfl, Nat.le_of_ble_eq_true rfl⟩) (hb_preV hK hX hW t69 (by decide) rfl) rfl rfl hl.1 rfl (lv_room (Nat.le_of_ble_eq_true rfl)) d_MO_product_97 ⟨(by show _ ≤ 0; omega), (by show _ ≤ 0; omega)⟩) hW (fun r73 h72 H locs hk hW => ?_)
      obtain ⟨w, mm74⟩ := hk
      have w := w mm74
      have hm := hm.tr mm74
      have t75 := mm74.tg t69 (by decide)
      have t76 := mm74.tg t70 (by decide)
      have t77 := mm74.tg t71 (by decide)
      refine lv_imul hx hb d_MO_product_100 ?_
      refine lv_iadd hx hb d_MO_product_101 ?_
      refine lv_iload hx hb d_MO_product_102 (lv_at hl 5 rfl) ?_
      refine lv_iadd hx hb d_MO_product_104 ?_
      refine lv_topi (fun v78 ev78 => ?_)
      have w := w v78 ev78
      refine lv_istore (lv' := [(7, .int v78), (0, .ref x48), (1, .int x49), (2, .int x50), (3, .int x51), (4, .int x52), (5, .int x53), (6, .int x54)]) hx hb d_MO_product_105 hl (by decide) rfl (fun ls hl => ?_)
      refine lv_aload_n hx hb d_MO_product_107 rfl (lv_at hl 1 rfl) ?_
      obtain ⟨q79, e80, w⟩ := w
      refine hb_get (ci := 4) (C := "BigDeskModel") (T := T_MO) (N := 8) hx hb hts (fun w9 h9 => hT w9 (u_MO w9 h9)) hown hK hW t75 rfl (by decide) 1 (by decide) (hw wd_647) (fun _ h9 => h9) (q := (2, 13)) rfl (v := .ref q79) (ah_f_R e80) d_MO_product_108 ?_
      refine lv_sipush (v := 22100) hx hb d_MO_product_111 (by decide) ?_
      refine lv_iload hx hb d_MO_product_114 (lv_at hl 5 rfl) ?_
      refine lv_iadd hx hb d_MO_product_116 ?_
      refine lv_iload hx hb d_MO_product_117 (lv_at hl 7 rfl) ?_
      refine lv_iadd hx hb d_MO_product_119 ?_
      refine lv_iload hx hb d_MO_product_120 (lv_at hl 0 rfl) ?_
      refine lv_sipush (v := 10000) hx hb d_MO_product_122 (by decide) ?_
      refine lv_irem hx hb d_MO_product_125 (by decide) ?_
      refine lv_topi (fun v81 ev81 => ?_)
      have w := w v81 ev81
      obtain ⟨t82, w⟩ := w
      obtain ⟨i83, w⟩ := w
      refine hb_iast hx hb hK hW t82 (by decide) (by decide) 0 rfl i83 d_MO_product_126 (fun H locs h84 eh84 hW => ?_)
      have w := w h84 eh84
      have mm85 : ah_m h72 h84 := ah_m.rf.st (by rw [eh84]; rfl) (by rw [eh84]; rfl)
      have hm := hm.tr mm85
      have t86 := mm85.tg t75 (by decide)
      have t87 := mm85.tg t76 (by decide)
      have t88 := mm85.tg t77 (by decide)
      have t89 := mm85.tg t82 (by decide)
      refine lv_iload hx hb d_MO_product_127 (lv_at hl 0 rfl) ?_
      refine lv_sipush (v := 10000) hx hb d_MO_product_129 (by decide) ?_
      refine lv_idiv hx hb d_MO_product_132 (by decide) ?_
      refine lv_topi (fun v90 ev90 => ?_)
      have w := w v90 ev90
      refine lv_istore (lv' := [(5, .int v90), (7, .int v78), (0, .ref x48), (1, .int x49), (2, .int x50), (3, .int x51), (4, .int x52), (6, .int x54)]) hx hb d_MO_product_133 hl (by decide) rfl (fun ls hl => ?_)
      obtain ⟨v91, ev91⟩ : ∃ y9 : Int32, y9 = x54 + 1 := ⟨_, rfl⟩
      have w := w v91 ev91
      refine lv_iinc (v := v91) (lv' := [(6, .int v91), (5, .int v90), (7, .int v78), (0, .ref x48), (1, .int x49), (2, .int x50), (3, .int x51), (4, .int x52)]) hx hb d_MO_product_135 hl (k := 7) rfl (by rw [ev91]; rfl) (by decide) rfl (fun ls hl => ?_)
      refine lv_goto (tgt := 61) hx hb d_MO_product_138 (by decide) ?_
      exact ih x48 x49 x50 x51 x52 v90 v91 h84 _ _ _ w hm hW (lv_sub hl [3, 4, 5, 6, 7, 1, 0] rfl)
set_option maxHeartbeats 4000000 in
set_option maxRecDepth 100000 in
theorem tl_MO_product_44 {p : Program} {l : Launch} {e : Env} {s : State} {m : MethodId} {args : Array Value} {below : List Frame} {meth : Method} {c : Code} {G : zG} (C : cx_C p l s m args meth c G y_MO_product b_MO_product 8 none "BigDeskModel" (Cond.code y_MO_product b_MO_product 8 none :: zx_T) []) {K : ah_H → Prop} {h0 : ah_H} {cells slots : Nat} (hcl : cells + 0 ≤ 0) (hsl : slots + 0 ≤ 0) {xt_167 : Nat → Int32 → Int32 → Int32 → ah_H → Prop} (hc_xt_167 : ∀ (z0 : Nat) (z1 : Int32) (z2 : Int32) (z3 : Int32) (hz : ah_H) (H : Heap) (locs : List Loc) (ls : Array Slot), xt_167 z0 z1 z2 z3 hz → ah_m h0 hz → ah_W G s.heap hz H locs → lv_has ls 8 [(0, .ref z0), (1, .int z1), (2, .int z2), (3, .int z3)] → W p l e rm_MO_product s m args below meth c H locs cells slots (MQ below (va_Qv (fun h9 => K h9 ∧ ah_m h0 h9) (ah_B G) (fun q => G.2.2 ≤ q)) args s 0 0 (fun q => G.2.2 ≤ q)) (F0 m 167 ls [])) : ∀ (n : Nat) (x36 : Nat) (x37 : Int32) (x38 : Int32) (x39 : Int32) (x40 : Int32) (h41 : ah_H) (H : Heap) (locs : List Loc) (ls : Array Slot), lp_MO_product_44 xt_167 K n x36 x37 x38 x39 x40 h41 → ah_m h0 h41 → ah_W G s.heap h41 H locs → lv_has ls 8 [(0, .ref x36), (1, .int x37), (2, .int x38), (3, .int x39), (4, .int x40)] → W p l e rm_MO_product s m args below meth c H locs cells slots (MQ below (va_Qv (fun h9 => K h9 ∧ ah_m h0 h9) (ah_B G) (fun q => G.2.2 ≤ q)) args s 0 0 (fun q => G.2.2 ≤ q)) (F0 m 44 ls []) := by
  obtain ⟨hx, hb, hr, hml, hown, hts, hT, hlk, hK, hX, htb, hin, hst⟩ := id C
  have hw : ∀ {w9 : Cond}, w9 ∈ zx_T → w9.before _ s = true := fun h9 => hts _ (hT _ h9)
  intro n
  induction n with
  | zero =>
    intro x36 x37 x38 x39 x40 h41 H locs ls w
    exact absurd w (by intro z9; exact z9)
  | succ n ih =>
    intro x36 x37 x38 x39 x40 h41 H locs ls w hm hW hl
    unfold lp_MO_product_44 at w
    refine lv_iload hx hb d_MO_product_44 (lv_at hl 4 rfl) ?_
    refine lv_aload_n hx hb d_MO_product_46 rfl (lv_at hl 0 rfl) ?_
    obtain ⟨t42, w⟩ := w
    obtain ⟨q43, e44, w⟩ := w
    refine hb_get (ci := 4) (C := "BigDeskModel") (T := T_MO) (N := 8) hx hb hts (fun w9 h9 => hT w9 (u_MO w9 h9)) hown hK hW t42 rfl (by decide) 2 (by decide) (hw wd_648) (fun _ h9 => h9) (q := (2, 14)) rfl (v := .ref q43) (ah_f_R e44) d_MO_product_47 ?_
    refine lv_iload_n hx hb d_MO_product_50 rfl (lv_at hl 1 rfl) ?_
    obtain ⟨t45, w⟩ := w
    obtain ⟨i46, w⟩ := w
    refine hb_iald hx hb hK hW t45 (by decide) (by decide) 0 rfl i46 d_MO_product_51 ?_
    refine lv_icmp_ge (tgt := 167) hx hb d_MO_product_52 (by decide) (fun c47 => ?_) (fun c47 => ?_)
    · have w := w.1 c47
      exact hc_xt_167 x36 x37 x38 x39 h41 _ _ _ w hm hW (lv_sub hl [0, 1, 2, 3] rfl)
    · have w := w.2 c47
      refine lv_iconst (v := 0) hx hb d_MO_product_55 (by decide) ?_
      refine lv_istore (lv' := [(5, .int (0 : Int32)), (0, .ref x36), (1, .int x37), (2, .int x38), (3, .int x39), (4, .int x40)]) hx hb d_MO_product_56 hl (by decide) rfl (fun ls hl => ?_)
      refine lv_iconst (v := 0) hx hb d_MO_product_58 (by decide) ?_
      refine lv_istore (lv' := [(6, .int (0 : Int32)), (5, .int (0 : Int32)), (0, .ref x36), (1, .int x37), (2, .int x38), (3, .int x39), (4, .int x40)]) hx hb d_MO_product_59 hl (by decide) rfl (fun ls hl => ?_)
      obtain ⟨k114, w⟩ := w
      refine tl_MO_product_61 C (by omega) (by omega) (fun x92 x93 x94 x95 x96 x97 h98 H locs ls w hm hW hl => ?_) k114 x36 x37 x38 x39 x40 (0 : Int32) (0 : Int32) h41 _ _ _ w hm hW (lv_sub hl [2, 3, 4, 5, 6, 1, 0] rfl)
      · refine lv_aload_n hx hb d_MO_product_141 rfl (lv_at hl 0 rfl) ?_
        obtain ⟨t99, w⟩ := w
        obtain ⟨q100, e101, w⟩ := w
        refine hb_get (ci := 4) (C := "BigDeskModel") (T := T_MO) (N := 8) hx hb hts (fun w9 h9 => hT w9 (u_MO w9 h9)) hown hK hW t99 rfl (by decide) 1 (by decide) (hw wd_647) (fun _ h9 => h9) (q := (2, 13)) rfl (v := .ref q100) (ah_f_R e101) d_MO_product_142 ?_
        refine lv_sipush (v := 22100) hx hb d_MO_product_145 (by decide) ?_
        refine lv_iload hx hb d_MO_product_148 (lv_at hl 4 rfl) ?_
        refine lv_iadd hx hb d_MO_product_150 ?_
        refine lv_aload_n hx hb d_MO_product_151 rfl (lv_at hl 0 rfl) ?_
        obtain ⟨q102, e103, w⟩ := w
        refine hb_get (ci := 4) (C := "BigDeskModel") (T := T_MO) (N := 8) hx hb hts (fun w9 h9 => hT w9 (u_MO w9 h9)) hown hK hW t99 rfl (by decide) 2 (by decide) (hw wd_648) (fun _ h9 => h9) (q := (2, 14)) rfl (v := .ref q102) (ah_f_R e103) d_MO_product_152 ?_
        refine lv_iload_n hx hb d_MO_product_155 rfl (lv_at hl 2 rfl) ?_
        obtain ⟨t104, w⟩ := w
        obtain ⟨i105, w⟩ := w
        refine hb_iald hx hb hK hW t104 (by decide) (by decide) 0 rfl i105 d_MO_product_156 ?_
        refine lv_iadd hx hb d_MO_product_157 ?_
        refine lv_iload hx hb d_MO_product_158 (lv_at hl 5 rfl) ?_
        obtain ⟨t106, w⟩ := w
        obtain ⟨i107, w⟩ := w
        refine hb_iast hx hb hK hW t106 (by decide) (by decide) 0 rfl i107 d_MO_product_160 (fun H locs h108 eh108 hW => ?_)
        have w := w h108 eh108
        have mm109 : ah_m h98 h108 := ah_m.rf.st (by rw [eh108]; rfl) (by rw [eh108]; rfl)
        have hm := hm.tr mm109
        have t110 := mm109.tg t99 (by decide)
        have t111 := mm109.tg t104 (by decide)
        have t112 := mm109.tg t106 (by decide)
        obtain ⟨v113, ev113⟩ : ∃ y9 : Int32, y9 = x96 + 1 := ⟨_, rfl⟩
        have w := w v113 ev113
        refine lv_iinc (v := v113) (lv' := [(4, .int v113), (0, .ref x92), (1, .int x93), (2, .int x94), (3, .int x95), (5, .int x97)]) hx hb d_MO_product_161 hl (k := 4) rfl (by rw [ev113]; rfl) (by decide) rfl (fun ls hl => ?_)
        refine lv_goto (tgt := 44) hx hb d_MO_product_164 (by decide) ?_
        exact ih x92 x93 x94 x95 v113 h108 _ _ _ w hm hW (lv_sub hl [1, 2, 3, 4, 0] rfl)
set_option maxHeartbeats 4000000 in
set_option maxRecDepth 100000 in
theorem m_MO_product {l : Launch} (G : zG) (a1 : Nat) (a2 : Int32) (a3 : Int32) (h0 : ah_H) {K : ah_H → Prop} (hst : l.stackTraces = false) (w : w_MO_product a1 a2 a3 h0 K) : Met l y_MO_product (Cond.code y_MO_product b_MO_product 8 none :: zx_T) rm_MO_product (va_Pc [.ref a1, .int a2, .int a3] (ah_B G h0)) (va_Qv (fun h9 => K h9 ∧ ah_m h0 h9) (ah_B G) (fun q => G.2.2 ≤ q)) 0 0 (fun q => G.2.2 ≤ q) := by
  refine Met.ofW (cc := b_MO_product) (maxL := 8) (ret := none) (by decide) rfl ?_
  intro p e s m args below meth c s₁ B hml hv
  have htb := cx_out B (atoms_spec B.pre _ List.mem_cons_self)
  obtain ⟨rfl, hB⟩ := hv
  have C : cx_C p l s m _ meth c G y_MO_product b_MO_product 8 none "BigDeskModel" (Cond.code y_MO_product b_MO_product 8 none :: zx_T) [] := ⟨B.exec, B.bytes, B.returns, hml, findClass_of_methodNamed B.named, atoms_spec B.pre, cx_hd, B.notSynchronized, hB.2.2.1, hB.2.2.2, htb, fun z9 => (name_of_methodNamed B.named B.method).1.trans z9, hst⟩
  obtain ⟨hx, hb, hr, hml, hown, hts, hT, hlk, hK, hX, htb, hin, hst⟩ := id C
  have hw : ∀ {w9 : Cond}, w9 ∈ zx_T → w9.before _ s = true := fun h9 => hts _ (hT _ h9)
  have hW : ah_W G s.heap h0 s.heap [] := ⟨hB.1, hB.2.1, va_S.rf⟩
  have hm : ah_m h0 h0 := ah_m.rf
  have hcl : 0 + 0 ≤ 0 := by decide
  have hsl : 0 + 0 ≤ 0 := by decide
  have hl := lv_entry ([.ref a1, .int a2, .int a3]) (n := 8) (Nat.le_of_ble_eq_true rfl)
  rw [lg_entry_eq]
  generalize (lg_sl ([.ref a1, .int a2, .int a3]) ++ List.replicate (8 - (lg_sl ([.ref a1, .int a2, .int a3])).length) Slot.unset).toArray = ls at hl ⊢
  have hl : lv_has ls 8 [(0, .ref a1), (1, .int a2), (2, .int a3)] := hl
  unfold w_MO_product at w
  refine lv_aload_n hx hb d_MO_product_0 rfl (lv_at hl 0 rfl) ?_
  obtain ⟨t4, w⟩ := w
  obtain ⟨q5, e6, w⟩ := w
  refine hb_get (ci := 4) (C := "BigDeskModel") (T := T_MO) (N := 8) hx hb hts (fun w9 h9 => hT w9 (u_MO w9 h9)) hown hK hW t4 rfl (by decide) 2 (by decide) (hw wd_648) (fun _ h9 => h9) (q := (2, 14)) rfl (v := .ref q5) (ah_f_R e6) d_MO_product_1 ?_
  refine lv_iload_n hx hb d_MO_product_4 rfl (lv_at hl 1 rfl) ?_
  obtain ⟨t7, w⟩ := w
  obtain ⟨i8, w⟩ := w
  refine hb_iald hx hb hK hW t7 (by decide) (by decide) 0 rfl i8 d_MO_product_5 ?_
  refine lv_aload_n hx hb d_MO_product_6 rfl (lv_at hl 0 rfl) ?_
  obtain ⟨q9, e10, w⟩ := w
  refine hb_get (ci := 4) (C := "BigDeskModel") (T := T_MO) (N := 8) hx hb hts (fun w9 h9 => hT w9 (u_MO w9 h9)) hown hK hW t4 rfl (by decide) 2 (by decide) (hw wd_648) (fun _ h9 => h9) (q := (2, 14)) rfl (v := .ref q9) (ah_f_R e10) d_MO_product_7 ?_
  refine lv_iload_n hx hb d_MO_product_10 rfl (lv_at hl 2 rfl) ?_
  obtain ⟨t11, w⟩ := w
  obtain ⟨i12, w⟩ := w
  refine hb_iald hx hb hK hW t11 (by decide) (by decide) 0 rfl i12 d_MO_product_11 ?_
  refine lv_iadd hx hb d_MO_product_12 ?_
  refine lv_topi (fun v13 ev13 => ?_)
  have w := w v13 ev13
  refine lv_istore_n (lv' := [(3, .int v13), (0, .ref a1), (1, .int a2), (2, .int a3)]) hx hb d_MO_product_13 rfl hl (by decide) rfl (fun ls hl => ?_)
  refine lv_iconst (v := 0) hx hb d_MO_product_14 (by decide) ?_
  refine lv_istore (lv' := [(4, .int (0 : Int32)), (3, .int v13), (0, .ref a1), (1, .int a2), (2, .int a3)]) hx hb d_MO_product_15 hl (by decide) rfl (fun ls hl => ?_)
  obtain ⟨k147, w⟩ := w
  refine tl_MO_product_17 C (by omega) (by omega) (fun x31 x32 x33 x34 h35 H locs ls w hm hW hl => ?_) k147 a1 a2 a3 v13 (0 : Int32) h0 _ _ _ w hm hW (lv_sub hl [2, 3, 4, 1, 0] rfl)
  · refine lv_iconst (v := 0) hx hb d_MO_product_41 (by decide) ?_
    refine lv_istore (lv' := [(4, .int (0 : Int32)), (0, .ref x31), (1, .int x32), (2, .int x33), (3, .int x34)]) hx hb d_MO_product_42 hl (by decide) rfl (fun ls hl => ?_)
    obtain ⟨k146, w⟩ := w
    refine tl_MO_product_44 C (by omega) (by omega) (fun x115 x116 x117 x118 h119 H locs ls w hm hW hl => ?_) k146 x31 x32 x33 x34 (0 : Int32) h35 _ _ _ w hm hW (lv_sub hl [1, 2, 3, 4, 0] rfl)
    · refine lv_aload_n hx hb d_MO_product_167 rfl (lv_at hl 0 rfl) ?_
      obtain ⟨t120, w⟩ := w
      obtain ⟨q121, e122, w⟩ := w
      refine hb_get (ci := 4) (C := "BigDeskModel") (T := T_MO) (N := 8) hx hb hts (fun w9 h9 => hT w9 (u_MO w9 h9)) hown hK hW t120 rfl (by decide) 3 (by decide) (hw wd_649) (fun _ h9 => h9) (q := (2, 15)) rfl (v := .ref q121) (ah_f_R e122) d_MO_product_168 ?_
      refine lv_bipush (v := 17) hx hb d_MO_product_171 (by decide) ?_
      refine lv_aload_n hx hb d_MO_product_173 rfl (lv_at hl 0 rfl) ?_
      obtain ⟨q123, e124, w⟩ := w
      refine hb_get (ci := 4) (C := "BigDeskModel") (T := T_MO) (N := 8) hx hb hts (fun w9 h9 => hT w9 (u_MO w9 h9)) hown hK hW t120 rfl (by decide) 3 (by decide) (hw wd_649) (fun _ h9 => h9) (q := (2, 15)) rfl (v := .ref q123) (ah_f_R e124) d_MO_product_174 ?_
      refine lv_iload_n hx hb d_MO_product_177 rfl (lv_at hl 1 rfl) ?_
      obtain ⟨t125, w⟩ := w
      obtain ⟨i126, w⟩ := w
      refine hb_iald hx hb hK hW t125 (by decide) (by decide) 0 rfl i126 d_MO_product_178 ?_
      refine lv_aload_n hx hb d_MO_product_179 rfl (lv_at hl 0 rfl) ?_
      obtain ⟨q127, e128, w⟩ := w
      refine hb_get (ci := 4) (C := "BigDeskModel") (T := T_MO) (N := 8) hx hb hts (fun w9 h9 => hT w9 (u_MO w9 h9)) hown hK hW t120 rfl (by decide) 3 (by decide) (hw wd_649) (fun _ h9 => h9) (q := (2, 15)) rfl (v := .ref q127) (ah_f_R e128) d_MO_product_180 ?_
      refine lv_iload_n hx hb d_MO_product_183 rfl (lv_at hl 2 rfl) ?_
      obtain ⟨t129, w⟩ := w
      obtain ⟨i130, w⟩ := w
      refine hb_iald hx hb hK hW t129 (by decide) (by decide) 0 rfl i130 d_MO_product_184 ?_
      refine lv_imul hx hb d_MO_product_185 ?_
      refine lv_topi (fun v131 ev131 => ?_)
      have w := w v131 ev131
      obtain ⟨t132, w⟩ := w
      obtain ⟨i133, w⟩ := w
      refine hb_iast hx hb hK hW t132 (by decide) (by decide) 0 rfl i133 d_MO_product_186 (fun H locs h134 eh134 hW => ?_)
      have w := w h134 eh134
      have mm135 : ah_m h119 h134 := ah_m.rf.st (by rw [eh134]; rfl) (by rw [eh134]; rfl)
      have hm := hm.tr mm135
      have t136 := mm135.tg t120 (by decide)
      have t137 := mm135.tg t125 (by decide)
      have t138 := mm135.tg t129 (by decide)
      have t139 := mm135.tg t132 (by decide)
      refine lv_aload_n hx hb d_MO_product_187 rfl (lv_at hl 0 rfl) ?_
      refine lv_bipush (v := 17) hx hb d_MO_product_188 (by decide) ?_
      refine lv_iload_n hx hb d_MO_product_190 rfl (lv_at hl 3 rfl) ?_
      refine hb_callv (va_runV (As := [.int (17 : Int32), .int x118]) (rest := []) ⟨hx, hb, hml, hown, hts⟩ (m_MO_trim G x115 (17 : Int32) x118 h134 hst w) (cwV 2 hts (zx_gV hT wd_707 wd_709 wd_s19 wd_5 wd_710) rfl rfl rfl (by decide +kernel) ⟨Nat.le_of_ble_eq_true rfl, Nat.le_of_ble_eq_true rfl⟩) (hb_preV hK hX hW t136 (by decide) rfl) rfl rfl hl.1 rfl (lv_room (Nat.le_of_ble_eq_true rfl)) d_MO_product_191 ⟨(by show _ ≤ 0; omega), (by show _ ≤ 0; omega)⟩) hW (fun h140 H locs hk hW => ?_)
      obtain ⟨w, mm141⟩ := hk
      have w := w mm141
      have hm := hm.tr mm141
      have t142 := mm141.tg t136 (by decide)
      have t143 := mm141.tg t137 (by decide)
      have t144 := mm141.tg t138 (by decide)
      have t145 := mm141.tg t139 (by decide)
      exact hb_vret (K := fun h9 => K h9 ∧ ah_m h0 h9) hx hb hr hlk hK hX hW ⟨w, hm⟩ (by omega) (by omega) d_MO_product_194
set_option maxHeartbeats 4000000 in
set_option maxRecDepth 100000 in
theorem tl_MO_parts_12 {p : Program} {l : Launch} {e : Env} {s : State} {m : MethodId} {args : Array Value} {below : List Frame} {meth : Method} {c : Code} {G : zG} (C : cx_C p l s m args meth c G y_MO_parts b_MO_parts 6 (some .int) "BigDeskModel" (Cond.code y_MO_parts b_MO_parts 6 (some .int) :: zx_T) []) {K : Int32 → ah_H → Prop} {h0 : ah_H} {cells slots : Nat} (hcl : cells + 0 ≤ 0) (hsl : slots + 0 ≤ 0) {xt_60 : Nat → Int32 → Int32 → ah_H → Prop} (hc_xt_60 : ∀ (z0 : Nat) (z1 : Int32) (z2 : Int32) (hz : ah_H) (H : Heap) (locs : List Loc) (ls : Array Slot), xt_60 z0 z1 z2 hz → ah_m h0 hz → ah_W G s.heap hz H locs → lv_has ls 6 [(0, .ref z0), (1, .int z1), (3, .int z2)] → W p l e rm_MO_parts s m args below meth c H locs cells slots (MQ below (va_Qi (fun r9 h9 => K r9 h9 ∧ ah_m h0 h9) (ah_B G) (fun q => G.2.2 ≤ q)) args s 0 0 (fun q => G.2.2 ≤ q)) (F0 m 60 ls [])) : ∀ (n : Nat) (x10 : Nat) (x11 : Int32) (x12 : Int32) (x13 : Int32) (x14 : Int32) (h15 : ah_H) (H : Heap) (locs : List Loc) (ls : Array Slot), lp_MO_parts_12 xt_60 K n x10 x11 x12 x13 x14 h15 → ah_m h0 h15 → ah_W G s.heap h15 H locs → lv_has ls 6 [(0, .ref x10), (1, .int x11), (2, .int x12), (3, .int x13), (4, .int x14)] → W p l e rm_MO_parts s m args below meth c H locs cells slots (MQ below (va_Qi (fun r9 h9 => K r9 h9 ∧ ah_m h0 h9) (ah_B G) (fun q => G.2.2 ≤ q)) args s 0 0 (fun q => G.2.2 ≤ q)) (F0 m 12 ls []) := by
  obtain ⟨hx, hb, hr, hml, hown, hts, hT, hlk, hK, hX, htb, hin, hst⟩ := id C
  have hw : ∀ {w9 : Cond}, w9 ∈ zx_T → w9.before _ s = true := fun h9 => hts _ (hT _ h9)
  intro n
  induction n with
  | zero =>
    intro x10 x11 x12 x13 x14 h15 H locs ls w
    exact absurd w (by intro z9; exact z9)
  | succ n ih =>
    intro x10 x11 x12 x13 x14 h15 H locs ls w hm hW hl
    unfold lp_MO_parts_12 at w
    refine lv_iload hx hb d_MO_parts_12 (lv_at hl 4 rfl) ?_
    refine lv_if_lt (tgt := 60) hx hb d_MO_parts_14 (by decide) (fun c16 => ?_) (fun c16 => ?_)
    · have w := w.1 c16
      exact hc_xt_60 x10 x11 x13 h15 _ _ _ w hm hW (lv_sub hl [0, 1, 3] rfl)
    · have w := w.2 c16
      refine lv_iload_n hx hb d_MO_parts_17 rfl (lv_at hl 3 rfl) ?_
      refine lv_sipush (v := 10000) hx hb d_MO_parts_18 (by decide) ?_
      refine lv_imul hx hb d_MO_parts_21 ?_
      refine lv_aload_n hx hb d_MO_parts_22 rfl (lv_at hl 0 rfl) ?_
      refine lv_iload_n hx hb d_MO_parts_23 rfl (lv_at hl 1 rfl) ?_
      refine lv_iload hx hb d_MO_parts_24 (lv_at hl 4 rfl) ?_
      obtain ⟨t17, w⟩ := w
      refine hb_calli (va_runV (As := [.int x11, .int x14]) (rest := [.int (x13 * (10000 : Int32))]) ⟨hx, hb, hml, hown, hts⟩ (m_MO_at G x10 x11 x14 h15 hst w) (cwV 2 hts (zx_gV hT wd_642 wd_644 wd_s14 wd_5 wd_645) rfl rfl rfl (by decide +kernel) ⟨Nat.le_of_ble_eq_true rfl, Nat.le_of_ble_eq_true rfl⟩) (hb_preV hK hX hW t17 (by decide) rfl) rfl rfl hl.1 rfl (lv_room (Nat.le_of_ble_eq_true rfl)) d_MO_parts_26 ⟨(by show _ ≤ 0; omega), (by show _ ≤ 0; omega)⟩) hW (fun r19 h18 H locs hk hW => ?_)
      obtain ⟨w, mm20⟩ := hk
      have w := w mm20
      have hm := hm.tr mm20
      have t21 := mm20.tg t17 (by decide)
      refine lv_iadd hx hb d_MO_parts_29 ?_
      refine lv_topi (fun v22 ev22 => ?_)
      have w := w v22 ev22
      refine lv_istore (lv' := [(5, .int v22), (0, .ref x10), (1, .int x11), (2, .int x12), (3, .int x13), (4, .int x14)]) hx hb d_MO_parts_30 hl (by decide) rfl (fun ls hl => ?_)
      refine lv_aload_n hx hb d_MO_parts_32 rfl (lv_at hl 1 rfl) ?_
      obtain ⟨q23, e24, w⟩ := w
      refine hb_get (ci := 4) (C := "BigDeskModel") (T := T_MO) (N := 8) hx hb hts (fun w9 h9 => hT w9 (u_MO w9 h9)) hown hK hW t21 rfl (by decide) 1 (by decide) (hw wd_647) (fun _ h9 => h9) (q := (2, 13)) rfl (v := .ref q23) (ah_f_R e24) d_MO_parts_33 ?_
      refine lv_sipush (v := 1300) hx hb d_MO_parts_36 (by decide) ?_
      refine lv_iload_n hx hb d_MO_parts_39 rfl (lv_at hl 2 rfl) ?_
      refine lv_imul hx hb d_MO_parts_40 ?_
      refine lv_iload hx hb d_MO_parts_41 (lv_at hl 5 rfl) ?_
      refine lv_iadd hx hb d_MO_parts_43 ?_
      refine lv_iload hx hb d_MO_parts_44 (lv_at hl 0 rfl) ?_
      refine lv_iload_n hx hb d_MO_parts_46 rfl (lv_at hl 3 rfl) ?_
      obtain ⟨ne25, w⟩ := w
      refine lv_idiv hx hb d_MO_parts_47 ne25 ?_
      refine lv_topi (fun v26 ev26 => ?_)
      have w := w v26 ev26
      obtain ⟨t27, w⟩ := w
      obtain ⟨i28, w⟩ := w
      refine hb_iast hx hb hK hW t27 (by decide) (by decide) 0 rfl i28 d_MO_parts_48 (fun H locs h29 eh29 hW => ?_)
      have w := w h29 eh29
      have mm30 : ah_m h18 h29 := ah_m.rf.st (by rw [eh29]; rfl) (by rw [eh29]; rfl)
      have hm := hm.tr mm30
      have t31 := mm30.tg t21 (by decide)
      have t32 := mm30.tg t27 (by decide)
      refine lv_iload hx hb d_MO_parts_49 (lv_at hl 0 rfl) ?_
      refine lv_iload_n hx hb d_MO_parts_51 rfl (lv_at hl 3 rfl) ?_
      obtain ⟨ne33, w⟩ := w
      refine lv_irem hx hb d_MO_parts_52 ne33 ?_
      refine lv_topi (fun v34 ev34 => ?_)
      have w := w v34 ev34
      refine lv_istore_n (lv' := [(3, .int v34), (5, .int v22), (0, .ref x10), (1, .int x11), (2, .int x12), (4, .int x14)]) hx hb d_MO_parts_53 rfl hl (by decide) rfl (fun ls hl => ?_)
      obtain ⟨v35, ev35⟩ : ∃ y9 : Int32, y9 = x14 + (-1) := ⟨_, rfl⟩
      have w := w v35 ev35
      refine lv_iinc (v := v35) (lv' := [(4, .int v35), (3, .int v34), (5, .int v22), (0, .ref x10), (1, .int x11), (2, .int x12)]) hx hb d_MO_parts_54 hl (k := 5) rfl (by rw [ev35]; rfl) (by decide) rfl (fun ls hl => ?_)
      refine lv_goto (tgt := 12) hx hb d_MO_parts_57 (by decide) ?_
      exact ih x10 x11 x12 v34 v35 h29 _ _ _ w hm hW (lv_sub hl [3, 4, 5, 1, 0] rfl)
set_option maxHeartbeats 4000000 in
set_option maxRecDepth 100000 in
theorem m_MO_parts {l : Launch} (G : zG) (a1 : Nat) (a2 : Int32) (a3 : Int32) (h0 : ah_H) {K : Int32 → ah_H → Prop} (hst : l.stackTraces = false) (w : w_MO_parts a1 a2 a3 h0 K) : Met l y_MO_parts (Cond.code y_MO_parts b_MO_parts 6 (some .int) :: zx_T) rm_MO_parts (va_Pc [.ref a1, .int a2, .int a3] (ah_B G h0)) (va_Qi (fun r9 h9 => K r9 h9 ∧ ah_m h0 h9) (ah_B G) (fun q => G.2.2 ≤ q)) 0 0 (fun q => G.2.2 ≤ q) := by
  refine Met.ofW (cc := b_MO_parts) (maxL := 6) (ret := (some .int)) (by decide) rfl ?_
  intro p e s m args below meth c s₁ B hml hv
  have htb := cx_out B (atoms_spec B.pre _ List.mem_cons_self)
  obtain ⟨rfl, hB⟩ := hv
  have C : cx_C p l s m _ meth c G y_MO_parts b_MO_parts 6 (some .int) "BigDeskModel" (Cond.code y_MO_parts b_MO_parts 6 (some .int) :: zx_T) [] := ⟨B.exec, B.bytes, B.returns, hml, findClass_of_methodNamed B.named, atoms_spec B.pre, cx_hd, B.notSynchronized, hB.2.2.1, hB.2.2.2, htb, fun z9 => (name_of_methodNamed B.named B.method).1.trans z9, hst⟩
  obtain ⟨hx, hb, hr, hml, hown, hts, hT, hlk, hK, hX, htb, hin, hst⟩ := id C
  have hw : ∀ {w9 : Cond}, w9 ∈ zx_T → w9.before _ s = true := fun h9 => hts _ (hT _ h9)
  have hW : ah_W G s.heap h0 s.heap [] := ⟨hB.1, hB.2.1, va_S.rf⟩
  have hm : ah_m h0 h0 := ah_m.rf
  have hcl : 0 + 0 ≤ 0 := by decide
  have hsl : 0 + 0 ≤ 0 := by decide
  have hl := lv_entry ([.ref a1, .int a2, .int a3]) (n := 6) (Nat.le_of_ble_eq_true rfl)
  rw [lg_entry_eq]
  generalize (lg_sl ([.ref a1, .int a2, .int a3]) ++ List.replicate (6 - (lg_sl ([.ref a1, .int a2, .int a3])).length) Slot.unset).toArray = ls at hl ⊢
  have hl : lv_has ls 6 [(0, .ref a1), (1, .int a2), (2, .int a3)] := hl
  unfold w_MO_parts at w
  refine lv_iconst (v := 0) hx hb d_MO_parts_0 (by decide) ?_
  refine lv_istore_n (lv' := [(3, .int (0 : Int32)), (0, .ref a1), (1, .int a2), (2, .int a3)]) hx hb d_MO_parts_1 rfl hl (by decide) rfl (fun ls hl => ?_)
  refine lv_aload_n hx hb d_MO_parts_2 rfl (lv_at hl 1 rfl) ?_
  obtain ⟨t4, w⟩ := w
  obtain ⟨q5, e6, w⟩ := w
  refine hb_get (ci := 4) (C := "BigDeskModel") (T := T_MO) (N := 8) hx hb hts (fun w9 h9 => hT w9 (u_MO w9 h9)) hown hK hW t4 rfl (by decide) 2 (by decide) (hw wd_648) (fun _ h9 => h9) (q := (2, 14)) rfl (v := .ref q5) (ah_f_R e6) d_MO_parts_3 ?_
  refine lv_iload_n hx hb d_MO_parts_6 rfl (lv_at hl 2 rfl) ?_
  obtain ⟨t7, w⟩ := w
  obtain ⟨i8, w⟩ := w
  refine hb_iald hx hb hK hW t7 (by decide) (by decide) 0 rfl i8 d_MO_parts_7 ?_
  refine lv_iconst (v := 1) hx hb d_MO_parts_8 (by decide) ?_
  refine lv_isub hx hb d_MO_parts_9 ?_
  refine lv_topi (fun v9 ev9 => ?_)
  have w := w v9 ev9
  refine lv_istore (lv' := [(4, .int v9), (3, .int (0 : Int32)), (0, .ref a1), (1, .int a2), (2, .int a3)]) hx hb d_MO_parts_10 hl (by decide) rfl (fun ls hl => ?_)
  obtain ⟨k49, w⟩ := w
  refine tl_MO_parts_12 C (by omega) (by omega) (fun x36 x37 x38 h39 H locs ls w hm hW hl => ?_) k49 a1 a2 a3 (0 : Int32) v9 h0 _ _ _ w hm hW (lv_sub hl [2, 3, 4, 1, 0] rfl)
  · refine lv_aload_n hx hb d_MO_parts_60 rfl (lv_at hl 0 rfl) ?_
    refine lv_iload_n hx hb d_MO_parts_61 rfl (lv_at hl 1 rfl) ?_
    refine lv_aload_n hx hb d_MO_parts_62 rfl (lv_at hl 0 rfl) ?_
    obtain ⟨t40, w⟩ := w
    obtain ⟨q41, e42, w⟩ := w
    refine hb_get (ci := 4) (C := "BigDeskModel") (T := T_MO) (N := 8) hx hb hts (fun w9 h9 => hT w9 (u_MO w9 h9)) hown hK hW t40 rfl (by decide) 2 (by decide) (hw wd_648) (fun _ h9 => h9) (q := (2, 14)) rfl (v := .ref q41) (ah_f_R e42) d_MO_parts_63 ?_
    refine lv_iload_n hx hb d_MO_parts_66 rfl (lv_at hl 1 rfl) ?_
    obtain ⟨t43, w⟩ := w
    obtain ⟨i44, w⟩ := w
    refine hb_iald hx hb hK hW t43 (by decide) (by decide) 0 rfl i44 d_MO_parts_67 ?_
    refine hb_callv (va_runV (As := [.int x37, .int (ah_bI h39 q41 x37.toNatClampNeg)]) (rest := []) ⟨hx, hb, hml, hown, hts⟩ (m_MO_trim G x36 x37 (ah_bI h39 q41 x37.toNatClampNeg) h39 hst w) (cwV 2 hts (zx_gV hT wd_707 wd_709 wd_s19 wd_5 wd_710) rfl rfl rfl (by decide +kernel) ⟨Nat.le_of_ble_eq_true rfl, Nat.le_of_ble_eq_true rfl⟩) (hb_preV hK hX hW t40 (by decide) rfl) rfl rfl hl.1 rfl (lv_room (Nat.le_of_ble_eq_true rfl)) d_MO_parts_68 ⟨(by show _ ≤ 0; omega), (by show _ ≤ 0; omega)⟩) hW (fun h45 H locs hk hW => ?_)
    obtain ⟨w, mm46⟩ := hk
    have w := w mm46
    have hm := hm.tr mm46
    have t47 := mm46.tg t40 (by decide)
    have t48 := mm46.tg t43 (by decide)
    refine lv_iload_n hx hb d_MO_parts_71 rfl (lv_at hl 2 rfl) ?_
    exact hb_iret (K := fun r9 h9 => K r9 h9 ∧ ah_m h0 h9) hx hb hr hlk hK hX hW ⟨w, hm⟩ (by omega) (by omega) d_MO_parts_72
set_option maxHeartbeats 4000000 in
set_option maxRecDepth 100000 in
theorem tl_MO_guess_15 {p : Program} {l : Launch} {e : Env} {s : State} {m : MethodId} {args : Array Value} {below : List Frame} {meth : Method} {c : Code} {G : zG} (C : cx_C p l s m args meth c G y_MO_guess b_MO_guess 9 (some .int) "BigDeskModel" (Cond.code y_MO_guess b_MO_guess 9 (some .int) :: zx_T) []) {K : Int32 → ah_H → Prop} {h0 : ah_H} {cells slots : Nat} (hcl : cells + 0 ≤ 0) (hsl : slots + 0 ≤ 0) {xt_45 : Nat → Int32 → Int32 → Int64 → Int64 → ah_H → Prop} (hc_xt_45 : ∀ (z0 : Nat) (z1 : Int32) (z2 : Int32) (z3 : Int64) (z4 : Int64) (hz : ah_H) (H : Heap) (locs : List Loc) (ls : Array Slot), xt_45 z0 z1 z2 z3 z4 hz → ah_m h0 hz → ah_W G s.heap hz H locs → lv_has ls 9 [(0, .ref z0), (1, .int z1), (2, .int z2), (3, .long z3), (5, .long z4)] → W p l e rm_MO_guess s m args below meth c H locs cells slots (MQ below (va_Qi (fun r9 h9 => K r9 h9 ∧ ah_m h0 h9) (ah_B G) (fun q => G.2.2 ≤ q)) args s 0 0 (fun q => G.2.2 ≤ q)) (F0 m 45 ls [])) : ∀ (n : Nat) (x9 : Nat) (x10 : Int32) (x11 : Int32) (x12 : Int64) (x13 : Int64) (x14 : Int32) (h15 : ah_H) (H : Heap) (locs : List Loc) (ls : Array Slot), lp_MO_guess_15 xt_45 K n x9 x10 x11 x12 x13 x14 h15 → ah_m h0 h15 → ah_W G s.heap h15 H locs → lv_has ls 9 [(0, .ref x9), (1, .int x10), (2, .int x11), (3, .long x12), (5, .long x13), (7, .int x14)] → W p l e rm_MO_guess s m args below meth c H locs cells slots (MQ below (va_Qi (fun r9 h9 => K r9 h9 ∧ ah_m h0 h9) (ah_B G) (fun q => G.2.2 ≤ q)) args s 0 0 (fun q => G.2.2 ≤ q)) (F0 m 15 ls []) := by
  obtain ⟨hx, hb, hr, hml, hown, hts, hT, hlk, hK, hX, htb, hin, hst⟩ := id C
  have hw : ∀ {w9 : Cond}, w9 ∈ zx_T → w9.before _ s = true := fun h9 => hts _ (hT _ h9)
  intro n
  induction n with
  | zero =>
    intro x9 x10 x11 x12 x13 x14 h15 H locs ls w
    exact absurd w (by intro z9; exact z9)
  | succ n ih =>
    intro x9 x10 x11 x12 x13 x14 h15 H locs ls w hm hW hl
    unfold lp_MO_guess_15 at w
    refine lv_iload hx hb d_MO_guess_15 (lv_at hl 5 rfl) ?_
    refine lv_iconst (v := 4) hx hb d_MO_guess_17 (by decide) ?_
    refine lv_icmp_ge (tgt := 45) hx hb d_MO_guess_18 (by decide) (fun c16 => ?_) (fun c16 => ?_)
    · have w := w.1 c16
      exact hc_xt_45 x9 x10 x11 x12 x13 h15 _ _ _ w hm hW (lv_sub hl [0, 1, 2, 3, 4] rfl)
    · have w := w.2 c16
      refine lv_lload_n hx hb d_MO_guess_21 rfl (lv_at hl 3 rfl) ?_
      refine lv_ldc2 (v := 10000) hx hb hown (hw wd_637) d_MO_guess_22 ?_
      refine lv_lmul hx hb d_MO_guess_25 ?_
      refine lv_aload_n hx hb d_MO_guess_26 rfl (lv_at hl 0 rfl) ?_
      refine lv_bipush (v := 16) hx hb d_MO_guess_27 (by decide) ?_
      refine lv_iload_n hx hb d_MO_guess_29 rfl (lv_at hl 2 rfl) ?_
      refine lv_iload hx hb d_MO_guess_30 (lv_at hl 5 rfl) ?_
      refine lv_isub hx hb d_MO_guess_32 ?_
      obtain ⟨t17, w⟩ := w
      refine hb_calli (va_runV (As := [.int (16 : Int32), .int (x11 - x14)]) (rest := [.long (x12 * (10000 : Int64))]) ⟨hx, hb, hml, hown, hts⟩ (m_MO_at G x9 (16 : Int32) (x11 - x14) h15 hst w) (cwV 2 hts (zx_gV hT wd_642 wd_644 wd_s14 wd_5 wd_645) rfl rfl rfl (by decide +kernel) ⟨Nat.le_of_ble_eq_true rfl, Nat.le_of_ble_eq_true rfl⟩) (hb_preV hK hX hW t17 (by decide) rfl) rfl rfl hl.1 rfl (lv_room (Nat.le_of_ble_eq_true rfl)) d_MO_guess_33 ⟨(by show _ ≤ 0; omega), (by show _ ≤ 0; omega)⟩) hW (fun r19 h18 H locs hk hW => ?_)
      obtain ⟨w, mm20⟩ := hk
      have w := w mm20
      have hm := hm.tr mm20
      have t21 := mm20.tg t17 (by decide)
      refine lv_i2l hx hb d_MO_guess_36 rfl ?_
      refine lv_ladd hx hb d_MO_guess_37 ?_
      refine lv_topl (fun v22 ev22 => ?_)
      have w := w v22 ev22
      refine lv_lstore_n (lv' := [(3, .long v22), (0, .ref x9), (1, .int x10), (2, .int x11), (5, .long x13), (7, .int x14)]) hx hb d_MO_guess_38 rfl hl (by decide) rfl (fun ls hl => ?_)
      obtain ⟨v23, ev23⟩ : ∃ y9 : Int32, y9 = x14 + 1 := ⟨_, rfl⟩
      have w := w v23 ev23
      refine lv_iinc (v := v23) (lv' := [(7, .int v23), (3, .long v22), (0, .ref x9), (1, .int x10), (2, .int x11), (5, .long x13)]) hx hb d_MO_guess_39 hl (k := 5) rfl (by rw [ev23]; rfl) (by decide) rfl (fun ls hl => ?_)
      refine lv_goto (tgt := 15) hx hb d_MO_guess_42 (by decide) ?_
      exact ih x9 x10 x11 v22 x13 v23 h18 _ _ _ w hm hW (lv_sub hl [2, 3, 4, 1, 5, 0] rfl)
set_option maxHeartbeats 4000000 in
set_option maxRecDepth 100000 in
theorem tl_MO_guess_48 {p : Program} {l : Launch} {e : Env} {s : State} {m : MethodId} {args : Array Value} {below : List Frame} {meth : Method} {c : Code} {G : zG} (C : cx_C p l s m args meth c G y_MO_guess b_MO_guess 9 (some .int) "BigDeskModel" (Cond.code y_MO_guess b_MO_guess 9 (some .int) :: zx_T) []) {K : Int32 → ah_H → Prop} {h0 : ah_H} {cells slots : Nat} (hcl : cells + 0 ≤ 0) (hsl : slots + 0 ≤ 0) {xt_79 : Int64 → Int64 → ah_H → Prop} (hc_xt_79 : ∀ (z0 : Int64) (z1 : Int64) (hz : ah_H) (H : Heap) (locs : List Loc) (ls : Array Slot), xt_79 z0 z1 hz → ah_m h0 hz → ah_W G s.heap hz H locs → lv_has ls 9 [(3, .long z0), (5, .long z1)] → W p l e rm_MO_guess s m args below meth c H locs cells slots (MQ below (va_Qi (fun r9 h9 => K r9 h9 ∧ ah_m h0 h9) (ah_B G) (fun q => G.2.2 ≤ q)) args s 0 0 (fun q => G.2.2 ≤ q)) (F0 m 79 ls [])) : ∀ (n : Nat) (x30 : Nat) (x31 : Int32) (x32 : Int32) (x33 : Int64) (x34 : Int64) (x35 : Int32) (h36 : ah_H) (H : Heap) (locs : List Loc) (ls : Array Slot), lp_MO_guess_48 xt_79 K n x30 x31 x32 x33 x34 x35 h36 → ah_m h0 h36 → ah_W G s.heap h36 H locs → lv_has ls 9 [(0, .ref x30), (1, .int x31), (2, .int x32), (3, .long x33), (5, .long x34), (7, .int x35)] → W p l e rm_MO_guess s m args below meth c H locs cells slots (MQ below (va_Qi (fun r9 h9 => K r9 h9 ∧ ah_m h0 h9) (ah_B G) (fun q => G.2.2 ≤ q)) args s 0 0 (fun q => G.2.2 ≤ q)) (F0 m 48 ls []) := by
  obtain ⟨hx, hb, hr, hml, hown, hts, hT, hlk, hK, hX, htb, hin, hst⟩ := id C
  have hw : ∀ {w9 : Cond}, w9 ∈ zx_T → w9.before _ s = true := fun h9 => hts _ (hT _ h9)
  intro n
  induction n with
  | zero =>
    intro x30 x31 x32 x33 x34 x35 h36 H locs ls w
    exact absurd w (by intro z9; exact z9)
  | succ n ih =>
    intro x30 x31 x32 x33 x34 x35 h36 H locs ls w hm hW hl
    unfold lp_MO_guess_48 at w
    refine lv_iload hx hb d_MO_guess_48 (lv_at hl 5 rfl) ?_
    refine lv_iconst (v := 4) hx hb d_MO_guess_50 (by decide) ?_
    refine lv_icmp_ge (tgt := 79) hx hb d_MO_guess_51 (by decide) (fun c37 => ?_) (fun c37 => ?_)
    · have w := w.1 c37
      exact hc_xt_79 x33 x34 h36 _ _ _ w hm hW (lv_sub hl [3, 4] rfl)
    · have w := w.2 c37
      refine lv_lload hx hb d_MO_guess_54 (lv_at hl 4 rfl) ?_
      refine lv_ldc2 (v := 10000) hx hb hown (hw wd_637) d_MO_guess_56 ?_
      refine lv_lmul hx hb d_MO_guess_59 ?_
      refine lv_aload_n hx hb d_MO_guess_60 rfl (lv_at hl 0 rfl) ?_
      refine lv_iload_n hx hb d_MO_guess_61 rfl (lv_at hl 1 rfl) ?_
      refine lv_iload_n hx hb d_MO_guess_62 rfl (lv_at hl 2 rfl) ?_
      refine lv_iload hx hb d_MO_guess_63 (lv_at hl 5 rfl) ?_
      refine lv_isub hx hb d_MO_guess_65 ?_
      obtain ⟨t38, w⟩ := w
      refine hb_calli (va_runV (As := [.int x31, .int (x32 - x35)]) (rest := [.long (x34 * (10000 : Int64))]) ⟨hx, hb, hml, hown, hts⟩ (m_MO_at G x30 x31 (x32 - x35) h36 hst w) (cwV 2 hts (zx_gV hT wd_642 wd_644 wd_s14 wd_5 wd_645) rfl rfl rfl (by decide +kernel) ⟨Nat.le_of_ble_eq_true rfl, Nat.le_of_ble_eq_true rfl⟩) (hb_preV hK hX hW t38 (by decide) rfl) rfl rfl hl.1 rfl (lv_room (Nat.le_of_ble_eq_true rfl)) d_MO_guess_66 ⟨(by show _ ≤ 0; omega), (by show _ ≤ 0; omega)⟩) hW (fun r40 h39 H locs hk hW => ?_)
      obtain ⟨w, mm41⟩ := hk
      have w := w mm41
      have hm := hm.tr mm41
      have t42 := mm41.tg t38 (by decide)
      refine lv_i2l hx hb d_MO_guess_69 rfl ?_
      refine lv_ladd hx hb d_MO_guess_70 ?_
      refine lv_topl (fun v43 ev43 => ?_)
      have w := w v43 ev43
      refine lv_lstore (lv' := [(5, .long v43), (0, .ref x30), (1, .int x31), (2, .int x32), (3, .long x33), (7, .int x35)]) hx hb d_MO_guess_71 hl (by decide) rfl (fun ls hl => ?_)
      obtain ⟨v44, ev44⟩ : ∃ y9 : Int32, y9 = x35 + 1 := ⟨_, rfl⟩
      have w := w v44 ev44
      refine lv_iinc (v := v44) (lv' := [(7, .int v44), (5, .long v43), (0, .ref x30), (1, .int x31), (2, .int x32), (3, .long x33)]) hx hb d_MO_guess_73 hl (k := 5) rfl (by rw [ev44]; rfl) (by decide) rfl (fun ls hl => ?_)
      refine lv_goto (tgt := 48) hx hb d_MO_guess_76 (by decide) ?_
      exact ih x30 x31 x32 x33 v43 v44 h39 _ _ _ w hm hW (lv_sub hl [2, 3, 4, 5, 1, 0] rfl)
set_option maxHeartbeats 4000000 in
set_option maxRecDepth 100000 in
theorem tb_MO_guess_101 {p : Program} {l : Launch} {e : Env} {s : State} {m : MethodId} {args : Array Value} {below : List Frame} {meth : Method} {c : Code} {G : zG} (C : cx_C p l s m args meth c G y_MO_guess b_MO_guess 9 (some .int) "BigDeskModel" (Cond.code y_MO_guess b_MO_guess 9 (some .int) :: zx_T) []) {K : Int32 → ah_H → Prop} {h0 : ah_H} {cells slots : Nat} (hcl : cells + 0 ≤ 0) (hsl : slots + 0 ≤ 0)  (s51 : Int32) (h52 : ah_H) (H : Heap) (locs : List Loc) (ls : Array Slot) (w : bk_MO_guess_101 K s51 h52) (hm : ah_m h0 h52) (hW : ah_W G s.heap h52 H locs) (hl : lv_has ls 9 []) : W p l e rm_MO_guess s m args below meth c H locs cells slots (MQ below (va_Qi (fun r9 h9 => K r9 h9 ∧ ah_m h0 h9) (ah_B G) (fun q => G.2.2 ≤ q)) args s 0 0 (fun q => G.2.2 ≤ q)) (F0 m 101 ls [.int s51]) := by
  unfold bk_MO_guess_101 at w
  obtain ⟨hx, hb, hr, hml, hown, hts, hT, hlk, hK, hX, htb, hin, hst⟩ := id C
  have hw : ∀ {w9 : Cond}, w9 ∈ zx_T → w9.before _ s = true := fun h9 => hts _ (hT _ h9)
  exact hb_iret (K := fun r9 h9 => K r9 h9 ∧ ah_m h0 h9) hx hb hr hlk hK hX hW ⟨w, hm⟩ (by omega) (by omega) d_MO_guess_101
set_option maxHeartbeats 4000000 in
set_option maxRecDepth 100000 in
theorem m_MO_guess {l : Launch} (G : zG) (a1 : Nat) (a2 : Int32) (h0 : ah_H) {K : Int32 → ah_H → Prop} (hst : l.stackTraces = false) (w : w_MO_guess a1 a2 h0 K) : Met l y_MO_guess (Cond.code y_MO_guess b_MO_guess 9 (some .int) :: zx_T) rm_MO_guess (va_Pc [.ref a1, .int a2] (ah_B G h0)) (va_Qi (fun r9 h9 => K r9 h9 ∧ ah_m h0 h9) (ah_B G) (fun q => G.2.2 ≤ q)) 0 0 (fun q => G.2.2 ≤ q) := by
  refine Met.ofW (cc := b_MO_guess) (maxL := 9) (ret := (some .int)) (by decide) rfl ?_
  intro p e s m args below meth c s₁ B hml hv
  have htb := cx_out B (atoms_spec B.pre _ List.mem_cons_self)
  obtain ⟨rfl, hB⟩ := hv
  have C : cx_C p l s m _ meth c G y_MO_guess b_MO_guess 9 (some .int) "BigDeskModel" (Cond.code y_MO_guess b_MO_guess 9 (some .int) :: zx_T) [] := ⟨B.exec, B.bytes, B.returns, hml, findClass_of_methodNamed B.named, atoms_spec B.pre, cx_hd, B.notSynchronized, hB.2.2.1, hB.2.2.2, htb, fun z9 => (name_of_methodNamed B.named B.method).1.trans z9, hst⟩
  obtain ⟨hx, hb, hr, hml, hown, hts, hT, hlk, hK, hX, htb, hin, hst⟩ := id C
  have hw : ∀ {w9 : Cond}, w9 ∈ zx_T → w9.before _ s = true := fun h9 => hts _ (hT _ h9)
  have hW : ah_W G s.heap h0 s.heap [] := ⟨hB.1, hB.2.1, va_S.rf⟩
  have hm : ah_m h0 h0 := ah_m.rf
  have hcl : 0 + 0 ≤ 0 := by decide
  have hsl : 0 + 0 ≤ 0 := by decide
  have hl := lv_entry ([.ref a1, .int a2]) (n := 9) (Nat.le_of_ble_eq_true rfl)
  rw [lg_entry_eq]
  generalize (lg_sl ([.ref a1, .int a2]) ++ List.replicate (9 - (lg_sl ([.ref a1, .int a2])).length) Slot.unset).toArray = ls at hl ⊢
  have hl : lv_has ls 9 [(0, .ref a1), (1, .int a2)] := hl
  unfold w_MO_guess at w
  refine lv_aload_n hx hb d_MO_guess_0 rfl (lv_at hl 0 rfl) ?_
  obtain ⟨t3, w⟩ := w
  obtain ⟨q4, e5, w⟩ := w
  refine hb_get (ci := 4) (C := "BigDeskModel") (T := T_MO) (N := 8) hx hb hts (fun w9 h9 => hT w9 (u_MO w9 h9)) hown hK hW t3 rfl (by decide) 2 (by decide) (hw wd_648) (fun _ h9 => h9) (q := (2, 14)) rfl (v := .ref q4) (ah_f_R e5) d_MO_guess_1 ?_
  refine lv_iload_n hx hb d_MO_guess_4 rfl (lv_at hl 1 rfl) ?_
  obtain ⟨t6, w⟩ := w
  obtain ⟨i7, w⟩ := w
  refine hb_iald hx hb hK hW t6 (by decide) (by decide) 0 rfl i7 d_MO_guess_5 ?_
  refine lv_topi (fun v8 ev8 => ?_)
  have w := w v8 ev8
  refine lv_istore_n (lv' := [(2, .int v8), (0, .ref a1), (1, .int a2)]) hx hb d_MO_guess_6 rfl hl (by decide) rfl (fun ls hl => ?_)
  refine lv_lconst (v := 0) hx hb d_MO_guess_7 (by decide) ?_
  refine lv_lstore_n (lv' := [(3, .long (0 : Int64)), (2, .int v8), (0, .ref a1), (1, .int a2)]) hx hb d_MO_guess_8 rfl hl (by decide) rfl (fun ls hl => ?_)
  refine lv_lconst (v := 0) hx hb d_MO_guess_9 (by decide) ?_
  refine lv_lstore (lv' := [(5, .long (0 : Int64)), (3, .long (0 : Int64)), (2, .int v8), (0, .ref a1), (1, .int a2)]) hx hb d_MO_guess_10 hl (by decide) rfl (fun ls hl => ?_)
  refine lv_iconst (v := 0) hx hb d_MO_guess_12 (by decide) ?_
  refine lv_istore (lv' := [(7, .int (0 : Int32)), (5, .long (0 : Int64)), (3, .long (0 : Int64)), (2, .int v8), (0, .ref a1), (1, .int a2)]) hx hb d_MO_guess_13 hl (by decide) rfl (fun ls hl => ?_)
  obtain ⟨k54, w⟩ := w
  refine tl_MO_guess_15 C (by omega) (by omega) (fun x24 x25 x26 x27 x28 h29 H locs ls w hm hW hl => ?_) k54 a1 a2 v8 (0 : Int64) (0 : Int64) (0 : Int32) h0 _ _ _ w hm hW (lv_sub hl [4, 5, 3, 2, 1, 0] rfl)
  · refine lv_iconst (v := 1) hx hb d_MO_guess_45 (by decide) ?_
    refine lv_istore (lv' := [(7, .int (1 : Int32)), (0, .ref x24), (1, .int x25), (2, .int x26), (3, .long x27), (5, .long x28)]) hx hb d_MO_guess_46 hl (by decide) rfl (fun ls hl => ?_)
    obtain ⟨k53, w⟩ := w
    refine tl_MO_guess_48 C (by omega) (by omega) (fun x45 x46 h47 H locs ls w hm hW hl => ?_) k53 x24 x25 x26 x27 x28 (1 : Int32) h29 _ _ _ w hm hW (lv_sub hl [1, 2, 3, 4, 5, 0] rfl)
    · refine lv_lload_n hx hb d_MO_guess_79 rfl (lv_at hl 0 rfl) ?_
      refine lv_lload hx hb d_MO_guess_80 (lv_at hl 1 rfl) ?_
      refine lv_lconst (v := 1) hx hb d_MO_guess_82 (by decide) ?_
      refine lv_ladd hx hb d_MO_guess_83 ?_
      obtain ⟨ne48, w⟩ := w
      refine lv_ldiv hx hb d_MO_guess_84 ne48 ?_
      refine lv_topl (fun v49 ev49 => ?_)
      have w := w v49 ev49
      refine lv_lstore (lv' := [(7, .long v49), (3, .long x45), (5, .long x46)]) hx hb d_MO_guess_85 hl (by decide) rfl (fun ls hl => ?_)
      refine lv_lload hx hb d_MO_guess_87 (lv_at hl 0 rfl) ?_
      refine lv_lconst (v := 1) hx hb d_MO_guess_89 (by decide) ?_
      refine hb_lcmp_ge (tgt := 98) hx hb d_MO_guess_90 d_MO_guess_91 (by decide) (fun c50 => ?_) (fun c50 => ?_)
      · have w := w.1 c50
        refine lv_lload hx hb d_MO_guess_98 (lv_at hl 0 rfl) ?_
        refine lv_l2i hx hb d_MO_guess_100 rfl ?_
        exact tb_MO_guess_101 C (by omega) (by omega)  v49.toInt32 h47 _ _ _ w hm hW (lv_sub hl [] rfl)
      · have w := w.2 c50
        refine lv_iconst (v := 1) hx hb d_MO_guess_94 (by decide) ?_
        refine lv_goto (tgt := 101) hx hb d_MO_guess_95 (by decide) ?_
        exact tb_MO_guess_101 C (by omega) (by omega)  (1 : Int32) h47 _ _ _ w hm hW (lv_sub hl [] rfl)
set_option maxHeartbeats 4000000 in
set_option maxRecDepth 100000 in
theorem tb_MO_lessens_59 {p : Program} {l : Launch} {e : Env} {s : State} {m : MethodId} {args : Array Value} {below : List Frame} {meth : Method} {c : Code} {G : zG} (C : cx_C p l s m args meth c G y_MO_lessens b_MO_lessens 6 none "BigDeskModel" (Cond.code y_MO_lessens b_MO_lessens 6 none :: zx_T) []) {K : ah_H → Prop} {h0 : ah_H} {cells slots : Nat} (hcl : cells + 0 ≤ 0) (hsl : slots + 0 ≤ 0) {rc_5 : Nat → Int32 → Int32 → Int32 → Int32 → ah_H → Prop} (hc_rc_5 : ∀ (z0 : Nat) (z1 : Int32) (z2 : Int32) (z3 : Int32) (z4 : Int32) (hz : ah_H) (H : Heap) (locs : List Loc) (ls : Array Slot), rc_5 z0 z1 z2 z3 z4 hz → ah_m h0 hz → ah_W G s.heap hz H locs → lv_has ls 6 [(0, .ref z0), (1, .int z1), (2, .int z2), (3, .int z3), (4, .int z4)] → W p l e rm_MO_lessens s m args below meth c H locs cells slots (MQ below (va_Qv (fun h9 => K h9 ∧ ah_m h0 h9) (ah_B G) (fun q => G.2.2 ≤ q)) args s 0 0 (fun q => G.2.2 ≤ q)) (F0 m 5 ls [])) (x28 : Nat) (x29 : Int32) (x30 : Int32) (x31 : Int32) (x32 : Int32) (s33 : Int32) (h34 : ah_H) (H : Heap) (locs : List Loc) (ls : Array Slot) (w : bk_MO_lessens_59 rc_5 K x28 x29 x30 x31 x32 s33 h34) (hm : ah_m h0 h34) (hW : ah_W G s.heap h34 H locs) (hl : lv_has ls 6 [(0, .ref x28), (1, .int x29), (2, .int x30), (4, .int x31), (5, .int x32)]) : W p l e rm_MO_lessens s m args below meth c H locs cells slots (MQ below (va_Qv (fun h9 => K h9 ∧ ah_m h0 h9) (ah_B G) (fun q => G.2.2 ≤ q)) args s 0 0 (fun q => G.2.2 ≤ q)) (F0 m 59 ls [.int s33]) := by
  unfold bk_MO_lessens_59 at w
  obtain ⟨hx, hb, hr, hml, hown, hts, hT, hlk, hK, hX, htb, hin, hst⟩ := id C
  have hw : ∀ {w9 : Cond}, w9 ∈ zx_T → w9.before _ s = true := fun h9 => hts _ (hT _ h9)
  refine lv_istore_n (lv' := [(3, .int s33), (0, .ref x28), (1, .int x29), (2, .int x30), (4, .int x31), (5, .int x32)]) hx hb d_MO_lessens_59 rfl hl (by decide) rfl (fun ls hl => ?_)
  refine lv_aload_n hx hb d_MO_lessens_60 rfl (lv_at hl 1 rfl) ?_
  obtain ⟨t35, w⟩ := w
  obtain ⟨q36, e37, w⟩ := w
  refine hb_get (ci := 4) (C := "BigDeskModel") (T := T_MO) (N := 8) hx hb hts (fun w9 h9 => hT w9 (u_MO w9 h9)) hown hK hW t35 rfl (by decide) 1 (by decide) (hw wd_647) (fun _ h9 => h9) (q := (2, 13)) rfl (v := .ref q36) (ah_f_R e37) d_MO_lessens_61 ?_
  refine lv_sipush (v := 20800) hx hb d_MO_lessens_64 (by decide) ?_
  refine lv_iload hx hb d_MO_lessens_67 (lv_at hl 4 rfl) ?_
  refine lv_iadd hx hb d_MO_lessens_69 ?_
  refine lv_iload hx hb d_MO_lessens_70 (lv_at hl 5 rfl) ?_
  refine lv_iload_n hx hb d_MO_lessens_72 rfl (lv_at hl 0 rfl) ?_
  refine lv_sipush (v := 10000) hx hb d_MO_lessens_73 (by decide) ?_
  refine lv_imul hx hb d_MO_lessens_76 ?_
  refine lv_isub hx hb d_MO_lessens_77 ?_
  refine lv_topi (fun v38 ev38 => ?_)
  have w := w v38 ev38
  obtain ⟨t39, w⟩ := w
  obtain ⟨i40, w⟩ := w
  refine hb_iast hx hb hK hW t39 (by decide) (by decide) 0 rfl i40 d_MO_lessens_78 (fun H locs h41 eh41 hW => ?_)
  have w := w h41 eh41
  have mm42 : ah_m h34 h41 := ah_m.rf.st (by rw [eh41]; rfl) (by rw [eh41]; rfl)
  have hm := hm.tr mm42
  have t43 := mm42.tg t35 (by decide)
  have t44 := mm42.tg t39 (by decide)
  obtain ⟨v45, ev45⟩ : ∃ y9 : Int32, y9 = x31 + 1 := ⟨_, rfl⟩
  have w := w v45 ev45
  refine lv_iinc (v := v45) (lv' := [(4, .int v45), (3, .int s33), (0, .ref x28), (1, .int x29), (2, .int x30), (5, .int x32)]) hx hb d_MO_lessens_79 hl (k := 4) rfl (by rw [ev45]; rfl) (by decide) rfl (fun ls hl => ?_)
  refine lv_goto (tgt := 5) hx hb d_MO_lessens_82 (by decide) ?_
  exact hc_rc_5 x28 x29 x30 s33 v45 h41 _ _ _ w hm hW (lv_sub hl [2, 3, 4, 1, 0] rfl)
set_option maxHeartbeats 4000000 in
set_option maxRecDepth 100000 in
theorem tl_MO_lessens_5 {p : Program} {l : Launch} {e : Env} {s : State} {m : MethodId} {args : Array Value} {below : List Frame} {meth : Method} {c : Code} {G : zG} (C : cx_C p l s m args meth c G y_MO_lessens b_MO_lessens 6 none "BigDeskModel" (Cond.code y_MO_lessens b_MO_lessens 6 none :: zx_T) []) {K : ah_H → Prop} {h0 : ah_H} {cells slots : Nat} (hcl : cells + 0 ≤ 0) (hsl : slots + 0 ≤ 0) {xt_85 : Nat → ah_H → Prop} (hc_xt_85 : ∀ (z0 : Nat) (hz : ah_H) (H : Heap) (locs : List Loc) (ls : Array Slot), xt_85 z0 hz → ah_m h0 hz → ah_W G s.heap hz H locs → lv_has ls 6 [(0, .ref z0)] → W p l e rm_MO_lessens s m args below meth c H locs cells slots (MQ below (va_Qv (fun h9 => K h9 ∧ ah_m h0 h9) (ah_B G) (fun q => G.2.2 ≤ q)) args s 0 0 (fun q => G.2.2 ≤ q)) (F0 m 85 ls [])) : ∀ (n : Nat) (x4 : Nat) (x5 : Int32) (x6 : Int32) (x7 : Int32) (x8 : Int32) (h9 : ah_H) (H : Heap) (locs : List Loc) (ls : Array Slot), lp_MO_lessens_5 xt_85 K n x4 x5 x6 x7 x8 h9 → ah_m h0 h9 → ah_W G s.heap h9 H locs → lv_has ls 6 [(0, .ref x4), (1, .int x5), (2, .int x6), (3, .int x7), (4, .int x8)] → W p l e rm_MO_lessens s m args below meth c H locs cells slots (MQ below (va_Qv (fun h9 => K h9 ∧ ah_m h0 h9) (ah_B G) (fun q => G.2.2 ≤ q)) args s 0 0 (fun q => G.2.2 ≤ q)) (F0 m 5 ls []) := by
  obtain ⟨hx, hb, hr, hml, hown, hts, hT, hlk, hK, hX, htb, hin, hst⟩ := id C
  have hw : ∀ {w9 : Cond}, w9 ∈ zx_T → w9.before _ s = true := fun h9 => hts _ (hT _ h9)
  intro n
  induction n with
  | zero =>
    intro x4 x5 x6 x7 x8 h9 H locs ls w
    exact absurd w (by intro z9; exact z9)
  | succ n ih =>
    intro x4 x5 x6 x7 x8 h9 H locs ls w hm hW hl
    unfold lp_MO_lessens_5 at w
    refine lv_iload hx hb d_MO_lessens_5 (lv_at hl 4 rfl) ?_
    refine lv_aload_n hx hb d_MO_lessens_7 rfl (lv_at hl 0 rfl) ?_
    obtain ⟨t10, w⟩ := w
    obtain ⟨q11, e12, w⟩ := w
    refine hb_get (ci := 4) (C := "BigDeskModel") (T := T_MO) (N := 8) hx hb hts (fun w9 h9 => hT w9 (u_MO w9 h9)) hown hK hW t10 rfl (by decide) 2 (by decide) (hw wd_648) (fun _ h9 => h9) (q := (2, 14)) rfl (v := .ref q11) (ah_f_R e12) d_MO_lessens_8 ?_
    refine lv_bipush (v := 16) hx hb d_MO_lessens_11 (by decide) ?_
    obtain ⟨t13, w⟩ := w
    obtain ⟨i14, w⟩ := w
    refine hb_iald hx hb hK hW t13 (by decide) (by decide) 0 rfl i14 d_MO_lessens_13 ?_
    refine lv_icmp_ge (tgt := 85) hx hb d_MO_lessens_14 (by decide) (fun c15 => ?_) (fun c15 => ?_)
    · have w := w.1 c15
      exact hc_xt_85 x4 h9 _ _ _ w hm hW (lv_sub hl [0] rfl)
    · have w := w.2 c15
      refine lv_aload_n hx hb d_MO_lessens_17 rfl (lv_at hl 0 rfl) ?_
      refine lv_bipush (v := 16) hx hb d_MO_lessens_18 (by decide) ?_
      refine lv_iload hx hb d_MO_lessens_20 (lv_at hl 4 rfl) ?_
      refine hb_calli (va_runV (As := [.int (16 : Int32), .int x8]) (rest := []) ⟨hx, hb, hml, hown, hts⟩ (m_MO_at G x4 (16 : Int32) x8 h9 hst w) (cwV 2 hts (zx_gV hT wd_642 wd_644 wd_s14 wd_5 wd_645) rfl rfl rfl (by decide +kernel) ⟨Nat.le_of_ble_eq_true rfl, Nat.le_of_ble_eq_true rfl⟩) (hb_preV hK hX hW t10 (by decide) rfl) rfl rfl hl.1 rfl (lv_room (Nat.le_of_ble_eq_true rfl)) d_MO_lessens_22 ⟨(by show _ ≤ 0; omega), (by show _ ≤ 0; omega)⟩) hW (fun r17 h16 H locs hk hW => ?_)
      obtain ⟨w, mm18⟩ := hk
      have w := w mm18
      have hm := hm.tr mm18
      have t19 := mm18.tg t10 (by decide)
      have t20 := mm18.tg t13 (by decide)
      refine lv_aload_n hx hb d_MO_lessens_25 rfl (lv_at hl 0 rfl) ?_
      refine lv_iload_n hx hb d_MO_lessens_26 rfl (lv_at hl 1 rfl) ?_
      refine lv_iload hx hb d_MO_lessens_27 (lv_at hl 4 rfl) ?_
      refine hb_calli (va_runV (As := [.int x5, .int x8]) (rest := [.int r17]) ⟨hx, hb, hml, hown, hts⟩ (m_MO_at G x4 x5 x8 h16 hst w) (cwV 2 hts (zx_gV hT wd_642 wd_644 wd_s14 wd_5 wd_645) rfl rfl rfl (by decide +kernel) ⟨Nat.le_of_ble_eq_true rfl, Nat.le_of_ble_eq_true rfl⟩) (hb_preV hK hX hW t19 (by decide) rfl) rfl rfl hl.1 rfl (lv_room (Nat.le_of_ble_eq_true rfl)) d_MO_lessens_29 ⟨(by show _ ≤ 0; omega), (by show _ ≤ 0; omega)⟩) hW (fun r22 h21 H locs hk hW => ?_)
      obtain ⟨w, mm23⟩ := hk
      have w := w mm23
      have hm := hm.tr mm23
      have t24 := mm23.tg t19 (by decide)
      have t25 := mm23.tg t20 (by decide)
      refine lv_iload_n hx hb d_MO_lessens_32 rfl (lv_at hl 2 rfl) ?_
      refine lv_imul hx hb d_MO_lessens_33 ?_
      refine lv_isub hx hb d_MO_lessens_34 ?_
      refine lv_iload_n hx hb d_MO_lessens_35 rfl (lv_at hl 3 rfl) ?_
      refine lv_iadd hx hb d_MO_lessens_36 ?_
      refine lv_topi (fun v26 ev26 => ?_)
      have w := w v26 ev26
      refine lv_istore (lv' := [(5, .int v26), (0, .ref x4), (1, .int x5), (2, .int x6), (3, .int x7), (4, .int x8)]) hx hb d_MO_lessens_37 hl (by decide) rfl (fun ls hl => ?_)
      refine lv_iload hx hb d_MO_lessens_39 (lv_at hl 0 rfl) ?_
      refine lv_if_ge (tgt := 58) hx hb d_MO_lessens_41 (by decide) (fun c27 => ?_) (fun c27 => ?_)
      · have w := w.1 c27
        refine lv_iconst (v := 0) hx hb d_MO_lessens_58 (by decide) ?_
        exact tb_MO_lessens_59 C (by omega) (by omega) ih x4 x5 x6 x8 v26 (0 : Int32) h21 _ _ _ w hm hW (lv_sub hl [1, 2, 3, 5, 0] rfl)
      · have w := w.2 c27
        refine lv_sipush (v := 9999) hx hb d_MO_lessens_44 (by decide) ?_
        refine lv_iload hx hb d_MO_lessens_47 (lv_at hl 0 rfl) ?_
        refine lv_isub hx hb d_MO_lessens_49 ?_
        refine lv_sipush (v := 10000) hx hb d_MO_lessens_50 (by decide) ?_
        refine lv_idiv hx hb d_MO_lessens_53 (by decide) ?_
        refine lv_ineg hx hb d_MO_lessens_54 ?_
        refine lv_goto (tgt := 59) hx hb d_MO_lessens_55 (by decide) ?_
        exact tb_MO_lessens_59 C (by omega) (by omega) ih x4 x5 x6 x8 v26 (-(((9999 : Int32) - v26) / (10000 : Int32))) h21 _ _ _ w hm hW (lv_sub hl [1, 2, 3, 5, 0] rfl)
set_option maxHeartbeats 4000000 in
set_option maxRecDepth 100000 in
theorem m_MO_lessens {l : Launch} (G : zG) (a1 : Nat) (a2 : Int32) (a3 : Int32) (h0 : ah_H) {K : ah_H → Prop} (hst : l.stackTraces = false) (w : w_MO_lessens a1 a2 a3 h0 K) : Met l y_MO_lessens (Cond.code y_MO_lessens b_MO_lessens 6 none :: zx_T) rm_MO_lessens (va_Pc [.ref a1, .int a2, .int a3] (ah_B G h0)) (va_Qv (fun h9 => K h9 ∧ ah_m h0 h9) (ah_B G) (fun q => G.2.2 ≤ q)) 0 0 (fun q => G.2.2 ≤ q) := by
  refine Met.ofW (cc := b_MO_lessens) (maxL := 6) (ret := none) (by decide) rfl ?_
  intro p e s m args below meth c s₁ B hml hv
  have htb := cx_out B (atoms_spec B.pre _ List.mem_cons_self)
  obtain ⟨rfl, hB⟩ := hv
  have C : cx_C p l s m _ meth c G y_MO_lessens b_MO_lessens 6 none "BigDeskModel" (Cond.code y_MO_lessens b_MO_lessens 6 none :: zx_T) [] := ⟨B.exec, B.bytes, B.returns, hml, findClass_of_methodNamed B.named, atoms_spec B.pre, cx_hd, B.notSynchronized, hB.2.2.1, hB.2.2.2, htb, fun z9 => (name_of_methodNamed B.named B.method).1.trans z9, hst⟩
  obtain ⟨hx, hb, hr, hml, hown, hts, hT, hlk, hK, hX, htb, hin, hst⟩ := id C
  have hw : ∀ {w9 : Cond}, w9 ∈ zx_T → w9.before _ s = true := fun h9 => hts _ (hT _ h9)
  have hW : ah_W G s.heap h0 s.heap [] := ⟨hB.1, hB.2.1, va_S.rf⟩
  have hm : ah_m h0 h0 := ah_m.rf
  have hcl : 0 + 0 ≤ 0 := by decide
  have hsl : 0 + 0 ≤ 0 := by decide
  have hl := lv_entry ([.ref a1, .int a2, .int a3]) (n := 6) (Nat.le_of_ble_eq_true rfl)
  rw [lg_entry_eq]
  generalize (lg_sl ([.ref a1, .int a2, .int a3]) ++ List.replicate (6 - (lg_sl ([.ref a1, .int a2, .int a3])).length) Slot.unset).toArray = ls at hl ⊢
  have hl : lv_has ls 6 [(0, .ref a1), (1, .int a2), (2, .int a3)] := hl
  unfold w_MO_lessens at w
  refine lv_iconst (v := 0) hx hb d_MO_lessens_0 (by decide) ?_
  refine lv_istore_n (lv' := [(3, .int (0 : Int32)), (0, .ref a1), (1, .int a2), (2, .int a3)]) hx hb d_MO_lessens_1 rfl hl (by decide) rfl (fun ls hl => ?_)
  refine lv_iconst (v := 0) hx hb d_MO_lessens_2 (by decide) ?_
  refine lv_istore (lv' := [(4, .int (0 : Int32)), (3, .int (0 : Int32)), (0, .ref a1), (1, .int a2), (2, .int a3)]) hx hb d_MO_lessens_3 hl (by decide) rfl (fun ls hl => ?_)
  obtain ⟨k57, w⟩ := w
  refine tl_MO_lessens_5 C (by omega) (by omega) (fun x46 h47 H locs ls w hm hW hl => ?_) k57 a1 a2 a3 (0 : Int32) (0 : Int32) h0 _ _ _ w hm hW (lv_sub hl [2, 3, 4, 1, 0] rfl)
  · refine lv_aload_n hx hb d_MO_lessens_85 rfl (lv_at hl 0 rfl) ?_
    refine lv_bipush (v := 16) hx hb d_MO_lessens_86 (by decide) ?_
    refine lv_aload_n hx hb d_MO_lessens_88 rfl (lv_at hl 0 rfl) ?_
    obtain ⟨t48, w⟩ := w
    obtain ⟨q49, e50, w⟩ := w
    refine hb_get (ci := 4) (C := "BigDeskModel") (T := T_MO) (N := 8) hx hb hts (fun w9 h9 => hT w9 (u_MO w9 h9)) hown hK hW t48 rfl (by decide) 2 (by decide) (hw wd_648) (fun _ h9 => h9) (q := (2, 14)) rfl (v := .ref q49) (ah_f_R e50) d_MO_lessens_89 ?_
    refine lv_bipush (v := 16) hx hb d_MO_lessens_92 (by decide) ?_
    obtain ⟨t51, w⟩ := w
    obtain ⟨i52, w⟩ := w
    refine hb_iald hx hb hK hW t51 (by decide) (by decide) 0 rfl i52 d_MO_lessens_94 ?_
    refine hb_callv (va_runV (As := [.int (16 : Int32), .int (ah_bI h47 q49 (16 : Int32).toNatClampNeg)]) (rest := []) ⟨hx, hb, hml, hown, hts⟩ (m_MO_trim G x46 (16 : Int32) (ah_bI h47 q49 (16 : Int32).toNatClampNeg) h47 hst w) (cwV 2 hts (zx_gV hT wd_707 wd_709 wd_s19 wd_5 wd_710) rfl rfl rfl (by decide +kernel) ⟨Nat.le_of_ble_eq_true rfl, Nat.le_of_ble_eq_true rfl⟩) (hb_preV hK hX hW t48 (by decide) rfl) rfl rfl hl.1 rfl (lv_room (Nat.le_of_ble_eq_true rfl)) d_MO_lessens_95 ⟨(by show _ ≤ 0; omega), (by show _ ≤ 0; omega)⟩) hW (fun h53 H locs hk hW => ?_)
    obtain ⟨w, mm54⟩ := hk
    have w := w mm54
    have hm := hm.tr mm54
    have t55 := mm54.tg t48 (by decide)
    have t56 := mm54.tg t51 (by decide)
    exact hb_vret (K := fun h9 => K h9 ∧ ah_m h0 h9) hx hb hr hlk hK hX hW ⟨w, hm⟩ (by omega) (by omega) d_MO_lessens_98
set_option maxHeartbeats 4000000 in
set_option maxRecDepth 100000 in
theorem tl_MO_quotient_10 {p : Program} {l : Launch} {e : Env} {s : State} {m : MethodId} {args : Array Value} {below : List Frame} {meth : Method} {c : Code} {G : zG} (C : cx_C p l s m args meth c G y_MO_quotient b_MO_quotient 6 none "BigDeskModel" (Cond.code y_MO_quotient b_MO_quotient 6 none :: zx_T) []) {K : ah_H → Prop} {h0 : ah_H} {cells slots : Nat} (hcl : cells + 0 ≤ 0) (hsl : slots + 0 ≤ 0) {xt_34 : Nat → Int32 → Int32 → Int32 → ah_H → Prop} (hc_xt_34 : ∀ (z0 : Nat) (z1 : Int32) (z2 : Int32) (z3 : Int32) (hz : ah_H) (H : Heap) (locs : List Loc) (ls : Array Slot), xt_34 z0 z1 z2 z3 hz → ah_m h0 hz → ah_W G s.heap hz H locs → lv_has ls 6 [(0, .ref z0), (1, .int z1), (2, .int z2), (3, .int z3)] → W p l e rm_MO_quotient s m args below meth c H locs cells slots (MQ below (va_Qv (fun h9 => K h9 ∧ ah_m h0 h9) (ah_B G) (fun q => G.2.2 ≤ q)) args s 0 0 (fun q => G.2.2 ≤ q)) (F0 m 34 ls [])) : ∀ (n : Nat) (x10 : Nat) (x11 : Int32) (x12 : Int32) (x13 : Int32) (x14 : Int32) (h15 : ah_H) (H : Heap) (locs : List Loc) (ls : Array Slot), lp_MO_quotient_10 xt_34 K n x10 x11 x12 x13 x14 h15 → ah_m h0 h15 → ah_W G s.heap h15 H locs → lv_has ls 6 [(0, .ref x10), (1, .int x11), (2, .int x12), (3, .int x13), (4, .int x14)] → W p l e rm_MO_quotient s m args below meth c H locs cells slots (MQ below (va_Qv (fun h9 => K h9 ∧ ah_m h0 h9) (ah_B G) (fun q => G.2.2 ≤ q)) args s 0 0 (fun q => G.2.2 ≤ q)) (F0 m 10 ls []) := by
  obtain ⟨hx, hb, hr, hml, hown, hts, hT, hlk, hK, hX, htb, hin, hst⟩ := id C
  have hw : ∀ {w9 : Cond}, w9 ∈ zx_T → w9.before _ s = true := fun h9 => hts _ (hT _ h9)
  intro n
  induction n with
  | zero =>
    intro x10 x11 x12 x13 x14 h15 H locs ls w
    exact absurd w (by intro z9; exact z9)
  | succ n ih =>
    intro x10 x11 x12 x13 x14 h15 H locs ls w hm hW hl
    unfold lp_MO_quotient_10 at w
    refine lv_iload hx hb d_MO_quotient_10 (lv_at hl 4 rfl) ?_
    refine lv_iload_n hx hb d_MO_quotient_12 rfl (lv_at hl 3 rfl) ?_
    refine lv_icmp_ge (tgt := 34) hx hb d_MO_quotient_13 (by decide) (fun c16 => ?_) (fun c16 => ?_)
    · have w := w.1 c16
      exact hc_xt_34 x10 x11 x12 x13 h15 _ _ _ w hm hW (lv_sub hl [0, 1, 2, 3] rfl)
    · have w := w.2 c16
      refine lv_aload_n hx hb d_MO_quotient_16 rfl (lv_at hl 0 rfl) ?_
      obtain ⟨t17, w⟩ := w
      obtain ⟨q18, e19, w⟩ := w
      refine hb_get (ci := 4) (C := "BigDeskModel") (T := T_MO) (N := 8) hx hb hts (fun w9 h9 => hT w9 (u_MO w9 h9)) hown hK hW t17 rfl (by decide) 1 (by decide) (hw wd_647) (fun _ h9 => h9) (q := (2, 13)) rfl (v := .ref q18) (ah_f_R e19) d_MO_quotient_17 ?_
      refine lv_sipush (v := 19500) hx hb d_MO_quotient_20 (by decide) ?_
      refine lv_iload hx hb d_MO_quotient_23 (lv_at hl 4 rfl) ?_
      refine lv_iadd hx hb d_MO_quotient_25 ?_
      refine lv_iconst (v := 0) hx hb d_MO_quotient_26 (by decide) ?_
      obtain ⟨t20, w⟩ := w
      obtain ⟨i21, w⟩ := w
      refine hb_iast hx hb hK hW t20 (by decide) (by decide) 0 rfl i21 d_MO_quotient_27 (fun H locs h22 eh22 hW => ?_)
      have w := w h22 eh22
      have mm23 : ah_m h15 h22 := ah_m.rf.st (by rw [eh22]; rfl) (by rw [eh22]; rfl)
      have hm := hm.tr mm23
      have t24 := mm23.tg t17 (by decide)
      have t25 := mm23.tg t20 (by decide)
      obtain ⟨v26, ev26⟩ : ∃ y9 : Int32, y9 = x14 + 1 := ⟨_, rfl⟩
      have w := w v26 ev26
      refine lv_iinc (v := v26) (lv' := [(4, .int v26), (0, .ref x10), (1, .int x11), (2, .int x12), (3, .int x13)]) hx hb d_MO_quotient_28 hl (k := 4) rfl (by rw [ev26]; rfl) (by decide) rfl (fun ls hl => ?_)
      refine lv_goto (tgt := 10) hx hb d_MO_quotient_31 (by decide) ?_
      exact ih x10 x11 x12 x13 v26 h22 _ _ _ w hm hW (lv_sub hl [1, 2, 3, 4, 0] rfl)
set_option maxHeartbeats 4000000 in
set_option maxRecDepth 100000 in
theorem tl_MO_quotient_61 {p : Program} {l : Launch} {e : Env} {s : State} {m : MethodId} {args : Array Value} {below : List Frame} {meth : Method} {c : Code} {G : zG} (C : cx_C p l s m args meth c G y_MO_quotient b_MO_quotient 6 none "BigDeskModel" (Cond.code y_MO_quotient b_MO_quotient 6 none :: zx_T) []) {K : ah_H → Prop} {h0 : ah_H} {cells slots : Nat} (hcl : cells + 0 ≤ 0) (hsl : slots + 0 ≤ 0) {xt_96 : Nat → Int32 → Int32 → Int32 → Int32 → ah_H → Prop} (hc_xt_96 : ∀ (z0 : Nat) (z1 : Int32) (z2 : Int32) (z3 : Int32) (z4 : Int32) (hz : ah_H) (H : Heap) (locs : List Loc) (ls : Array Slot), xt_96 z0 z1 z2 z3 z4 hz → ah_m h0 hz → ah_W G s.heap hz H locs → lv_has ls 6 [(0, .ref z0), (1, .int z1), (2, .int z2), (3, .int z3), (4, .int z4)] → W p l e rm_MO_quotient s m args below meth c H locs cells slots (MQ below (va_Qv (fun h9 => K h9 ∧ ah_m h0 h9) (ah_B G) (fun q => G.2.2 ≤ q)) args s 0 0 (fun q => G.2.2 ≤ q)) (F0 m 96 ls [])) : ∀ (n : Nat) (x55 : Nat) (x56 : Int32) (x57 : Int32) (x58 : Int32) (x59 : Int32) (x60 : Int32) (h61 : ah_H) (H : Heap) (locs : List Loc) (ls : Array Slot), lp_MO_quotient_61 xt_96 K n x55 x56 x57 x58 x59 x60 h61 → ah_m h0 h61 → ah_W G s.heap h61 H locs → lv_has ls 6 [(0, .ref x55), (1, .int x56), (2, .int x57), (3, .int x58), (4, .int x59), (5, .int x60)] → W p l e rm_MO_quotient s m args below meth c H locs cells slots (MQ below (va_Qv (fun h9 => K h9 ∧ ah_m h0 h9) (ah_B G) (fun q => G.2.2 ≤ q)) args s 0 0 (fun q => G.2.2 ≤ q)) (F0 m 61 ls []) := by
  obtain ⟨hx, hb, hr, hml, hown, hts, hT, hlk, hK, hX, htb, hin, hst⟩ := id C
  have hw : ∀ {w9 : Cond}, w9 ∈ zx_T → w9.before _ s = true := fun h9 => hts _ (hT _ h9)
  intro n
  induction n with
  | zero =>
    intro x55 x56 x57 x58 x59 x60 h61 H locs ls w
    exact absurd w (by intro z9; exact z9)
  | succ n ih =>
    intro x55 x56 x57 x58 x59 x60 h61 H locs ls w hm hW hl
    unfold lp_MO_quotient_61 at w
    refine lv_iload hx hb d_MO_quotient_61 (lv_at hl 5 rfl) ?_
    refine lv_if_le (tgt := 96) hx hb d_MO_quotient_63 (by decide) (fun c62 => ?_) (fun c62 => ?_)
    · have w := w.1 c62
      exact hc_xt_96 x55 x56 x57 x58 x59 h61 _ _ _ w hm hW (lv_sub hl [0, 1, 2, 3, 4] rfl)
    · have w := w.2 c62
      refine lv_aload_n hx hb d_MO_quotient_66 rfl (lv_at hl 0 rfl) ?_
      obtain ⟨t63, w⟩ := w
      obtain ⟨q64, e65, w⟩ := w
      refine hb_get (ci := 4) (C := "BigDeskModel") (T := T_MO) (N := 8) hx hb hts (fun w9 h9 => hT w9 (u_MO w9 h9)) hown hK hW t63 rfl (by decide) 1 (by decide) (hw wd_647) (fun _ h9 => h9) (q := (2, 13)) rfl (v := .ref q64) (ah_f_R e65) d_MO_quotient_67 ?_
      refine lv_sipush (v := 20800) hx hb d_MO_quotient_70 (by decide) ?_
      refine lv_iload hx hb d_MO_quotient_73 (lv_at hl 5 rfl) ?_
      refine lv_iadd hx hb d_MO_quotient_75 ?_
      refine lv_aload_n hx hb d_MO_quotient_76 rfl (lv_at hl 0 rfl) ?_
      obtain ⟨q66, e67, w⟩ := w
      refine hb_get (ci := 4) (C := "BigDeskModel") (T := T_MO) (N := 8) hx hb hts (fun w9 h9 => hT w9 (u_MO w9 h9)) hown hK hW t63 rfl (by decide) 1 (by decide) (hw wd_647) (fun _ h9 => h9) (q := (2, 13)) rfl (v := .ref q66) (ah_f_R e67) d_MO_quotient_77 ?_
      refine lv_sipush (v := 20800) hx hb d_MO_quotient_80 (by decide) ?_
      refine lv_iload hx hb d_MO_quotient_83 (lv_at hl 5 rfl) ?_
      refine lv_iadd hx hb d_MO_quotient_85 ?_
      refine lv_iconst (v := 1) hx hb d_MO_quotient_86 (by decide) ?_
      refine lv_isub hx hb d_MO_quotient_87 ?_
      obtain ⟨t68, w⟩ := w
      obtain ⟨i69, w⟩ := w
      refine hb_iald hx hb hK hW t68 (by decide) (by decide) 0 rfl i69 d_MO_quotient_88 ?_
      refine lv_topi (fun v70 ev70 => ?_)
      have w := w v70 ev70
      obtain ⟨t71, w⟩ := w
      obtain ⟨i72, w⟩ := w
      refine hb_iast hx hb hK hW t71 (by decide) (by decide) 0 rfl i72 d_MO_quotient_89 (fun H locs h73 eh73 hW => ?_)
      have w := w h73 eh73
      have mm74 : ah_m h61 h73 := ah_m.rf.st (by rw [eh73]; rfl) (by rw [eh73]; rfl)
      have hm := hm.tr mm74
      have t75 := mm74.tg t63 (by decide)
      have t76 := mm74.tg t68 (by decide)
      have t77 := mm74.tg t71 (by decide)
      obtain ⟨v78, ev78⟩ : ∃ y9 : Int32, y9 = x60 + (-1) := ⟨_, rfl⟩
      have w := w v78 ev78
      refine lv_iinc (v := v78) (lv' := [(5, .int v78), (0, .ref x55), (1, .int x56), (2, .int x57), (3, .int x58), (4, .int x59)]) hx hb d_MO_quotient_90 hl (k := 5) rfl (by rw [ev78]; rfl) (by decide) rfl (fun ls hl => ?_)
      refine lv_goto (tgt := 61) hx hb d_MO_quotient_93 (by decide) ?_
      exact ih x55 x56 x57 x58 x59 v78 h73 _ _ _ w hm hW (lv_sub hl [1, 2, 3, 4, 5, 0] rfl)
set_option maxHeartbeats 4000000 in
set_option maxRecDepth 100000 in
theorem tl_MO_quotient_126 {p : Program} {l : Launch} {e : Env} {s : State} {m : MethodId} {args : Array Value} {below : List Frame} {meth : Method} {c : Code} {G : zG} (C : cx_C p l s m args meth c G y_MO_quotient b_MO_quotient 6 none "BigDeskModel" (Cond.code y_MO_quotient b_MO_quotient 6 none :: zx_T) []) {K : ah_H → Prop} {h0 : ah_H} {cells slots : Nat} (hcl : cells + 0 ≤ 0) (hsl : slots + 0 ≤ 0) {xt_169 : Nat → Int32 → Int32 → Int32 → Int32 → ah_H → Prop} (hc_xt_169 : ∀ (z0 : Nat) (z1 : Int32) (z2 : Int32) (z3 : Int32) (z4 : Int32) (hz : ah_H) (H : Heap) (locs : List Loc) (ls : Array Slot), xt_169 z0 z1 z2 z3 z4 hz → ah_m h0 hz → ah_W G s.heap hz H locs → lv_has ls 6 [(0, .ref z0), (1, .int z1), (2, .int z2), (3, .int z3), (4, .int z4)] → W p l e rm_MO_quotient s m args below meth c H locs cells slots (MQ below (va_Qv (fun h9 => K h9 ∧ ah_m h0 h9) (ah_B G) (fun q => G.2.2 ≤ q)) args s 0 0 (fun q => G.2.2 ≤ q)) (F0 m 169 ls [])) : ∀ (n : Nat) (x107 : Nat) (x108 : Int32) (x109 : Int32) (x110 : Int32) (x111 : Int32) (h112 : ah_H) (H : Heap) (locs : List Loc) (ls : Array Slot), lp_MO_quotient_126 xt_169 K n x107 x108 x109 x110 x111 h112 → ah_m h0 h112 → ah_W G s.heap h112 H locs → lv_has ls 6 [(0, .ref x107), (1, .int x108), (2, .int x109), (3, .int x110), (4, .int x111)] → W p l e rm_MO_quotient s m args below meth c H locs cells slots (MQ below (va_Qv (fun h9 => K h9 ∧ ah_m h0 h9) (ah_B G) (fun q => G.2.2 ≤ q)) args s 0 0 (fun q => G.2.2 ≤ q)) (F0 m 126 ls []) := by
  obtain ⟨hx, hb, hr, hml, hown, hts, hT, hlk, hK, hX, htb, hin, hst⟩ := id C
  have hw : ∀ {w9 : Cond}, w9 ∈ zx_T → w9.before _ s = true := fun h9 => hts _ (hT _ h9)
  intro n
  induction n with
  | zero =>
    intro x107 x108 x109 x110 x111 h112 H locs ls w
    exact absurd w (by intro z9; exact z9)
  | succ n ih =>
    intro x107 x108 x109 x110 x111 h112 H locs ls w hm hW hl
    unfold lp_MO_quotient_126 at w
    refine lv_aload_n hx hb d_MO_quotient_126 rfl (lv_at hl 0 rfl) ?_
    refine lv_bipush (v := 16) hx hb d_MO_quotient_127 (by decide) ?_
    refine lv_iload_n hx hb d_MO_quotient_129 rfl (lv_at hl 2 rfl) ?_
    obtain ⟨t113, w⟩ := w
    refine hb_calli (va_runV (As := [.int (16 : Int32), .int x109]) (rest := []) ⟨hx, hb, hml, hown, hts⟩ (m_MO_against G x107 (16 : Int32) x109 h112 hst w) (cwV 2 hts (zx_gV hT wd_711 wd_713 wd_s20 wd_5 wd_714) rfl rfl rfl (by decide +kernel) ⟨Nat.le_of_ble_eq_true rfl, Nat.le_of_ble_eq_true rfl⟩) (hb_preV hK hX hW t113 (by decide) rfl) rfl rfl hl.1 rfl (lv_room (Nat.le_of_ble_eq_true rfl)) d_MO_quotient_130 ⟨(by show _ ≤ 0; omega), (by show _ ≤ 0; omega)⟩) hW (fun r115 h114 H locs hk hW => ?_)
    obtain ⟨w, mm116⟩ := hk
    have w := w mm116
    have hm := hm.tr mm116
    have t117 := mm116.tg t113 (by decide)
    refine lv_if_lt (tgt := 169) hx hb d_MO_quotient_133 (by decide) (fun c118 => ?_) (fun c118 => ?_)
    · have w := w.1 c118
      exact hc_xt_169 x107 x108 x109 x110 x111 h114 _ _ _ w hm hW (lv_sub hl [0, 1, 2, 3, 4] rfl)
    · have w := w.2 c118
      refine lv_aload_n hx hb d_MO_quotient_136 rfl (lv_at hl 0 rfl) ?_
      refine lv_iload_n hx hb d_MO_quotient_137 rfl (lv_at hl 2 rfl) ?_
      refine hb_calli (va_runV (As := [.int x109]) (rest := []) ⟨hx, hb, hml, hown, hts⟩ (m_MO_guess G x107 x109 h114 hst w) (cwV 1 hts (zx_gV hT wd_760 wd_762 wd_s25 wd_5 wd_763) rfl rfl rfl (by decide +kernel) ⟨Nat.le_of_ble_eq_true rfl, Nat.le_of_ble_eq_true rfl⟩) (hb_preV hK hX hW t117 (by decide) rfl) rfl rfl hl.1 rfl (lv_room (Nat.le_of_ble_eq_true rfl)) d_MO_quotient_138 ⟨(by show _ ≤ 0; omega), (by show _ ≤ 0; omega)⟩) hW (fun r120 h119 H locs hk hW => ?_)
      obtain ⟨w, mm121⟩ := hk
      have w := w mm121
      have hm := hm.tr mm121
      have t122 := mm121.tg t117 (by decide)
      refine lv_istore (lv' := [(5, .int r120), (0, .ref x107), (1, .int x108), (2, .int x109), (3, .int x110), (4, .int x111)]) hx hb d_MO_quotient_141 hl (by decide) rfl (fun ls hl => ?_)
      refine lv_aload_n hx hb d_MO_quotient_143 rfl (lv_at hl 1 rfl) ?_
      obtain ⟨q123, e124, w⟩ := w
      refine hb_get (ci := 4) (C := "BigDeskModel") (T := T_MO) (N := 8) hx hb hts (fun w9 h9 => hT w9 (u_MO w9 h9)) hown hK hW t122 rfl (by decide) 1 (by decide) (hw wd_647) (fun _ h9 => h9) (q := (2, 13)) rfl (v := .ref q123) (ah_f_R e124) d_MO_quotient_144 ?_
      refine lv_sipush (v := 19500) hx hb d_MO_quotient_147 (by decide) ?_
      refine lv_iload hx hb d_MO_quotient_150 (lv_at hl 5 rfl) ?_
      refine lv_iadd hx hb d_MO_quotient_152 ?_
      refine lv_dup2_11 hx hb d_MO_quotient_153 rfl rfl ?_
      obtain ⟨t125, w⟩ := w
      obtain ⟨i126, w⟩ := w
      refine hb_iald hx hb hK hW t125 (by decide) (by decide) 0 rfl i126 d_MO_quotient_154 ?_
      refine lv_iload hx hb d_MO_quotient_155 (lv_at hl 0 rfl) ?_
      refine lv_iadd hx hb d_MO_quotient_157 ?_
      refine lv_topi (fun v127 ev127 => ?_)
      have w := w v127 ev127
      obtain ⟨i128, w⟩ := w
      refine hb_iast hx hb hK hW t125 (by decide) (by decide) 0 rfl i128 d_MO_quotient_158 (fun H locs h129 eh129 hW => ?_)
      have w := w h129 eh129
      have mm130 : ah_m h119 h129 := ah_m.rf.st (by rw [eh129]; rfl) (by rw [eh129]; rfl)
      have hm := hm.tr mm130
      have t131 := mm130.tg t122 (by decide)
      have t132 := mm130.tg t125 (by decide)
      refine lv_aload_n hx hb d_MO_quotient_159 rfl (lv_at hl 1 rfl) ?_
      refine lv_iload_n hx hb d_MO_quotient_160 rfl (lv_at hl 3 rfl) ?_
      refine lv_iload hx hb d_MO_quotient_161 (lv_at hl 0 rfl) ?_
      refine hb_callv (va_runV (As := [.int x109, .int r120]) (rest := []) ⟨hx, hb, hml, hown, hts⟩ (m_MO_lessens G x107 x109 r120 h129 hst w) (cwV 2 hts (zx_gV hT wd_764 wd_766 wd_s26 wd_5 wd_767) rfl rfl rfl (by decide +kernel) ⟨Nat.le_of_ble_eq_true rfl, Nat.le_of_ble_eq_true rfl⟩) (hb_preV hK hX hW t131 (by decide) rfl) rfl rfl hl.1 rfl (lv_room (Nat.le_of_ble_eq_true rfl)) d_MO_quotient_163 ⟨(by show _ ≤ 0; omega), (by show _ ≤ 0; omega)⟩) hW (fun h133 H locs hk hW => ?_)
      obtain ⟨w, mm134⟩ := hk
      have w := w mm134
      have hm := hm.tr mm134
      have t135 := mm134.tg t131 (by decide)
      have t136 := mm134.tg t132 (by decide)
      refine lv_goto (tgt := 126) hx hb d_MO_quotient_166 (by decide) ?_
      exact ih x107 x108 x109 x110 x111 h133 _ _ _ w hm hW (lv_sub hl [1, 2, 3, 4, 5] rfl)
set_option maxHeartbeats 4000000 in
set_option maxRecDepth 100000 in
theorem tl_MO_quotient_47 {p : Program} {l : Launch} {e : Env} {s : State} {m : MethodId} {args : Array Value} {below : List Frame} {meth : Method} {c : Code} {G : zG} (C : cx_C p l s m args meth c G y_MO_quotient b_MO_quotient 6 none "BigDeskModel" (Cond.code y_MO_quotient b_MO_quotient 6 none :: zx_T) []) {K : ah_H → Prop} {h0 : ah_H} {cells slots : Nat} (hcl : cells + 0 ≤ 0) (hsl : slots + 0 ≤ 0) {xt_175 : Nat → Int32 → ah_H → Prop} (hc_xt_175 : ∀ (z0 : Nat) (z1 : Int32) (hz : ah_H) (H : Heap) (locs : List Loc) (ls : Array Slot), xt_175 z0 z1 hz → ah_m h0 hz → ah_W G s.heap hz H locs → lv_has ls 6 [(0, .ref z0), (3, .int z1)] → W p l e rm_MO_quotient s m args below meth c H locs cells slots (MQ below (va_Qv (fun h9 => K h9 ∧ ah_m h0 h9) (ah_B G) (fun q => G.2.2 ≤ q)) args s 0 0 (fun q => G.2.2 ≤ q)) (F0 m 175 ls [])) : ∀ (n : Nat) (x42 : Nat) (x43 : Int32) (x44 : Int32) (x45 : Int32) (x46 : Int32) (h47 : ah_H) (H : Heap) (locs : List Loc) (ls : Array Slot), lp_MO_quotient_47 xt_175 K n x42 x43 x44 x45 x46 h47 → ah_m h0 h47 → ah_W G s.heap h47 H locs → lv_has ls 6 [(0, .ref x42), (1, .int x43), (2, .int x44), (3, .int x45), (4, .int x46)] → W p l e rm_MO_quotient s m args below meth c H locs cells slots (MQ below (va_Qv (fun h9 => K h9 ∧ ah_m h0 h9) (ah_B G) (fun q => G.2.2 ≤ q)) args s 0 0 (fun q => G.2.2 ≤ q)) (F0 m 47 ls []) := by
  obtain ⟨hx, hb, hr, hml, hown, hts, hT, hlk, hK, hX, htb, hin, hst⟩ := id C
  have hw : ∀ {w9 : Cond}, w9 ∈ zx_T → w9.before _ s = true := fun h9 => hts _ (hT _ h9)
  intro n
  induction n with
  | zero =>
    intro x42 x43 x44 x45 x46 h47 H locs ls w
    exact absurd w (by intro z9; exact z9)
  | succ n ih =>
    intro x42 x43 x44 x45 x46 h47 H locs ls w hm hW hl
    unfold lp_MO_quotient_47 at w
    refine lv_iload hx hb d_MO_quotient_47 (lv_at hl 4 rfl) ?_
    refine lv_if_lt (tgt := 175) hx hb d_MO_quotient_49 (by decide) (fun c48 => ?_) (fun c48 => ?_)
    · have w := w.1 c48
      exact hc_xt_175 x42 x45 h47 _ _ _ w hm hW (lv_sub hl [0, 3] rfl)
    · have w := w.2 c48
      refine lv_aload_n hx hb d_MO_quotient_52 rfl (lv_at hl 0 rfl) ?_
      obtain ⟨t49, w⟩ := w
      obtain ⟨q50, e51, w⟩ := w
      refine hb_get (ci := 4) (C := "BigDeskModel") (T := T_MO) (N := 8) hx hb hts (fun w9 h9 => hT w9 (u_MO w9 h9)) hown hK hW t49 rfl (by decide) 2 (by decide) (hw wd_648) (fun _ h9 => h9) (q := (2, 14)) rfl (v := .ref q50) (ah_f_R e51) d_MO_quotient_53 ?_
      refine lv_bipush (v := 16) hx hb d_MO_quotient_56 (by decide) ?_
      obtain ⟨t52, w⟩ := w
      obtain ⟨i53, w⟩ := w
      refine hb_iald hx hb hK hW t52 (by decide) (by decide) 0 rfl i53 d_MO_quotient_58 ?_
      refine lv_topi (fun v54 ev54 => ?_)
      have w := w v54 ev54
      refine lv_istore (lv' := [(5, .int v54), (0, .ref x42), (1, .int x43), (2, .int x44), (3, .int x45), (4, .int x46)]) hx hb d_MO_quotient_59 hl (by decide) rfl (fun ls hl => ?_)
      obtain ⟨k145, w⟩ := w
      refine tl_MO_quotient_61 C (by omega) (by omega) (fun x79 x80 x81 x82 x83 h84 H locs ls w hm hW hl => ?_) k145 x42 x43 x44 x45 x46 v54 h47 _ _ _ w hm hW (lv_sub hl [1, 2, 3, 4, 5, 0] rfl)
      · refine lv_aload_n hx hb d_MO_quotient_96 rfl (lv_at hl 0 rfl) ?_
        obtain ⟨t85, w⟩ := w
        obtain ⟨q86, e87, w⟩ := w
        refine hb_get (ci := 4) (C := "BigDeskModel") (T := T_MO) (N := 8) hx hb hts (fun w9 h9 => hT w9 (u_MO w9 h9)) hown hK hW t85 rfl (by decide) 1 (by decide) (hw wd_647) (fun _ h9 => h9) (q := (2, 13)) rfl (v := .ref q86) (ah_f_R e87) d_MO_quotient_97 ?_
        refine lv_sipush (v := 20800) hx hb d_MO_quotient_100 (by decide) ?_
        refine lv_aload_n hx hb d_MO_quotient_103 rfl (lv_at hl 0 rfl) ?_
        refine lv_iload_n hx hb d_MO_quotient_104 rfl (lv_at hl 1 rfl) ?_
        refine lv_iload hx hb d_MO_quotient_105 (lv_at hl 4 rfl) ?_
        refine hb_calli (va_runV (As := [.int x80, .int x83]) (rest := [.int (20800 : Int32), .ref q86]) ⟨hx, hb, hml, hown, hts⟩ (m_MO_at G x79 x80 x83 h84 hst w) (cwV 2 hts (zx_gV hT wd_642 wd_644 wd_s14 wd_5 wd_645) rfl rfl rfl (by decide +kernel) ⟨Nat.le_of_ble_eq_true rfl, Nat.le_of_ble_eq_true rfl⟩) (hb_preV hK hX hW t85 (by decide) rfl) rfl rfl hl.1 rfl (lv_room (Nat.le_of_ble_eq_true rfl)) d_MO_quotient_107 ⟨(by show _ ≤ 0; omega), (by show _ ≤ 0; omega)⟩) hW (fun r89 h88 H locs hk hW => ?_)
        obtain ⟨w, mm90⟩ := hk
        have w := w mm90
        have hm := hm.tr mm90
        have t91 := mm90.tg t85 (by decide)
        obtain ⟨t92, w⟩ := w
        obtain ⟨i93, w⟩ := w
        refine hb_iast hx hb hK hW t92 (by decide) (by decide) 0 rfl i93 d_MO_quotient_110 (fun H locs h94 eh94 hW => ?_)
        have w := w h94 eh94
        have mm95 : ah_m h88 h94 := ah_m.rf.st (by rw [eh94]; rfl) (by rw [eh94]; rfl)
        have hm := hm.tr mm95
        have t96 := mm95.tg t91 (by decide)
        have t97 := mm95.tg t92 (by decide)
        refine lv_aload_n hx hb d_MO_quotient_111 rfl (lv_at hl 0 rfl) ?_
        refine lv_bipush (v := 16) hx hb d_MO_quotient_112 (by decide) ?_
        refine lv_aload_n hx hb d_MO_quotient_114 rfl (lv_at hl 0 rfl) ?_
        obtain ⟨q98, e99, w⟩ := w
        refine hb_get (ci := 4) (C := "BigDeskModel") (T := T_MO) (N := 8) hx hb hts (fun w9 h9 => hT w9 (u_MO w9 h9)) hown hK hW t96 rfl (by decide) 2 (by decide) (hw wd_648) (fun _ h9 => h9) (q := (2, 14)) rfl (v := .ref q98) (ah_f_R e99) d_MO_quotient_115 ?_
        refine lv_bipush (v := 16) hx hb d_MO_quotient_118 (by decide) ?_
        obtain ⟨t100, w⟩ := w
        obtain ⟨i101, w⟩ := w
        refine hb_iald hx hb hK hW t100 (by decide) (by decide) 0 rfl i101 d_MO_quotient_120 ?_
        refine lv_iconst (v := 1) hx hb d_MO_quotient_121 (by decide) ?_
        refine lv_iadd hx hb d_MO_quotient_122 ?_
        refine hb_callv (va_runV (As := [.int (16 : Int32), .int ((ah_bI h94 q98 (16 : Int32).toNatClampNeg) + (1 : Int32))]) (rest := []) ⟨hx, hb, hml, hown, hts⟩ (m_MO_trim G x79 (16 : Int32) ((ah_bI h94 q98 (16 : Int32).toNatClampNeg) + (1 : Int32)) h94 hst w) (cwV 2 hts (zx_gV hT wd_707 wd_709 wd_s19 wd_5 wd_710) rfl rfl rfl (by decide +kernel) ⟨Nat.le_of_ble_eq_true rfl, Nat.le_of_ble_eq_true rfl⟩) (hb_preV hK hX hW t96 (by decide) rfl) rfl rfl hl.1 rfl (lv_room (Nat.le_of_ble_eq_true rfl)) d_MO_quotient_123 ⟨(by show _ ≤ 0; omega), (by show _ ≤ 0; omega)⟩) hW (fun h102 H locs hk hW => ?_)
        obtain ⟨w, mm103⟩ := hk
        have w := w mm103
        have hm := hm.tr mm103
        have t104 := mm103.tg t96 (by decide)
        have t105 := mm103.tg t97 (by decide)
        have t106 := mm103.tg t100 (by decide)
        obtain ⟨k144, w⟩ := w
        refine tl_MO_quotient_126 C (by omega) (by omega) (fun x137 x138 x139 x140 x141 h142 H locs ls w hm hW hl => ?_) k144 x79 x80 x81 x82 x83 h102 _ _ _ w hm hW (lv_sub hl [0, 1, 2, 3, 4] rfl)
        · obtain ⟨v143, ev143⟩ : ∃ y9 : Int32, y9 = x141 + (-1) := ⟨_, rfl⟩
          have w := w v143 ev143
          refine lv_iinc (v := v143) (lv' := [(4, .int v143), (0, .ref x137), (1, .int x138), (2, .int x139), (3, .int x140)]) hx hb d_MO_quotient_169 hl (k := 4) rfl (by rw [ev143]; rfl) (by decide) rfl (fun ls hl => ?_)
          refine lv_goto (tgt := 47) hx hb d_MO_quotient_172 (by decide) ?_
          exact ih x137 x138 x139 x140 v143 h142 _ _ _ w hm hW (lv_sub hl [1, 2, 3, 4, 0] rfl)
set_option maxHeartbeats 4000000 in
set_option maxRecDepth 100000 in
theorem tb_MO_quotient_211 {p : Program} {l : Launch} {e : Env} {s : State} {m : MethodId} {args : Array Value} {below : List Frame} {meth : Method} {c : Code} {G : zG} (C : cx_C p l s m args meth c G y_MO_quotient b_MO_quotient 6 none "BigDeskModel" (Cond.code y_MO_quotient b_MO_quotient 6 none :: zx_T) []) {K : ah_H → Prop} {h0 : ah_H} {cells slots : Nat} (hcl : cells + 0 ≤ 0) (hsl : slots + 0 ≤ 0)  (s169 : Int32) (s170 : Int32) (s171 : Nat) (h172 : ah_H) (H : Heap) (locs : List Loc) (ls : Array Slot) (w : bk_MO_quotient_211 K s169 s170 s171 h172) (hm : ah_m h0 h172) (hW : ah_W G s.heap h172 H locs) (hl : lv_has ls 6 []) : W p l e rm_MO_quotient s m args below meth c H locs cells slots (MQ below (va_Qv (fun h9 => K h9 ∧ ah_m h0 h9) (ah_B G) (fun q => G.2.2 ≤ q)) args s 0 0 (fun q => G.2.2 ≤ q)) (F0 m 211 ls [.int s169, .int s170, .ref s171]) := by
  unfold bk_MO_quotient_211 at w
  obtain ⟨hx, hb, hr, hml, hown, hts, hT, hlk, hK, hX, htb, hin, hst⟩ := id C
  have hw : ∀ {w9 : Cond}, w9 ∈ zx_T → w9.before _ s = true := fun h9 => hts _ (hT _ h9)
  obtain ⟨t173, w⟩ := w
  obtain ⟨i174, w⟩ := w
  refine hb_iast hx hb hK hW t173 (by decide) (by decide) 0 rfl i174 d_MO_quotient_211 (fun H locs h175 eh175 hW => ?_)
  have w := w h175 eh175
  have mm176 : ah_m h172 h175 := ah_m.rf.st (by rw [eh175]; rfl) (by rw [eh175]; rfl)
  have hm := hm.tr mm176
  have t177 := mm176.tg t173 (by decide)
  exact hb_vret (K := fun h9 => K h9 ∧ ah_m h0 h9) hx hb hr hlk hK hX hW ⟨w, hm⟩ (by omega) (by omega) d_MO_quotient_212
set_option maxHeartbeats 4000000 in
set_option maxRecDepth 100000 in
theorem m_MO_quotient {l : Launch} (G : zG) (a1 : Nat) (a2 : Int32) (a3 : Int32) (h0 : ah_H) {K : ah_H → Prop} (hst : l.stackTraces = false) (w : w_MO_quotient a1 a2 a3 h0 K) : Met l y_MO_quotient (Cond.code y_MO_quotient b_MO_quotient 6 none :: zx_T) rm_MO_quotient (va_Pc [.ref a1, .int a2, .int a3] (ah_B G h0)) (va_Qv (fun h9 => K h9 ∧ ah_m h0 h9) (ah_B G) (fun q => G.2.2 ≤ q)) 0 0 (fun q => G.2.2 ≤ q) := by
  refine Met.ofW (cc := b_MO_quotient) (maxL := 6) (ret := none) (by decide) rfl ?_
  intro p e s m args below meth c s₁ B hml hv
  have htb := cx_out B (atoms_spec B.pre _ List.mem_cons_self)
  obtain ⟨rfl, hB⟩ := hv
  have C : cx_C p l s m _ meth c G y_MO_quotient b_MO_quotient 6 none "BigDeskModel" (Cond.code y_MO_quotient b_MO_quotient 6 none :: zx_T) [] := ⟨B.exec, B.bytes, B.returns, hml, findClass_of_methodNamed B.named, atoms_spec B.pre, cx_hd, B.notSynchronized, hB.2.2.1, hB.2.2.2, htb, fun z9 => (name_of_methodNamed B.named B.method).1.trans z9, hst⟩
  obtain ⟨hx, hb, hr, hml, hown, hts, hT, hlk, hK, hX, htb, hin, hst⟩ := id C
  have hw : ∀ {w9 : Cond}, w9 ∈ zx_T → w9.before _ s = true := fun h9 => hts _ (hT _ h9)
  have hW : ah_W G s.heap h0 s.heap [] := ⟨hB.1, hB.2.1, va_S.rf⟩
  have hm : ah_m h0 h0 := ah_m.rf
  have hcl : 0 + 0 ≤ 0 := by decide
  have hsl : 0 + 0 ≤ 0 := by decide
  have hl := lv_entry ([.ref a1, .int a2, .int a3]) (n := 6) (Nat.le_of_ble_eq_true rfl)
  rw [lg_entry_eq]
  generalize (lg_sl ([.ref a1, .int a2, .int a3]) ++ List.replicate (6 - (lg_sl ([.ref a1, .int a2, .int a3])).length) Slot.unset).toArray = ls at hl ⊢
  have hl : lv_has ls 6 [(0, .ref a1), (1, .int a2), (2, .int a3)] := hl
  unfold w_MO_quotient at w
  refine lv_aload_n hx hb d_MO_quotient_0 rfl (lv_at hl 0 rfl) ?_
  obtain ⟨t4, w⟩ := w
  obtain ⟨q5, e6, w⟩ := w
  refine hb_get (ci := 4) (C := "BigDeskModel") (T := T_MO) (N := 8) hx hb hts (fun w9 h9 => hT w9 (u_MO w9 h9)) hown hK hW t4 rfl (by decide) 2 (by decide) (hw wd_648) (fun _ h9 => h9) (q := (2, 14)) rfl (v := .ref q5) (ah_f_R e6) d_MO_quotient_1 ?_
  refine lv_iload_n hx hb d_MO_quotient_4 rfl (lv_at hl 1 rfl) ?_
  obtain ⟨t7, w⟩ := w
  obtain ⟨i8, w⟩ := w
  refine hb_iald hx hb hK hW t7 (by decide) (by decide) 0 rfl i8 d_MO_quotient_5 ?_
  refine lv_topi (fun v9 ev9 => ?_)
  have w := w v9 ev9
  refine lv_istore_n (lv' := [(3, .int v9), (0, .ref a1), (1, .int a2), (2, .int a3)]) hx hb d_MO_quotient_6 rfl hl (by decide) rfl (fun ls hl => ?_)
  refine lv_iconst (v := 0) hx hb d_MO_quotient_7 (by decide) ?_
  refine lv_istore (lv' := [(4, .int (0 : Int32)), (3, .int v9), (0, .ref a1), (1, .int a2), (2, .int a3)]) hx hb d_MO_quotient_8 hl (by decide) rfl (fun ls hl => ?_)
  obtain ⟨k179, w⟩ := w
  refine tl_MO_quotient_10 C (by omega) (by omega) (fun x27 x28 x29 x30 h31 H locs ls w hm hW hl => ?_) k179 a1 a2 a3 v9 (0 : Int32) h0 _ _ _ w hm hW (lv_sub hl [2, 3, 4, 1, 0] rfl)
  · refine lv_aload_n hx hb d_MO_quotient_34 rfl (lv_at hl 0 rfl) ?_
    obtain ⟨t32, w⟩ := w
    obtain ⟨q33, e34, w⟩ := w
    refine hb_get (ci := 4) (C := "BigDeskModel") (T := T_MO) (N := 8) hx hb hts (fun w9 h9 => hT w9 (u_MO w9 h9)) hown hK hW t32 rfl (by decide) 2 (by decide) (hw wd_648) (fun _ h9 => h9) (q := (2, 14)) rfl (v := .ref q33) (ah_f_R e34) d_MO_quotient_35 ?_
    refine lv_bipush (v := 16) hx hb d_MO_quotient_38 (by decide) ?_
    refine lv_iconst (v := 0) hx hb d_MO_quotient_40 (by decide) ?_
    obtain ⟨t35, w⟩ := w
    obtain ⟨i36, w⟩ := w
    refine hb_iast hx hb hK hW t35 (by decide) (by decide) 0 rfl i36 d_MO_quotient_41 (fun H locs h37 eh37 hW => ?_)
    have w := w h37 eh37
    have mm38 : ah_m h31 h37 := ah_m.rf.st (by rw [eh37]; rfl) (by rw [eh37]; rfl)
    have hm := hm.tr mm38
    have t39 := mm38.tg t32 (by decide)
    have t40 := mm38.tg t35 (by decide)
    refine lv_iload_n hx hb d_MO_quotient_42 rfl (lv_at hl 3 rfl) ?_
    refine lv_iconst (v := 1) hx hb d_MO_quotient_43 (by decide) ?_
    refine lv_isub hx hb d_MO_quotient_44 ?_
    refine lv_topi (fun v41 ev41 => ?_)
    have w := w v41 ev41
    refine lv_istore (lv' := [(4, .int v41), (0, .ref x27), (1, .int x28), (2, .int x29), (3, .int x30)]) hx hb d_MO_quotient_45 hl (by decide) rfl (fun ls hl => ?_)
    obtain ⟨k178, w⟩ := w
    refine tl_MO_quotient_47 C (by omega) (by omega) (fun x146 x147 h148 H locs ls w hm hW hl => ?_) k178 x27 x28 x29 x30 v41 h37 _ _ _ w hm hW (lv_sub hl [1, 2, 3, 4, 0] rfl)
    · refine lv_aload_n hx hb d_MO_quotient_175 rfl (lv_at hl 0 rfl) ?_
      obtain ⟨t149, w⟩ := w
      obtain ⟨q150, e151, w⟩ := w
      refine hb_get (ci := 4) (C := "BigDeskModel") (T := T_MO) (N := 8) hx hb hts (fun w9 h9 => hT w9 (u_MO w9 h9)) hown hK hW t149 rfl (by decide) 3 (by decide) (hw wd_649) (fun _ h9 => h9) (q := (2, 15)) rfl (v := .ref q150) (ah_f_R e151) d_MO_quotient_176 ?_
      refine lv_bipush (v := 15) hx hb d_MO_quotient_179 (by decide) ?_
      refine lv_iconst (v := 1) hx hb d_MO_quotient_181 (by decide) ?_
      obtain ⟨t152, w⟩ := w
      obtain ⟨i153, w⟩ := w
      refine hb_iast hx hb hK hW t152 (by decide) (by decide) 0 rfl i153 d_MO_quotient_182 (fun H locs h154 eh154 hW => ?_)
      have w := w h154 eh154
      have mm155 : ah_m h148 h154 := ah_m.rf.st (by rw [eh154]; rfl) (by rw [eh154]; rfl)
      have hm := hm.tr mm155
      have t156 := mm155.tg t149 (by decide)
      have t157 := mm155.tg t152 (by decide)
      refine lv_aload_n hx hb d_MO_quotient_183 rfl (lv_at hl 0 rfl) ?_
      refine lv_bipush (v := 15) hx hb d_MO_quotient_184 (by decide) ?_
      refine lv_iload_n hx hb d_MO_quotient_186 rfl (lv_at hl 1 rfl) ?_
      refine hb_callv (va_runV (As := [.int (15 : Int32), .int x147]) (rest := []) ⟨hx, hb, hml, hown, hts⟩ (m_MO_trim G x146 (15 : Int32) x147 h154 hst w) (cwV 2 hts (zx_gV hT wd_707 wd_709 wd_s19 wd_5 wd_710) rfl rfl rfl (by decide +kernel) ⟨Nat.le_of_ble_eq_true rfl, Nat.le_of_ble_eq_true rfl⟩) (hb_preV hK hX hW t156 (by decide) rfl) rfl rfl hl.1 rfl (lv_room (Nat.le_of_ble_eq_true rfl)) d_MO_quotient_187 ⟨(by show _ ≤ 0; omega), (by show _ ≤ 0; omega)⟩) hW (fun h158 H locs hk hW => ?_)
      obtain ⟨w, mm159⟩ := hk
      have w := w mm159
      have hm := hm.tr mm159
      have t160 := mm159.tg t156 (by decide)
      have t161 := mm159.tg t157 (by decide)
      refine lv_aload_n hx hb d_MO_quotient_190 rfl (lv_at hl 0 rfl) ?_
      obtain ⟨q162, e163, w⟩ := w
      refine hb_get (ci := 4) (C := "BigDeskModel") (T := T_MO) (N := 8) hx hb hts (fun w9 h9 => hT w9 (u_MO w9 h9)) hown hK hW t160 rfl (by decide) 3 (by decide) (hw wd_649) (fun _ h9 => h9) (q := (2, 15)) rfl (v := .ref q162) (ah_f_R e163) d_MO_quotient_191 ?_
      refine lv_bipush (v := 16) hx hb d_MO_quotient_194 (by decide) ?_
      refine lv_aload_n hx hb d_MO_quotient_196 rfl (lv_at hl 0 rfl) ?_
      obtain ⟨q164, e165, w⟩ := w
      refine hb_get (ci := 4) (C := "BigDeskModel") (T := T_MO) (N := 8) hx hb hts (fun w9 h9 => hT w9 (u_MO w9 h9)) hown hK hW t160 rfl (by decide) 2 (by decide) (hw wd_648) (fun _ h9 => h9) (q := (2, 14)) rfl (v := .ref q164) (ah_f_R e165) d_MO_quotient_197 ?_
      refine lv_bipush (v := 16) hx hb d_MO_quotient_200 (by decide) ?_
      obtain ⟨t166, w⟩ := w
      obtain ⟨i167, w⟩ := w
      refine hb_iald hx hb hK hW t166 (by decide) (by decide) 0 rfl i167 d_MO_quotient_202 ?_
      refine lv_if_le (tgt := 210) hx hb d_MO_quotient_203 (by decide) (fun c168 => ?_) (fun c168 => ?_)
      · have w := w.1 c168
        refine lv_iconst (v := 0) hx hb d_MO_quotient_210 (by decide) ?_
        exact tb_MO_quotient_211 C (by omega) (by omega)  (0 : Int32) (16 : Int32) q162 h158 _ _ _ w hm hW (lv_sub hl [] rfl)
      · have w := w.2 c168
        refine lv_iconst (v := 1) hx hb d_MO_quotient_206 (by decide) ?_
        refine lv_goto (tgt := 211) hx hb d_MO_quotient_207 (by decide) ?_
        exact tb_MO_quotient_211 C (by omega) (by omega)  (1 : Int32) (16 : Int32) q162 h158 _ _ _ w hm hW (lv_sub hl [] rfl)
set_option maxHeartbeats 4000000 in
set_option maxRecDepth 100000 in
theorem m_MO_becomes {l : Launch} (G : zG) (a1 : Nat) (a2 : Int32) (h0 : ah_H) {K : Int32 → ah_H → Prop} (hst : l.stackTraces = false) (w : w_MO_becomes a1 a2 h0 K) : Met l y_MO_becomes (Cond.code y_MO_becomes b_MO_becomes 2 (some .boolean) :: zx_T) rm_MO_becomes (va_Pc [.ref a1, .int a2] (ah_B G h0)) (va_Qi (fun r9 h9 => K r9 h9 ∧ ah_m h0 h9) (ah_B G) (fun q => G.2.2 ≤ q)) 0 0 (fun q => G.2.2 ≤ q) := by
  refine Met.ofW (cc := b_MO_becomes) (maxL := 2) (ret := (some .boolean)) (by decide) rfl ?_
  intro p e s m args below meth c s₁ B hml hv
  have htb := cx_out B (atoms_spec B.pre _ List.mem_cons_self)
  obtain ⟨rfl, hB⟩ := hv
  have C : cx_C p l s m _ meth c G y_MO_becomes b_MO_becomes 2 (some .boolean) "BigDeskModel" (Cond.code y_MO_becomes b_MO_becomes 2 (some .boolean) :: zx_T) [] := ⟨B.exec, B.bytes, B.returns, hml, findClass_of_methodNamed B.named, atoms_spec B.pre, cx_hd, B.notSynchronized, hB.2.2.1, hB.2.2.2, htb, fun z9 => (name_of_methodNamed B.named B.method).1.trans z9, hst⟩
  obtain ⟨hx, hb, hr, hml, hown, hts, hT, hlk, hK, hX, htb, hin, hst⟩ := id C
  have hw : ∀ {w9 : Cond}, w9 ∈ zx_T → w9.before _ s = true := fun h9 => hts _ (hT _ h9)
  have hW : ah_W G s.heap h0 s.heap [] := ⟨hB.1, hB.2.1, va_S.rf⟩
  have hm : ah_m h0 h0 := ah_m.rf
  have hcl : 0 + 0 ≤ 0 := by decide
  have hsl : 0 + 0 ≤ 0 := by decide
  have hl := lv_entry ([.ref a1, .int a2]) (n := 2) (Nat.le_of_ble_eq_true rfl)
  rw [lg_entry_eq]
  generalize (lg_sl ([.ref a1, .int a2]) ++ List.replicate (2 - (lg_sl ([.ref a1, .int a2])).length) Slot.unset).toArray = ls at hl ⊢
  have hl : lv_has ls 2 [(0, .ref a1), (1, .int a2)] := hl
  unfold w_MO_becomes at w
  refine lv_aload_n hx hb d_MO_becomes_0 rfl (lv_at hl 0 rfl) ?_
  refine lv_bipush (v := 17) hx hb d_MO_becomes_1 (by decide) ?_
  refine lv_bipush (v := 12) hx hb d_MO_becomes_3 (by decide) ?_
  obtain ⟨t3, w⟩ := w
  refine hb_calli (va_runV (As := [.int (17 : Int32), .int (12 : Int32)]) (rest := []) ⟨hx, hb, hml, hown, hts⟩ (m_MO_against G a1 (17 : Int32) (12 : Int32) h0 hst w) (cwV 2 hts (zx_gV hT wd_711 wd_713 wd_s20 wd_5 wd_714) rfl rfl rfl (by decide +kernel) ⟨Nat.le_of_ble_eq_true rfl, Nat.le_of_ble_eq_true rfl⟩) (hb_preV hK hX hW t3 (by decide) rfl) rfl rfl hl.1 rfl (lv_room (Nat.le_of_ble_eq_true rfl)) d_MO_becomes_5 ⟨(by show _ ≤ 0; omega), (by show _ ≤ 0; omega)⟩) hW (fun r5 h4 H locs hk hW => ?_)
  obtain ⟨w, mm6⟩ := hk
  have w := w mm6
  have hm := hm.tr mm6
  have t7 := mm6.tg t3 (by decide)
  refine lv_if_lt (tgt := 13) hx hb d_MO_becomes_8 (by decide) (fun c8 => ?_) (fun c8 => ?_)
  · have w := w.1 c8
    refine lv_aload_n hx hb d_MO_becomes_13 rfl (lv_at hl 0 rfl) ?_
    refine lv_iload_n hx hb d_MO_becomes_14 rfl (lv_at hl 1 rfl) ?_
    refine lv_bipush (v := 17) hx hb d_MO_becomes_15 (by decide) ?_
    refine hb_callv (va_runV (As := [.int a2, .int (17 : Int32)]) (rest := []) ⟨hx, hb, hml, hown, hts⟩ (m_MO_copyRow G a1 a2 (17 : Int32) h4 hst w) (cwV 2 hts (zx_gV hT wd_691 wd_693 wd_s16 wd_5 wd_694) rfl rfl rfl (by decide +kernel) ⟨Nat.le_of_ble_eq_true rfl, Nat.le_of_ble_eq_true rfl⟩) (hb_preV hK hX hW t7 (by decide) rfl) rfl rfl hl.1 rfl (lv_room (Nat.le_of_ble_eq_true rfl)) d_MO_becomes_17 ⟨(by show _ ≤ 0; omega), (by show _ ≤ 0; omega)⟩) hW (fun h9 H locs hk hW => ?_)
    obtain ⟨w, mm10⟩ := hk
    have w := w mm10
    have hm := hm.tr mm10
    have t11 := mm10.tg t7 (by decide)
    refine lv_iconst (v := 1) hx hb d_MO_becomes_20 (by decide) ?_
    exact hb_zret (K := fun r9 h9 => K r9 h9 ∧ ah_m h0 h9) hx hb hr hlk (by decide) hK hX hW ⟨w, hm⟩ (by omega) (by omega) d_MO_becomes_21
  · have w := w.2 c8
    refine lv_iconst (v := 0) hx hb d_MO_becomes_11 (by decide) ?_
    exact hb_zret (K := fun r9 h9 => K r9 h9 ∧ ah_m h0 h9) hx hb hr hlk (by decide) hK hX hW ⟨w, hm⟩ (by omega) (by omega) d_MO_becomes_12
set_option maxHeartbeats 4000000 in
set_option maxRecDepth 100000 in
theorem tl_MO_bits_11 {p : Program} {l : Launch} {e : Env} {s : State} {m : MethodId} {args : Array Value} {below : List Frame} {meth : Method} {c : Code} {G : zG} (C : cx_C p l s m args meth c G y_MO_bits b_MO_bits 5 (some .int) "BigDeskModel" (Cond.code y_MO_bits b_MO_bits 5 (some .int) :: zx_T) []) {K : Int32 → ah_H → Prop} {h0 : ah_H} {cells slots : Nat} (hcl : cells + 0 ≤ 0) (hsl : slots + 0 ≤ 0) {xt_36 : Int32 → Int32 → ah_H → Prop} (hc_xt_36 : ∀ (z0 : Int32) (z1 : Int32) (hz : ah_H) (H : Heap) (locs : List Loc) (ls : Array Slot), xt_36 z0 z1 hz → ah_m h0 hz → ah_W G s.heap hz H locs → lv_has ls 5 [(2, .int z0), (3, .int z1)] → W p l e rm_MO_bits s m args below meth c H locs cells slots (MQ below (va_Qi (fun r9 h9 => K r9 h9 ∧ ah_m h0 h9) (ah_B G) (fun q => G.2.2 ≤ q)) args s 0 0 (fun q => G.2.2 ≤ q)) (F0 m 36 ls [])) : ∀ (n : Nat) (x7 : Nat) (x8 : Int32) (x9 : Int32) (h10 : ah_H) (H : Heap) (locs : List Loc) (ls : Array Slot), lp_MO_bits_11 xt_36 K n x7 x8 x9 h10 → ah_m h0 h10 → ah_W G s.heap h10 H locs → lv_has ls 5 [(0, .ref x7), (2, .int x8), (3, .int x9)] → W p l e rm_MO_bits s m args below meth c H locs cells slots (MQ below (va_Qi (fun r9 h9 => K r9 h9 ∧ ah_m h0 h9) (ah_B G) (fun q => G.2.2 ≤ q)) args s 0 0 (fun q => G.2.2 ≤ q)) (F0 m 11 ls []) := by
  obtain ⟨hx, hb, hr, hml, hown, hts, hT, hlk, hK, hX, htb, hin, hst⟩ := id C
  have hw : ∀ {w9 : Cond}, w9 ∈ zx_T → w9.before _ s = true := fun h9 => hts _ (hT _ h9)
  intro n
  induction n with
  | zero =>
    intro x7 x8 x9 h10 H locs ls w
    exact absurd w (by intro z9; exact z9)
  | succ n ih =>
    intro x7 x8 x9 h10 H locs ls w hm hW hl
    unfold lp_MO_bits_11 at w
    refine lv_aload_n hx hb d_MO_bits_11 rfl (lv_at hl 0 rfl) ?_
    obtain ⟨t11, w⟩ := w
    obtain ⟨q12, e13, w⟩ := w
    refine hb_get (ci := 4) (C := "BigDeskModel") (T := T_MO) (N := 8) hx hb hts (fun w9 h9 => hT w9 (u_MO w9 h9)) hown hK hW t11 rfl (by decide) 2 (by decide) (hw wd_648) (fun _ h9 => h9) (q := (2, 14)) rfl (v := .ref q12) (ah_f_R e13) d_MO_bits_12 ?_
    refine lv_bipush (v := 13) hx hb d_MO_bits_15 (by decide) ?_
    obtain ⟨t14, w⟩ := w
    obtain ⟨i15, w⟩ := w
    refine hb_iald hx hb hK hW t14 (by decide) (by decide) 0 rfl i15 d_MO_bits_17 ?_
    refine lv_if_le (tgt := 36) hx hb d_MO_bits_18 (by decide) (fun c16 => ?_) (fun c16 => ?_)
    · have w := w.1 c16
      exact hc_xt_36 x8 x9 h10 _ _ _ w hm hW (lv_sub hl [1, 2] rfl)
    · have w := w.2 c16
      refine lv_aload_n hx hb d_MO_bits_21 rfl (lv_at hl 0 rfl) ?_
      refine lv_bipush (v := 13) hx hb d_MO_bits_22 (by decide) ?_
      refine lv_ldc (v := 65536) hx hb hown (hw wd_805) d_MO_bits_24 ?_
      refine hb_calli (va_runV (As := [.int (13 : Int32), .int (65536 : Int32)]) (rest := []) ⟨hx, hb, hml, hown, hts⟩ (m_MO_parts G x7 (13 : Int32) (65536 : Int32) h10 hst w) (cwV 2 hts (zx_gV hT wd_747 wd_749 wd_s23 wd_5 wd_750) rfl rfl rfl (by decide +kernel) ⟨Nat.le_of_ble_eq_true rfl, Nat.le_of_ble_eq_true rfl⟩) (hb_preV hK hX hW t11 (by decide) rfl) rfl rfl hl.1 rfl (lv_room (Nat.le_of_ble_eq_true rfl)) d_MO_bits_26 ⟨(by show _ ≤ 0; omega), (by show _ ≤ 0; omega)⟩) hW (fun r18 h17 H locs hk hW => ?_)
      obtain ⟨w, mm19⟩ := hk
      have w := w mm19
      have hm := hm.tr mm19
      have t20 := mm19.tg t11 (by decide)
      have t21 := mm19.tg t14 (by decide)
      refine lv_istore_n (lv' := [(3, .int r18), (0, .ref x7), (2, .int x8)]) hx hb d_MO_bits_29 rfl hl (by decide) rfl (fun ls hl => ?_)
      obtain ⟨v22, ev22⟩ : ∃ y9 : Int32, y9 = x8 + 16 := ⟨_, rfl⟩
      have w := w v22 ev22
      refine lv_iinc (v := v22) (lv' := [(2, .int v22), (3, .int r18), (0, .ref x7)]) hx hb d_MO_bits_30 hl (k := 2) rfl (by rw [ev22]; rfl) (by decide) rfl (fun ls hl => ?_)
      refine lv_goto (tgt := 11) hx hb d_MO_bits_33 (by decide) ?_
      exact ih x7 v22 r18 h17 _ _ _ w hm hW (lv_sub hl [2, 0, 1] rfl)
set_option maxHeartbeats 4000000 in
set_option maxRecDepth 100000 in
theorem tl_MO_bits_39 {p : Program} {l : Launch} {e : Env} {s : State} {m : MethodId} {args : Array Value} {below : List Frame} {meth : Method} {c : Code} {G : zG} (C : cx_C p l s m args meth c G y_MO_bits b_MO_bits 5 (some .int) "BigDeskModel" (Cond.code y_MO_bits b_MO_bits 5 (some .int) :: zx_T) []) {K : Int32 → ah_H → Prop} {h0 : ah_H} {cells slots : Nat} (hcl : cells + 0 ≤ 0) (hsl : slots + 0 ≤ 0) {xt_52 : Int32 → Int32 → ah_H → Prop} (hc_xt_52 : ∀ (z0 : Int32) (z1 : Int32) (hz : ah_H) (H : Heap) (locs : List Loc) (ls : Array Slot), xt_52 z0 z1 hz → ah_m h0 hz → ah_W G s.heap hz H locs → lv_has ls 5 [(2, .int z0), (4, .int z1)] → W p l e rm_MO_bits s m args below meth c H locs cells slots (MQ below (va_Qi (fun r9 h9 => K r9 h9 ∧ ah_m h0 h9) (ah_B G) (fun q => G.2.2 ≤ q)) args s 0 0 (fun q => G.2.2 ≤ q)) (F0 m 52 ls [])) : ∀ (n : Nat) (x26 : Int32) (x27 : Int32) (x28 : Int32) (h29 : ah_H) (H : Heap) (locs : List Loc) (ls : Array Slot), lp_MO_bits_39 xt_52 K n x26 x27 x28 h29 → ah_m h0 h29 → ah_W G s.heap h29 H locs → lv_has ls 5 [(2, .int x26), (3, .int x27), (4, .int x28)] → W p l e rm_MO_bits s m args below meth c H locs cells slots (MQ below (va_Qi (fun r9 h9 => K r9 h9 ∧ ah_m h0 h9) (ah_B G) (fun q => G.2.2 ≤ q)) args s 0 0 (fun q => G.2.2 ≤ q)) (F0 m 39 ls []) := by
  obtain ⟨hx, hb, hr, hml, hown, hts, hT, hlk, hK, hX, htb, hin, hst⟩ := id C
  have hw : ∀ {w9 : Cond}, w9 ∈ zx_T → w9.before _ s = true := fun h9 => hts _ (hT _ h9)
  intro n
  induction n with
  | zero =>
    intro x26 x27 x28 h29 H locs ls w
    exact absurd w (by intro z9; exact z9)
  | succ n ih =>
    intro x26 x27 x28 h29 H locs ls w hm hW hl
    unfold lp_MO_bits_39 at w
    refine lv_iload_n hx hb d_MO_bits_39 rfl (lv_at hl 1 rfl) ?_
    refine lv_iload hx hb d_MO_bits_40 (lv_at hl 2 rfl) ?_
    refine lv_ishr hx hb d_MO_bits_42 ?_
    refine lv_if_le (tgt := 52) hx hb d_MO_bits_43 (by decide) (fun c30 => ?_) (fun c30 => ?_)
    · have w := w.1 c30
      exact hc_xt_52 x26 x28 h29 _ _ _ w hm hW (lv_sub hl [0, 2] rfl)
    · have w := w.2 c30
      obtain ⟨v31, ev31⟩ : ∃ y9 : Int32, y9 = x28 + 1 := ⟨_, rfl⟩
      have w := w v31 ev31
      refine lv_iinc (v := v31) (lv' := [(4, .int v31), (2, .int x26), (3, .int x27)]) hx hb d_MO_bits_46 hl (k := 2) rfl (by rw [ev31]; rfl) (by decide) rfl (fun ls hl => ?_)
      refine lv_goto (tgt := 39) hx hb d_MO_bits_49 (by decide) ?_
      exact ih x26 x27 v31 h29 _ _ _ w hm hW (lv_sub hl [1, 2, 0] rfl)
set_option maxHeartbeats 4000000 in
set_option maxRecDepth 100000 in
theorem tb_MO_bits_67 {p : Program} {l : Launch} {e : Env} {s : State} {m : MethodId} {args : Array Value} {below : List Frame} {meth : Method} {c : Code} {G : zG} (C : cx_C p l s m args meth c G y_MO_bits b_MO_bits 5 (some .int) "BigDeskModel" (Cond.code y_MO_bits b_MO_bits 5 (some .int) :: zx_T) []) {K : Int32 → ah_H → Prop} {h0 : ah_H} {cells slots : Nat} (hcl : cells + 0 ≤ 0) (hsl : slots + 0 ≤ 0)  (s36 : Int32) (h37 : ah_H) (H : Heap) (locs : List Loc) (ls : Array Slot) (w : bk_MO_bits_67 K s36 h37) (hm : ah_m h0 h37) (hW : ah_W G s.heap h37 H locs) (hl : lv_has ls 5 []) : W p l e rm_MO_bits s m args below meth c H locs cells slots (MQ below (va_Qi (fun r9 h9 => K r9 h9 ∧ ah_m h0 h9) (ah_B G) (fun q => G.2.2 ≤ q)) args s 0 0 (fun q => G.2.2 ≤ q)) (F0 m 67 ls [.int s36]) := by
  unfold bk_MO_bits_67 at w
  obtain ⟨hx, hb, hr, hml, hown, hts, hT, hlk, hK, hX, htb, hin, hst⟩ := id C
  have hw : ∀ {w9 : Cond}, w9 ∈ zx_T → w9.before _ s = true := fun h9 => hts _ (hT _ h9)
  exact hb_iret (K := fun r9 h9 => K r9 h9 ∧ ah_m h0 h9) hx hb hr hlk hK hX hW ⟨w, hm⟩ (by omega) (by omega) d_MO_bits_67
set_option maxHeartbeats 4000000 in
set_option maxRecDepth 100000 in
theorem m_MO_bits {l : Launch} (G : zG) (a1 : Nat) (a2 : Int32) (h0 : ah_H) {K : Int32 → ah_H → Prop} (hst : l.stackTraces = false) (w : w_MO_bits a1 a2 h0 K) : Met l y_MO_bits (Cond.code y_MO_bits b_MO_bits 5 (some .int) :: zx_T) rm_MO_bits (va_Pc [.ref a1, .int a2] (ah_B G h0)) (va_Qi (fun r9 h9 => K r9 h9 ∧ ah_m h0 h9) (ah_B G) (fun q => G.2.2 ≤ q)) 0 0 (fun q => G.2.2 ≤ q) := by
  refine Met.ofW (cc := b_MO_bits) (maxL := 5) (ret := (some .int)) (by decide) rfl ?_
  intro p e s m args below meth c s₁ B hml hv
  have htb := cx_out B (atoms_spec B.pre _ List.mem_cons_self)
  obtain ⟨rfl, hB⟩ := hv
  have C : cx_C p l s m _ meth c G y_MO_bits b_MO_bits 5 (some .int) "BigDeskModel" (Cond.code y_MO_bits b_MO_bits 5 (some .int) :: zx_T) [] := ⟨B.exec, B.bytes, B.returns, hml, findClass_of_methodNamed B.named, atoms_spec B.pre, cx_hd, B.notSynchronized, hB.2.2.1, hB.2.2.2, htb, fun z9 => (name_of_methodNamed B.named B.method).1.trans z9, hst⟩
  obtain ⟨hx, hb, hr, hml, hown, hts, hT, hlk, hK, hX, htb, hin, hst⟩ := id C
  have hw : ∀ {w9 : Cond}, w9 ∈ zx_T → w9.before _ s = true := fun h9 => hts _ (hT _ h9)
  have hW : ah_W G s.heap h0 s.heap [] := ⟨hB.1, hB.2.1, va_S.rf⟩
  have hm : ah_m h0 h0 := ah_m.rf
  have hcl : 0 + 0 ≤ 0 := by decide
  have hsl : 0 + 0 ≤ 0 := by decide
  have hl := lv_entry ([.ref a1, .int a2]) (n := 5) (Nat.le_of_ble_eq_true rfl)
  rw [lg_entry_eq]
  generalize (lg_sl ([.ref a1, .int a2]) ++ List.replicate (5 - (lg_sl ([.ref a1, .int a2])).length) Slot.unset).toArray = ls at hl ⊢
  have hl : lv_has ls 5 [(0, .ref a1), (1, .int a2)] := hl
  unfold w_MO_bits at w
  refine lv_aload_n hx hb d_MO_bits_0 rfl (lv_at hl 0 rfl) ?_
  refine lv_bipush (v := 13) hx hb d_MO_bits_1 (by decide) ?_
  refine lv_iload_n hx hb d_MO_bits_3 rfl (lv_at hl 1 rfl) ?_
  obtain ⟨t3, w⟩ := w
  refine hb_callv (va_runV (As := [.int (13 : Int32), .int a2]) (rest := []) ⟨hx, hb, hml, hown, hts⟩ (m_MO_copyRow G a1 (13 : Int32) a2 h0 hst w) (cwV 2 hts (zx_gV hT wd_691 wd_693 wd_s16 wd_5 wd_694) rfl rfl rfl (by decide +kernel) ⟨Nat.le_of_ble_eq_true rfl, Nat.le_of_ble_eq_true rfl⟩) (hb_preV hK hX hW t3 (by decide) rfl) rfl rfl hl.1 rfl (lv_room (Nat.le_of_ble_eq_true rfl)) d_MO_bits_4 ⟨(by show _ ≤ 0; omega), (by show _ ≤ 0; omega)⟩) hW (fun h4 H locs hk hW => ?_)
  obtain ⟨w, mm5⟩ := hk
  have w := w mm5
  have hm := hm.tr mm5
  have t6 := mm5.tg t3 (by decide)
  refine lv_iconst (v := 0) hx hb d_MO_bits_7 (by decide) ?_
  refine lv_istore_n (lv' := [(2, .int (0 : Int32)), (0, .ref a1), (1, .int a2)]) hx hb d_MO_bits_8 rfl hl (by decide) rfl (fun ls hl => ?_)
  refine lv_iconst (v := 0) hx hb d_MO_bits_9 (by decide) ?_
  refine lv_istore_n (lv' := [(3, .int (0 : Int32)), (2, .int (0 : Int32)), (0, .ref a1), (1, .int a2)]) hx hb d_MO_bits_10 rfl hl (by decide) rfl (fun ls hl => ?_)
  obtain ⟨k39, w⟩ := w
  refine tl_MO_bits_11 C (by omega) (by omega) (fun x23 x24 h25 H locs ls w hm hW hl => ?_) k39 a1 (0 : Int32) (0 : Int32) h4 _ _ _ w hm hW (lv_sub hl [2, 1, 0] rfl)
  · refine lv_iconst (v := 0) hx hb d_MO_bits_36 (by decide) ?_
    refine lv_istore (lv' := [(4, .int (0 : Int32)), (2, .int x23), (3, .int x24)]) hx hb d_MO_bits_37 hl (by decide) rfl (fun ls hl => ?_)
    obtain ⟨k38, w⟩ := w
    refine tl_MO_bits_39 C (by omega) (by omega) (fun x32 x33 h34 H locs ls w hm hW hl => ?_) k38 x23 x24 (0 : Int32) h25 _ _ _ w hm hW (lv_sub hl [1, 2, 0] rfl)
    · refine lv_iload_n hx hb d_MO_bits_52 rfl (lv_at hl 0 rfl) ?_
      refine lv_if_ne (tgt := 60) hx hb d_MO_bits_53 (by decide) (fun c35 => ?_) (fun c35 => ?_)
      · have w := w.1 c35
        refine lv_iload_n hx hb d_MO_bits_60 rfl (lv_at hl 0 rfl) ?_
        refine lv_bipush (v := 16) hx hb d_MO_bits_61 (by decide) ?_
        refine lv_isub hx hb d_MO_bits_63 ?_
        refine lv_iload hx hb d_MO_bits_64 (lv_at hl 1 rfl) ?_
        refine lv_iadd hx hb d_MO_bits_66 ?_
        exact tb_MO_bits_67 C (by omega) (by omega)  ((x32 - (16 : Int32)) + x33) h34 _ _ _ w hm hW (lv_sub hl [] rfl)
      · have w := w.2 c35
        refine lv_iconst (v := 0) hx hb d_MO_bits_56 (by decide) ?_
        refine lv_goto (tgt := 67) hx hb d_MO_bits_57 (by decide) ?_
        exact tb_MO_bits_67 C (by omega) (by omega)  (0 : Int32) h34 _ _ _ w hm hW (lv_sub hl [] rfl)
set_option maxHeartbeats 4000000 in
set_option maxRecDepth 100000 in
theorem m_MO_set {l : Launch} (G : zG) (a1 : Nat) (a2 : Int32) (a3 : Int64) (h0 : ah_H) {K : ah_H → Prop} (hst : l.stackTraces = false) (w : w_MO_set a1 a2 a3 h0 K) : Met l y_MO_set (Cond.code y_MO_set b_MO_set 4 none :: zx_T) rm_MO_set (va_Pc [.ref a1, .int a2, .long a3] (ah_B G h0)) (va_Qv (fun h9 => K h9 ∧ ah_m h0 h9) (ah_B G) (fun q => G.2.2 ≤ q)) 0 0 (fun q => G.2.2 ≤ q) := by
  refine Met.ofW (cc := b_MO_set) (maxL := 4) (ret := none) (by decide) rfl ?_
  intro p e s m args below meth c s₁ B hml hv
  have htb := cx_out B (atoms_spec B.pre _ List.mem_cons_self)
  obtain ⟨rfl, hB⟩ := hv
  have C : cx_C p l s m _ meth c G y_MO_set b_MO_set 4 none "BigDeskModel" (Cond.code y_MO_set b_MO_set 4 none :: zx_T) [] := ⟨B.exec, B.bytes, B.returns, hml, findClass_of_methodNamed B.named, atoms_spec B.pre, cx_hd, B.notSynchronized, hB.2.2.1, hB.2.2.2, htb, fun z9 => (name_of_methodNamed B.named B.method).1.trans z9, hst⟩
  obtain ⟨hx, hb, hr, hml, hown, hts, hT, hlk, hK, hX, htb, hin, hst⟩ := id C
  have hw : ∀ {w9 : Cond}, w9 ∈ zx_T → w9.before _ s = true := fun h9 => hts _ (hT _ h9)
  have hW : ah_W G s.heap h0 s.heap [] := ⟨hB.1, hB.2.1, va_S.rf⟩
  have hm : ah_m h0 h0 := ah_m.rf
  have hcl : 0 + 0 ≤ 0 := by decide
  have hsl : 0 + 0 ≤ 0 := by decide
  have hl := lv_entry ([.ref a1, .int a2, .long a3]) (n := 4) (Nat.le_of_ble_eq_true rfl)
  rw [lg_entry_eq]
  generalize (lg_sl ([.ref a1, .int a2, .long a3]) ++ List.replicate (4 - (lg_sl ([.ref a1, .int a2, .long a3])).length) Slot.unset).toArray = ls at hl ⊢
  have hl : lv_has ls 4 [(0, .ref a1), (1, .int a2), (2, .long a3)] := hl
  unfold w_MO_set at w
  refine lv_aload_n hx hb d_MO_set_0 rfl (lv_at hl 0 rfl) ?_
  refine lv_iload_n hx hb d_MO_set_1 rfl (lv_at hl 1 rfl) ?_
  refine hb_calli (va_runS (As := [.int a2]) (rest := [.ref a1]) ⟨hx, hb, hml, hown, hts⟩ (m_MO_isNone G a2 h0 hst w) (va_cwS 1 hts (zx_gS hT wd_680 wd_681 wd_5 wd_682) rfl rfl rfl (by decide +kernel) ⟨Nat.le_of_ble_eq_true rfl, Nat.le_of_ble_eq_true rfl⟩) (hb_preS hK hX hW) rfl rfl hl.1 rfl (lv_room (Nat.le_of_ble_eq_true rfl)) d_MO_set_2 ⟨(by show _ ≤ 0; omega), (by show _ ≤ 0; omega)⟩) hW (fun r5 h4 H locs hk hW => ?_)
  obtain ⟨w, mm6⟩ := hk
  have w := w mm6
  have hm := hm.tr mm6
  refine lv_iconst (v := 1) hx hb d_MO_set_5 (by decide) ?_
  obtain ⟨t7, w⟩ := w
  refine hb_calli (va_runV (As := [.int r5, .int (1 : Int32)]) (rest := []) ⟨hx, hb, hml, hown, hts⟩ (m_MO_fails G a1 r5 (1 : Int32) h4 hst w) (cwV 2 hts (zx_gV hT wd_683 wd_685 wd_s15 wd_5 wd_686) rfl rfl rfl (by decide +kernel) ⟨Nat.le_of_ble_eq_true rfl, Nat.le_of_ble_eq_true rfl⟩) (hb_preV hK hX hW t7 (by decide) rfl) rfl rfl hl.1 rfl (lv_room (Nat.le_of_ble_eq_true rfl)) d_MO_set_6 ⟨(by show _ ≤ 0; omega), (by show _ ≤ 0; omega)⟩) hW (fun r9 h8 H locs hk hW => ?_)
  obtain ⟨w, mm10⟩ := hk
  have w := w mm10
  have hm := hm.tr mm10
  have t11 := mm10.tg t7 (by decide)
  refine lv_if_eq (tgt := 13) hx hb d_MO_set_9 (by decide) (fun c12 => ?_) (fun c12 => ?_)
  · have w := w.1 c12
    refine lv_aload_n hx hb d_MO_set_13 rfl (lv_at hl 0 rfl) ?_
    refine lv_iload_n hx hb d_MO_set_14 rfl (lv_at hl 1 rfl) ?_
    refine lv_lload_n hx hb d_MO_set_15 rfl (lv_at hl 2 rfl) ?_
    refine hb_callv (va_runV (As := [.int a2, .long a3]) (rest := []) ⟨hx, hb, hml, hown, hts⟩ (m_MO_setRow G a1 a2 a3 h8 hst w) (cwV 2 hts (zx_gV hT wd_633 wd_635 wd_s12 wd_5 wd_636) rfl rfl rfl (by decide +kernel) ⟨Nat.le_of_ble_eq_true rfl, Nat.le_of_ble_eq_true rfl⟩) (hb_preV hK hX hW t11 (by decide) rfl) rfl rfl hl.1 rfl (lv_room (Nat.le_of_ble_eq_true rfl)) d_MO_set_16 ⟨(by show _ ≤ 0; omega), (by show _ ≤ 0; omega)⟩) hW (fun h13 H locs hk hW => ?_)
    obtain ⟨w, mm14⟩ := hk
    have w := w mm14
    have hm := hm.tr mm14
    have t15 := mm14.tg t11 (by decide)
    exact hb_vret (K := fun h9 => K h9 ∧ ah_m h0 h9) hx hb hr hlk hK hX hW ⟨w, hm⟩ (by omega) (by omega) d_MO_set_19
  · have w := w.2 c12
    exact hb_vret (K := fun h9 => K h9 ∧ ah_m h0 h9) hx hb hr hlk hK hX hW ⟨w, hm⟩ (by omega) (by omega) d_MO_set_12
set_option maxHeartbeats 4000000 in
set_option maxRecDepth 100000 in
theorem tb_MO_copy_20 {p : Program} {l : Launch} {e : Env} {s : State} {m : MethodId} {args : Array Value} {below : List Frame} {meth : Method} {c : Code} {G : zG} (C : cx_C p l s m args meth c G y_MO_copy b_MO_copy 3 none "BigDeskModel" (Cond.code y_MO_copy b_MO_copy 3 none :: zx_T) []) {K : ah_H → Prop} {h0 : ah_H} {cells slots : Nat} (hcl : cells + 0 ≤ 0) (hsl : slots + 0 ≤ 0)  (x13 : Nat) (x14 : Int32) (x15 : Int32) (s16 : Int32) (s17 : Nat) (h18 : ah_H) (H : Heap) (locs : List Loc) (ls : Array Slot) (w : bk_MO_copy_20 K x13 x14 x15 s16 s17 h18) (hm : ah_m h0 h18) (hW : ah_W G s.heap h18 H locs) (hl : lv_has ls 3 [(0, .ref x13), (1, .int x14), (2, .int x15)]) : W p l e rm_MO_copy s m args below meth c H locs cells slots (MQ below (va_Qv (fun h9 => K h9 ∧ ah_m h0 h9) (ah_B G) (fun q => G.2.2 ≤ q)) args s 0 0 (fun q => G.2.2 ≤ q)) (F0 m 20 ls [.int s16, .ref s17]) := by
  unfold bk_MO_copy_20 at w
  obtain ⟨hx, hb, hr, hml, hown, hts, hT, hlk, hK, hX, htb, hin, hst⟩ := id C
  have hw : ∀ {w9 : Cond}, w9 ∈ zx_T → w9.before _ s = true := fun h9 => hts _ (hT _ h9)
  refine lv_iconst (v := 1) hx hb d_MO_copy_20 (by decide) ?_
  obtain ⟨t19, w⟩ := w
  refine hb_calli (va_runV (As := [.int s16, .int (1 : Int32)]) (rest := []) ⟨hx, hb, hml, hown, hts⟩ (m_MO_fails G s17 s16 (1 : Int32) h18 hst w) (cwV 2 hts (zx_gV hT wd_683 wd_685 wd_s15 wd_5 wd_686) rfl rfl rfl (by decide +kernel) ⟨Nat.le_of_ble_eq_true rfl, Nat.le_of_ble_eq_true rfl⟩) (hb_preV hK hX hW t19 (by decide) rfl) rfl rfl hl.1 rfl (lv_room (Nat.le_of_ble_eq_true rfl)) d_MO_copy_21 ⟨(by show _ ≤ 0; omega), (by show _ ≤ 0; omega)⟩) hW (fun r21 h20 H locs hk hW => ?_)
  obtain ⟨w, mm22⟩ := hk
  have w := w mm22
  have hm := hm.tr mm22
  have t23 := mm22.tg t19 (by decide)
  refine lv_if_eq (tgt := 28) hx hb d_MO_copy_24 (by decide) (fun c24 => ?_) (fun c24 => ?_)
  · have w := w.1 c24
    refine lv_aload_n hx hb d_MO_copy_28 rfl (lv_at hl 0 rfl) ?_
    refine lv_bipush (v := 13) hx hb d_MO_copy_29 (by decide) ?_
    refine lv_iload_n hx hb d_MO_copy_31 rfl (lv_at hl 2 rfl) ?_
    obtain ⟨t25, w⟩ := w
    refine hb_callv (va_runV (As := [.int (13 : Int32), .int x15]) (rest := []) ⟨hx, hb, hml, hown, hts⟩ (m_MO_copyRow G x13 (13 : Int32) x15 h20 hst w) (cwV 2 hts (zx_gV hT wd_691 wd_693 wd_s16 wd_5 wd_694) rfl rfl rfl (by decide +kernel) ⟨Nat.le_of_ble_eq_true rfl, Nat.le_of_ble_eq_true rfl⟩) (hb_preV hK hX hW t25 (by decide) rfl) rfl rfl hl.1 rfl (lv_room (Nat.le_of_ble_eq_true rfl)) d_MO_copy_32 ⟨(by show _ ≤ 0; omega), (by show _ ≤ 0; omega)⟩) hW (fun h26 H locs hk hW => ?_)
    obtain ⟨w, mm27⟩ := hk
    have w := w mm27
    have hm := hm.tr mm27
    have t28 := mm27.tg t23 (by decide)
    have t29 := mm27.tg t25 (by decide)
    refine lv_aload_n hx hb d_MO_copy_35 rfl (lv_at hl 0 rfl) ?_
    refine lv_iload_n hx hb d_MO_copy_36 rfl (lv_at hl 1 rfl) ?_
    refine lv_bipush (v := 13) hx hb d_MO_copy_37 (by decide) ?_
    refine hb_callv (va_runV (As := [.int x14, .int (13 : Int32)]) (rest := []) ⟨hx, hb, hml, hown, hts⟩ (m_MO_copyRow G x13 x14 (13 : Int32) h26 hst w) (cwV 2 hts (zx_gV hT wd_691 wd_693 wd_s16 wd_5 wd_694) rfl rfl rfl (by decide +kernel) ⟨Nat.le_of_ble_eq_true rfl, Nat.le_of_ble_eq_true rfl⟩) (hb_preV hK hX hW t29 (by decide) rfl) rfl rfl hl.1 rfl (lv_room (Nat.le_of_ble_eq_true rfl)) d_MO_copy_39 ⟨(by show _ ≤ 0; omega), (by show _ ≤ 0; omega)⟩) hW (fun h30 H locs hk hW => ?_)
    obtain ⟨w, mm31⟩ := hk
    have w := w mm31
    have hm := hm.tr mm31
    have t32 := mm31.tg t28 (by decide)
    have t33 := mm31.tg t29 (by decide)
    exact hb_vret (K := fun h9 => K h9 ∧ ah_m h0 h9) hx hb hr hlk hK hX hW ⟨w, hm⟩ (by omega) (by omega) d_MO_copy_42
  · have w := w.2 c24
    exact hb_vret (K := fun h9 => K h9 ∧ ah_m h0 h9) hx hb hr hlk hK hX hW ⟨w, hm⟩ (by omega) (by omega) d_MO_copy_27
set_option maxHeartbeats 4000000 in
set_option maxRecDepth 100000 in
theorem tb_MO_copy_15 {p : Program} {l : Launch} {e : Env} {s : State} {m : MethodId} {args : Array Value} {below : List Frame} {meth : Method} {c : Code} {G : zG} (C : cx_C p l s m args meth c G y_MO_copy b_MO_copy 3 none "BigDeskModel" (Cond.code y_MO_copy b_MO_copy 3 none :: zx_T) []) {K : ah_H → Prop} {h0 : ah_H} {cells slots : Nat} (hcl : cells + 0 ≤ 0) (hsl : slots + 0 ≤ 0)  (x8 : Nat) (x9 : Int32) (x10 : Int32) (s11 : Nat) (h12 : ah_H) (H : Heap) (locs : List Loc) (ls : Array Slot) (w : bk_MO_copy_15 K x8 x9 x10 s11 h12) (hm : ah_m h0 h12) (hW : ah_W G s.heap h12 H locs) (hl : lv_has ls 3 [(0, .ref x8), (1, .int x9), (2, .int x10)]) : W p l e rm_MO_copy s m args below meth c H locs cells slots (MQ below (va_Qv (fun h9 => K h9 ∧ ah_m h0 h9) (ah_B G) (fun q => G.2.2 ≤ q)) args s 0 0 (fun q => G.2.2 ≤ q)) (F0 m 15 ls [.ref s11]) := by
  unfold bk_MO_copy_15 at w
  obtain ⟨hx, hb, hr, hml, hown, hts, hT, hlk, hK, hX, htb, hin, hst⟩ := id C
  have hw : ∀ {w9 : Cond}, w9 ∈ zx_T → w9.before _ s = true := fun h9 => hts _ (hT _ h9)
  refine lv_iconst (v := 1) hx hb d_MO_copy_15 (by decide) ?_
  refine lv_goto (tgt := 20) hx hb d_MO_copy_16 (by decide) ?_
  exact tb_MO_copy_20 C (by omega) (by omega)  x8 x9 x10 (1 : Int32) s11 h12 _ _ _ w hm hW (lv_sub hl [0, 1, 2] rfl)
set_option maxHeartbeats 4000000 in
set_option maxRecDepth 100000 in
theorem m_MO_copy {l : Launch} (G : zG) (a1 : Nat) (a2 : Int32) (a3 : Int32) (h0 : ah_H) {K : ah_H → Prop} (hst : l.stackTraces = false) (w : w_MO_copy a1 a2 a3 h0 K) : Met l y_MO_copy (Cond.code y_MO_copy b_MO_copy 3 none :: zx_T) rm_MO_copy (va_Pc [.ref a1, .int a2, .int a3] (ah_B G h0)) (va_Qv (fun h9 => K h9 ∧ ah_m h0 h9) (ah_B G) (fun q => G.2.2 ≤ q)) 0 0 (fun q => G.2.2 ≤ q) := by
  refine Met.ofW (cc := b_MO_copy) (maxL := 3) (ret := none) (by decide) rfl ?_
  intro p e s m args below meth c s₁ B hml hv
  have htb := cx_out B (atoms_spec B.pre _ List.mem_cons_self)
  obtain ⟨rfl, hB⟩ := hv
  have C : cx_C p l s m _ meth c G y_MO_copy b_MO_copy 3 none "BigDeskModel" (Cond.code y_MO_copy b_MO_copy 3 none :: zx_T) [] := ⟨B.exec, B.bytes, B.returns, hml, findClass_of_methodNamed B.named, atoms_spec B.pre, cx_hd, B.notSynchronized, hB.2.2.1, hB.2.2.2, htb, fun z9 => (name_of_methodNamed B.named B.method).1.trans z9, hst⟩
  obtain ⟨hx, hb, hr, hml, hown, hts, hT, hlk, hK, hX, htb, hin, hst⟩ := id C
  have hw : ∀ {w9 : Cond}, w9 ∈ zx_T → w9.before _ s = true := fun h9 => hts _ (hT _ h9)
  have hW : ah_W G s.heap h0 s.heap [] := ⟨hB.1, hB.2.1, va_S.rf⟩
  have hm : ah_m h0 h0 := ah_m.rf
  have hcl : 0 + 0 ≤ 0 := by decide
  have hsl : 0 + 0 ≤ 0 := by decide
  have hl := lv_entry ([.ref a1, .int a2, .int a3]) (n := 3) (Nat.le_of_ble_eq_true rfl)
  rw [lg_entry_eq]
  generalize (lg_sl ([.ref a1, .int a2, .int a3]) ++ List.replicate (3 - (lg_sl ([.ref a1, .int a2, .int a3])).length) Slot.unset).toArray = ls at hl ⊢
  have hl : lv_has ls 3 [(0, .ref a1), (1, .int a2), (2, .int a3)] := hl
  unfold w_MO_copy at w
  refine lv_aload_n hx hb d_MO_copy_0 rfl (lv_at hl 0 rfl) ?_
  refine lv_iload_n hx hb d_MO_copy_1 rfl (lv_at hl 1 rfl) ?_
  refine hb_calli (va_runS (As := [.int a2]) (rest := [.ref a1]) ⟨hx, hb, hml, hown, hts⟩ (m_MO_isNone G a2 h0 hst w) (va_cwS 1 hts (zx_gS hT wd_680 wd_681 wd_5 wd_682) rfl rfl rfl (by decide +kernel) ⟨Nat.le_of_ble_eq_true rfl, Nat.le_of_ble_eq_true rfl⟩) (hb_preS hK hX hW) rfl rfl hl.1 rfl (lv_room (Nat.le_of_ble_eq_true rfl)) d_MO_copy_2 ⟨(by show _ ≤ 0; omega), (by show _ ≤ 0; omega)⟩) hW (fun r5 h4 H locs hk hW => ?_)
  obtain ⟨w, mm6⟩ := hk
  have w := w mm6
  have hm := hm.tr mm6
  refine lv_if_ne (tgt := 15) hx hb d_MO_copy_5 (by decide) (fun c7 => ?_) (fun c7 => ?_)
  · have w := w.1 c7
    exact tb_MO_copy_15 C (by omega) (by omega)  a1 a2 a3 a1 h4 _ _ _ w hm hW (lv_sub hl [0, 1, 2] rfl)
  · have w := w.2 c7
    refine lv_iload_n hx hb d_MO_copy_8 rfl (lv_at hl 2 rfl) ?_
    refine hb_calli (va_runS (As := [.int a3]) (rest := [.ref a1]) ⟨hx, hb, hml, hown, hts⟩ (m_MO_isNone G a3 h4 hst w) (va_cwS 1 hts (zx_gS hT wd_680 wd_681 wd_5 wd_682) rfl rfl rfl (by decide +kernel) ⟨Nat.le_of_ble_eq_true rfl, Nat.le_of_ble_eq_true rfl⟩) (hb_preS hK hX hW) rfl rfl hl.1 rfl (lv_room (Nat.le_of_ble_eq_true rfl)) d_MO_copy_9 ⟨(by show _ ≤ 0; omega), (by show _ ≤ 0; omega)⟩) hW (fun r35 h34 H locs hk hW => ?_)
    obtain ⟨w, mm36⟩ := hk
    have w := w mm36
    have hm := hm.tr mm36
    refine lv_if_eq (tgt := 19) hx hb d_MO_copy_12 (by decide) (fun c37 => ?_) (fun c37 => ?_)
    · have w := w.1 c37
      refine lv_iconst (v := 0) hx hb d_MO_copy_19 (by decide) ?_
      exact tb_MO_copy_20 C (by omega) (by omega)  a1 a2 a3 (0 : Int32) a1 h34 _ _ _ w hm hW (lv_sub hl [0, 1, 2] rfl)
    · have w := w.2 c37
      exact tb_MO_copy_15 C (by omega) (by omega)  a1 a2 a3 a1 h34 _ _ _ w hm hW (lv_sub hl [0, 1, 2] rfl)
set_option maxHeartbeats 4000000 in
set_option maxRecDepth 100000 in
theorem tb_MO_add_56 {p : Program} {l : Launch} {e : Env} {s : State} {m : MethodId} {args : Array Value} {below : List Frame} {meth : Method} {c : Code} {G : zG} (C : cx_C p l s m args meth c G y_MO_add b_MO_add 4 none "BigDeskModel" (Cond.code y_MO_add b_MO_add 4 none :: zx_T) []) {K : ah_H → Prop} {h0 : ah_H} {cells slots : Nat} (hcl : cells + 0 ≤ 0) (hsl : slots + 0 ≤ 0)  (s39 : Int32) (s40 : Nat) (h41 : ah_H) (H : Heap) (locs : List Loc) (ls : Array Slot) (w : bk_MO_add_56 K s39 s40 h41) (hm : ah_m h0 h41) (hW : ah_W G s.heap h41 H locs) (hl : lv_has ls 4 []) : W p l e rm_MO_add s m args below meth c H locs cells slots (MQ below (va_Qv (fun h9 => K h9 ∧ ah_m h0 h9) (ah_B G) (fun q => G.2.2 ≤ q)) args s 0 0 (fun q => G.2.2 ≤ q)) (F0 m 56 ls [.int s39, .ref s40]) := by
  unfold bk_MO_add_56 at w
  obtain ⟨hx, hb, hr, hml, hown, hts, hT, hlk, hK, hX, htb, hin, hst⟩ := id C
  have hw : ∀ {w9 : Cond}, w9 ∈ zx_T → w9.before _ s = true := fun h9 => hts _ (hT _ h9)
  refine lv_iconst (v := 2) hx hb d_MO_add_56 (by decide) ?_
  obtain ⟨t42, w⟩ := w
  refine hb_calli (va_runV (As := [.int s39, .int (2 : Int32)]) (rest := []) ⟨hx, hb, hml, hown, hts⟩ (m_MO_fails G s40 s39 (2 : Int32) h41 hst w) (cwV 2 hts (zx_gV hT wd_683 wd_685 wd_s15 wd_5 wd_686) rfl rfl rfl (by decide +kernel) ⟨Nat.le_of_ble_eq_true rfl, Nat.le_of_ble_eq_true rfl⟩) (hb_preV hK hX hW t42 (by decide) rfl) rfl rfl hl.1 rfl (lv_room (Nat.le_of_ble_eq_true rfl)) d_MO_add_57 ⟨(by show _ ≤ 0; omega), (by show _ ≤ 0; omega)⟩) hW (fun r44 h43 H locs hk hW => ?_)
  obtain ⟨w, mm45⟩ := hk
  have w := w mm45
  have hm := hm.tr mm45
  have t46 := mm45.tg t42 (by decide)
  refine lv_pop hx hb d_MO_add_60 rfl ?_
  exact hb_vret (K := fun h9 => K h9 ∧ ah_m h0 h9) hx hb hr hlk hK hX hW ⟨w, hm⟩ (by omega) (by omega) d_MO_add_61
set_option maxHeartbeats 4000000 in
set_option maxRecDepth 100000 in
theorem tb_MO_add_27 {p : Program} {l : Launch} {e : Env} {s : State} {m : MethodId} {args : Array Value} {below : List Frame} {meth : Method} {c : Code} {G : zG} (C : cx_C p l s m args meth c G y_MO_add b_MO_add 4 none "BigDeskModel" (Cond.code y_MO_add b_MO_add 4 none :: zx_T) []) {K : ah_H → Prop} {h0 : ah_H} {cells slots : Nat} (hcl : cells + 0 ≤ 0) (hsl : slots + 0 ≤ 0)  (x15 : Nat) (x16 : Int32) (x17 : Int32) (x18 : Int32) (s19 : Int32) (s20 : Nat) (h21 : ah_H) (H : Heap) (locs : List Loc) (ls : Array Slot) (w : bk_MO_add_27 K x15 x16 x17 x18 s19 s20 h21) (hm : ah_m h0 h21) (hW : ah_W G s.heap h21 H locs) (hl : lv_has ls 4 [(0, .ref x15), (1, .int x16), (2, .int x17), (3, .int x18)]) : W p l e rm_MO_add s m args below meth c H locs cells slots (MQ below (va_Qv (fun h9 => K h9 ∧ ah_m h0 h9) (ah_B G) (fun q => G.2.2 ≤ q)) args s 0 0 (fun q => G.2.2 ≤ q)) (F0 m 27 ls [.int s19, .ref s20]) := by
  unfold bk_MO_add_27 at w
  obtain ⟨hx, hb, hr, hml, hown, hts, hT, hlk, hK, hX, htb, hin, hst⟩ := id C
  have hw : ∀ {w9 : Cond}, w9 ∈ zx_T → w9.before _ s = true := fun h9 => hts _ (hT _ h9)
  refine lv_iconst (v := 1) hx hb d_MO_add_27 (by decide) ?_
  obtain ⟨t22, w⟩ := w
  refine hb_calli (va_runV (As := [.int s19, .int (1 : Int32)]) (rest := []) ⟨hx, hb, hml, hown, hts⟩ (m_MO_fails G s20 s19 (1 : Int32) h21 hst w) (cwV 2 hts (zx_gV hT wd_683 wd_685 wd_s15 wd_5 wd_686) rfl rfl rfl (by decide +kernel) ⟨Nat.le_of_ble_eq_true rfl, Nat.le_of_ble_eq_true rfl⟩) (hb_preV hK hX hW t22 (by decide) rfl) rfl rfl hl.1 rfl (lv_room (Nat.le_of_ble_eq_true rfl)) d_MO_add_28 ⟨(by show _ ≤ 0; omega), (by show _ ≤ 0; omega)⟩) hW (fun r24 h23 H locs hk hW => ?_)
  obtain ⟨w, mm25⟩ := hk
  have w := w mm25
  have hm := hm.tr mm25
  have t26 := mm25.tg t22 (by decide)
  refine lv_if_eq (tgt := 35) hx hb d_MO_add_31 (by decide) (fun c27 => ?_) (fun c27 => ?_)
  · have w := w.1 c27
    refine lv_aload_n hx hb d_MO_add_35 rfl (lv_at hl 0 rfl) ?_
    refine lv_iload_n hx hb d_MO_add_36 rfl (lv_at hl 2 rfl) ?_
    refine lv_iload_n hx hb d_MO_add_37 rfl (lv_at hl 3 rfl) ?_
    refine lv_iconst (v := 1) hx hb d_MO_add_38 (by decide) ?_
    obtain ⟨t28, w⟩ := w
    refine hb_callv (va_runV (As := [.int x17, .int x18, .int (1 : Int32)]) (rest := []) ⟨hx, hb, hml, hown, hts⟩ (m_MO_sum G x15 x17 x18 (1 : Int32) h23 hst w) (cwV 3 hts (zx_gV hT wd_699 wd_701 wd_s17 wd_5 wd_702) rfl rfl rfl (by decide +kernel) ⟨Nat.le_of_ble_eq_true rfl, Nat.le_of_ble_eq_true rfl⟩) (hb_preV hK hX hW t28 (by decide) rfl) rfl rfl hl.1 rfl (lv_room (Nat.le_of_ble_eq_true rfl)) d_MO_add_39 ⟨(by show _ ≤ 0; omega), (by show _ ≤ 0; omega)⟩) hW (fun h29 H locs hk hW => ?_)
    obtain ⟨w, mm30⟩ := hk
    have w := w mm30
    have hm := hm.tr mm30
    have t31 := mm30.tg t26 (by decide)
    have t32 := mm30.tg t28 (by decide)
    refine lv_aload_n hx hb d_MO_add_42 rfl (lv_at hl 0 rfl) ?_
    refine lv_aload_n hx hb d_MO_add_43 rfl (lv_at hl 0 rfl) ?_
    refine lv_iload_n hx hb d_MO_add_44 rfl (lv_at hl 1 rfl) ?_
    refine hb_calli (va_runV (As := [.int x16]) (rest := [.ref x15]) ⟨hx, hb, hml, hown, hts⟩ (m_MO_becomes G x15 x16 h29 hst w) (cwV 1 hts (zx_gV hT wd_715 wd_717 wd_s21 wd_5 wd_718) rfl rfl rfl (by decide +kernel) ⟨Nat.le_of_ble_eq_true rfl, Nat.le_of_ble_eq_true rfl⟩) (hb_preV hK hX hW t32 (by decide) rfl) rfl rfl hl.1 rfl (lv_room (Nat.le_of_ble_eq_true rfl)) d_MO_add_45 ⟨(by show _ ≤ 0; omega), (by show _ ≤ 0; omega)⟩) hW (fun r34 h33 H locs hk hW => ?_)
    obtain ⟨w, mm35⟩ := hk
    have w := w mm35
    have hm := hm.tr mm35
    have t36 := mm35.tg t31 (by decide)
    have t37 := mm35.tg t32 (by decide)
    refine lv_if_ne (tgt := 55) hx hb d_MO_add_48 (by decide) (fun c38 => ?_) (fun c38 => ?_)
    · have w := w.1 c38
      refine lv_iconst (v := 0) hx hb d_MO_add_55 (by decide) ?_
      exact tb_MO_add_56 C (by omega) (by omega)  (0 : Int32) x15 h33 _ _ _ w hm hW (lv_sub hl [] rfl)
    · have w := w.2 c38
      refine lv_iconst (v := 1) hx hb d_MO_add_51 (by decide) ?_
      refine lv_goto (tgt := 56) hx hb d_MO_add_52 (by decide) ?_
      exact tb_MO_add_56 C (by omega) (by omega)  (1 : Int32) x15 h33 _ _ _ w hm hW (lv_sub hl [] rfl)
  · have w := w.2 c27
    exact hb_vret (K := fun h9 => K h9 ∧ ah_m h0 h9) hx hb hr hlk hK hX hW ⟨w, hm⟩ (by omega) (by omega) d_MO_add_34
set_option maxHeartbeats 4000000 in
set_option maxRecDepth 100000 in
theorem tb_MO_add_22 {p : Program} {l : Launch} {e : Env} {s : State} {m : MethodId} {args : Array Value} {below : List Frame} {meth : Method} {c : Code} {G : zG} (C : cx_C p l s m args meth c G y_MO_add b_MO_add 4 none "BigDeskModel" (Cond.code y_MO_add b_MO_add 4 none :: zx_T) []) {K : ah_H → Prop} {h0 : ah_H} {cells slots : Nat} (hcl : cells + 0 ≤ 0) (hsl : slots + 0 ≤ 0)  (x9 : Nat) (x10 : Int32) (x11 : Int32) (x12 : Int32) (s13 : Nat) (h14 : ah_H) (H : Heap) (locs : List Loc) (ls : Array Slot) (w : bk_MO_add_22 K x9 x10 x11 x12 s13 h14) (hm : ah_m h0 h14) (hW : ah_W G s.heap h14 H locs) (hl : lv_has ls 4 [(0, .ref x9), (1, .int x10), (2, .int x11), (3, .int x12)]) : W p l e rm_MO_add s m args below meth c H locs cells slots (MQ below (va_Qv (fun h9 => K h9 ∧ ah_m h0 h9) (ah_B G) (fun q => G.2.2 ≤ q)) args s 0 0 (fun q => G.2.2 ≤ q)) (F0 m 22 ls [.ref s13]) := by
  unfold bk_MO_add_22 at w
  obtain ⟨hx, hb, hr, hml, hown, hts, hT, hlk, hK, hX, htb, hin, hst⟩ := id C
  have hw : ∀ {w9 : Cond}, w9 ∈ zx_T → w9.before _ s = true := fun h9 => hts _ (hT _ h9)
  refine lv_iconst (v := 1) hx hb d_MO_add_22 (by decide) ?_
  refine lv_goto (tgt := 27) hx hb d_MO_add_23 (by decide) ?_
  exact tb_MO_add_27 C (by omega) (by omega)  x9 x10 x11 x12 (1 : Int32) s13 h14 _ _ _ w hm hW (lv_sub hl [0, 1, 2, 3] rfl)
set_option maxHeartbeats 4000000 in
set_option maxRecDepth 100000 in
theorem m_MO_add {l : Launch} (G : zG) (a1 : Nat) (a2 : Int32) (a3 : Int32) (a4 : Int32) (h0 : ah_H) {K : ah_H → Prop} (hst : l.stackTraces = false) (w : w_MO_add a1 a2 a3 a4 h0 K) : Met l y_MO_add (Cond.code y_MO_add b_MO_add 4 none :: zx_T) rm_MO_add (va_Pc [.ref a1, .int a2, .int a3, .int a4] (ah_B G h0)) (va_Qv (fun h9 => K h9 ∧ ah_m h0 h9) (ah_B G) (fun q => G.2.2 ≤ q)) 0 0 (fun q => G.2.2 ≤ q) := by
  refine Met.ofW (cc := b_MO_add) (maxL := 4) (ret := none) (by decide) rfl ?_
  intro p e s m args below meth c s₁ B hml hv
  have htb := cx_out B (atoms_spec B.pre _ List.mem_cons_self)
  obtain ⟨rfl, hB⟩ := hv
  have C : cx_C p l s m _ meth c G y_MO_add b_MO_add 4 none "BigDeskModel" (Cond.code y_MO_add b_MO_add 4 none :: zx_T) [] := ⟨B.exec, B.bytes, B.returns, hml, findClass_of_methodNamed B.named, atoms_spec B.pre, cx_hd, B.notSynchronized, hB.2.2.1, hB.2.2.2, htb, fun z9 => (name_of_methodNamed B.named B.method).1.trans z9, hst⟩
  obtain ⟨hx, hb, hr, hml, hown, hts, hT, hlk, hK, hX, htb, hin, hst⟩ := id C
  have hw : ∀ {w9 : Cond}, w9 ∈ zx_T → w9.before _ s = true := fun h9 => hts _ (hT _ h9)
  have hW : ah_W G s.heap h0 s.heap [] := ⟨hB.1, hB.2.1, va_S.rf⟩
  have hm : ah_m h0 h0 := ah_m.rf
  have hcl : 0 + 0 ≤ 0 := by decide
  have hsl : 0 + 0 ≤ 0 := by decide
  have hl := lv_entry ([.ref a1, .int a2, .int a3, .int a4]) (n := 4) (Nat.le_of_ble_eq_true rfl)
  rw [lg_entry_eq]
  generalize (lg_sl ([.ref a1, .int a2, .int a3, .int a4]) ++ List.replicate (4 - (lg_sl ([.ref a1, .int a2, .int a3, .int a4])).length) Slot.unset).toArray = ls at hl ⊢
  have hl : lv_has ls 4 [(0, .ref a1), (1, .int a2), (2, .int a3), (3, .int a4)] := hl
  unfold w_MO_add at w
  refine lv_aload_n hx hb d_MO_add_0 rfl (lv_at hl 0 rfl) ?_
  refine lv_iload_n hx hb d_MO_add_1 rfl (lv_at hl 1 rfl) ?_
  refine hb_calli (va_runS (As := [.int a2]) (rest := [.ref a1]) ⟨hx, hb, hml, hown, hts⟩ (m_MO_isNone G a2 h0 hst w) (va_cwS 1 hts (zx_gS hT wd_680 wd_681 wd_5 wd_682) rfl rfl rfl (by decide +kernel) ⟨Nat.le_of_ble_eq_true rfl, Nat.le_of_ble_eq_true rfl⟩) (hb_preS hK hX hW) rfl rfl hl.1 rfl (lv_room (Nat.le_of_ble_eq_true rfl)) d_MO_add_2 ⟨(by show _ ≤ 0; omega), (by show _ ≤ 0; omega)⟩) hW (fun r6 h5 H locs hk hW => ?_)
  obtain ⟨w, mm7⟩ := hk
  have w := w mm7
  have hm := hm.tr mm7
  refine lv_if_ne (tgt := 22) hx hb d_MO_add_5 (by decide) (fun c8 => ?_) (fun c8 => ?_)
  · have w := w.1 c8
    exact tb_MO_add_22 C (by omega) (by omega)  a1 a2 a3 a4 a1 h5 _ _ _ w hm hW (lv_sub hl [0, 1, 2, 3] rfl)
  · have w := w.2 c8
    refine lv_iload_n hx hb d_MO_add_8 rfl (lv_at hl 2 rfl) ?_
    refine hb_calli (va_runS (As := [.int a3]) (rest := [.ref a1]) ⟨hx, hb, hml, hown, hts⟩ (m_MO_isNone G a3 h5 hst w) (va_cwS 1 hts (zx_gS hT wd_680 wd_681 wd_5 wd_682) rfl rfl rfl (by decide +kernel) ⟨Nat.le_of_ble_eq_true rfl, Nat.le_of_ble_eq_true rfl⟩) (hb_preS hK hX hW) rfl rfl hl.1 rfl (lv_room (Nat.le_of_ble_eq_true rfl)) d_MO_add_9 ⟨(by show _ ≤ 0; omega), (by show _ ≤ 0; omega)⟩) hW (fun r48 h47 H locs hk hW => ?_)
    obtain ⟨w, mm49⟩ := hk
    have w := w mm49
    have hm := hm.tr mm49
    refine lv_if_ne (tgt := 22) hx hb d_MO_add_12 (by decide) (fun c50 => ?_) (fun c50 => ?_)
    · have w := w.1 c50
      exact tb_MO_add_22 C (by omega) (by omega)  a1 a2 a3 a4 a1 h47 _ _ _ w hm hW (lv_sub hl [0, 1, 2, 3] rfl)
    · have w := w.2 c50
      refine lv_iload_n hx hb d_MO_add_15 rfl (lv_at hl 3 rfl) ?_
      refine hb_calli (va_runS (As := [.int a4]) (rest := [.ref a1]) ⟨hx, hb, hml, hown, hts⟩ (m_MO_isNone G a4 h47 hst w) (va_cwS 1 hts (zx_gS hT wd_680 wd_681 wd_5 wd_682) rfl rfl rfl (by decide +kernel) ⟨Nat.le_of_ble_eq_true rfl, Nat.le_of_ble_eq_true rfl⟩) (hb_preS hK hX hW) rfl rfl hl.1 rfl (lv_room (Nat.le_of_ble_eq_true rfl)) d_MO_add_16 ⟨(by show _ ≤ 0; omega), (by show _ ≤ 0; omega)⟩) hW (fun r52 h51 H locs hk hW => ?_)
      obtain ⟨w, mm53⟩ := hk
      have w := w mm53
      have hm := hm.tr mm53
      refine lv_if_eq (tgt := 26) hx hb d_MO_add_19 (by decide) (fun c54 => ?_) (fun c54 => ?_)
      · have w := w.1 c54
        refine lv_iconst (v := 0) hx hb d_MO_add_26 (by decide) ?_
        exact tb_MO_add_27 C (by omega) (by omega)  a1 a2 a3 a4 (0 : Int32) a1 h51 _ _ _ w hm hW (lv_sub hl [0, 1, 2, 3] rfl)
      · have w := w.2 c54
        exact tb_MO_add_22 C (by omega) (by omega)  a1 a2 a3 a4 a1 h51 _ _ _ w hm hW (lv_sub hl [0, 1, 2, 3] rfl)
set_option maxHeartbeats 4000000 in
set_option maxRecDepth 100000 in
theorem tb_MO_subtract_56 {p : Program} {l : Launch} {e : Env} {s : State} {m : MethodId} {args : Array Value} {below : List Frame} {meth : Method} {c : Code} {G : zG} (C : cx_C p l s m args meth c G y_MO_subtract b_MO_subtract 4 none "BigDeskModel" (Cond.code y_MO_subtract b_MO_subtract 4 none :: zx_T) []) {K : ah_H → Prop} {h0 : ah_H} {cells slots : Nat} (hcl : cells + 0 ≤ 0) (hsl : slots + 0 ≤ 0)  (s39 : Int32) (s40 : Nat) (h41 : ah_H) (H : Heap) (locs : List Loc) (ls : Array Slot) (w : bk_MO_subtract_56 K s39 s40 h41) (hm : ah_m h0 h41) (hW : ah_W G s.heap h41 H locs) (hl : lv_has ls 4 []) : W p l e rm_MO_subtract s m args below meth c H locs cells slots (MQ below (va_Qv (fun h9 => K h9 ∧ ah_m h0 h9) (ah_B G) (fun q => G.2.2 ≤ q)) args s 0 0 (fun q => G.2.2 ≤ q)) (F0 m 56 ls [.int s39, .ref s40]) := by
  unfold bk_MO_subtract_56 at w
  obtain ⟨hx, hb, hr, hml, hown, hts, hT, hlk, hK, hX, htb, hin, hst⟩ := id C
  have hw : ∀ {w9 : Cond}, w9 ∈ zx_T → w9.before _ s = true := fun h9 => hts _ (hT _ h9)
  refine lv_iconst (v := 2) hx hb d_MO_subtract_56 (by decide) ?_
  obtain ⟨t42, w⟩ := w
  refine hb_calli (va_runV (As := [.int s39, .int (2 : Int32)]) (rest := []) ⟨hx, hb, hml, hown, hts⟩ (m_MO_fails G s40 s39 (2 : Int32) h41 hst w) (cwV 2 hts (zx_gV hT wd_683 wd_685 wd_s15 wd_5 wd_686) rfl rfl rfl (by decide +kernel) ⟨Nat.le_of_ble_eq_true rfl, Nat.le_of_ble_eq_true rfl⟩) (hb_preV hK hX hW t42 (by decide) rfl) rfl rfl hl.1 rfl (lv_room (Nat.le_of_ble_eq_true rfl)) d_MO_subtract_57 ⟨(by show _ ≤ 0; omega), (by show _ ≤ 0; omega)⟩) hW (fun r44 h43 H locs hk hW => ?_)
  obtain ⟨w, mm45⟩ := hk
  have w := w mm45
  have hm := hm.tr mm45
  have t46 := mm45.tg t42 (by decide)
  refine lv_pop hx hb d_MO_subtract_60 rfl ?_
  exact hb_vret (K := fun h9 => K h9 ∧ ah_m h0 h9) hx hb hr hlk hK hX hW ⟨w, hm⟩ (by omega) (by omega) d_MO_subtract_61
set_option maxHeartbeats 4000000 in
set_option maxRecDepth 100000 in
theorem tb_MO_subtract_27 {p : Program} {l : Launch} {e : Env} {s : State} {m : MethodId} {args : Array Value} {below : List Frame} {meth : Method} {c : Code} {G : zG} (C : cx_C p l s m args meth c G y_MO_subtract b_MO_subtract 4 none "BigDeskModel" (Cond.code y_MO_subtract b_MO_subtract 4 none :: zx_T) []) {K : ah_H → Prop} {h0 : ah_H} {cells slots : Nat} (hcl : cells + 0 ≤ 0) (hsl : slots + 0 ≤ 0)  (x15 : Nat) (x16 : Int32) (x17 : Int32) (x18 : Int32) (s19 : Int32) (s20 : Nat) (h21 : ah_H) (H : Heap) (locs : List Loc) (ls : Array Slot) (w : bk_MO_subtract_27 K x15 x16 x17 x18 s19 s20 h21) (hm : ah_m h0 h21) (hW : ah_W G s.heap h21 H locs) (hl : lv_has ls 4 [(0, .ref x15), (1, .int x16), (2, .int x17), (3, .int x18)]) : W p l e rm_MO_subtract s m args below meth c H locs cells slots (MQ below (va_Qv (fun h9 => K h9 ∧ ah_m h0 h9) (ah_B G) (fun q => G.2.2 ≤ q)) args s 0 0 (fun q => G.2.2 ≤ q)) (F0 m 27 ls [.int s19, .ref s20]) := by
  unfold bk_MO_subtract_27 at w
  obtain ⟨hx, hb, hr, hml, hown, hts, hT, hlk, hK, hX, htb, hin, hst⟩ := id C
  have hw : ∀ {w9 : Cond}, w9 ∈ zx_T → w9.before _ s = true := fun h9 => hts _ (hT _ h9)
  refine lv_iconst (v := 1) hx hb d_MO_subtract_27 (by decide) ?_
  obtain ⟨t22, w⟩ := w
  refine hb_calli (va_runV (As := [.int s19, .int (1 : Int32)]) (rest := []) ⟨hx, hb, hml, hown, hts⟩ (m_MO_fails G s20 s19 (1 : Int32) h21 hst w) (cwV 2 hts (zx_gV hT wd_683 wd_685 wd_s15 wd_5 wd_686) rfl rfl rfl (by decide +kernel) ⟨Nat.le_of_ble_eq_true rfl, Nat.le_of_ble_eq_true rfl⟩) (hb_preV hK hX hW t22 (by decide) rfl) rfl rfl hl.1 rfl (lv_room (Nat.le_of_ble_eq_true rfl)) d_MO_subtract_28 ⟨(by show _ ≤ 0; omega), (by show _ ≤ 0; omega)⟩) hW (fun r24 h23 H locs hk hW => ?_)
  obtain ⟨w, mm25⟩ := hk
  have w := w mm25
  have hm := hm.tr mm25
  have t26 := mm25.tg t22 (by decide)
  refine lv_if_eq (tgt := 35) hx hb d_MO_subtract_31 (by decide) (fun c27 => ?_) (fun c27 => ?_)
  · have w := w.1 c27
    refine lv_aload_n hx hb d_MO_subtract_35 rfl (lv_at hl 0 rfl) ?_
    refine lv_iload_n hx hb d_MO_subtract_36 rfl (lv_at hl 2 rfl) ?_
    refine lv_iload_n hx hb d_MO_subtract_37 rfl (lv_at hl 3 rfl) ?_
    refine lv_iconst (v := -1) hx hb d_MO_subtract_38 (by decide) ?_
    obtain ⟨t28, w⟩ := w
    refine hb_callv (va_runV (As := [.int x17, .int x18, .int (-1 : Int32)]) (rest := []) ⟨hx, hb, hml, hown, hts⟩ (m_MO_sum G x15 x17 x18 (-1 : Int32) h23 hst w) (cwV 3 hts (zx_gV hT wd_699 wd_701 wd_s17 wd_5 wd_702) rfl rfl rfl (by decide +kernel) ⟨Nat.le_of_ble_eq_true rfl, Nat.le_of_ble_eq_true rfl⟩) (hb_preV hK hX hW t28 (by decide) rfl) rfl rfl hl.1 rfl (lv_room (Nat.le_of_ble_eq_true rfl)) d_MO_subtract_39 ⟨(by show _ ≤ 0; omega), (by show _ ≤ 0; omega)⟩) hW (fun h29 H locs hk hW => ?_)
    obtain ⟨w, mm30⟩ := hk
    have w := w mm30
    have hm := hm.tr mm30
    have t31 := mm30.tg t26 (by decide)
    have t32 := mm30.tg t28 (by decide)
    refine lv_aload_n hx hb d_MO_subtract_42 rfl (lv_at hl 0 rfl) ?_
    refine lv_aload_n hx hb d_MO_subtract_43 rfl (lv_at hl 0 rfl) ?_
    refine lv_iload_n hx hb d_MO_subtract_44 rfl (lv_at hl 1 rfl) ?_
    refine hb_calli (va_runV (As := [.int x16]) (rest := [.ref x15]) ⟨hx, hb, hml, hown, hts⟩ (m_MO_becomes G x15 x16 h29 hst w) (cwV 1 hts (zx_gV hT wd_715 wd_717 wd_s21 wd_5 wd_718) rfl rfl rfl (by decide +kernel) ⟨Nat.le_of_ble_eq_true rfl, Nat.le_of_ble_eq_true rfl⟩) (hb_preV hK hX hW t32 (by decide) rfl) rfl rfl hl.1 rfl (lv_room (Nat.le_of_ble_eq_true rfl)) d_MO_subtract_45 ⟨(by show _ ≤ 0; omega), (by show _ ≤ 0; omega)⟩) hW (fun r34 h33 H locs hk hW => ?_)
    obtain ⟨w, mm35⟩ := hk
    have w := w mm35
    have hm := hm.tr mm35
    have t36 := mm35.tg t31 (by decide)
    have t37 := mm35.tg t32 (by decide)
    refine lv_if_ne (tgt := 55) hx hb d_MO_subtract_48 (by decide) (fun c38 => ?_) (fun c38 => ?_)
    · have w := w.1 c38
      refine lv_iconst (v := 0) hx hb d_MO_subtract_55 (by decide) ?_
      exact tb_MO_subtract_56 C (by omega) (by omega)  (0 : Int32) x15 h33 _ _ _ w hm hW (lv_sub hl [] rfl)
    · have w := w.2 c38
      refine lv_iconst (v := 1) hx hb d_MO_subtract_51 (by decide) ?_
      refine lv_goto (tgt := 56) hx hb d_MO_subtract_52 (by decide) ?_
      exact tb_MO_subtract_56 C (by omega) (by omega)  (1 : Int32) x15 h33 _ _ _ w hm hW (lv_sub hl [] rfl)
  · have w := w.2 c27
    exact hb_vret (K := fun h9 => K h9 ∧ ah_m h0 h9) hx hb hr hlk hK hX hW ⟨w, hm⟩ (by omega) (by omega) d_MO_subtract_34
set_option maxHeartbeats 4000000 in
set_option maxRecDepth 100000 in
theorem tb_MO_subtract_22 {p : Program} {l : Launch} {e : Env} {s : State} {m : MethodId} {args : Array Value} {below : List Frame} {meth : Method} {c : Code} {G : zG} (C : cx_C p l s m args meth c G y_MO_subtract b_MO_subtract 4 none "BigDeskModel" (Cond.code y_MO_subtract b_MO_subtract 4 none :: zx_T) []) {K : ah_H → Prop} {h0 : ah_H} {cells slots : Nat} (hcl : cells + 0 ≤ 0) (hsl : slots + 0 ≤ 0)  (x9 : Nat) (x10 : Int32) (x11 : Int32) (x12 : Int32) (s13 : Nat) (h14 : ah_H) (H : Heap) (locs : List Loc) (ls : Array Slot) (w : bk_MO_subtract_22 K x9 x10 x11 x12 s13 h14) (hm : ah_m h0 h14) (hW : ah_W G s.heap h14 H locs) (hl : lv_has ls 4 [(0, .ref x9), (1, .int x10), (2, .int x11), (3, .int x12)]) : W p l e rm_MO_subtract s m args below meth c H locs cells slots (MQ below (va_Qv (fun h9 => K h9 ∧ ah_m h0 h9) (ah_B G) (fun q => G.2.2 ≤ q)) args s 0 0 (fun q => G.2.2 ≤ q)) (F0 m 22 ls [.ref s13]) := by
  unfold bk_MO_subtract_22 at w
  obtain ⟨hx, hb, hr, hml, hown, hts, hT, hlk, hK, hX, htb, hin, hst⟩ := id C
  have hw : ∀ {w9 : Cond}, w9 ∈ zx_T → w9.before _ s = true := fun h9 => hts _ (hT _ h9)
  refine lv_iconst (v := 1) hx hb d_MO_subtract_22 (by decide) ?_
  refine lv_goto (tgt := 27) hx hb d_MO_subtract_23 (by decide) ?_
  exact tb_MO_subtract_27 C (by omega) (by omega)  x9 x10 x11 x12 (1 : Int32) s13 h14 _ _ _ w hm hW (lv_sub hl [0, 1, 2, 3] rfl)
set_option maxHeartbeats 4000000 in
set_option maxRecDepth 100000 in
theorem m_MO_subtract {l : Launch} (G : zG) (a1 : Nat) (a2 : Int32) (a3 : Int32) (a4 : Int32) (h0 : ah_H) {K : ah_H → Prop} (hst : l.stackTraces = false) (w : w_MO_subtract a1 a2 a3 a4 h0 K) : Met l y_MO_subtract (Cond.code y_MO_subtract b_MO_subtract 4 none :: zx_T) rm_MO_subtract (va_Pc [.ref a1, .int a2, .int a3, .int a4] (ah_B G h0)) (va_Qv (fun h9 => K h9 ∧ ah_m h0 h9) (ah_B G) (fun q => G.2.2 ≤ q)) 0 0 (fun q => G.2.2 ≤ q) := by
  refine Met.ofW (cc := b_MO_subtract) (maxL := 4) (ret := none) (by decide) rfl ?_
  intro p e s m args below meth c s₁ B hml hv
  have htb := cx_out B (atoms_spec B.pre _ List.mem_cons_self)
  obtain ⟨rfl, hB⟩ := hv
  have C : cx_C p l s m _ meth c G y_MO_subtract b_MO_subtract 4 none "BigDeskModel" (Cond.code y_MO_subtract b_MO_subtract 4 none :: zx_T) [] := ⟨B.exec, B.bytes, B.returns, hml, findClass_of_methodNamed B.named, atoms_spec B.pre, cx_hd, B.notSynchronized, hB.2.2.1, hB.2.2.2, htb, fun z9 => (name_of_methodNamed B.named B.method).1.trans z9, hst⟩
  obtain ⟨hx, hb, hr, hml, hown, hts, hT, hlk, hK, hX, htb, hin, hst⟩ := id C
  have hw : ∀ {w9 : Cond}, w9 ∈ zx_T → w9.before _ s = true := fun h9 => hts _ (hT _ h9)
  have hW : ah_W G s.heap h0 s.heap [] := ⟨hB.1, hB.2.1, va_S.rf⟩
  have hm : ah_m h0 h0 := ah_m.rf
  have hcl : 0 + 0 ≤ 0 := by decide
  have hsl : 0 + 0 ≤ 0 := by decide
  have hl := lv_entry ([.ref a1, .int a2, .int a3, .int a4]) (n := 4) (Nat.le_of_ble_eq_true rfl)
  rw [lg_entry_eq]
  generalize (lg_sl ([.ref a1, .int a2, .int a3, .int a4]) ++ List.replicate (4 - (lg_sl ([.ref a1, .int a2, .int a3, .int a4])).length) Slot.unset).toArray = ls at hl ⊢
  have hl : lv_has ls 4 [(0, .ref a1), (1, .int a2), (2, .int a3), (3, .int a4)] := hl
  unfold w_MO_subtract at w
  refine lv_aload_n hx hb d_MO_subtract_0 rfl (lv_at hl 0 rfl) ?_
  refine lv_iload_n hx hb d_MO_subtract_1 rfl (lv_at hl 1 rfl) ?_
  refine hb_calli (va_runS (As := [.int a2]) (rest := [.ref a1]) ⟨hx, hb, hml, hown, hts⟩ (m_MO_isNone G a2 h0 hst w) (va_cwS 1 hts (zx_gS hT wd_680 wd_681 wd_5 wd_682) rfl rfl rfl (by decide +kernel) ⟨Nat.le_of_ble_eq_true rfl, Nat.le_of_ble_eq_true rfl⟩) (hb_preS hK hX hW) rfl rfl hl.1 rfl (lv_room (Nat.le_of_ble_eq_true rfl)) d_MO_subtract_2 ⟨(by show _ ≤ 0; omega), (by show _ ≤ 0; omega)⟩) hW (fun r6 h5 H locs hk hW => ?_)
  obtain ⟨w, mm7⟩ := hk
  have w := w mm7
  have hm := hm.tr mm7
  refine lv_if_ne (tgt := 22) hx hb d_MO_subtract_5 (by decide) (fun c8 => ?_) (fun c8 => ?_)
  · have w := w.1 c8
    exact tb_MO_subtract_22 C (by omega) (by omega)  a1 a2 a3 a4 a1 h5 _ _ _ w hm hW (lv_sub hl [0, 1, 2, 3] rfl)
  · have w := w.2 c8
    refine lv_iload_n hx hb d_MO_subtract_8 rfl (lv_at hl 2 rfl) ?_
    refine hb_calli (va_runS (As := [.int a3]) (rest := [.ref a1]) ⟨hx, hb, hml, hown, hts⟩ (m_MO_isNone G a3 h5 hst w) (va_cwS 1 hts (zx_gS hT wd_680 wd_681 wd_5 wd_682) rfl rfl rfl (by decide +kernel) ⟨Nat.le_of_ble_eq_true rfl, Nat.le_of_ble_eq_true rfl⟩) (hb_preS hK hX hW) rfl rfl hl.1 rfl (lv_room (Nat.le_of_ble_eq_true rfl)) d_MO_subtract_9 ⟨(by show _ ≤ 0; omega), (by show _ ≤ 0; omega)⟩) hW (fun r48 h47 H locs hk hW => ?_)
    obtain ⟨w, mm49⟩ := hk
    have w := w mm49
    have hm := hm.tr mm49
    refine lv_if_ne (tgt := 22) hx hb d_MO_subtract_12 (by decide) (fun c50 => ?_) (fun c50 => ?_)
    · have w := w.1 c50
      exact tb_MO_subtract_22 C (by omega) (by omega)  a1 a2 a3 a4 a1 h47 _ _ _ w hm hW (lv_sub hl [0, 1, 2, 3] rfl)
    · have w := w.2 c50
      refine lv_iload_n hx hb d_MO_subtract_15 rfl (lv_at hl 3 rfl) ?_
      refine hb_calli (va_runS (As := [.int a4]) (rest := [.ref a1]) ⟨hx, hb, hml, hown, hts⟩ (m_MO_isNone G a4 h47 hst w) (va_cwS 1 hts (zx_gS hT wd_680 wd_681 wd_5 wd_682) rfl rfl rfl (by decide +kernel) ⟨Nat.le_of_ble_eq_true rfl, Nat.le_of_ble_eq_true rfl⟩) (hb_preS hK hX hW) rfl rfl hl.1 rfl (lv_room (Nat.le_of_ble_eq_true rfl)) d_MO_subtract_16 ⟨(by show _ ≤ 0; omega), (by show _ ≤ 0; omega)⟩) hW (fun r52 h51 H locs hk hW => ?_)
      obtain ⟨w, mm53⟩ := hk
      have w := w mm53
      have hm := hm.tr mm53
      refine lv_if_eq (tgt := 26) hx hb d_MO_subtract_19 (by decide) (fun c54 => ?_) (fun c54 => ?_)
      · have w := w.1 c54
        refine lv_iconst (v := 0) hx hb d_MO_subtract_26 (by decide) ?_
        exact tb_MO_subtract_27 C (by omega) (by omega)  a1 a2 a3 a4 (0 : Int32) a1 h51 _ _ _ w hm hW (lv_sub hl [0, 1, 2, 3] rfl)
      · have w := w.2 c54
        exact tb_MO_subtract_22 C (by omega) (by omega)  a1 a2 a3 a4 a1 h51 _ _ _ w hm hW (lv_sub hl [0, 1, 2, 3] rfl)
set_option maxHeartbeats 4000000 in
set_option maxRecDepth 100000 in
theorem tb_MO_multiply_55 {p : Program} {l : Launch} {e : Env} {s : State} {m : MethodId} {args : Array Value} {below : List Frame} {meth : Method} {c : Code} {G : zG} (C : cx_C p l s m args meth c G y_MO_multiply b_MO_multiply 4 none "BigDeskModel" (Cond.code y_MO_multiply b_MO_multiply 4 none :: zx_T) []) {K : ah_H → Prop} {h0 : ah_H} {cells slots : Nat} (hcl : cells + 0 ≤ 0) (hsl : slots + 0 ≤ 0)  (s39 : Int32) (s40 : Nat) (h41 : ah_H) (H : Heap) (locs : List Loc) (ls : Array Slot) (w : bk_MO_multiply_55 K s39 s40 h41) (hm : ah_m h0 h41) (hW : ah_W G s.heap h41 H locs) (hl : lv_has ls 4 []) : W p l e rm_MO_multiply s m args below meth c H locs cells slots (MQ below (va_Qv (fun h9 => K h9 ∧ ah_m h0 h9) (ah_B G) (fun q => G.2.2 ≤ q)) args s 0 0 (fun q => G.2.2 ≤ q)) (F0 m 55 ls [.int s39, .ref s40]) := by
  unfold bk_MO_multiply_55 at w
  obtain ⟨hx, hb, hr, hml, hown, hts, hT, hlk, hK, hX, htb, hin, hst⟩ := id C
  have hw : ∀ {w9 : Cond}, w9 ∈ zx_T → w9.before _ s = true := fun h9 => hts _ (hT _ h9)
  refine lv_iconst (v := 2) hx hb d_MO_multiply_55 (by decide) ?_
  obtain ⟨t42, w⟩ := w
  refine hb_calli (va_runV (As := [.int s39, .int (2 : Int32)]) (rest := []) ⟨hx, hb, hml, hown, hts⟩ (m_MO_fails G s40 s39 (2 : Int32) h41 hst w) (cwV 2 hts (zx_gV hT wd_683 wd_685 wd_s15 wd_5 wd_686) rfl rfl rfl (by decide +kernel) ⟨Nat.le_of_ble_eq_true rfl, Nat.le_of_ble_eq_true rfl⟩) (hb_preV hK hX hW t42 (by decide) rfl) rfl rfl hl.1 rfl (lv_room (Nat.le_of_ble_eq_true rfl)) d_MO_multiply_56 ⟨(by show _ ≤ 0; omega), (by show _ ≤ 0; omega)⟩) hW (fun r44 h43 H locs hk hW => ?_)
  obtain ⟨w, mm45⟩ := hk
  have w := w mm45
  have hm := hm.tr mm45
  have t46 := mm45.tg t42 (by decide)
  refine lv_pop hx hb d_MO_multiply_59 rfl ?_
  exact hb_vret (K := fun h9 => K h9 ∧ ah_m h0 h9) hx hb hr hlk hK hX hW ⟨w, hm⟩ (by omega) (by omega) d_MO_multiply_60
set_option maxHeartbeats 4000000 in
set_option maxRecDepth 100000 in
theorem tb_MO_multiply_27 {p : Program} {l : Launch} {e : Env} {s : State} {m : MethodId} {args : Array Value} {below : List Frame} {meth : Method} {c : Code} {G : zG} (C : cx_C p l s m args meth c G y_MO_multiply b_MO_multiply 4 none "BigDeskModel" (Cond.code y_MO_multiply b_MO_multiply 4 none :: zx_T) []) {K : ah_H → Prop} {h0 : ah_H} {cells slots : Nat} (hcl : cells + 0 ≤ 0) (hsl : slots + 0 ≤ 0)  (x15 : Nat) (x16 : Int32) (x17 : Int32) (x18 : Int32) (s19 : Int32) (s20 : Nat) (h21 : ah_H) (H : Heap) (locs : List Loc) (ls : Array Slot) (w : bk_MO_multiply_27 K x15 x16 x17 x18 s19 s20 h21) (hm : ah_m h0 h21) (hW : ah_W G s.heap h21 H locs) (hl : lv_has ls 4 [(0, .ref x15), (1, .int x16), (2, .int x17), (3, .int x18)]) : W p l e rm_MO_multiply s m args below meth c H locs cells slots (MQ below (va_Qv (fun h9 => K h9 ∧ ah_m h0 h9) (ah_B G) (fun q => G.2.2 ≤ q)) args s 0 0 (fun q => G.2.2 ≤ q)) (F0 m 27 ls [.int s19, .ref s20]) := by
  unfold bk_MO_multiply_27 at w
  obtain ⟨hx, hb, hr, hml, hown, hts, hT, hlk, hK, hX, htb, hin, hst⟩ := id C
  have hw : ∀ {w9 : Cond}, w9 ∈ zx_T → w9.before _ s = true := fun h9 => hts _ (hT _ h9)
  refine lv_iconst (v := 1) hx hb d_MO_multiply_27 (by decide) ?_
  obtain ⟨t22, w⟩ := w
  refine hb_calli (va_runV (As := [.int s19, .int (1 : Int32)]) (rest := []) ⟨hx, hb, hml, hown, hts⟩ (m_MO_fails G s20 s19 (1 : Int32) h21 hst w) (cwV 2 hts (zx_gV hT wd_683 wd_685 wd_s15 wd_5 wd_686) rfl rfl rfl (by decide +kernel) ⟨Nat.le_of_ble_eq_true rfl, Nat.le_of_ble_eq_true rfl⟩) (hb_preV hK hX hW t22 (by decide) rfl) rfl rfl hl.1 rfl (lv_room (Nat.le_of_ble_eq_true rfl)) d_MO_multiply_28 ⟨(by show _ ≤ 0; omega), (by show _ ≤ 0; omega)⟩) hW (fun r24 h23 H locs hk hW => ?_)
  obtain ⟨w, mm25⟩ := hk
  have w := w mm25
  have hm := hm.tr mm25
  have t26 := mm25.tg t22 (by decide)
  refine lv_if_eq (tgt := 35) hx hb d_MO_multiply_31 (by decide) (fun c27 => ?_) (fun c27 => ?_)
  · have w := w.1 c27
    refine lv_aload_n hx hb d_MO_multiply_35 rfl (lv_at hl 0 rfl) ?_
    refine lv_iload_n hx hb d_MO_multiply_36 rfl (lv_at hl 2 rfl) ?_
    refine lv_iload_n hx hb d_MO_multiply_37 rfl (lv_at hl 3 rfl) ?_
    obtain ⟨t28, w⟩ := w
    refine hb_callv (va_runV (As := [.int x17, .int x18]) (rest := []) ⟨hx, hb, hml, hown, hts⟩ (m_MO_product G x15 x17 x18 h23 hst w) (cwV 2 hts (zx_gV hT wd_727 wd_729 wd_s22 wd_5 wd_730) rfl rfl rfl (by decide +kernel) ⟨Nat.le_of_ble_eq_true rfl, Nat.le_of_ble_eq_true rfl⟩) (hb_preV hK hX hW t28 (by decide) rfl) rfl rfl hl.1 rfl (lv_room (Nat.le_of_ble_eq_true rfl)) d_MO_multiply_38 ⟨(by show _ ≤ 0; omega), (by show _ ≤ 0; omega)⟩) hW (fun h29 H locs hk hW => ?_)
    obtain ⟨w, mm30⟩ := hk
    have w := w mm30
    have hm := hm.tr mm30
    have t31 := mm30.tg t26 (by decide)
    have t32 := mm30.tg t28 (by decide)
    refine lv_aload_n hx hb d_MO_multiply_41 rfl (lv_at hl 0 rfl) ?_
    refine lv_aload_n hx hb d_MO_multiply_42 rfl (lv_at hl 0 rfl) ?_
    refine lv_iload_n hx hb d_MO_multiply_43 rfl (lv_at hl 1 rfl) ?_
    refine hb_calli (va_runV (As := [.int x16]) (rest := [.ref x15]) ⟨hx, hb, hml, hown, hts⟩ (m_MO_becomes G x15 x16 h29 hst w) (cwV 1 hts (zx_gV hT wd_715 wd_717 wd_s21 wd_5 wd_718) rfl rfl rfl (by decide +kernel) ⟨Nat.le_of_ble_eq_true rfl, Nat.le_of_ble_eq_true rfl⟩) (hb_preV hK hX hW t32 (by decide) rfl) rfl rfl hl.1 rfl (lv_room (Nat.le_of_ble_eq_true rfl)) d_MO_multiply_44 ⟨(by show _ ≤ 0; omega), (by show _ ≤ 0; omega)⟩) hW (fun r34 h33 H locs hk hW => ?_)
    obtain ⟨w, mm35⟩ := hk
    have w := w mm35
    have hm := hm.tr mm35
    have t36 := mm35.tg t31 (by decide)
    have t37 := mm35.tg t32 (by decide)
    refine lv_if_ne (tgt := 54) hx hb d_MO_multiply_47 (by decide) (fun c38 => ?_) (fun c38 => ?_)
    · have w := w.1 c38
      refine lv_iconst (v := 0) hx hb d_MO_multiply_54 (by decide) ?_
      exact tb_MO_multiply_55 C (by omega) (by omega)  (0 : Int32) x15 h33 _ _ _ w hm hW (lv_sub hl [] rfl)
    · have w := w.2 c38
      refine lv_iconst (v := 1) hx hb d_MO_multiply_50 (by decide) ?_
      refine lv_goto (tgt := 55) hx hb d_MO_multiply_51 (by decide) ?_
      exact tb_MO_multiply_55 C (by omega) (by omega)  (1 : Int32) x15 h33 _ _ _ w hm hW (lv_sub hl [] rfl)
  · have w := w.2 c27
    exact hb_vret (K := fun h9 => K h9 ∧ ah_m h0 h9) hx hb hr hlk hK hX hW ⟨w, hm⟩ (by omega) (by omega) d_MO_multiply_34
set_option maxHeartbeats 4000000 in
set_option maxRecDepth 100000 in
theorem tb_MO_multiply_22 {p : Program} {l : Launch} {e : Env} {s : State} {m : MethodId} {args : Array Value} {below : List Frame} {meth : Method} {c : Code} {G : zG} (C : cx_C p l s m args meth c G y_MO_multiply b_MO_multiply 4 none "BigDeskModel" (Cond.code y_MO_multiply b_MO_multiply 4 none :: zx_T) []) {K : ah_H → Prop} {h0 : ah_H} {cells slots : Nat} (hcl : cells + 0 ≤ 0) (hsl : slots + 0 ≤ 0)  (x9 : Nat) (x10 : Int32) (x11 : Int32) (x12 : Int32) (s13 : Nat) (h14 : ah_H) (H : Heap) (locs : List Loc) (ls : Array Slot) (w : bk_MO_multiply_22 K x9 x10 x11 x12 s13 h14) (hm : ah_m h0 h14) (hW : ah_W G s.heap h14 H locs) (hl : lv_has ls 4 [(0, .ref x9), (1, .int x10), (2, .int x11), (3, .int x12)]) : W p l e rm_MO_multiply s m args below meth c H locs cells slots (MQ below (va_Qv (fun h9 => K h9 ∧ ah_m h0 h9) (ah_B G) (fun q => G.2.2 ≤ q)) args s 0 0 (fun q => G.2.2 ≤ q)) (F0 m 22 ls [.ref s13]) := by
  unfold bk_MO_multiply_22 at w
  obtain ⟨hx, hb, hr, hml, hown, hts, hT, hlk, hK, hX, htb, hin, hst⟩ := id C
  have hw : ∀ {w9 : Cond}, w9 ∈ zx_T → w9.before _ s = true := fun h9 => hts _ (hT _ h9)
  refine lv_iconst (v := 1) hx hb d_MO_multiply_22 (by decide) ?_
  refine lv_goto (tgt := 27) hx hb d_MO_multiply_23 (by decide) ?_
  exact tb_MO_multiply_27 C (by omega) (by omega)  x9 x10 x11 x12 (1 : Int32) s13 h14 _ _ _ w hm hW (lv_sub hl [0, 1, 2, 3] rfl)
set_option maxHeartbeats 4000000 in
set_option maxRecDepth 100000 in
theorem m_MO_multiply {l : Launch} (G : zG) (a1 : Nat) (a2 : Int32) (a3 : Int32) (a4 : Int32) (h0 : ah_H) {K : ah_H → Prop} (hst : l.stackTraces = false) (w : w_MO_multiply a1 a2 a3 a4 h0 K) : Met l y_MO_multiply (Cond.code y_MO_multiply b_MO_multiply 4 none :: zx_T) rm_MO_multiply (va_Pc [.ref a1, .int a2, .int a3, .int a4] (ah_B G h0)) (va_Qv (fun h9 => K h9 ∧ ah_m h0 h9) (ah_B G) (fun q => G.2.2 ≤ q)) 0 0 (fun q => G.2.2 ≤ q) := by
  refine Met.ofW (cc := b_MO_multiply) (maxL := 4) (ret := none) (by decide) rfl ?_
  intro p e s m args below meth c s₁ B hml hv
  have htb := cx_out B (atoms_spec B.pre _ List.mem_cons_self)
  obtain ⟨rfl, hB⟩ := hv
  have C : cx_C p l s m _ meth c G y_MO_multiply b_MO_multiply 4 none "BigDeskModel" (Cond.code y_MO_multiply b_MO_multiply 4 none :: zx_T) [] := ⟨B.exec, B.bytes, B.returns, hml, findClass_of_methodNamed B.named, atoms_spec B.pre, cx_hd, B.notSynchronized, hB.2.2.1, hB.2.2.2, htb, fun z9 => (name_of_methodNamed B.named B.method).1.trans z9, hst⟩
  obtain ⟨hx, hb, hr, hml, hown, hts, hT, hlk, hK, hX, htb, hin, hst⟩ := id C
  have hw : ∀ {w9 : Cond}, w9 ∈ zx_T → w9.before _ s = true := fun h9 => hts _ (hT _ h9)
  have hW : ah_W G s.heap h0 s.heap [] := ⟨hB.1, hB.2.1, va_S.rf⟩
  have hm : ah_m h0 h0 := ah_m.rf
  have hcl : 0 + 0 ≤ 0 := by decide
  have hsl : 0 + 0 ≤ 0 := by decide
  have hl := lv_entry ([.ref a1, .int a2, .int a3, .int a4]) (n := 4) (Nat.le_of_ble_eq_true rfl)
  rw [lg_entry_eq]
  generalize (lg_sl ([.ref a1, .int a2, .int a3, .int a4]) ++ List.replicate (4 - (lg_sl ([.ref a1, .int a2, .int a3, .int a4])).length) Slot.unset).toArray = ls at hl ⊢
  have hl : lv_has ls 4 [(0, .ref a1), (1, .int a2), (2, .int a3), (3, .int a4)] := hl
  unfold w_MO_multiply at w
  refine lv_aload_n hx hb d_MO_multiply_0 rfl (lv_at hl 0 rfl) ?_
  refine lv_iload_n hx hb d_MO_multiply_1 rfl (lv_at hl 1 rfl) ?_
  refine hb_calli (va_runS (As := [.int a2]) (rest := [.ref a1]) ⟨hx, hb, hml, hown, hts⟩ (m_MO_isNone G a2 h0 hst w) (va_cwS 1 hts (zx_gS hT wd_680 wd_681 wd_5 wd_682) rfl rfl rfl (by decide +kernel) ⟨Nat.le_of_ble_eq_true rfl, Nat.le_of_ble_eq_true rfl⟩) (hb_preS hK hX hW) rfl rfl hl.1 rfl (lv_room (Nat.le_of_ble_eq_true rfl)) d_MO_multiply_2 ⟨(by show _ ≤ 0; omega), (by show _ ≤ 0; omega)⟩) hW (fun r6 h5 H locs hk hW => ?_)
  obtain ⟨w, mm7⟩ := hk
  have w := w mm7
  have hm := hm.tr mm7
  refine lv_if_ne (tgt := 22) hx hb d_MO_multiply_5 (by decide) (fun c8 => ?_) (fun c8 => ?_)
  · have w := w.1 c8
    exact tb_MO_multiply_22 C (by omega) (by omega)  a1 a2 a3 a4 a1 h5 _ _ _ w hm hW (lv_sub hl [0, 1, 2, 3] rfl)
  · have w := w.2 c8
    refine lv_iload_n hx hb d_MO_multiply_8 rfl (lv_at hl 2 rfl) ?_
    refine hb_calli (va_runS (As := [.int a3]) (rest := [.ref a1]) ⟨hx, hb, hml, hown, hts⟩ (m_MO_isNone G a3 h5 hst w) (va_cwS 1 hts (zx_gS hT wd_680 wd_681 wd_5 wd_682) rfl rfl rfl (by decide +kernel) ⟨Nat.le_of_ble_eq_true rfl, Nat.le_of_ble_eq_true rfl⟩) (hb_preS hK hX hW) rfl rfl hl.1 rfl (lv_room (Nat.le_of_ble_eq_true rfl)) d_MO_multiply_9 ⟨(by show _ ≤ 0; omega), (by show _ ≤ 0; omega)⟩) hW (fun r48 h47 H locs hk hW => ?_)
    obtain ⟨w, mm49⟩ := hk
    have w := w mm49
    have hm := hm.tr mm49
    refine lv_if_ne (tgt := 22) hx hb d_MO_multiply_12 (by decide) (fun c50 => ?_) (fun c50 => ?_)
    · have w := w.1 c50
      exact tb_MO_multiply_22 C (by omega) (by omega)  a1 a2 a3 a4 a1 h47 _ _ _ w hm hW (lv_sub hl [0, 1, 2, 3] rfl)
    · have w := w.2 c50
      refine lv_iload_n hx hb d_MO_multiply_15 rfl (lv_at hl 3 rfl) ?_
      refine hb_calli (va_runS (As := [.int a4]) (rest := [.ref a1]) ⟨hx, hb, hml, hown, hts⟩ (m_MO_isNone G a4 h47 hst w) (va_cwS 1 hts (zx_gS hT wd_680 wd_681 wd_5 wd_682) rfl rfl rfl (by decide +kernel) ⟨Nat.le_of_ble_eq_true rfl, Nat.le_of_ble_eq_true rfl⟩) (hb_preS hK hX hW) rfl rfl hl.1 rfl (lv_room (Nat.le_of_ble_eq_true rfl)) d_MO_multiply_16 ⟨(by show _ ≤ 0; omega), (by show _ ≤ 0; omega)⟩) hW (fun r52 h51 H locs hk hW => ?_)
      obtain ⟨w, mm53⟩ := hk
      have w := w mm53
      have hm := hm.tr mm53
      refine lv_if_eq (tgt := 26) hx hb d_MO_multiply_19 (by decide) (fun c54 => ?_) (fun c54 => ?_)
      · have w := w.1 c54
        refine lv_iconst (v := 0) hx hb d_MO_multiply_26 (by decide) ?_
        exact tb_MO_multiply_27 C (by omega) (by omega)  a1 a2 a3 a4 (0 : Int32) a1 h51 _ _ _ w hm hW (lv_sub hl [0, 1, 2, 3] rfl)
      · have w := w.2 c54
        exact tb_MO_multiply_22 C (by omega) (by omega)  a1 a2 a3 a4 a1 h51 _ _ _ w hm hW (lv_sub hl [0, 1, 2, 3] rfl)
set_option maxHeartbeats 4000000 in
set_option maxRecDepth 100000 in
theorem tb_MO_times_56 {p : Program} {l : Launch} {e : Env} {s : State} {m : MethodId} {args : Array Value} {below : List Frame} {meth : Method} {c : Code} {G : zG} (C : cx_C p l s m args meth c G y_MO_times b_MO_times 5 none "BigDeskModel" (Cond.code y_MO_times b_MO_times 5 none :: zx_T) []) {K : ah_H → Prop} {h0 : ah_H} {cells slots : Nat} (hcl : cells + 0 ≤ 0) (hsl : slots + 0 ≤ 0)  (s43 : Int32) (s44 : Nat) (h45 : ah_H) (H : Heap) (locs : List Loc) (ls : Array Slot) (w : bk_MO_times_56 K s43 s44 h45) (hm : ah_m h0 h45) (hW : ah_W G s.heap h45 H locs) (hl : lv_has ls 5 []) : W p l e rm_MO_times s m args below meth c H locs cells slots (MQ below (va_Qv (fun h9 => K h9 ∧ ah_m h0 h9) (ah_B G) (fun q => G.2.2 ≤ q)) args s 0 0 (fun q => G.2.2 ≤ q)) (F0 m 56 ls [.int s43, .ref s44]) := by
  unfold bk_MO_times_56 at w
  obtain ⟨hx, hb, hr, hml, hown, hts, hT, hlk, hK, hX, htb, hin, hst⟩ := id C
  have hw : ∀ {w9 : Cond}, w9 ∈ zx_T → w9.before _ s = true := fun h9 => hts _ (hT _ h9)
  refine lv_iconst (v := 2) hx hb d_MO_times_56 (by decide) ?_
  obtain ⟨t46, w⟩ := w
  refine hb_calli (va_runV (As := [.int s43, .int (2 : Int32)]) (rest := []) ⟨hx, hb, hml, hown, hts⟩ (m_MO_fails G s44 s43 (2 : Int32) h45 hst w) (cwV 2 hts (zx_gV hT wd_683 wd_685 wd_s15 wd_5 wd_686) rfl rfl rfl (by decide +kernel) ⟨Nat.le_of_ble_eq_true rfl, Nat.le_of_ble_eq_true rfl⟩) (hb_preV hK hX hW t46 (by decide) rfl) rfl rfl hl.1 rfl (lv_room (Nat.le_of_ble_eq_true rfl)) d_MO_times_57 ⟨(by show _ ≤ 0; omega), (by show _ ≤ 0; omega)⟩) hW (fun r48 h47 H locs hk hW => ?_)
  obtain ⟨w, mm49⟩ := hk
  have w := w mm49
  have hm := hm.tr mm49
  have t50 := mm49.tg t46 (by decide)
  refine lv_pop hx hb d_MO_times_60 rfl ?_
  exact hb_vret (K := fun h9 => K h9 ∧ ah_m h0 h9) hx hb hr hlk hK hX hW ⟨w, hm⟩ (by omega) (by omega) d_MO_times_61
set_option maxHeartbeats 4000000 in
set_option maxRecDepth 100000 in
theorem tb_MO_times_20 {p : Program} {l : Launch} {e : Env} {s : State} {m : MethodId} {args : Array Value} {below : List Frame} {meth : Method} {c : Code} {G : zG} (C : cx_C p l s m args meth c G y_MO_times b_MO_times 5 none "BigDeskModel" (Cond.code y_MO_times b_MO_times 5 none :: zx_T) []) {K : ah_H → Prop} {h0 : ah_H} {cells slots : Nat} (hcl : cells + 0 ≤ 0) (hsl : slots + 0 ≤ 0)  (x15 : Nat) (x16 : Int32) (x17 : Int32) (x18 : Int64) (s19 : Int32) (s20 : Nat) (h21 : ah_H) (H : Heap) (locs : List Loc) (ls : Array Slot) (w : bk_MO_times_20 K x15 x16 x17 x18 s19 s20 h21) (hm : ah_m h0 h21) (hW : ah_W G s.heap h21 H locs) (hl : lv_has ls 5 [(0, .ref x15), (1, .int x16), (2, .int x17), (3, .long x18)]) : W p l e rm_MO_times s m args below meth c H locs cells slots (MQ below (va_Qv (fun h9 => K h9 ∧ ah_m h0 h9) (ah_B G) (fun q => G.2.2 ≤ q)) args s 0 0 (fun q => G.2.2 ≤ q)) (F0 m 20 ls [.int s19, .ref s20]) := by
  unfold bk_MO_times_20 at w
  obtain ⟨hx, hb, hr, hml, hown, hts, hT, hlk, hK, hX, htb, hin, hst⟩ := id C
  have hw : ∀ {w9 : Cond}, w9 ∈ zx_T → w9.before _ s = true := fun h9 => hts _ (hT _ h9)
  refine lv_iconst (v := 1) hx hb d_MO_times_20 (by decide) ?_
  obtain ⟨t22, w⟩ := w
  refine hb_calli (va_runV (As := [.int s19, .int (1 : Int32)]) (rest := []) ⟨hx, hb, hml, hown, hts⟩ (m_MO_fails G s20 s19 (1 : Int32) h21 hst w) (cwV 2 hts (zx_gV hT wd_683 wd_685 wd_s15 wd_5 wd_686) rfl rfl rfl (by decide +kernel) ⟨Nat.le_of_ble_eq_true rfl, Nat.le_of_ble_eq_true rfl⟩) (hb_preV hK hX hW t22 (by decide) rfl) rfl rfl hl.1 rfl (lv_room (Nat.le_of_ble_eq_true rfl)) d_MO_times_21 ⟨(by show _ ≤ 0; omega), (by show _ ≤ 0; omega)⟩) hW (fun r24 h23 H locs hk hW => ?_)
  obtain ⟨w, mm25⟩ := hk
  have w := w mm25
  have hm := hm.tr mm25
  have t26 := mm25.tg t22 (by decide)
  refine lv_if_eq (tgt := 28) hx hb d_MO_times_24 (by decide) (fun c27 => ?_) (fun c27 => ?_)
  · have w := w.1 c27
    refine lv_aload_n hx hb d_MO_times_28 rfl (lv_at hl 0 rfl) ?_
    refine lv_bipush (v := 13) hx hb d_MO_times_29 (by decide) ?_
    refine lv_lload_n hx hb d_MO_times_31 rfl (lv_at hl 3 rfl) ?_
    obtain ⟨t28, w⟩ := w
    refine hb_callv (va_runV (As := [.int (13 : Int32), .long x18]) (rest := []) ⟨hx, hb, hml, hown, hts⟩ (m_MO_setRow G x15 (13 : Int32) x18 h23 hst w) (cwV 2 hts (zx_gV hT wd_633 wd_635 wd_s12 wd_5 wd_636) rfl rfl rfl (by decide +kernel) ⟨Nat.le_of_ble_eq_true rfl, Nat.le_of_ble_eq_true rfl⟩) (hb_preV hK hX hW t28 (by decide) rfl) rfl rfl hl.1 rfl (lv_room (Nat.le_of_ble_eq_true rfl)) d_MO_times_32 ⟨(by show _ ≤ 0; omega), (by show _ ≤ 0; omega)⟩) hW (fun h29 H locs hk hW => ?_)
    obtain ⟨w, mm30⟩ := hk
    have w := w mm30
    have hm := hm.tr mm30
    have t31 := mm30.tg t26 (by decide)
    have t32 := mm30.tg t28 (by decide)
    refine lv_aload_n hx hb d_MO_times_35 rfl (lv_at hl 0 rfl) ?_
    refine lv_iload_n hx hb d_MO_times_36 rfl (lv_at hl 2 rfl) ?_
    refine lv_bipush (v := 13) hx hb d_MO_times_37 (by decide) ?_
    refine hb_callv (va_runV (As := [.int x17, .int (13 : Int32)]) (rest := []) ⟨hx, hb, hml, hown, hts⟩ (m_MO_product G x15 x17 (13 : Int32) h29 hst w) (cwV 2 hts (zx_gV hT wd_727 wd_729 wd_s22 wd_5 wd_730) rfl rfl rfl (by decide +kernel) ⟨Nat.le_of_ble_eq_true rfl, Nat.le_of_ble_eq_true rfl⟩) (hb_preV hK hX hW t32 (by decide) rfl) rfl rfl hl.1 rfl (lv_room (Nat.le_of_ble_eq_true rfl)) d_MO_times_39 ⟨(by show _ ≤ 0; omega), (by show _ ≤ 0; omega)⟩) hW (fun h33 H locs hk hW => ?_)
    obtain ⟨w, mm34⟩ := hk
    have w := w mm34
    have hm := hm.tr mm34
    have t35 := mm34.tg t31 (by decide)
    have t36 := mm34.tg t32 (by decide)
    refine lv_aload_n hx hb d_MO_times_42 rfl (lv_at hl 0 rfl) ?_
    refine lv_aload_n hx hb d_MO_times_43 rfl (lv_at hl 0 rfl) ?_
    refine lv_iload_n hx hb d_MO_times_44 rfl (lv_at hl 1 rfl) ?_
    refine hb_calli (va_runV (As := [.int x16]) (rest := [.ref x15]) ⟨hx, hb, hml, hown, hts⟩ (m_MO_becomes G x15 x16 h33 hst w) (cwV 1 hts (zx_gV hT wd_715 wd_717 wd_s21 wd_5 wd_718) rfl rfl rfl (by decide +kernel) ⟨Nat.le_of_ble_eq_true rfl, Nat.le_of_ble_eq_true rfl⟩) (hb_preV hK hX hW t36 (by decide) rfl) rfl rfl hl.1 rfl (lv_room (Nat.le_of_ble_eq_true rfl)) d_MO_times_45 ⟨(by show _ ≤ 0; omega), (by show _ ≤ 0; omega)⟩) hW (fun r38 h37 H locs hk hW => ?_)
    obtain ⟨w, mm39⟩ := hk
    have w := w mm39
    have hm := hm.tr mm39
    have t40 := mm39.tg t35 (by decide)
    have t41 := mm39.tg t36 (by decide)
    refine lv_if_ne (tgt := 55) hx hb d_MO_times_48 (by decide) (fun c42 => ?_) (fun c42 => ?_)
    · have w := w.1 c42
      refine lv_iconst (v := 0) hx hb d_MO_times_55 (by decide) ?_
      exact tb_MO_times_56 C (by omega) (by omega)  (0 : Int32) x15 h37 _ _ _ w hm hW (lv_sub hl [] rfl)
    · have w := w.2 c42
      refine lv_iconst (v := 1) hx hb d_MO_times_51 (by decide) ?_
      refine lv_goto (tgt := 56) hx hb d_MO_times_52 (by decide) ?_
      exact tb_MO_times_56 C (by omega) (by omega)  (1 : Int32) x15 h37 _ _ _ w hm hW (lv_sub hl [] rfl)
  · have w := w.2 c27
    exact hb_vret (K := fun h9 => K h9 ∧ ah_m h0 h9) hx hb hr hlk hK hX hW ⟨w, hm⟩ (by omega) (by omega) d_MO_times_27
set_option maxHeartbeats 4000000 in
set_option maxRecDepth 100000 in
theorem tb_MO_times_15 {p : Program} {l : Launch} {e : Env} {s : State} {m : MethodId} {args : Array Value} {below : List Frame} {meth : Method} {c : Code} {G : zG} (C : cx_C p l s m args meth c G y_MO_times b_MO_times 5 none "BigDeskModel" (Cond.code y_MO_times b_MO_times 5 none :: zx_T) []) {K : ah_H → Prop} {h0 : ah_H} {cells slots : Nat} (hcl : cells + 0 ≤ 0) (hsl : slots + 0 ≤ 0)  (x9 : Nat) (x10 : Int32) (x11 : Int32) (x12 : Int64) (s13 : Nat) (h14 : ah_H) (H : Heap) (locs : List Loc) (ls : Array Slot) (w : bk_MO_times_15 K x9 x10 x11 x12 s13 h14) (hm : ah_m h0 h14) (hW : ah_W G s.heap h14 H locs) (hl : lv_has ls 5 [(0, .ref x9), (1, .int x10), (2, .int x11), (3, .long x12)]) : W p l e rm_MO_times s m args below meth c H locs cells slots (MQ below (va_Qv (fun h9 => K h9 ∧ ah_m h0 h9) (ah_B G) (fun q => G.2.2 ≤ q)) args s 0 0 (fun q => G.2.2 ≤ q)) (F0 m 15 ls [.ref s13]) := by
  unfold bk_MO_times_15 at w
  obtain ⟨hx, hb, hr, hml, hown, hts, hT, hlk, hK, hX, htb, hin, hst⟩ := id C
  have hw : ∀ {w9 : Cond}, w9 ∈ zx_T → w9.before _ s = true := fun h9 => hts _ (hT _ h9)
  refine lv_iconst (v := 1) hx hb d_MO_times_15 (by decide) ?_
  refine lv_goto (tgt := 20) hx hb d_MO_times_16 (by decide) ?_
  exact tb_MO_times_20 C (by omega) (by omega)  x9 x10 x11 x12 (1 : Int32) s13 h14 _ _ _ w hm hW (lv_sub hl [0, 1, 2, 3] rfl)
set_option maxHeartbeats 4000000 in
set_option maxRecDepth 100000 in
theorem m_MO_times {l : Launch} (G : zG) (a1 : Nat) (a2 : Int32) (a3 : Int32) (a4 : Int64) (h0 : ah_H) {K : ah_H → Prop} (hst : l.stackTraces = false) (w : w_MO_times a1 a2 a3 a4 h0 K) : Met l y_MO_times (Cond.code y_MO_times b_MO_times 5 none :: zx_T) rm_MO_times (va_Pc [.ref a1, .int a2, .int a3, .long a4] (ah_B G h0)) (va_Qv (fun h9 => K h9 ∧ ah_m h0 h9) (ah_B G) (fun q => G.2.2 ≤ q)) 0 0 (fun q => G.2.2 ≤ q) := by
  refine Met.ofW (cc := b_MO_times) (maxL := 5) (ret := none) (by decide) rfl ?_
  intro p e s m args below meth c s₁ B hml hv
  have htb := cx_out B (atoms_spec B.pre _ List.mem_cons_self)
  obtain ⟨rfl, hB⟩ := hv
  have C : cx_C p l s m _ meth c G y_MO_times b_MO_times 5 none "BigDeskModel" (Cond.code y_MO_times b_MO_times 5 none :: zx_T) [] := ⟨B.exec, B.bytes, B.returns, hml, findClass_of_methodNamed B.named, atoms_spec B.pre, cx_hd, B.notSynchronized, hB.2.2.1, hB.2.2.2, htb, fun z9 => (name_of_methodNamed B.named B.method).1.trans z9, hst⟩
  obtain ⟨hx, hb, hr, hml, hown, hts, hT, hlk, hK, hX, htb, hin, hst⟩ := id C
  have hw : ∀ {w9 : Cond}, w9 ∈ zx_T → w9.before _ s = true := fun h9 => hts _ (hT _ h9)
  have hW : ah_W G s.heap h0 s.heap [] := ⟨hB.1, hB.2.1, va_S.rf⟩
  have hm : ah_m h0 h0 := ah_m.rf
  have hcl : 0 + 0 ≤ 0 := by decide
  have hsl : 0 + 0 ≤ 0 := by decide
  have hl := lv_entry ([.ref a1, .int a2, .int a3, .long a4]) (n := 5) (Nat.le_of_ble_eq_true rfl)
  rw [lg_entry_eq]
  generalize (lg_sl ([.ref a1, .int a2, .int a3, .long a4]) ++ List.replicate (5 - (lg_sl ([.ref a1, .int a2, .int a3, .long a4])).length) Slot.unset).toArray = ls at hl ⊢
  have hl : lv_has ls 5 [(0, .ref a1), (1, .int a2), (2, .int a3), (3, .long a4)] := hl
  unfold w_MO_times at w
  refine lv_aload_n hx hb d_MO_times_0 rfl (lv_at hl 0 rfl) ?_
  refine lv_iload_n hx hb d_MO_times_1 rfl (lv_at hl 1 rfl) ?_
  refine hb_calli (va_runS (As := [.int a2]) (rest := [.ref a1]) ⟨hx, hb, hml, hown, hts⟩ (m_MO_isNone G a2 h0 hst w) (va_cwS 1 hts (zx_gS hT wd_680 wd_681 wd_5 wd_682) rfl rfl rfl (by decide +kernel) ⟨Nat.le_of_ble_eq_true rfl, Nat.le_of_ble_eq_true rfl⟩) (hb_preS hK hX hW) rfl rfl hl.1 rfl (lv_room (Nat.le_of_ble_eq_true rfl)) d_MO_times_2 ⟨(by show _ ≤ 0; omega), (by show _ ≤ 0; omega)⟩) hW (fun r6 h5 H locs hk hW => ?_)
  obtain ⟨w, mm7⟩ := hk
  have w := w mm7
  have hm := hm.tr mm7
  refine lv_if_ne (tgt := 15) hx hb d_MO_times_5 (by decide) (fun c8 => ?_) (fun c8 => ?_)
  · have w := w.1 c8
    exact tb_MO_times_15 C (by omega) (by omega)  a1 a2 a3 a4 a1 h5 _ _ _ w hm hW (lv_sub hl [0, 1, 2, 3] rfl)
  · have w := w.2 c8
    refine lv_iload_n hx hb d_MO_times_8 rfl (lv_at hl 2 rfl) ?_
    refine hb_calli (va_runS (As := [.int a3]) (rest := [.ref a1]) ⟨hx, hb, hml, hown, hts⟩ (m_MO_isNone G a3 h5 hst w) (va_cwS 1 hts (zx_gS hT wd_680 wd_681 wd_5 wd_682) rfl rfl rfl (by decide +kernel) ⟨Nat.le_of_ble_eq_true rfl, Nat.le_of_ble_eq_true rfl⟩) (hb_preS hK hX hW) rfl rfl hl.1 rfl (lv_room (Nat.le_of_ble_eq_true rfl)) d_MO_times_9 ⟨(by show _ ≤ 0; omega), (by show _ ≤ 0; omega)⟩) hW (fun r52 h51 H locs hk hW => ?_)
    obtain ⟨w, mm53⟩ := hk
    have w := w mm53
    have hm := hm.tr mm53
    refine lv_if_eq (tgt := 19) hx hb d_MO_times_12 (by decide) (fun c54 => ?_) (fun c54 => ?_)
    · have w := w.1 c54
      refine lv_iconst (v := 0) hx hb d_MO_times_19 (by decide) ?_
      exact tb_MO_times_20 C (by omega) (by omega)  a1 a2 a3 a4 (0 : Int32) a1 h51 _ _ _ w hm hW (lv_sub hl [0, 1, 2, 3] rfl)
    · have w := w.2 c54
      exact tb_MO_times_15 C (by omega) (by omega)  a1 a2 a3 a4 a1 h51 _ _ _ w hm hW (lv_sub hl [0, 1, 2, 3] rfl)
set_option maxHeartbeats 4000000 in
set_option maxRecDepth 100000 in
theorem tb_MO_shift_84 {p : Program} {l : Launch} {e : Env} {s : State} {m : MethodId} {args : Array Value} {below : List Frame} {meth : Method} {c : Code} {G : zG} (C : cx_C p l s m args meth c G y_MO_shift b_MO_shift 5 none "BigDeskModel" (Cond.code y_MO_shift b_MO_shift 5 none :: zx_T) []) {K : ah_H → Prop} {h0 : ah_H} {cells slots : Nat} (hcl : cells + 0 ≤ 0) (hsl : slots + 0 ≤ 0) {rc_50 : Nat → Int32 → Int32 → ah_H → Prop} (hc_rc_50 : ∀ (z0 : Nat) (z1 : Int32) (z2 : Int32) (hz : ah_H) (H : Heap) (locs : List Loc) (ls : Array Slot), rc_50 z0 z1 z2 hz → ah_m h0 hz → ah_W G s.heap hz H locs → lv_has ls 5 [(0, .ref z0), (1, .int z1), (4, .int z2)] → W p l e rm_MO_shift s m args below meth c H locs cells slots (MQ below (va_Qv (fun h9 => K h9 ∧ ah_m h0 h9) (ah_B G) (fun q => G.2.2 ≤ q)) args s 0 0 (fun q => G.2.2 ≤ q)) (F0 m 50 ls [])) (x45 : Nat) (x46 : Int32) (x47 : Int32) (s48 : Int32) (s49 : Int32) (s50 : Int32) (s51 : Nat) (h52 : ah_H) (H : Heap) (locs : List Loc) (ls : Array Slot) (w : bk_MO_shift_84 rc_50 K x45 x46 x47 s48 s49 s50 s51 h52) (hm : ah_m h0 h52) (hW : ah_W G s.heap h52 H locs) (hl : lv_has ls 5 [(0, .ref x45), (1, .int x46), (4, .int x47)]) : W p l e rm_MO_shift s m args below meth c H locs cells slots (MQ below (va_Qv (fun h9 => K h9 ∧ ah_m h0 h9) (ah_B G) (fun q => G.2.2 ≤ q)) args s 0 0 (fun q => G.2.2 ≤ q)) (F0 m 84 ls [.int s48, .int s49, .int s50, .ref s51]) := by
  unfold bk_MO_shift_84 at w
  obtain ⟨hx, hb, hr, hml, hown, hts, hT, hlk, hK, hX, htb, hin, hst⟩ := id C
  have hw : ∀ {w9 : Cond}, w9 ∈ zx_T → w9.before _ s = true := fun h9 => hts _ (hT _ h9)
  refine lv_ishl hx hb d_MO_shift_84 ?_
  obtain ⟨t53, w⟩ := w
  refine hb_callv (va_runV (As := [.int s50, .int (s49 <<< (s48 &&& 31))]) (rest := []) ⟨hx, hb, hml, hown, hts⟩ (m_MO_scale G s51 s50 (s49 <<< (s48 &&& 31)) h52 hst w) (cwV 2 hts (zx_gV hT wd_638 wd_640 wd_s13 wd_5 wd_641) rfl rfl rfl (by decide +kernel) ⟨Nat.le_of_ble_eq_true rfl, Nat.le_of_ble_eq_true rfl⟩) (hb_preV hK hX hW t53 (by decide) rfl) rfl rfl hl.1 rfl (lv_room (Nat.le_of_ble_eq_true rfl)) d_MO_shift_85 ⟨(by show _ ≤ 0; omega), (by show _ ≤ 0; omega)⟩) hW (fun h54 H locs hk hW => ?_)
  obtain ⟨w, mm55⟩ := hk
  have w := w mm55
  have hm := hm.tr mm55
  have t56 := mm55.tg t53 (by decide)
  obtain ⟨v57, ev57⟩ : ∃ y9 : Int32, y9 = x47 + (-13) := ⟨_, rfl⟩
  have w := w v57 ev57
  refine lv_iinc (v := v57) (lv' := [(4, .int v57), (0, .ref x45), (1, .int x46)]) hx hb d_MO_shift_88 hl (k := 2) rfl (by rw [ev57]; rfl) (by decide) rfl (fun ls hl => ?_)
  refine lv_goto (tgt := 50) hx hb d_MO_shift_91 (by decide) ?_
  exact hc_rc_50 x45 x46 v57 h54 _ _ _ w hm hW (lv_sub hl [1, 2, 0] rfl)
set_option maxHeartbeats 4000000 in
set_option maxRecDepth 100000 in
theorem tl_MO_shift_50 {p : Program} {l : Launch} {e : Env} {s : State} {m : MethodId} {args : Array Value} {below : List Frame} {meth : Method} {c : Code} {G : zG} (C : cx_C p l s m args meth c G y_MO_shift b_MO_shift 5 none "BigDeskModel" (Cond.code y_MO_shift b_MO_shift 5 none :: zx_T) []) {K : ah_H → Prop} {h0 : ah_H} {cells slots : Nat} (hcl : cells + 0 ≤ 0) (hsl : slots + 0 ≤ 0) {xt_94 : Nat → Int32 → ah_H → Prop} (hc_xt_94 : ∀ (z0 : Nat) (z1 : Int32) (hz : ah_H) (H : Heap) (locs : List Loc) (ls : Array Slot), xt_94 z0 z1 hz → ah_m h0 hz → ah_W G s.heap hz H locs → lv_has ls 5 [(0, .ref z0), (1, .int z1)] → W p l e rm_MO_shift s m args below meth c H locs cells slots (MQ below (va_Qv (fun h9 => K h9 ∧ ah_m h0 h9) (ah_B G) (fun q => G.2.2 ≤ q)) args s 0 0 (fun q => G.2.2 ≤ q)) (F0 m 94 ls [])) : ∀ (n : Nat) (x33 : Nat) (x34 : Int32) (x35 : Int32) (h36 : ah_H) (H : Heap) (locs : List Loc) (ls : Array Slot), lp_MO_shift_50 xt_94 K n x33 x34 x35 h36 → ah_m h0 h36 → ah_W G s.heap h36 H locs → lv_has ls 5 [(0, .ref x33), (1, .int x34), (4, .int x35)] → W p l e rm_MO_shift s m args below meth c H locs cells slots (MQ below (va_Qv (fun h9 => K h9 ∧ ah_m h0 h9) (ah_B G) (fun q => G.2.2 ≤ q)) args s 0 0 (fun q => G.2.2 ≤ q)) (F0 m 50 ls []) := by
  obtain ⟨hx, hb, hr, hml, hown, hts, hT, hlk, hK, hX, htb, hin, hst⟩ := id C
  have hw : ∀ {w9 : Cond}, w9 ∈ zx_T → w9.before _ s = true := fun h9 => hts _ (hT _ h9)
  intro n
  induction n with
  | zero =>
    intro x33 x34 x35 h36 H locs ls w
    exact absurd w (by intro z9; exact z9)
  | succ n ih =>
    intro x33 x34 x35 h36 H locs ls w hm hW hl
    unfold lp_MO_shift_50 at w
    refine lv_iload hx hb d_MO_shift_50 (lv_at hl 2 rfl) ?_
    refine lv_if_le (tgt := 94) hx hb d_MO_shift_52 (by decide) (fun c37 => ?_) (fun c37 => ?_)
    · have w := w.1 c37
      exact hc_xt_94 x33 x34 h36 _ _ _ w hm hW (lv_sub hl [0, 1] rfl)
    · have w := w.2 c37
      refine lv_aload_n hx hb d_MO_shift_55 rfl (lv_at hl 0 rfl) ?_
      refine lv_bipush (v := 17) hx hb d_MO_shift_56 (by decide) ?_
      refine lv_bipush (v := 12) hx hb d_MO_shift_58 (by decide) ?_
      obtain ⟨t38, w⟩ := w
      refine hb_calli (va_runV (As := [.int (17 : Int32), .int (12 : Int32)]) (rest := []) ⟨hx, hb, hml, hown, hts⟩ (m_MO_against G x33 (17 : Int32) (12 : Int32) h36 hst w) (cwV 2 hts (zx_gV hT wd_711 wd_713 wd_s20 wd_5 wd_714) rfl rfl rfl (by decide +kernel) ⟨Nat.le_of_ble_eq_true rfl, Nat.le_of_ble_eq_true rfl⟩) (hb_preV hK hX hW t38 (by decide) rfl) rfl rfl hl.1 rfl (lv_room (Nat.le_of_ble_eq_true rfl)) d_MO_shift_60 ⟨(by show _ ≤ 0; omega), (by show _ ≤ 0; omega)⟩) hW (fun r40 h39 H locs hk hW => ?_)
      obtain ⟨w, mm41⟩ := hk
      have w := w mm41
      have hm := hm.tr mm41
      have t42 := mm41.tg t38 (by decide)
      refine lv_if_ge (tgt := 94) hx hb d_MO_shift_63 (by decide) (fun c43 => ?_) (fun c43 => ?_)
      · have w := w.1 c43
        exact hc_xt_94 x33 x34 h39 _ _ _ w hm hW (lv_sub hl [0, 1] rfl)
      · have w := w.2 c43
        refine lv_aload_n hx hb d_MO_shift_66 rfl (lv_at hl 0 rfl) ?_
        refine lv_bipush (v := 17) hx hb d_MO_shift_67 (by decide) ?_
        refine lv_iconst (v := 1) hx hb d_MO_shift_69 (by decide) ?_
        refine lv_iload hx hb d_MO_shift_70 (lv_at hl 2 rfl) ?_
        refine lv_bipush (v := 13) hx hb d_MO_shift_72 (by decide) ?_
        refine lv_icmp_ge (tgt := 82) hx hb d_MO_shift_74 (by decide) (fun c44 => ?_) (fun c44 => ?_)
        · have w := w.1 c44
          refine lv_bipush (v := 13) hx hb d_MO_shift_82 (by decide) ?_
          exact tb_MO_shift_84 C (by omega) (by omega) ih x33 x34 x35 (13 : Int32) (1 : Int32) (17 : Int32) x33 h39 _ _ _ w hm hW (lv_sub hl [0, 1, 2] rfl)
        · have w := w.2 c44
          refine lv_iload hx hb d_MO_shift_77 (lv_at hl 2 rfl) ?_
          refine lv_goto (tgt := 84) hx hb d_MO_shift_79 (by decide) ?_
          exact tb_MO_shift_84 C (by omega) (by omega) ih x33 x34 x35 x35 (1 : Int32) (17 : Int32) x33 h39 _ _ _ w hm hW (lv_sub hl [0, 1, 2] rfl)
set_option maxHeartbeats 4000000 in
set_option maxRecDepth 100000 in
theorem tb_MO_shift_108 {p : Program} {l : Launch} {e : Env} {s : State} {m : MethodId} {args : Array Value} {below : List Frame} {meth : Method} {c : Code} {G : zG} (C : cx_C p l s m args meth c G y_MO_shift b_MO_shift 5 none "BigDeskModel" (Cond.code y_MO_shift b_MO_shift 5 none :: zx_T) []) {K : ah_H → Prop} {h0 : ah_H} {cells slots : Nat} (hcl : cells + 0 ≤ 0) (hsl : slots + 0 ≤ 0)  (s70 : Int32) (s71 : Nat) (h72 : ah_H) (H : Heap) (locs : List Loc) (ls : Array Slot) (w : bk_MO_shift_108 K s70 s71 h72) (hm : ah_m h0 h72) (hW : ah_W G s.heap h72 H locs) (hl : lv_has ls 5 []) : W p l e rm_MO_shift s m args below meth c H locs cells slots (MQ below (va_Qv (fun h9 => K h9 ∧ ah_m h0 h9) (ah_B G) (fun q => G.2.2 ≤ q)) args s 0 0 (fun q => G.2.2 ≤ q)) (F0 m 108 ls [.int s70, .ref s71]) := by
  unfold bk_MO_shift_108 at w
  obtain ⟨hx, hb, hr, hml, hown, hts, hT, hlk, hK, hX, htb, hin, hst⟩ := id C
  have hw : ∀ {w9 : Cond}, w9 ∈ zx_T → w9.before _ s = true := fun h9 => hts _ (hT _ h9)
  refine lv_iconst (v := 2) hx hb d_MO_shift_108 (by decide) ?_
  obtain ⟨t73, w⟩ := w
  refine hb_calli (va_runV (As := [.int s70, .int (2 : Int32)]) (rest := []) ⟨hx, hb, hml, hown, hts⟩ (m_MO_fails G s71 s70 (2 : Int32) h72 hst w) (cwV 2 hts (zx_gV hT wd_683 wd_685 wd_s15 wd_5 wd_686) rfl rfl rfl (by decide +kernel) ⟨Nat.le_of_ble_eq_true rfl, Nat.le_of_ble_eq_true rfl⟩) (hb_preV hK hX hW t73 (by decide) rfl) rfl rfl hl.1 rfl (lv_room (Nat.le_of_ble_eq_true rfl)) d_MO_shift_109 ⟨(by show _ ≤ 0; omega), (by show _ ≤ 0; omega)⟩) hW (fun r75 h74 H locs hk hW => ?_)
  obtain ⟨w, mm76⟩ := hk
  have w := w mm76
  have hm := hm.tr mm76
  have t77 := mm76.tg t73 (by decide)
  refine lv_pop hx hb d_MO_shift_112 rfl ?_
  exact hb_vret (K := fun h9 => K h9 ∧ ah_m h0 h9) hx hb hr hlk hK hX hW ⟨w, hm⟩ (by omega) (by omega) d_MO_shift_113
set_option maxHeartbeats 4000000 in
set_option maxRecDepth 100000 in
theorem tb_MO_shift_94 {p : Program} {l : Launch} {e : Env} {s : State} {m : MethodId} {args : Array Value} {below : List Frame} {meth : Method} {c : Code} {G : zG} (C : cx_C p l s m args meth c G y_MO_shift b_MO_shift 5 none "BigDeskModel" (Cond.code y_MO_shift b_MO_shift 5 none :: zx_T) []) {K : ah_H → Prop} {h0 : ah_H} {cells slots : Nat} (hcl : cells + 0 ≤ 0) (hsl : slots + 0 ≤ 0)  (x61 : Nat) (x62 : Int32) (h63 : ah_H) (H : Heap) (locs : List Loc) (ls : Array Slot) (w : bk_MO_shift_94 K x61 x62 h63) (hm : ah_m h0 h63) (hW : ah_W G s.heap h63 H locs) (hl : lv_has ls 5 [(0, .ref x61), (1, .int x62)]) : W p l e rm_MO_shift s m args below meth c H locs cells slots (MQ below (va_Qv (fun h9 => K h9 ∧ ah_m h0 h9) (ah_B G) (fun q => G.2.2 ≤ q)) args s 0 0 (fun q => G.2.2 ≤ q)) (F0 m 94 ls []) := by
  unfold bk_MO_shift_94 at w
  obtain ⟨hx, hb, hr, hml, hown, hts, hT, hlk, hK, hX, htb, hin, hst⟩ := id C
  have hw : ∀ {w9 : Cond}, w9 ∈ zx_T → w9.before _ s = true := fun h9 => hts _ (hT _ h9)
  refine lv_aload_n hx hb d_MO_shift_94 rfl (lv_at hl 0 rfl) ?_
  refine lv_aload_n hx hb d_MO_shift_95 rfl (lv_at hl 0 rfl) ?_
  refine lv_iload_n hx hb d_MO_shift_96 rfl (lv_at hl 1 rfl) ?_
  obtain ⟨t64, w⟩ := w
  refine hb_calli (va_runV (As := [.int x62]) (rest := [.ref x61]) ⟨hx, hb, hml, hown, hts⟩ (m_MO_becomes G x61 x62 h63 hst w) (cwV 1 hts (zx_gV hT wd_715 wd_717 wd_s21 wd_5 wd_718) rfl rfl rfl (by decide +kernel) ⟨Nat.le_of_ble_eq_true rfl, Nat.le_of_ble_eq_true rfl⟩) (hb_preV hK hX hW t64 (by decide) rfl) rfl rfl hl.1 rfl (lv_room (Nat.le_of_ble_eq_true rfl)) d_MO_shift_97 ⟨(by show _ ≤ 0; omega), (by show _ ≤ 0; omega)⟩) hW (fun r66 h65 H locs hk hW => ?_)
  obtain ⟨w, mm67⟩ := hk
  have w := w mm67
  have hm := hm.tr mm67
  have t68 := mm67.tg t64 (by decide)
  refine lv_if_ne (tgt := 107) hx hb d_MO_shift_100 (by decide) (fun c69 => ?_) (fun c69 => ?_)
  · have w := w.1 c69
    refine lv_iconst (v := 0) hx hb d_MO_shift_107 (by decide) ?_
    exact tb_MO_shift_108 C (by omega) (by omega)  (0 : Int32) x61 h65 _ _ _ w hm hW (lv_sub hl [] rfl)
  · have w := w.2 c69
    refine lv_iconst (v := 1) hx hb d_MO_shift_103 (by decide) ?_
    refine lv_goto (tgt := 108) hx hb d_MO_shift_104 (by decide) ?_
    exact tb_MO_shift_108 C (by omega) (by omega)  (1 : Int32) x61 h65 _ _ _ w hm hW (lv_sub hl [] rfl)
set_option maxHeartbeats 4000000 in
set_option maxRecDepth 100000 in
theorem tb_MO_shift_32 {p : Program} {l : Launch} {e : Env} {s : State} {m : MethodId} {args : Array Value} {below : List Frame} {meth : Method} {c : Code} {G : zG} (C : cx_C p l s m args meth c G y_MO_shift b_MO_shift 5 none "BigDeskModel" (Cond.code y_MO_shift b_MO_shift 5 none :: zx_T) []) {K : ah_H → Prop} {h0 : ah_H} {cells slots : Nat} (hcl : cells + 0 ≤ 0) (hsl : slots + 0 ≤ 0)  (x15 : Nat) (x16 : Int32) (x17 : Int32) (x18 : Int32) (s19 : Int32) (s20 : Nat) (h21 : ah_H) (H : Heap) (locs : List Loc) (ls : Array Slot) (w : bk_MO_shift_32 K x15 x16 x17 x18 s19 s20 h21) (hm : ah_m h0 h21) (hW : ah_W G s.heap h21 H locs) (hl : lv_has ls 5 [(0, .ref x15), (1, .int x16), (2, .int x17), (3, .int x18)]) : W p l e rm_MO_shift s m args below meth c H locs cells slots (MQ below (va_Qv (fun h9 => K h9 ∧ ah_m h0 h9) (ah_B G) (fun q => G.2.2 ≤ q)) args s 0 0 (fun q => G.2.2 ≤ q)) (F0 m 32 ls [.int s19, .ref s20]) := by
  unfold bk_MO_shift_32 at w
  obtain ⟨hx, hb, hr, hml, hown, hts, hT, hlk, hK, hX, htb, hin, hst⟩ := id C
  have hw : ∀ {w9 : Cond}, w9 ∈ zx_T → w9.before _ s = true := fun h9 => hts _ (hT _ h9)
  refine lv_iconst (v := 1) hx hb d_MO_shift_32 (by decide) ?_
  obtain ⟨t22, w⟩ := w
  refine hb_calli (va_runV (As := [.int s19, .int (1 : Int32)]) (rest := []) ⟨hx, hb, hml, hown, hts⟩ (m_MO_fails G s20 s19 (1 : Int32) h21 hst w) (cwV 2 hts (zx_gV hT wd_683 wd_685 wd_s15 wd_5 wd_686) rfl rfl rfl (by decide +kernel) ⟨Nat.le_of_ble_eq_true rfl, Nat.le_of_ble_eq_true rfl⟩) (hb_preV hK hX hW t22 (by decide) rfl) rfl rfl hl.1 rfl (lv_room (Nat.le_of_ble_eq_true rfl)) d_MO_shift_33 ⟨(by show _ ≤ 0; omega), (by show _ ≤ 0; omega)⟩) hW (fun r24 h23 H locs hk hW => ?_)
  obtain ⟨w, mm25⟩ := hk
  have w := w mm25
  have hm := hm.tr mm25
  have t26 := mm25.tg t22 (by decide)
  refine lv_if_eq (tgt := 40) hx hb d_MO_shift_36 (by decide) (fun c27 => ?_) (fun c27 => ?_)
  · have w := w.1 c27
    refine lv_aload_n hx hb d_MO_shift_40 rfl (lv_at hl 0 rfl) ?_
    refine lv_bipush (v := 17) hx hb d_MO_shift_41 (by decide) ?_
    refine lv_iload_n hx hb d_MO_shift_43 rfl (lv_at hl 2 rfl) ?_
    obtain ⟨t28, w⟩ := w
    refine hb_callv (va_runV (As := [.int (17 : Int32), .int x17]) (rest := []) ⟨hx, hb, hml, hown, hts⟩ (m_MO_copyRow G x15 (17 : Int32) x17 h23 hst w) (cwV 2 hts (zx_gV hT wd_691 wd_693 wd_s16 wd_5 wd_694) rfl rfl rfl (by decide +kernel) ⟨Nat.le_of_ble_eq_true rfl, Nat.le_of_ble_eq_true rfl⟩) (hb_preV hK hX hW t28 (by decide) rfl) rfl rfl hl.1 rfl (lv_room (Nat.le_of_ble_eq_true rfl)) d_MO_shift_44 ⟨(by show _ ≤ 0; omega), (by show _ ≤ 0; omega)⟩) hW (fun h29 H locs hk hW => ?_)
    obtain ⟨w, mm30⟩ := hk
    have w := w mm30
    have hm := hm.tr mm30
    have t31 := mm30.tg t26 (by decide)
    have t32 := mm30.tg t28 (by decide)
    refine lv_iload_n hx hb d_MO_shift_47 rfl (lv_at hl 3 rfl) ?_
    refine lv_istore (lv' := [(4, .int x18), (0, .ref x15), (1, .int x16), (2, .int x17), (3, .int x18)]) hx hb d_MO_shift_48 hl (by decide) rfl (fun ls hl => ?_)
    obtain ⟨k78, w⟩ := w
    refine tl_MO_shift_50 C (by omega) (by omega) (fun x58 x59 h60 H locs ls w hm hW hl => ?_) k78 x15 x16 x18 h29 _ _ _ w hm hW (lv_sub hl [1, 2, 0] rfl)
    · exact tb_MO_shift_94 C (by omega) (by omega)  x58 x59 h60 _ _ _ w hm hW (lv_sub hl [0, 1] rfl)
  · have w := w.2 c27
    exact hb_vret (K := fun h9 => K h9 ∧ ah_m h0 h9) hx hb hr hlk hK hX hW ⟨w, hm⟩ (by omega) (by omega) d_MO_shift_39
set_option maxHeartbeats 4000000 in
set_option maxRecDepth 100000 in
theorem tb_MO_shift_27 {p : Program} {l : Launch} {e : Env} {s : State} {m : MethodId} {args : Array Value} {below : List Frame} {meth : Method} {c : Code} {G : zG} (C : cx_C p l s m args meth c G y_MO_shift b_MO_shift 5 none "BigDeskModel" (Cond.code y_MO_shift b_MO_shift 5 none :: zx_T) []) {K : ah_H → Prop} {h0 : ah_H} {cells slots : Nat} (hcl : cells + 0 ≤ 0) (hsl : slots + 0 ≤ 0)  (x9 : Nat) (x10 : Int32) (x11 : Int32) (x12 : Int32) (s13 : Nat) (h14 : ah_H) (H : Heap) (locs : List Loc) (ls : Array Slot) (w : bk_MO_shift_27 K x9 x10 x11 x12 s13 h14) (hm : ah_m h0 h14) (hW : ah_W G s.heap h14 H locs) (hl : lv_has ls 5 [(0, .ref x9), (1, .int x10), (2, .int x11), (3, .int x12)]) : W p l e rm_MO_shift s m args below meth c H locs cells slots (MQ below (va_Qv (fun h9 => K h9 ∧ ah_m h0 h9) (ah_B G) (fun q => G.2.2 ≤ q)) args s 0 0 (fun q => G.2.2 ≤ q)) (F0 m 27 ls [.ref s13]) := by
  unfold bk_MO_shift_27 at w
  obtain ⟨hx, hb, hr, hml, hown, hts, hT, hlk, hK, hX, htb, hin, hst⟩ := id C
  have hw : ∀ {w9 : Cond}, w9 ∈ zx_T → w9.before _ s = true := fun h9 => hts _ (hT _ h9)
  refine lv_iconst (v := 1) hx hb d_MO_shift_27 (by decide) ?_
  refine lv_goto (tgt := 32) hx hb d_MO_shift_28 (by decide) ?_
  exact tb_MO_shift_32 C (by omega) (by omega)  x9 x10 x11 x12 (1 : Int32) s13 h14 _ _ _ w hm hW (lv_sub hl [0, 1, 2, 3] rfl)
set_option maxHeartbeats 4000000 in
set_option maxRecDepth 100000 in
theorem m_MO_shift {l : Launch} (G : zG) (a1 : Nat) (a2 : Int32) (a3 : Int32) (a4 : Int32) (h0 : ah_H) {K : ah_H → Prop} (hst : l.stackTraces = false) (w : w_MO_shift a1 a2 a3 a4 h0 K) : Met l y_MO_shift (Cond.code y_MO_shift b_MO_shift 5 none :: zx_T) rm_MO_shift (va_Pc [.ref a1, .int a2, .int a3, .int a4] (ah_B G h0)) (va_Qv (fun h9 => K h9 ∧ ah_m h0 h9) (ah_B G) (fun q => G.2.2 ≤ q)) 0 0 (fun q => G.2.2 ≤ q) := by
  refine Met.ofW (cc := b_MO_shift) (maxL := 5) (ret := none) (by decide) rfl ?_
  intro p e s m args below meth c s₁ B hml hv
  have htb := cx_out B (atoms_spec B.pre _ List.mem_cons_self)
  obtain ⟨rfl, hB⟩ := hv
  have C : cx_C p l s m _ meth c G y_MO_shift b_MO_shift 5 none "BigDeskModel" (Cond.code y_MO_shift b_MO_shift 5 none :: zx_T) [] := ⟨B.exec, B.bytes, B.returns, hml, findClass_of_methodNamed B.named, atoms_spec B.pre, cx_hd, B.notSynchronized, hB.2.2.1, hB.2.2.2, htb, fun z9 => (name_of_methodNamed B.named B.method).1.trans z9, hst⟩
  obtain ⟨hx, hb, hr, hml, hown, hts, hT, hlk, hK, hX, htb, hin, hst⟩ := id C
  have hw : ∀ {w9 : Cond}, w9 ∈ zx_T → w9.before _ s = true := fun h9 => hts _ (hT _ h9)
  have hW : ah_W G s.heap h0 s.heap [] := ⟨hB.1, hB.2.1, va_S.rf⟩
  have hm : ah_m h0 h0 := ah_m.rf
  have hcl : 0 + 0 ≤ 0 := by decide
  have hsl : 0 + 0 ≤ 0 := by decide
  have hl := lv_entry ([.ref a1, .int a2, .int a3, .int a4]) (n := 5) (Nat.le_of_ble_eq_true rfl)
  rw [lg_entry_eq]
  generalize (lg_sl ([.ref a1, .int a2, .int a3, .int a4]) ++ List.replicate (5 - (lg_sl ([.ref a1, .int a2, .int a3, .int a4])).length) Slot.unset).toArray = ls at hl ⊢
  have hl : lv_has ls 5 [(0, .ref a1), (1, .int a2), (2, .int a3), (3, .int a4)] := hl
  unfold w_MO_shift at w
  refine lv_aload_n hx hb d_MO_shift_0 rfl (lv_at hl 0 rfl) ?_
  refine lv_iload_n hx hb d_MO_shift_1 rfl (lv_at hl 1 rfl) ?_
  refine hb_calli (va_runS (As := [.int a2]) (rest := [.ref a1]) ⟨hx, hb, hml, hown, hts⟩ (m_MO_isNone G a2 h0 hst w) (va_cwS 1 hts (zx_gS hT wd_680 wd_681 wd_5 wd_682) rfl rfl rfl (by decide +kernel) ⟨Nat.le_of_ble_eq_true rfl, Nat.le_of_ble_eq_true rfl⟩) (hb_preS hK hX hW) rfl rfl hl.1 rfl (lv_room (Nat.le_of_ble_eq_true rfl)) d_MO_shift_2 ⟨(by show _ ≤ 0; omega), (by show _ ≤ 0; omega)⟩) hW (fun r6 h5 H locs hk hW => ?_)
  obtain ⟨w, mm7⟩ := hk
  have w := w mm7
  have hm := hm.tr mm7
  refine lv_if_ne (tgt := 27) hx hb d_MO_shift_5 (by decide) (fun c8 => ?_) (fun c8 => ?_)
  · have w := w.1 c8
    exact tb_MO_shift_27 C (by omega) (by omega)  a1 a2 a3 a4 a1 h5 _ _ _ w hm hW (lv_sub hl [0, 1, 2, 3] rfl)
  · have w := w.2 c8
    refine lv_iload_n hx hb d_MO_shift_8 rfl (lv_at hl 2 rfl) ?_
    refine hb_calli (va_runS (As := [.int a3]) (rest := [.ref a1]) ⟨hx, hb, hml, hown, hts⟩ (m_MO_isNone G a3 h5 hst w) (va_cwS 1 hts (zx_gS hT wd_680 wd_681 wd_5 wd_682) rfl rfl rfl (by decide +kernel) ⟨Nat.le_of_ble_eq_true rfl, Nat.le_of_ble_eq_true rfl⟩) (hb_preS hK hX hW) rfl rfl hl.1 rfl (lv_room (Nat.le_of_ble_eq_true rfl)) d_MO_shift_9 ⟨(by show _ ≤ 0; omega), (by show _ ≤ 0; omega)⟩) hW (fun r80 h79 H locs hk hW => ?_)
    obtain ⟨w, mm81⟩ := hk
    have w := w mm81
    have hm := hm.tr mm81
    refine lv_if_ne (tgt := 27) hx hb d_MO_shift_12 (by decide) (fun c82 => ?_) (fun c82 => ?_)
    · have w := w.1 c82
      exact tb_MO_shift_27 C (by omega) (by omega)  a1 a2 a3 a4 a1 h79 _ _ _ w hm hW (lv_sub hl [0, 1, 2, 3] rfl)
    · have w := w.2 c82
      refine lv_iload_n hx hb d_MO_shift_15 rfl (lv_at hl 3 rfl) ?_
      refine lv_i2l hx hb d_MO_shift_16 rfl ?_
      refine lv_lconst (v := 0) hx hb d_MO_shift_17 (by decide) ?_
      refine lv_ldc2 (v := 8192) hx hb hown (hw wd_739) d_MO_shift_18 ?_
      refine hb_calli (va_runS (As := [.long a4.toInt64, .long (0 : Int64), .long (8192 : Int64)]) (rest := [.ref a1]) ⟨hx, hb, hml, hown, hts⟩ (m_MO_in G a4.toInt64 (0 : Int64) (8192 : Int64) h79 hst w) (va_cwS 3 hts (zx_gS hT wd_740 wd_741 wd_5 wd_742) rfl rfl rfl (by decide +kernel) ⟨Nat.le_of_ble_eq_true rfl, Nat.le_of_ble_eq_true rfl⟩) (hb_preS hK hX hW) rfl rfl hl.1 rfl (lv_room (Nat.le_of_ble_eq_true rfl)) d_MO_shift_21 ⟨(by show _ ≤ 0; omega), (by show _ ≤ 0; omega)⟩) hW (fun r84 h83 H locs hk hW => ?_)
      obtain ⟨w, mm85⟩ := hk
      have w := w mm85
      have hm := hm.tr mm85
      refine lv_if_ne (tgt := 31) hx hb d_MO_shift_24 (by decide) (fun c86 => ?_) (fun c86 => ?_)
      · have w := w.1 c86
        refine lv_iconst (v := 0) hx hb d_MO_shift_31 (by decide) ?_
        exact tb_MO_shift_32 C (by omega) (by omega)  a1 a2 a3 a4 (0 : Int32) a1 h83 _ _ _ w hm hW (lv_sub hl [0, 1, 2, 3] rfl)
      · have w := w.2 c86
        exact tb_MO_shift_27 C (by omega) (by omega)  a1 a2 a3 a4 a1 h83 _ _ _ w hm hW (lv_sub hl [0, 1, 2, 3] rfl)
set_option maxHeartbeats 4000000 in
set_option maxRecDepth 100000 in
theorem tb_MO_half_94 {p : Program} {l : Launch} {e : Env} {s : State} {m : MethodId} {args : Array Value} {below : List Frame} {meth : Method} {c : Code} {G : zG} (C : cx_C p l s m args meth c G y_MO_half b_MO_half 7 none "BigDeskModel" (Cond.code y_MO_half b_MO_half 7 none :: zx_T) []) {K : ah_H → Prop} {h0 : ah_H} {cells slots : Nat} (hcl : cells + 0 ≤ 0) (hsl : slots + 0 ≤ 0) {rc_61 : Nat → Int32 → Int32 → Int32 → Int32 → ah_H → Prop} (hc_rc_61 : ∀ (z0 : Nat) (z1 : Int32) (z2 : Int32) (z3 : Int32) (z4 : Int32) (hz : ah_H) (H : Heap) (locs : List Loc) (ls : Array Slot), rc_61 z0 z1 z2 z3 z4 hz → ah_m h0 hz → ah_W G s.heap hz H locs → lv_has ls 7 [(0, .ref z0), (1, .int z1), (4, .int z2), (5, .int z3), (6, .int z4)] → W p l e rm_MO_half s m args below meth c H locs cells slots (MQ below (va_Qv (fun h9 => K h9 ∧ ah_m h0 h9) (ah_B G) (fun q => G.2.2 ≤ q)) args s 0 0 (fun q => G.2.2 ≤ q)) (F0 m 61 ls [])) (x62 : Nat) (x63 : Int32) (x64 : Int32) (x65 : Int32) (x66 : Int32) (h67 : ah_H) (H : Heap) (locs : List Loc) (ls : Array Slot) (w : bk_MO_half_94 rc_61 K x62 x63 x64 x65 x66 h67) (hm : ah_m h0 h67) (hW : ah_W G s.heap h67 H locs) (hl : lv_has ls 7 [(0, .ref x62), (1, .int x63), (4, .int x64), (5, .int x65), (6, .int x66)]) : W p l e rm_MO_half s m args below meth c H locs cells slots (MQ below (va_Qv (fun h9 => K h9 ∧ ah_m h0 h9) (ah_B G) (fun q => G.2.2 ≤ q)) args s 0 0 (fun q => G.2.2 ≤ q)) (F0 m 94 ls []) := by
  unfold bk_MO_half_94 at w
  obtain ⟨hx, hb, hr, hml, hown, hts, hT, hlk, hK, hX, htb, hin, hst⟩ := id C
  have hw : ∀ {w9 : Cond}, w9 ∈ zx_T → w9.before _ s = true := fun h9 => hts _ (hT _ h9)
  obtain ⟨v68, ev68⟩ : ∃ y9 : Int32, y9 = x66 + (-13) := ⟨_, rfl⟩
  have w := w v68 ev68
  refine lv_iinc (v := v68) (lv' := [(6, .int v68), (0, .ref x62), (1, .int x63), (4, .int x64), (5, .int x65)]) hx hb d_MO_half_94 hl (k := 4) rfl (by rw [ev68]; rfl) (by decide) rfl (fun ls hl => ?_)
  refine lv_goto (tgt := 61) hx hb d_MO_half_97 (by decide) ?_
  exact hc_rc_61 x62 x63 x64 x65 v68 h67 _ _ _ w hm hW (lv_sub hl [1, 2, 3, 4, 0] rfl)
set_option maxHeartbeats 4000000 in
set_option maxRecDepth 100000 in
theorem tb_MO_half_84 {p : Program} {l : Launch} {e : Env} {s : State} {m : MethodId} {args : Array Value} {below : List Frame} {meth : Method} {c : Code} {G : zG} (C : cx_C p l s m args meth c G y_MO_half b_MO_half 7 none "BigDeskModel" (Cond.code y_MO_half b_MO_half 7 none :: zx_T) []) {K : ah_H → Prop} {h0 : ah_H} {cells slots : Nat} (hcl : cells + 0 ≤ 0) (hsl : slots + 0 ≤ 0) {rc_61 : Nat → Int32 → Int32 → Int32 → Int32 → ah_H → Prop} (hc_rc_61 : ∀ (z0 : Nat) (z1 : Int32) (z2 : Int32) (z3 : Int32) (z4 : Int32) (hz : ah_H) (H : Heap) (locs : List Loc) (ls : Array Slot), rc_61 z0 z1 z2 z3 z4 hz → ah_m h0 hz → ah_W G s.heap hz H locs → lv_has ls 7 [(0, .ref z0), (1, .int z1), (4, .int z2), (5, .int z3), (6, .int z4)] → W p l e rm_MO_half s m args below meth c H locs cells slots (MQ below (va_Qv (fun h9 => K h9 ∧ ah_m h0 h9) (ah_B G) (fun q => G.2.2 ≤ q)) args s 0 0 (fun q => G.2.2 ≤ q)) (F0 m 61 ls [])) (x46 : Nat) (x47 : Int32) (x48 : Int32) (x49 : Int32) (x50 : Int32) (s51 : Int32) (s52 : Int32) (s53 : Int32) (s54 : Nat) (h55 : ah_H) (H : Heap) (locs : List Loc) (ls : Array Slot) (w : bk_MO_half_84 rc_61 K x46 x47 x48 x49 x50 s51 s52 s53 s54 h55) (hm : ah_m h0 h55) (hW : ah_W G s.heap h55 H locs) (hl : lv_has ls 7 [(0, .ref x46), (1, .int x47), (4, .int x48), (5, .int x49), (6, .int x50)]) : W p l e rm_MO_half s m args below meth c H locs cells slots (MQ below (va_Qv (fun h9 => K h9 ∧ ah_m h0 h9) (ah_B G) (fun q => G.2.2 ≤ q)) args s 0 0 (fun q => G.2.2 ≤ q)) (F0 m 84 ls [.int s51, .int s52, .int s53, .ref s54]) := by
  unfold bk_MO_half_84 at w
  obtain ⟨hx, hb, hr, hml, hown, hts, hT, hlk, hK, hX, htb, hin, hst⟩ := id C
  have hw : ∀ {w9 : Cond}, w9 ∈ zx_T → w9.before _ s = true := fun h9 => hts _ (hT _ h9)
  refine lv_ishl hx hb d_MO_half_84 ?_
  obtain ⟨t56, w⟩ := w
  refine hb_calli (va_runV (As := [.int s53, .int (s52 <<< (s51 &&& 31))]) (rest := []) ⟨hx, hb, hml, hown, hts⟩ (m_MO_parts G s54 s53 (s52 <<< (s51 &&& 31)) h55 hst w) (cwV 2 hts (zx_gV hT wd_747 wd_749 wd_s23 wd_5 wd_750) rfl rfl rfl (by decide +kernel) ⟨Nat.le_of_ble_eq_true rfl, Nat.le_of_ble_eq_true rfl⟩) (hb_preV hK hX hW t56 (by decide) rfl) rfl rfl hl.1 rfl (lv_room (Nat.le_of_ble_eq_true rfl)) d_MO_half_85 ⟨(by show _ ≤ 0; omega), (by show _ ≤ 0; omega)⟩) hW (fun r58 h57 H locs hk hW => ?_)
  obtain ⟨w, mm59⟩ := hk
  have w := w mm59
  have hm := hm.tr mm59
  have t60 := mm59.tg t56 (by decide)
  refine lv_if_le (tgt := 94) hx hb d_MO_half_88 (by decide) (fun c61 => ?_) (fun c61 => ?_)
  · have w := w.1 c61
    exact tb_MO_half_94 C (by omega) (by omega) hc_rc_61 x46 x47 x48 x49 x50 h57 _ _ _ w hm hW (lv_sub hl [0, 1, 2, 3, 4] rfl)
  · have w := w.2 c61
    refine lv_iconst (v := 1) hx hb d_MO_half_91 (by decide) ?_
    refine lv_istore (lv' := [(5, .int (1 : Int32)), (0, .ref x46), (1, .int x47), (4, .int x48), (6, .int x50)]) hx hb d_MO_half_92 hl (by decide) rfl (fun ls hl => ?_)
    exact tb_MO_half_94 C (by omega) (by omega) hc_rc_61 x46 x47 x48 (1 : Int32) x50 h57 _ _ _ w hm hW (lv_sub hl [1, 2, 3, 0, 4] rfl)
set_option maxHeartbeats 4000000 in
set_option maxRecDepth 100000 in
theorem tl_MO_half_61 {p : Program} {l : Launch} {e : Env} {s : State} {m : MethodId} {args : Array Value} {below : List Frame} {meth : Method} {c : Code} {G : zG} (C : cx_C p l s m args meth c G y_MO_half b_MO_half 7 none "BigDeskModel" (Cond.code y_MO_half b_MO_half 7 none :: zx_T) []) {K : ah_H → Prop} {h0 : ah_H} {cells slots : Nat} (hcl : cells + 0 ≤ 0) (hsl : slots + 0 ≤ 0) {xt_100 : Nat → Int32 → Int32 → Int32 → ah_H → Prop} (hc_xt_100 : ∀ (z0 : Nat) (z1 : Int32) (z2 : Int32) (z3 : Int32) (hz : ah_H) (H : Heap) (locs : List Loc) (ls : Array Slot), xt_100 z0 z1 z2 z3 hz → ah_m h0 hz → ah_W G s.heap hz H locs → lv_has ls 7 [(0, .ref z0), (1, .int z1), (4, .int z2), (5, .int z3)] → W p l e rm_MO_half s m args below meth c H locs cells slots (MQ below (va_Qv (fun h9 => K h9 ∧ ah_m h0 h9) (ah_B G) (fun q => G.2.2 ≤ q)) args s 0 0 (fun q => G.2.2 ≤ q)) (F0 m 100 ls [])) : ∀ (n : Nat) (x38 : Nat) (x39 : Int32) (x40 : Int32) (x41 : Int32) (x42 : Int32) (h43 : ah_H) (H : Heap) (locs : List Loc) (ls : Array Slot), lp_MO_half_61 xt_100 K n x38 x39 x40 x41 x42 h43 → ah_m h0 h43 → ah_W G s.heap h43 H locs → lv_has ls 7 [(0, .ref x38), (1, .int x39), (4, .int x40), (5, .int x41), (6, .int x42)] → W p l e rm_MO_half s m args below meth c H locs cells slots (MQ below (va_Qv (fun h9 => K h9 ∧ ah_m h0 h9) (ah_B G) (fun q => G.2.2 ≤ q)) args s 0 0 (fun q => G.2.2 ≤ q)) (F0 m 61 ls []) := by
  obtain ⟨hx, hb, hr, hml, hown, hts, hT, hlk, hK, hX, htb, hin, hst⟩ := id C
  have hw : ∀ {w9 : Cond}, w9 ∈ zx_T → w9.before _ s = true := fun h9 => hts _ (hT _ h9)
  intro n
  induction n with
  | zero =>
    intro x38 x39 x40 x41 x42 h43 H locs ls w
    exact absurd w (by intro z9; exact z9)
  | succ n ih =>
    intro x38 x39 x40 x41 x42 h43 H locs ls w hm hW hl
    unfold lp_MO_half_61 at w
    refine lv_iload hx hb d_MO_half_61 (lv_at hl 4 rfl) ?_
    refine lv_if_le (tgt := 100) hx hb d_MO_half_63 (by decide) (fun c44 => ?_) (fun c44 => ?_)
    · have w := w.1 c44
      exact hc_xt_100 x38 x39 x40 x41 h43 _ _ _ w hm hW (lv_sub hl [0, 1, 2, 3] rfl)
    · have w := w.2 c44
      refine lv_aload_n hx hb d_MO_half_66 rfl (lv_at hl 0 rfl) ?_
      refine lv_bipush (v := 13) hx hb d_MO_half_67 (by decide) ?_
      refine lv_iconst (v := 1) hx hb d_MO_half_69 (by decide) ?_
      refine lv_iload hx hb d_MO_half_70 (lv_at hl 4 rfl) ?_
      refine lv_bipush (v := 13) hx hb d_MO_half_72 (by decide) ?_
      refine lv_icmp_ge (tgt := 82) hx hb d_MO_half_74 (by decide) (fun c45 => ?_) (fun c45 => ?_)
      · have w := w.1 c45
        refine lv_bipush (v := 13) hx hb d_MO_half_82 (by decide) ?_
        exact tb_MO_half_84 C (by omega) (by omega) ih x38 x39 x40 x41 x42 (13 : Int32) (1 : Int32) (13 : Int32) x38 h43 _ _ _ w hm hW (lv_sub hl [0, 1, 2, 3, 4] rfl)
      · have w := w.2 c45
        refine lv_iload hx hb d_MO_half_77 (lv_at hl 4 rfl) ?_
        refine lv_goto (tgt := 84) hx hb d_MO_half_79 (by decide) ?_
        exact tb_MO_half_84 C (by omega) (by omega) ih x38 x39 x40 x41 x42 x42 (1 : Int32) (13 : Int32) x38 h43 _ _ _ w hm hW (lv_sub hl [0, 1, 2, 3, 4] rfl)
set_option maxHeartbeats 4000000 in
set_option maxRecDepth 100000 in
theorem tb_MO_half_162 {p : Program} {l : Launch} {e : Env} {s : State} {m : MethodId} {args : Array Value} {below : List Frame} {meth : Method} {c : Code} {G : zG} (C : cx_C p l s m args meth c G y_MO_half b_MO_half 7 none "BigDeskModel" (Cond.code y_MO_half b_MO_half 7 none :: zx_T) []) {K : ah_H → Prop} {h0 : ah_H} {cells slots : Nat} (hcl : cells + 0 ≤ 0) (hsl : slots + 0 ≤ 0)  (x75 : Nat) (x76 : Int32) (h77 : ah_H) (H : Heap) (locs : List Loc) (ls : Array Slot) (w : bk_MO_half_162 K x75 x76 h77) (hm : ah_m h0 h77) (hW : ah_W G s.heap h77 H locs) (hl : lv_has ls 7 [(0, .ref x75), (1, .int x76)]) : W p l e rm_MO_half s m args below meth c H locs cells slots (MQ below (va_Qv (fun h9 => K h9 ∧ ah_m h0 h9) (ah_B G) (fun q => G.2.2 ≤ q)) args s 0 0 (fun q => G.2.2 ≤ q)) (F0 m 162 ls []) := by
  unfold bk_MO_half_162 at w
  obtain ⟨hx, hb, hr, hml, hown, hts, hT, hlk, hK, hX, htb, hin, hst⟩ := id C
  have hw : ∀ {w9 : Cond}, w9 ∈ zx_T → w9.before _ s = true := fun h9 => hts _ (hT _ h9)
  refine lv_aload_n hx hb d_MO_half_162 rfl (lv_at hl 0 rfl) ?_
  refine lv_iload_n hx hb d_MO_half_163 rfl (lv_at hl 1 rfl) ?_
  refine lv_bipush (v := 13) hx hb d_MO_half_164 (by decide) ?_
  obtain ⟨t78, w⟩ := w
  refine hb_callv (va_runV (As := [.int x76, .int (13 : Int32)]) (rest := []) ⟨hx, hb, hml, hown, hts⟩ (m_MO_copyRow G x75 x76 (13 : Int32) h77 hst w) (cwV 2 hts (zx_gV hT wd_691 wd_693 wd_s16 wd_5 wd_694) rfl rfl rfl (by decide +kernel) ⟨Nat.le_of_ble_eq_true rfl, Nat.le_of_ble_eq_true rfl⟩) (hb_preV hK hX hW t78 (by decide) rfl) rfl rfl hl.1 rfl (lv_room (Nat.le_of_ble_eq_true rfl)) d_MO_half_166 ⟨(by show _ ≤ 0; omega), (by show _ ≤ 0; omega)⟩) hW (fun h79 H locs hk hW => ?_)
  obtain ⟨w, mm80⟩ := hk
  have w := w mm80
  have hm := hm.tr mm80
  have t81 := mm80.tg t78 (by decide)
  exact hb_vret (K := fun h9 => K h9 ∧ ah_m h0 h9) hx hb hr hlk hK hX hW ⟨w, hm⟩ (by omega) (by omega) d_MO_half_169
set_option maxHeartbeats 4000000 in
set_option maxRecDepth 100000 in
theorem tb_MO_half_145 {p : Program} {l : Launch} {e : Env} {s : State} {m : MethodId} {args : Array Value} {below : List Frame} {meth : Method} {c : Code} {G : zG} (C : cx_C p l s m args meth c G y_MO_half b_MO_half 7 none "BigDeskModel" (Cond.code y_MO_half b_MO_half 7 none :: zx_T) []) {K : ah_H → Prop} {h0 : ah_H} {cells slots : Nat} (hcl : cells + 0 ≤ 0) (hsl : slots + 0 ≤ 0)  (x101 : Nat) (x102 : Int32) (h103 : ah_H) (H : Heap) (locs : List Loc) (ls : Array Slot) (w : bk_MO_half_145 K x101 x102 h103) (hm : ah_m h0 h103) (hW : ah_W G s.heap h103 H locs) (hl : lv_has ls 7 [(0, .ref x101), (1, .int x102)]) : W p l e rm_MO_half s m args below meth c H locs cells slots (MQ below (va_Qv (fun h9 => K h9 ∧ ah_m h0 h9) (ah_B G) (fun q => G.2.2 ≤ q)) args s 0 0 (fun q => G.2.2 ≤ q)) (F0 m 145 ls []) := by
  unfold bk_MO_half_145 at w
  obtain ⟨hx, hb, hr, hml, hown, hts, hT, hlk, hK, hX, htb, hin, hst⟩ := id C
  have hw : ∀ {w9 : Cond}, w9 ∈ zx_T → w9.before _ s = true := fun h9 => hts _ (hT _ h9)
  refine lv_aload_n hx hb d_MO_half_145 rfl (lv_at hl 0 rfl) ?_
  refine lv_bipush (v := 13) hx hb d_MO_half_146 (by decide) ?_
  refine lv_bipush (v := 14) hx hb d_MO_half_148 (by decide) ?_
  refine lv_iconst (v := 1) hx hb d_MO_half_150 (by decide) ?_
  obtain ⟨t104, w⟩ := w
  refine hb_callv (va_runV (As := [.int (13 : Int32), .int (14 : Int32), .int (1 : Int32)]) (rest := []) ⟨hx, hb, hml, hown, hts⟩ (m_MO_sum G x101 (13 : Int32) (14 : Int32) (1 : Int32) h103 hst w) (cwV 3 hts (zx_gV hT wd_699 wd_701 wd_s17 wd_5 wd_702) rfl rfl rfl (by decide +kernel) ⟨Nat.le_of_ble_eq_true rfl, Nat.le_of_ble_eq_true rfl⟩) (hb_preV hK hX hW t104 (by decide) rfl) rfl rfl hl.1 rfl (lv_room (Nat.le_of_ble_eq_true rfl)) d_MO_half_151 ⟨(by show _ ≤ 0; omega), (by show _ ≤ 0; omega)⟩) hW (fun h105 H locs hk hW => ?_)
  obtain ⟨w, mm106⟩ := hk
  have w := w mm106
  have hm := hm.tr mm106
  have t107 := mm106.tg t104 (by decide)
  refine lv_aload_n hx hb d_MO_half_154 rfl (lv_at hl 0 rfl) ?_
  refine lv_iload_n hx hb d_MO_half_155 rfl (lv_at hl 1 rfl) ?_
  refine lv_bipush (v := 17) hx hb d_MO_half_156 (by decide) ?_
  refine hb_callv (va_runV (As := [.int x102, .int (17 : Int32)]) (rest := []) ⟨hx, hb, hml, hown, hts⟩ (m_MO_copyRow G x101 x102 (17 : Int32) h105 hst w) (cwV 2 hts (zx_gV hT wd_691 wd_693 wd_s16 wd_5 wd_694) rfl rfl rfl (by decide +kernel) ⟨Nat.le_of_ble_eq_true rfl, Nat.le_of_ble_eq_true rfl⟩) (hb_preV hK hX hW t107 (by decide) rfl) rfl rfl hl.1 rfl (lv_room (Nat.le_of_ble_eq_true rfl)) d_MO_half_158 ⟨(by show _ ≤ 0; omega), (by show _ ≤ 0; omega)⟩) hW (fun h108 H locs hk hW => ?_)
  obtain ⟨w, mm109⟩ := hk
  have w := w mm109
  have hm := hm.tr mm109
  have t110 := mm109.tg t107 (by decide)
  exact hb_vret (K := fun h9 => K h9 ∧ ah_m h0 h9) hx hb hr hlk hK hX hW ⟨w, hm⟩ (by omega) (by omega) d_MO_half_161
set_option maxHeartbeats 4000000 in
set_option maxRecDepth 100000 in
theorem tb_MO_half_32 {p : Program} {l : Launch} {e : Env} {s : State} {m : MethodId} {args : Array Value} {below : List Frame} {meth : Method} {c : Code} {G : zG} (C : cx_C p l s m args meth c G y_MO_half b_MO_half 7 none "BigDeskModel" (Cond.code y_MO_half b_MO_half 7 none :: zx_T) []) {K : ah_H → Prop} {h0 : ah_H} {cells slots : Nat} (hcl : cells + 0 ≤ 0) (hsl : slots + 0 ≤ 0)  (x15 : Nat) (x16 : Int32) (x17 : Int32) (x18 : Int32) (s19 : Int32) (s20 : Nat) (h21 : ah_H) (H : Heap) (locs : List Loc) (ls : Array Slot) (w : bk_MO_half_32 K x15 x16 x17 x18 s19 s20 h21) (hm : ah_m h0 h21) (hW : ah_W G s.heap h21 H locs) (hl : lv_has ls 7 [(0, .ref x15), (1, .int x16), (2, .int x17), (3, .int x18)]) : W p l e rm_MO_half s m args below meth c H locs cells slots (MQ below (va_Qv (fun h9 => K h9 ∧ ah_m h0 h9) (ah_B G) (fun q => G.2.2 ≤ q)) args s 0 0 (fun q => G.2.2 ≤ q)) (F0 m 32 ls [.int s19, .ref s20]) := by
  unfold bk_MO_half_32 at w
  obtain ⟨hx, hb, hr, hml, hown, hts, hT, hlk, hK, hX, htb, hin, hst⟩ := id C
  have hw : ∀ {w9 : Cond}, w9 ∈ zx_T → w9.before _ s = true := fun h9 => hts _ (hT _ h9)
  refine lv_iconst (v := 1) hx hb d_MO_half_32 (by decide) ?_
  obtain ⟨t22, w⟩ := w
  refine hb_calli (va_runV (As := [.int s19, .int (1 : Int32)]) (rest := []) ⟨hx, hb, hml, hown, hts⟩ (m_MO_fails G s20 s19 (1 : Int32) h21 hst w) (cwV 2 hts (zx_gV hT wd_683 wd_685 wd_s15 wd_5 wd_686) rfl rfl rfl (by decide +kernel) ⟨Nat.le_of_ble_eq_true rfl, Nat.le_of_ble_eq_true rfl⟩) (hb_preV hK hX hW t22 (by decide) rfl) rfl rfl hl.1 rfl (lv_room (Nat.le_of_ble_eq_true rfl)) d_MO_half_33 ⟨(by show _ ≤ 0; omega), (by show _ ≤ 0; omega)⟩) hW (fun r24 h23 H locs hk hW => ?_)
  obtain ⟨w, mm25⟩ := hk
  have w := w mm25
  have hm := hm.tr mm25
  have t26 := mm25.tg t22 (by decide)
  refine lv_if_eq (tgt := 40) hx hb d_MO_half_36 (by decide) (fun c27 => ?_) (fun c27 => ?_)
  · have w := w.1 c27
    refine lv_aload_n hx hb d_MO_half_40 rfl (lv_at hl 0 rfl) ?_
    refine lv_bipush (v := 13) hx hb d_MO_half_41 (by decide) ?_
    refine lv_iload_n hx hb d_MO_half_43 rfl (lv_at hl 2 rfl) ?_
    obtain ⟨t28, w⟩ := w
    refine hb_callv (va_runV (As := [.int (13 : Int32), .int x17]) (rest := []) ⟨hx, hb, hml, hown, hts⟩ (m_MO_copyRow G x15 (13 : Int32) x17 h23 hst w) (cwV 2 hts (zx_gV hT wd_691 wd_693 wd_s16 wd_5 wd_694) rfl rfl rfl (by decide +kernel) ⟨Nat.le_of_ble_eq_true rfl, Nat.le_of_ble_eq_true rfl⟩) (hb_preV hK hX hW t28 (by decide) rfl) rfl rfl hl.1 rfl (lv_room (Nat.le_of_ble_eq_true rfl)) d_MO_half_44 ⟨(by show _ ≤ 0; omega), (by show _ ≤ 0; omega)⟩) hW (fun h29 H locs hk hW => ?_)
    obtain ⟨w, mm30⟩ := hk
    have w := w mm30
    have hm := hm.tr mm30
    have t31 := mm30.tg t26 (by decide)
    have t32 := mm30.tg t28 (by decide)
    refine lv_aload_n hx hb d_MO_half_47 rfl (lv_at hl 0 rfl) ?_
    obtain ⟨q33, e34, w⟩ := w
    refine hb_get (ci := 4) (C := "BigDeskModel") (T := T_MO) (N := 8) hx hb hts (fun w9 h9 => hT w9 (u_MO w9 h9)) hown hK hW t32 rfl (by decide) 3 (by decide) (hw wd_649) (fun _ h9 => h9) (q := (2, 15)) rfl (v := .ref q33) (ah_f_R e34) d_MO_half_48 ?_
    refine lv_iload_n hx hb d_MO_half_51 rfl (lv_at hl 2 rfl) ?_
    obtain ⟨t35, w⟩ := w
    obtain ⟨i36, w⟩ := w
    refine hb_iald hx hb hK hW t35 (by decide) (by decide) 0 rfl i36 d_MO_half_52 ?_
    refine lv_topi (fun v37 ev37 => ?_)
    have w := w v37 ev37
    refine lv_istore (lv' := [(4, .int v37), (0, .ref x15), (1, .int x16), (2, .int x17), (3, .int x18)]) hx hb d_MO_half_53 hl (by decide) rfl (fun ls hl => ?_)
    refine lv_iconst (v := 0) hx hb d_MO_half_55 (by decide) ?_
    refine lv_istore (lv' := [(5, .int (0 : Int32)), (4, .int v37), (0, .ref x15), (1, .int x16), (2, .int x17), (3, .int x18)]) hx hb d_MO_half_56 hl (by decide) rfl (fun ls hl => ?_)
    refine lv_iload_n hx hb d_MO_half_58 rfl (lv_at hl 5 rfl) ?_
    refine lv_istore (lv' := [(6, .int x18), (5, .int (0 : Int32)), (4, .int v37), (0, .ref x15), (1, .int x16), (2, .int x17), (3, .int x18)]) hx hb d_MO_half_59 hl (by decide) rfl (fun ls hl => ?_)
    obtain ⟨k121, w⟩ := w
    refine tl_MO_half_61 C (by omega) (by omega) (fun x69 x70 x71 x72 h73 H locs ls w hm hW hl => ?_) k121 x15 x16 v37 (0 : Int32) x18 h29 _ _ _ w hm hW (lv_sub hl [3, 4, 2, 1, 0] rfl)
    · refine lv_iload hx hb d_MO_half_100 (lv_at hl 2 rfl) ?_
      refine lv_if_ge (tgt := 162) hx hb d_MO_half_102 (by decide) (fun c74 => ?_) (fun c74 => ?_)
      · have w := w.1 c74
        exact tb_MO_half_162 C (by omega) (by omega)  x69 x70 h73 _ _ _ w hm hW (lv_sub hl [0, 1] rfl)
      · have w := w.2 c74
        refine lv_iload hx hb d_MO_half_105 (lv_at hl 3 rfl) ?_
        refine lv_if_eq (tgt := 162) hx hb d_MO_half_107 (by decide) (fun c82 => ?_) (fun c82 => ?_)
        · have w := w.1 c82
          exact tb_MO_half_162 C (by omega) (by omega)  x69 x70 h73 _ _ _ w hm hW (lv_sub hl [0, 1] rfl)
        · have w := w.2 c82
          refine lv_aload_n hx hb d_MO_half_110 rfl (lv_at hl 0 rfl) ?_
          obtain ⟨t83, w⟩ := w
          obtain ⟨q84, e85, w⟩ := w
          refine hb_get (ci := 4) (C := "BigDeskModel") (T := T_MO) (N := 8) hx hb hts (fun w9 h9 => hT w9 (u_MO w9 h9)) hown hK hW t83 rfl (by decide) 3 (by decide) (hw wd_649) (fun _ h9 => h9) (q := (2, 15)) rfl (v := .ref q84) (ah_f_R e85) d_MO_half_111 ?_
          refine lv_bipush (v := 13) hx hb d_MO_half_114 (by decide) ?_
          refine lv_iconst (v := -1) hx hb d_MO_half_116 (by decide) ?_
          obtain ⟨t86, w⟩ := w
          obtain ⟨i87, w⟩ := w
          refine hb_iast hx hb hK hW t86 (by decide) (by decide) 0 rfl i87 d_MO_half_117 (fun H locs h88 eh88 hW => ?_)
          have w := w h88 eh88
          have mm89 : ah_m h73 h88 := ah_m.rf.st (by rw [eh88]; rfl) (by rw [eh88]; rfl)
          have hm := hm.tr mm89
          have t90 := mm89.tg t83 (by decide)
          have t91 := mm89.tg t86 (by decide)
          refine lv_aload_n hx hb d_MO_half_118 rfl (lv_at hl 0 rfl) ?_
          refine lv_bipush (v := 14) hx hb d_MO_half_119 (by decide) ?_
          refine lv_ldc2 (v := -1) hx hb hown (hw wd_751) d_MO_half_121 ?_
          refine hb_callv (va_runV (As := [.int (14 : Int32), .long (-1 : Int64)]) (rest := []) ⟨hx, hb, hml, hown, hts⟩ (m_MO_setRow G x69 (14 : Int32) (-1 : Int64) h88 hst w) (cwV 2 hts (zx_gV hT wd_633 wd_635 wd_s12 wd_5 wd_636) rfl rfl rfl (by decide +kernel) ⟨Nat.le_of_ble_eq_true rfl, Nat.le_of_ble_eq_true rfl⟩) (hb_preV hK hX hW t90 (by decide) rfl) rfl rfl hl.1 rfl (lv_room (Nat.le_of_ble_eq_true rfl)) d_MO_half_124 ⟨(by show _ ≤ 0; omega), (by show _ ≤ 0; omega)⟩) hW (fun h92 H locs hk hW => ?_)
          obtain ⟨w, mm93⟩ := hk
          have w := w mm93
          have hm := hm.tr mm93
          have t94 := mm93.tg t90 (by decide)
          have t95 := mm93.tg t91 (by decide)
          refine lv_aload_n hx hb d_MO_half_127 rfl (lv_at hl 0 rfl) ?_
          obtain ⟨q96, e97, w⟩ := w
          refine hb_get (ci := 4) (C := "BigDeskModel") (T := T_MO) (N := 8) hx hb hts (fun w9 h9 => hT w9 (u_MO w9 h9)) hown hK hW t94 rfl (by decide) 2 (by decide) (hw wd_648) (fun _ h9 => h9) (q := (2, 14)) rfl (v := .ref q96) (ah_f_R e97) d_MO_half_128 ?_
          refine lv_bipush (v := 13) hx hb d_MO_half_131 (by decide) ?_
          obtain ⟨t98, w⟩ := w
          obtain ⟨i99, w⟩ := w
          refine hb_iald hx hb hK hW t98 (by decide) (by decide) 0 rfl i99 d_MO_half_133 ?_
          refine lv_if_ne (tgt := 145) hx hb d_MO_half_134 (by decide) (fun c100 => ?_) (fun c100 => ?_)
          · have w := w.1 c100
            exact tb_MO_half_145 C (by omega) (by omega)  x69 x70 h92 _ _ _ w hm hW (lv_sub hl [0, 1] rfl)
          · have w := w.2 c100
            refine lv_aload_n hx hb d_MO_half_137 rfl (lv_at hl 0 rfl) ?_
            obtain ⟨q111, e112, w⟩ := w
            refine hb_get (ci := 4) (C := "BigDeskModel") (T := T_MO) (N := 8) hx hb hts (fun w9 h9 => hT w9 (u_MO w9 h9)) hown hK hW t94 rfl (by decide) 3 (by decide) (hw wd_649) (fun _ h9 => h9) (q := (2, 15)) rfl (v := .ref q111) (ah_f_R e112) d_MO_half_138 ?_
            refine lv_bipush (v := 13) hx hb d_MO_half_141 (by decide) ?_
            refine lv_iconst (v := 0) hx hb d_MO_half_143 (by decide) ?_
            obtain ⟨t113, w⟩ := w
            obtain ⟨i114, w⟩ := w
            refine hb_iast hx hb hK hW t113 (by decide) (by decide) 0 rfl i114 d_MO_half_144 (fun H locs h115 eh115 hW => ?_)
            have w := w h115 eh115
            have mm116 : ah_m h92 h115 := ah_m.rf.st (by rw [eh115]; rfl) (by rw [eh115]; rfl)
            have hm := hm.tr mm116
            have t117 := mm116.tg t94 (by decide)
            have t118 := mm116.tg t95 (by decide)
            have t119 := mm116.tg t98 (by decide)
            have t120 := mm116.tg t113 (by decide)
            exact tb_MO_half_145 C (by omega) (by omega)  x69 x70 h115 _ _ _ w hm hW (lv_sub hl [0, 1] rfl)
  · have w := w.2 c27
    exact hb_vret (K := fun h9 => K h9 ∧ ah_m h0 h9) hx hb hr hlk hK hX hW ⟨w, hm⟩ (by omega) (by omega) d_MO_half_39
set_option maxHeartbeats 4000000 in
set_option maxRecDepth 100000 in
theorem tb_MO_half_27 {p : Program} {l : Launch} {e : Env} {s : State} {m : MethodId} {args : Array Value} {below : List Frame} {meth : Method} {c : Code} {G : zG} (C : cx_C p l s m args meth c G y_MO_half b_MO_half 7 none "BigDeskModel" (Cond.code y_MO_half b_MO_half 7 none :: zx_T) []) {K : ah_H → Prop} {h0 : ah_H} {cells slots : Nat} (hcl : cells + 0 ≤ 0) (hsl : slots + 0 ≤ 0)  (x9 : Nat) (x10 : Int32) (x11 : Int32) (x12 : Int32) (s13 : Nat) (h14 : ah_H) (H : Heap) (locs : List Loc) (ls : Array Slot) (w : bk_MO_half_27 K x9 x10 x11 x12 s13 h14) (hm : ah_m h0 h14) (hW : ah_W G s.heap h14 H locs) (hl : lv_has ls 7 [(0, .ref x9), (1, .int x10), (2, .int x11), (3, .int x12)]) : W p l e rm_MO_half s m args below meth c H locs cells slots (MQ below (va_Qv (fun h9 => K h9 ∧ ah_m h0 h9) (ah_B G) (fun q => G.2.2 ≤ q)) args s 0 0 (fun q => G.2.2 ≤ q)) (F0 m 27 ls [.ref s13]) := by
  unfold bk_MO_half_27 at w
  obtain ⟨hx, hb, hr, hml, hown, hts, hT, hlk, hK, hX, htb, hin, hst⟩ := id C
  have hw : ∀ {w9 : Cond}, w9 ∈ zx_T → w9.before _ s = true := fun h9 => hts _ (hT _ h9)
  refine lv_iconst (v := 1) hx hb d_MO_half_27 (by decide) ?_
  refine lv_goto (tgt := 32) hx hb d_MO_half_28 (by decide) ?_
  exact tb_MO_half_32 C (by omega) (by omega)  x9 x10 x11 x12 (1 : Int32) s13 h14 _ _ _ w hm hW (lv_sub hl [0, 1, 2, 3] rfl)
set_option maxHeartbeats 4000000 in
set_option maxRecDepth 100000 in
theorem m_MO_half {l : Launch} (G : zG) (a1 : Nat) (a2 : Int32) (a3 : Int32) (a4 : Int32) (h0 : ah_H) {K : ah_H → Prop} (hst : l.stackTraces = false) (w : w_MO_half a1 a2 a3 a4 h0 K) : Met l y_MO_half (Cond.code y_MO_half b_MO_half 7 none :: zx_T) rm_MO_half (va_Pc [.ref a1, .int a2, .int a3, .int a4] (ah_B G h0)) (va_Qv (fun h9 => K h9 ∧ ah_m h0 h9) (ah_B G) (fun q => G.2.2 ≤ q)) 0 0 (fun q => G.2.2 ≤ q) := by
  refine Met.ofW (cc := b_MO_half) (maxL := 7) (ret := none) (by decide) rfl ?_
  intro p e s m args below meth c s₁ B hml hv
  have htb := cx_out B (atoms_spec B.pre _ List.mem_cons_self)
  obtain ⟨rfl, hB⟩ := hv
  have C : cx_C p l s m _ meth c G y_MO_half b_MO_half 7 none "BigDeskModel" (Cond.code y_MO_half b_MO_half 7 none :: zx_T) [] := ⟨B.exec, B.bytes, B.returns, hml, findClass_of_methodNamed B.named, atoms_spec B.pre, cx_hd, B.notSynchronized, hB.2.2.1, hB.2.2.2, htb, fun z9 => (name_of_methodNamed B.named B.method).1.trans z9, hst⟩
  obtain ⟨hx, hb, hr, hml, hown, hts, hT, hlk, hK, hX, htb, hin, hst⟩ := id C
  have hw : ∀ {w9 : Cond}, w9 ∈ zx_T → w9.before _ s = true := fun h9 => hts _ (hT _ h9)
  have hW : ah_W G s.heap h0 s.heap [] := ⟨hB.1, hB.2.1, va_S.rf⟩
  have hm : ah_m h0 h0 := ah_m.rf
  have hcl : 0 + 0 ≤ 0 := by decide
  have hsl : 0 + 0 ≤ 0 := by decide
  have hl := lv_entry ([.ref a1, .int a2, .int a3, .int a4]) (n := 7) (Nat.le_of_ble_eq_true rfl)
  rw [lg_entry_eq]
  generalize (lg_sl ([.ref a1, .int a2, .int a3, .int a4]) ++ List.replicate (7 - (lg_sl ([.ref a1, .int a2, .int a3, .int a4])).length) Slot.unset).toArray = ls at hl ⊢
  have hl : lv_has ls 7 [(0, .ref a1), (1, .int a2), (2, .int a3), (3, .int a4)] := hl
  unfold w_MO_half at w
  refine lv_aload_n hx hb d_MO_half_0 rfl (lv_at hl 0 rfl) ?_
  refine lv_iload_n hx hb d_MO_half_1 rfl (lv_at hl 1 rfl) ?_
  refine hb_calli (va_runS (As := [.int a2]) (rest := [.ref a1]) ⟨hx, hb, hml, hown, hts⟩ (m_MO_isNone G a2 h0 hst w) (va_cwS 1 hts (zx_gS hT wd_680 wd_681 wd_5 wd_682) rfl rfl rfl (by decide +kernel) ⟨Nat.le_of_ble_eq_true rfl, Nat.le_of_ble_eq_true rfl⟩) (hb_preS hK hX hW) rfl rfl hl.1 rfl (lv_room (Nat.le_of_ble_eq_true rfl)) d_MO_half_2 ⟨(by show _ ≤ 0; omega), (by show _ ≤ 0; omega)⟩) hW (fun r6 h5 H locs hk hW => ?_)
  obtain ⟨w, mm7⟩ := hk
  have w := w mm7
  have hm := hm.tr mm7
  refine lv_if_ne (tgt := 27) hx hb d_MO_half_5 (by decide) (fun c8 => ?_) (fun c8 => ?_)
  · have w := w.1 c8
    exact tb_MO_half_27 C (by omega) (by omega)  a1 a2 a3 a4 a1 h5 _ _ _ w hm hW (lv_sub hl [0, 1, 2, 3] rfl)
  · have w := w.2 c8
    refine lv_iload_n hx hb d_MO_half_8 rfl (lv_at hl 2 rfl) ?_
    refine hb_calli (va_runS (As := [.int a3]) (rest := [.ref a1]) ⟨hx, hb, hml, hown, hts⟩ (m_MO_isNone G a3 h5 hst w) (va_cwS 1 hts (zx_gS hT wd_680 wd_681 wd_5 wd_682) rfl rfl rfl (by decide +kernel) ⟨Nat.le_of_ble_eq_true rfl, Nat.le_of_ble_eq_true rfl⟩) (hb_preS hK hX hW) rfl rfl hl.1 rfl (lv_room (Nat.le_of_ble_eq_true rfl)) d_MO_half_9 ⟨(by show _ ≤ 0; omega), (by show _ ≤ 0; omega)⟩) hW (fun r123 h122 H locs hk hW => ?_)
    obtain ⟨w, mm124⟩ := hk
    have w := w mm124
    have hm := hm.tr mm124
    refine lv_if_ne (tgt := 27) hx hb d_MO_half_12 (by decide) (fun c125 => ?_) (fun c125 => ?_)
    · have w := w.1 c125
      exact tb_MO_half_27 C (by omega) (by omega)  a1 a2 a3 a4 a1 h122 _ _ _ w hm hW (lv_sub hl [0, 1, 2, 3] rfl)
    · have w := w.2 c125
      refine lv_iload_n hx hb d_MO_half_15 rfl (lv_at hl 3 rfl) ?_
      refine lv_i2l hx hb d_MO_half_16 rfl ?_
      refine lv_lconst (v := 0) hx hb d_MO_half_17 (by decide) ?_
      refine lv_ldc2 (v := 8192) hx hb hown (hw wd_739) d_MO_half_18 ?_
      refine hb_calli (va_runS (As := [.long a4.toInt64, .long (0 : Int64), .long (8192 : Int64)]) (rest := [.ref a1]) ⟨hx, hb, hml, hown, hts⟩ (m_MO_in G a4.toInt64 (0 : Int64) (8192 : Int64) h122 hst w) (va_cwS 3 hts (zx_gS hT wd_740 wd_741 wd_5 wd_742) rfl rfl rfl (by decide +kernel) ⟨Nat.le_of_ble_eq_true rfl, Nat.le_of_ble_eq_true rfl⟩) (hb_preS hK hX hW) rfl rfl hl.1 rfl (lv_room (Nat.le_of_ble_eq_true rfl)) d_MO_half_21 ⟨(by show _ ≤ 0; omega), (by show _ ≤ 0; omega)⟩) hW (fun r127 h126 H locs hk hW => ?_)
      obtain ⟨w, mm128⟩ := hk
      have w := w mm128
      have hm := hm.tr mm128
      refine lv_if_ne (tgt := 31) hx hb d_MO_half_24 (by decide) (fun c129 => ?_) (fun c129 => ?_)
      · have w := w.1 c129
        refine lv_iconst (v := 0) hx hb d_MO_half_31 (by decide) ?_
        exact tb_MO_half_32 C (by omega) (by omega)  a1 a2 a3 a4 (0 : Int32) a1 h126 _ _ _ w hm hW (lv_sub hl [0, 1, 2, 3] rfl)
      · have w := w.2 c129
        exact tb_MO_half_27 C (by omega) (by omega)  a1 a2 a3 a4 a1 h126 _ _ _ w hm hW (lv_sub hl [0, 1, 2, 3] rfl)
set_option maxHeartbeats 4000000 in
set_option maxRecDepth 100000 in
theorem tb_MO_divide_73 {p : Program} {l : Launch} {e : Env} {s : State} {m : MethodId} {args : Array Value} {below : List Frame} {meth : Method} {c : Code} {G : zG} (C : cx_C p l s m args meth c G y_MO_divide b_MO_divide 8 none "BigDeskModel" (Cond.code y_MO_divide b_MO_divide 8 none :: zx_T) []) {K : ah_H → Prop} {h0 : ah_H} {cells slots : Nat} (hcl : cells + 0 ≤ 0) (hsl : slots + 0 ≤ 0)   (h31 : ah_H) (H : Heap) (locs : List Loc) (ls : Array Slot) (w : bk_MO_divide_73 K h31) (hm : ah_m h0 h31) (hW : ah_W G s.heap h31 H locs) (hl : lv_has ls 8 []) : W p l e rm_MO_divide s m args below meth c H locs cells slots (MQ below (va_Qv (fun h9 => K h9 ∧ ah_m h0 h9) (ah_B G) (fun q => G.2.2 ≤ q)) args s 0 0 (fun q => G.2.2 ≤ q)) (F0 m 73 ls []) := by
  unfold bk_MO_divide_73 at w
  obtain ⟨hx, hb, hr, hml, hown, hts, hT, hlk, hK, hX, htb, hin, hst⟩ := id C
  have hw : ∀ {w9 : Cond}, w9 ∈ zx_T → w9.before _ s = true := fun h9 => hts _ (hT _ h9)
  exact hb_vret (K := fun h9 => K h9 ∧ ah_m h0 h9) hx hb hr hlk hK hX hW ⟨w, hm⟩ (by omega) (by omega) d_MO_divide_73
set_option maxHeartbeats 4000000 in
set_option maxRecDepth 100000 in
theorem tb_MO_divide_229 {p : Program} {l : Launch} {e : Env} {s : State} {m : MethodId} {args : Array Value} {below : List Frame} {meth : Method} {c : Code} {G : zG} (C : cx_C p l s m args meth c G y_MO_divide b_MO_divide 8 none "BigDeskModel" (Cond.code y_MO_divide b_MO_divide 8 none :: zx_T) []) {K : ah_H → Prop} {h0 : ah_H} {cells slots : Nat} (hcl : cells + 0 ≤ 0) (hsl : slots + 0 ≤ 0)  (x112 : Nat) (x113 : Int32) (x114 : Int32) (h115 : ah_H) (H : Heap) (locs : List Loc) (ls : Array Slot) (w : bk_MO_divide_229 K x112 x113 x114 h115) (hm : ah_m h0 h115) (hW : ah_W G s.heap h115 H locs) (hl : lv_has ls 8 [(0, .ref x112), (1, .int x113), (2, .int x114)]) : W p l e rm_MO_divide s m args below meth c H locs cells slots (MQ below (va_Qv (fun h9 => K h9 ∧ ah_m h0 h9) (ah_B G) (fun q => G.2.2 ≤ q)) args s 0 0 (fun q => G.2.2 ≤ q)) (F0 m 229 ls []) := by
  unfold bk_MO_divide_229 at w
  obtain ⟨hx, hb, hr, hml, hown, hts, hT, hlk, hK, hX, htb, hin, hst⟩ := id C
  have hw : ∀ {w9 : Cond}, w9 ∈ zx_T → w9.before _ s = true := fun h9 => hts _ (hT _ h9)
  refine lv_aload_n hx hb d_MO_divide_229 rfl (lv_at hl 0 rfl) ?_
  refine lv_iload_n hx hb d_MO_divide_230 rfl (lv_at hl 1 rfl) ?_
  refine lv_bipush (v := 15) hx hb d_MO_divide_231 (by decide) ?_
  obtain ⟨t116, w⟩ := w
  refine hb_callv (va_runV (As := [.int x113, .int (15 : Int32)]) (rest := []) ⟨hx, hb, hml, hown, hts⟩ (m_MO_copyRow G x112 x113 (15 : Int32) h115 hst w) (cwV 2 hts (zx_gV hT wd_691 wd_693 wd_s16 wd_5 wd_694) rfl rfl rfl (by decide +kernel) ⟨Nat.le_of_ble_eq_true rfl, Nat.le_of_ble_eq_true rfl⟩) (hb_preV hK hX hW t116 (by decide) rfl) rfl rfl hl.1 rfl (lv_room (Nat.le_of_ble_eq_true rfl)) d_MO_divide_233 ⟨(by show _ ≤ 0; omega), (by show _ ≤ 0; omega)⟩) hW (fun h117 H locs hk hW => ?_)
  obtain ⟨w, mm118⟩ := hk
  have w := w mm118
  have hm := hm.tr mm118
  have t119 := mm118.tg t116 (by decide)
  refine lv_aload_n hx hb d_MO_divide_236 rfl (lv_at hl 0 rfl) ?_
  refine lv_iload_n hx hb d_MO_divide_237 rfl (lv_at hl 2 rfl) ?_
  refine lv_bipush (v := 16) hx hb d_MO_divide_238 (by decide) ?_
  refine hb_callv (va_runV (As := [.int x114, .int (16 : Int32)]) (rest := []) ⟨hx, hb, hml, hown, hts⟩ (m_MO_copyRow G x112 x114 (16 : Int32) h117 hst w) (cwV 2 hts (zx_gV hT wd_691 wd_693 wd_s16 wd_5 wd_694) rfl rfl rfl (by decide +kernel) ⟨Nat.le_of_ble_eq_true rfl, Nat.le_of_ble_eq_true rfl⟩) (hb_preV hK hX hW t119 (by decide) rfl) rfl rfl hl.1 rfl (lv_room (Nat.le_of_ble_eq_true rfl)) d_MO_divide_240 ⟨(by show _ ≤ 0; omega), (by show _ ≤ 0; omega)⟩) hW (fun h120 H locs hk hW => ?_)
  obtain ⟨w, mm121⟩ := hk
  have w := w mm121
  have hm := hm.tr mm121
  have t122 := mm121.tg t119 (by decide)
  exact hb_vret (K := fun h9 => K h9 ∧ ah_m h0 h9) hx hb hr hlk hK hX hW ⟨w, hm⟩ (by omega) (by omega) d_MO_divide_243
set_option maxHeartbeats 4000000 in
set_option maxRecDepth 100000 in
theorem tb_MO_divide_209 {p : Program} {l : Launch} {e : Env} {s : State} {m : MethodId} {args : Array Value} {below : List Frame} {meth : Method} {c : Code} {G : zG} (C : cx_C p l s m args meth c G y_MO_divide b_MO_divide 8 none "BigDeskModel" (Cond.code y_MO_divide b_MO_divide 8 none :: zx_T) []) {K : ah_H → Prop} {h0 : ah_H} {cells slots : Nat} (hcl : cells + 0 ≤ 0) (hsl : slots + 0 ≤ 0)  (x106 : Nat) (x107 : Int32) (x108 : Int32) (x109 : Int32) (h110 : ah_H) (H : Heap) (locs : List Loc) (ls : Array Slot) (w : bk_MO_divide_209 K x106 x107 x108 x109 h110) (hm : ah_m h0 h110) (hW : ah_W G s.heap h110 H locs) (hl : lv_has ls 8 [(0, .ref x106), (1, .int x107), (2, .int x108), (6, .int x109)]) : W p l e rm_MO_divide s m args below meth c H locs cells slots (MQ below (va_Qv (fun h9 => K h9 ∧ ah_m h0 h9) (ah_B G) (fun q => G.2.2 ≤ q)) args s 0 0 (fun q => G.2.2 ≤ q)) (F0 m 209 ls []) := by
  unfold bk_MO_divide_209 at w
  obtain ⟨hx, hb, hr, hml, hown, hts, hT, hlk, hK, hX, htb, hin, hst⟩ := id C
  have hw : ∀ {w9 : Cond}, w9 ∈ zx_T → w9.before _ s = true := fun h9 => hts _ (hT _ h9)
  refine lv_iload hx hb d_MO_divide_209 (lv_at hl 3 rfl) ?_
  refine lv_if_ge (tgt := 229) hx hb d_MO_divide_211 (by decide) (fun c111 => ?_) (fun c111 => ?_)
  · have w := w.1 c111
    exact tb_MO_divide_229 C (by omega) (by omega)  x106 x107 x108 h110 _ _ _ w hm hW (lv_sub hl [0, 1, 2] rfl)
  · have w := w.2 c111
    refine lv_aload_n hx hb d_MO_divide_214 rfl (lv_at hl 0 rfl) ?_
    obtain ⟨t123, w⟩ := w
    obtain ⟨q124, e125, w⟩ := w
    refine hb_get (ci := 4) (C := "BigDeskModel") (T := T_MO) (N := 8) hx hb hts (fun w9 h9 => hT w9 (u_MO w9 h9)) hown hK hW t123 rfl (by decide) 3 (by decide) (hw wd_649) (fun _ h9 => h9) (q := (2, 15)) rfl (v := .ref q124) (ah_f_R e125) d_MO_divide_215 ?_
    refine lv_bipush (v := 16) hx hb d_MO_divide_218 (by decide) ?_
    refine lv_aload_n hx hb d_MO_divide_220 rfl (lv_at hl 0 rfl) ?_
    obtain ⟨q126, e127, w⟩ := w
    refine hb_get (ci := 4) (C := "BigDeskModel") (T := T_MO) (N := 8) hx hb hts (fun w9 h9 => hT w9 (u_MO w9 h9)) hown hK hW t123 rfl (by decide) 3 (by decide) (hw wd_649) (fun _ h9 => h9) (q := (2, 15)) rfl (v := .ref q126) (ah_f_R e127) d_MO_divide_221 ?_
    refine lv_bipush (v := 16) hx hb d_MO_divide_224 (by decide) ?_
    obtain ⟨t128, w⟩ := w
    obtain ⟨i129, w⟩ := w
    refine hb_iald hx hb hK hW t128 (by decide) (by decide) 0 rfl i129 d_MO_divide_226 ?_
    refine lv_ineg hx hb d_MO_divide_227 ?_
    refine lv_topi (fun v130 ev130 => ?_)
    have w := w v130 ev130
    obtain ⟨t131, w⟩ := w
    obtain ⟨i132, w⟩ := w
    refine hb_iast hx hb hK hW t131 (by decide) (by decide) 0 rfl i132 d_MO_divide_228 (fun H locs h133 eh133 hW => ?_)
    have w := w h133 eh133
    have mm134 : ah_m h110 h133 := ah_m.rf.st (by rw [eh133]; rfl) (by rw [eh133]; rfl)
    have hm := hm.tr mm134
    have t135 := mm134.tg t123 (by decide)
    have t136 := mm134.tg t128 (by decide)
    have t137 := mm134.tg t131 (by decide)
    exact tb_MO_divide_229 C (by omega) (by omega)  x106 x107 x108 h133 _ _ _ w hm hW (lv_sub hl [0, 1, 2] rfl)
set_option maxHeartbeats 4000000 in
set_option maxRecDepth 100000 in
theorem tb_MO_divide_189 {p : Program} {l : Launch} {e : Env} {s : State} {m : MethodId} {args : Array Value} {below : List Frame} {meth : Method} {c : Code} {G : zG} (C : cx_C p l s m args meth c G y_MO_divide b_MO_divide 8 none "BigDeskModel" (Cond.code y_MO_divide b_MO_divide 8 none :: zx_T) []) {K : ah_H → Prop} {h0 : ah_H} {cells slots : Nat} (hcl : cells + 0 ≤ 0) (hsl : slots + 0 ≤ 0)  (x99 : Nat) (x100 : Int32) (x101 : Int32) (x102 : Int32) (x103 : Int32) (h104 : ah_H) (H : Heap) (locs : List Loc) (ls : Array Slot) (w : bk_MO_divide_189 K x99 x100 x101 x102 x103 h104) (hm : ah_m h0 h104) (hW : ah_W G s.heap h104 H locs) (hl : lv_has ls 8 [(0, .ref x99), (1, .int x100), (2, .int x101), (6, .int x102), (7, .int x103)]) : W p l e rm_MO_divide s m args below meth c H locs cells slots (MQ below (va_Qv (fun h9 => K h9 ∧ ah_m h0 h9) (ah_B G) (fun q => G.2.2 ≤ q)) args s 0 0 (fun q => G.2.2 ≤ q)) (F0 m 189 ls []) := by
  unfold bk_MO_divide_189 at w
  obtain ⟨hx, hb, hr, hml, hown, hts, hT, hlk, hK, hX, htb, hin, hst⟩ := id C
  have hw : ∀ {w9 : Cond}, w9 ∈ zx_T → w9.before _ s = true := fun h9 => hts _ (hT _ h9)
  refine lv_iload hx hb d_MO_divide_189 (lv_at hl 4 rfl) ?_
  refine lv_if_eq (tgt := 209) hx hb d_MO_divide_191 (by decide) (fun c105 => ?_) (fun c105 => ?_)
  · have w := w.1 c105
    exact tb_MO_divide_209 C (by omega) (by omega)  x99 x100 x101 x102 h104 _ _ _ w hm hW (lv_sub hl [0, 1, 2, 3] rfl)
  · have w := w.2 c105
    refine lv_aload_n hx hb d_MO_divide_194 rfl (lv_at hl 0 rfl) ?_
    obtain ⟨t138, w⟩ := w
    obtain ⟨q139, e140, w⟩ := w
    refine hb_get (ci := 4) (C := "BigDeskModel") (T := T_MO) (N := 8) hx hb hts (fun w9 h9 => hT w9 (u_MO w9 h9)) hown hK hW t138 rfl (by decide) 3 (by decide) (hw wd_649) (fun _ h9 => h9) (q := (2, 15)) rfl (v := .ref q139) (ah_f_R e140) d_MO_divide_195 ?_
    refine lv_bipush (v := 15) hx hb d_MO_divide_198 (by decide) ?_
    refine lv_aload_n hx hb d_MO_divide_200 rfl (lv_at hl 0 rfl) ?_
    obtain ⟨q141, e142, w⟩ := w
    refine hb_get (ci := 4) (C := "BigDeskModel") (T := T_MO) (N := 8) hx hb hts (fun w9 h9 => hT w9 (u_MO w9 h9)) hown hK hW t138 rfl (by decide) 3 (by decide) (hw wd_649) (fun _ h9 => h9) (q := (2, 15)) rfl (v := .ref q141) (ah_f_R e142) d_MO_divide_201 ?_
    refine lv_bipush (v := 15) hx hb d_MO_divide_204 (by decide) ?_
    obtain ⟨t143, w⟩ := w
    obtain ⟨i144, w⟩ := w
    refine hb_iald hx hb hK hW t143 (by decide) (by decide) 0 rfl i144 d_MO_divide_206 ?_
    refine lv_ineg hx hb d_MO_divide_207 ?_
    refine lv_topi (fun v145 ev145 => ?_)
    have w := w v145 ev145
    obtain ⟨t146, w⟩ := w
    obtain ⟨i147, w⟩ := w
    refine hb_iast hx hb hK hW t146 (by decide) (by decide) 0 rfl i147 d_MO_divide_208 (fun H locs h148 eh148 hW => ?_)
    have w := w h148 eh148
    have mm149 : ah_m h104 h148 := ah_m.rf.st (by rw [eh148]; rfl) (by rw [eh148]; rfl)
    have hm := hm.tr mm149
    have t150 := mm149.tg t138 (by decide)
    have t151 := mm149.tg t143 (by decide)
    have t152 := mm149.tg t146 (by decide)
    exact tb_MO_divide_209 C (by omega) (by omega)  x99 x100 x101 x102 h148 _ _ _ w hm hW (lv_sub hl [0, 1, 2, 3] rfl)
set_option maxHeartbeats 4000000 in
set_option maxRecDepth 100000 in
theorem tb_MO_divide_131 {p : Program} {l : Launch} {e : Env} {s : State} {m : MethodId} {args : Array Value} {below : List Frame} {meth : Method} {c : Code} {G : zG} (C : cx_C p l s m args meth c G y_MO_divide b_MO_divide 8 none "BigDeskModel" (Cond.code y_MO_divide b_MO_divide 8 none :: zx_T) []) {K : ah_H → Prop} {h0 : ah_H} {cells slots : Nat} (hcl : cells + 0 ≤ 0) (hsl : slots + 0 ≤ 0)  (x92 : Nat) (x93 : Int32) (x94 : Int32) (x95 : Int32) (s96 : Int32) (h97 : ah_H) (H : Heap) (locs : List Loc) (ls : Array Slot) (w : bk_MO_divide_131 K x92 x93 x94 x95 s96 h97) (hm : ah_m h0 h97) (hW : ah_W G s.heap h97 H locs) (hl : lv_has ls 8 [(0, .ref x92), (1, .int x93), (2, .int x94), (6, .int x95)]) : W p l e rm_MO_divide s m args below meth c H locs cells slots (MQ below (va_Qv (fun h9 => K h9 ∧ ah_m h0 h9) (ah_B G) (fun q => G.2.2 ≤ q)) args s 0 0 (fun q => G.2.2 ≤ q)) (F0 m 131 ls [.int s96]) := by
  unfold bk_MO_divide_131 at w
  obtain ⟨hx, hb, hr, hml, hown, hts, hT, hlk, hK, hX, htb, hin, hst⟩ := id C
  have hw : ∀ {w9 : Cond}, w9 ∈ zx_T → w9.before _ s = true := fun h9 => hts _ (hT _ h9)
  refine lv_istore (lv' := [(7, .int s96), (0, .ref x92), (1, .int x93), (2, .int x94), (6, .int x95)]) hx hb d_MO_divide_131 hl (by decide) rfl (fun ls hl => ?_)
  refine lv_iload hx hb d_MO_divide_133 (lv_at hl 0 rfl) ?_
  refine lv_if_eq (tgt := 189) hx hb d_MO_divide_135 (by decide) (fun c98 => ?_) (fun c98 => ?_)
  · have w := w.1 c98
    exact tb_MO_divide_189 C (by omega) (by omega)  x92 x93 x94 x95 s96 h97 _ _ _ w hm hW (lv_sub hl [1, 2, 3, 4, 0] rfl)
  · have w := w.2 c98
    refine lv_aload_n hx hb d_MO_divide_138 rfl (lv_at hl 1 rfl) ?_
    obtain ⟨t153, w⟩ := w
    obtain ⟨q154, e155, w⟩ := w
    refine hb_get (ci := 4) (C := "BigDeskModel") (T := T_MO) (N := 8) hx hb hts (fun w9 h9 => hT w9 (u_MO w9 h9)) hown hK hW t153 rfl (by decide) 3 (by decide) (hw wd_649) (fun _ h9 => h9) (q := (2, 15)) rfl (v := .ref q154) (ah_f_R e155) d_MO_divide_139 ?_
    refine lv_bipush (v := 16) hx hb d_MO_divide_142 (by decide) ?_
    obtain ⟨t156, w⟩ := w
    obtain ⟨i157, w⟩ := w
    refine hb_iald hx hb hK hW t156 (by decide) (by decide) 0 rfl i157 d_MO_divide_144 ?_
    refine lv_if_le (tgt := 189) hx hb d_MO_divide_145 (by decide) (fun c158 => ?_) (fun c158 => ?_)
    · have w := w.1 c158
      exact tb_MO_divide_189 C (by omega) (by omega)  x92 x93 x94 x95 s96 h97 _ _ _ w hm hW (lv_sub hl [1, 2, 3, 4, 0] rfl)
    · have w := w.2 c158
      refine lv_aload_n hx hb d_MO_divide_148 rfl (lv_at hl 1 rfl) ?_
      refine lv_bipush (v := 13) hx hb d_MO_divide_149 (by decide) ?_
      refine lv_lconst (v := 1) hx hb d_MO_divide_151 (by decide) ?_
      refine hb_callv (va_runV (As := [.int (13 : Int32), .long (1 : Int64)]) (rest := []) ⟨hx, hb, hml, hown, hts⟩ (m_MO_setRow G x92 (13 : Int32) (1 : Int64) h97 hst w) (cwV 2 hts (zx_gV hT wd_633 wd_635 wd_s12 wd_5 wd_636) rfl rfl rfl (by decide +kernel) ⟨Nat.le_of_ble_eq_true rfl, Nat.le_of_ble_eq_true rfl⟩) (hb_preV hK hX hW t153 (by decide) rfl) rfl rfl hl.1 rfl (lv_room (Nat.le_of_ble_eq_true rfl)) d_MO_divide_152 ⟨(by show _ ≤ 0; omega), (by show _ ≤ 0; omega)⟩) hW (fun h159 H locs hk hW => ?_)
      obtain ⟨w, mm160⟩ := hk
      have w := w mm160
      have hm := hm.tr mm160
      have t161 := mm160.tg t153 (by decide)
      have t162 := mm160.tg t156 (by decide)
      refine lv_aload_n hx hb d_MO_divide_155 rfl (lv_at hl 1 rfl) ?_
      refine lv_bipush (v := 15) hx hb d_MO_divide_156 (by decide) ?_
      refine lv_bipush (v := 13) hx hb d_MO_divide_158 (by decide) ?_
      refine lv_iconst (v := 1) hx hb d_MO_divide_160 (by decide) ?_
      refine hb_callv (va_runV (As := [.int (15 : Int32), .int (13 : Int32), .int (1 : Int32)]) (rest := []) ⟨hx, hb, hml, hown, hts⟩ (m_MO_sum G x92 (15 : Int32) (13 : Int32) (1 : Int32) h159 hst w) (cwV 3 hts (zx_gV hT wd_699 wd_701 wd_s17 wd_5 wd_702) rfl rfl rfl (by decide +kernel) ⟨Nat.le_of_ble_eq_true rfl, Nat.le_of_ble_eq_true rfl⟩) (hb_preV hK hX hW t161 (by decide) rfl) rfl rfl hl.1 rfl (lv_room (Nat.le_of_ble_eq_true rfl)) d_MO_divide_161 ⟨(by show _ ≤ 0; omega), (by show _ ≤ 0; omega)⟩) hW (fun h163 H locs hk hW => ?_)
      obtain ⟨w, mm164⟩ := hk
      have w := w mm164
      have hm := hm.tr mm164
      have t165 := mm164.tg t161 (by decide)
      have t166 := mm164.tg t162 (by decide)
      refine lv_aload_n hx hb d_MO_divide_164 rfl (lv_at hl 1 rfl) ?_
      refine lv_bipush (v := 15) hx hb d_MO_divide_165 (by decide) ?_
      refine lv_bipush (v := 17) hx hb d_MO_divide_167 (by decide) ?_
      refine hb_callv (va_runV (As := [.int (15 : Int32), .int (17 : Int32)]) (rest := []) ⟨hx, hb, hml, hown, hts⟩ (m_MO_copyRow G x92 (15 : Int32) (17 : Int32) h163 hst w) (cwV 2 hts (zx_gV hT wd_691 wd_693 wd_s16 wd_5 wd_694) rfl rfl rfl (by decide +kernel) ⟨Nat.le_of_ble_eq_true rfl, Nat.le_of_ble_eq_true rfl⟩) (hb_preV hK hX hW t165 (by decide) rfl) rfl rfl hl.1 rfl (lv_room (Nat.le_of_ble_eq_true rfl)) d_MO_divide_169 ⟨(by show _ ≤ 0; omega), (by show _ ≤ 0; omega)⟩) hW (fun h167 H locs hk hW => ?_)
      obtain ⟨w, mm168⟩ := hk
      have w := w mm168
      have hm := hm.tr mm168
      have t169 := mm168.tg t165 (by decide)
      have t170 := mm168.tg t166 (by decide)
      refine lv_aload_n hx hb d_MO_divide_172 rfl (lv_at hl 1 rfl) ?_
      refine lv_bipush (v := 14) hx hb d_MO_divide_173 (by decide) ?_
      refine lv_bipush (v := 16) hx hb d_MO_divide_175 (by decide) ?_
      refine lv_iconst (v := -1) hx hb d_MO_divide_177 (by decide) ?_
      refine hb_callv (va_runV (As := [.int (14 : Int32), .int (16 : Int32), .int (-1 : Int32)]) (rest := []) ⟨hx, hb, hml, hown, hts⟩ (m_MO_sum G x92 (14 : Int32) (16 : Int32) (-1 : Int32) h167 hst w) (cwV 3 hts (zx_gV hT wd_699 wd_701 wd_s17 wd_5 wd_702) rfl rfl rfl (by decide +kernel) ⟨Nat.le_of_ble_eq_true rfl, Nat.le_of_ble_eq_true rfl⟩) (hb_preV hK hX hW t169 (by decide) rfl) rfl rfl hl.1 rfl (lv_room (Nat.le_of_ble_eq_true rfl)) d_MO_divide_178 ⟨(by show _ ≤ 0; omega), (by show _ ≤ 0; omega)⟩) hW (fun h171 H locs hk hW => ?_)
      obtain ⟨w, mm172⟩ := hk
      have w := w mm172
      have hm := hm.tr mm172
      have t173 := mm172.tg t169 (by decide)
      have t174 := mm172.tg t170 (by decide)
      refine lv_aload_n hx hb d_MO_divide_181 rfl (lv_at hl 1 rfl) ?_
      refine lv_bipush (v := 16) hx hb d_MO_divide_182 (by decide) ?_
      refine lv_bipush (v := 17) hx hb d_MO_divide_184 (by decide) ?_
      refine hb_callv (va_runV (As := [.int (16 : Int32), .int (17 : Int32)]) (rest := []) ⟨hx, hb, hml, hown, hts⟩ (m_MO_copyRow G x92 (16 : Int32) (17 : Int32) h171 hst w) (cwV 2 hts (zx_gV hT wd_691 wd_693 wd_s16 wd_5 wd_694) rfl rfl rfl (by decide +kernel) ⟨Nat.le_of_ble_eq_true rfl, Nat.le_of_ble_eq_true rfl⟩) (hb_preV hK hX hW t173 (by decide) rfl) rfl rfl hl.1 rfl (lv_room (Nat.le_of_ble_eq_true rfl)) d_MO_divide_186 ⟨(by show _ ≤ 0; omega), (by show _ ≤ 0; omega)⟩) hW (fun h175 H locs hk hW => ?_)
      obtain ⟨w, mm176⟩ := hk
      have w := w mm176
      have hm := hm.tr mm176
      have t177 := mm176.tg t173 (by decide)
      have t178 := mm176.tg t174 (by decide)
      exact tb_MO_divide_189 C (by omega) (by omega)  x92 x93 x94 x95 s96 h175 _ _ _ w hm hW (lv_sub hl [1, 2, 3, 4, 0] rfl)
set_option maxHeartbeats 4000000 in
set_option maxRecDepth 100000 in
theorem tb_MO_divide_130 {p : Program} {l : Launch} {e : Env} {s : State} {m : MethodId} {args : Array Value} {below : List Frame} {meth : Method} {c : Code} {G : zG} (C : cx_C p l s m args meth c G y_MO_divide b_MO_divide 8 none "BigDeskModel" (Cond.code y_MO_divide b_MO_divide 8 none :: zx_T) []) {K : ah_H → Prop} {h0 : ah_H} {cells slots : Nat} (hcl : cells + 0 ≤ 0) (hsl : slots + 0 ≤ 0)  (x87 : Nat) (x88 : Int32) (x89 : Int32) (x90 : Int32) (h91 : ah_H) (H : Heap) (locs : List Loc) (ls : Array Slot) (w : bk_MO_divide_130 K x87 x88 x89 x90 h91) (hm : ah_m h0 h91) (hW : ah_W G s.heap h91 H locs) (hl : lv_has ls 8 [(0, .ref x87), (1, .int x88), (2, .int x89), (6, .int x90)]) : W p l e rm_MO_divide s m args below meth c H locs cells slots (MQ below (va_Qv (fun h9 => K h9 ∧ ah_m h0 h9) (ah_B G) (fun q => G.2.2 ≤ q)) args s 0 0 (fun q => G.2.2 ≤ q)) (F0 m 130 ls []) := by
  unfold bk_MO_divide_130 at w
  obtain ⟨hx, hb, hr, hml, hown, hts, hT, hlk, hK, hX, htb, hin, hst⟩ := id C
  have hw : ∀ {w9 : Cond}, w9 ∈ zx_T → w9.before _ s = true := fun h9 => hts _ (hT _ h9)
  refine lv_iconst (v := 0) hx hb d_MO_divide_130 (by decide) ?_
  exact tb_MO_divide_131 C (by omega) (by omega)  x87 x88 x89 x90 (0 : Int32) h91 _ _ _ w hm hW (lv_sub hl [0, 1, 2, 3] rfl)
set_option maxHeartbeats 4000000 in
set_option maxRecDepth 100000 in
theorem tb_MO_divide_66 {p : Program} {l : Launch} {e : Env} {s : State} {m : MethodId} {args : Array Value} {below : List Frame} {meth : Method} {c : Code} {G : zG} (C : cx_C p l s m args meth c G y_MO_divide b_MO_divide 8 none "BigDeskModel" (Cond.code y_MO_divide b_MO_divide 8 none :: zx_T) []) {K : ah_H → Prop} {h0 : ah_H} {cells slots : Nat} (hcl : cells + 0 ≤ 0) (hsl : slots + 0 ≤ 0)  (x38 : Nat) (x39 : Int32) (x40 : Int32) (x41 : Int32) (x42 : Int32) (s43 : Int32) (s44 : Nat) (h45 : ah_H) (H : Heap) (locs : List Loc) (ls : Array Slot) (w : bk_MO_divide_66 K x38 x39 x40 x41 x42 s43 s44 h45) (hm : ah_m h0 h45) (hW : ah_W G s.heap h45 H locs) (hl : lv_has ls 8 [(0, .ref x38), (1, .int x39), (2, .int x40), (3, .int x41), (4, .int x42)]) : W p l e rm_MO_divide s m args below meth c H locs cells slots (MQ below (va_Qv (fun h9 => K h9 ∧ ah_m h0 h9) (ah_B G) (fun q => G.2.2 ≤ q)) args s 0 0 (fun q => G.2.2 ≤ q)) (F0 m 66 ls [.int s43, .ref s44]) := by
  unfold bk_MO_divide_66 at w
  obtain ⟨hx, hb, hr, hml, hown, hts, hT, hlk, hK, hX, htb, hin, hst⟩ := id C
  have hw : ∀ {w9 : Cond}, w9 ∈ zx_T → w9.before _ s = true := fun h9 => hts _ (hT _ h9)
  refine lv_iconst (v := 2) hx hb d_MO_divide_66 (by decide) ?_
  obtain ⟨t46, w⟩ := w
  refine hb_calli (va_runV (As := [.int s43, .int (2 : Int32)]) (rest := []) ⟨hx, hb, hml, hown, hts⟩ (m_MO_fails G s44 s43 (2 : Int32) h45 hst w) (cwV 2 hts (zx_gV hT wd_683 wd_685 wd_s15 wd_5 wd_686) rfl rfl rfl (by decide +kernel) ⟨Nat.le_of_ble_eq_true rfl, Nat.le_of_ble_eq_true rfl⟩) (hb_preV hK hX hW t46 (by decide) rfl) rfl rfl hl.1 rfl (lv_room (Nat.le_of_ble_eq_true rfl)) d_MO_divide_67 ⟨(by show _ ≤ 0; omega), (by show _ ≤ 0; omega)⟩) hW (fun r48 h47 H locs hk hW => ?_)
  obtain ⟨w, mm49⟩ := hk
  have w := w mm49
  have hm := hm.tr mm49
  have t50 := mm49.tg t46 (by decide)
  refine lv_if_eq (tgt := 74) hx hb d_MO_divide_70 (by decide) (fun c51 => ?_) (fun c51 => ?_)
  · have w := w.1 c51
    refine lv_aload_n hx hb d_MO_divide_74 rfl (lv_at hl 0 rfl) ?_
    obtain ⟨t52, w⟩ := w
    obtain ⟨q53, e54, w⟩ := w
    refine hb_get (ci := 4) (C := "BigDeskModel") (T := T_MO) (N := 8) hx hb hts (fun w9 h9 => hT w9 (u_MO w9 h9)) hown hK hW t52 rfl (by decide) 3 (by decide) (hw wd_649) (fun _ h9 => h9) (q := (2, 15)) rfl (v := .ref q53) (ah_f_R e54) d_MO_divide_75 ?_
    refine lv_iload_n hx hb d_MO_divide_78 rfl (lv_at hl 3 rfl) ?_
    obtain ⟨t55, w⟩ := w
    obtain ⟨i56, w⟩ := w
    refine hb_iald hx hb hK hW t55 (by decide) (by decide) 0 rfl i56 d_MO_divide_79 ?_
    refine lv_topi (fun v57 ev57 => ?_)
    have w := w v57 ev57
    refine lv_istore (lv' := [(5, .int v57), (0, .ref x38), (1, .int x39), (2, .int x40), (3, .int x41), (4, .int x42)]) hx hb d_MO_divide_80 hl (by decide) rfl (fun ls hl => ?_)
    refine lv_aload_n hx hb d_MO_divide_82 rfl (lv_at hl 1 rfl) ?_
    obtain ⟨q58, e59, w⟩ := w
    refine hb_get (ci := 4) (C := "BigDeskModel") (T := T_MO) (N := 8) hx hb hts (fun w9 h9 => hT w9 (u_MO w9 h9)) hown hK hW t52 rfl (by decide) 3 (by decide) (hw wd_649) (fun _ h9 => h9) (q := (2, 15)) rfl (v := .ref q58) (ah_f_R e59) d_MO_divide_83 ?_
    refine lv_iload hx hb d_MO_divide_86 (lv_at hl 5 rfl) ?_
    obtain ⟨t60, w⟩ := w
    obtain ⟨i61, w⟩ := w
    refine hb_iald hx hb hK hW t60 (by decide) (by decide) 0 rfl i61 d_MO_divide_88 ?_
    refine lv_topi (fun v62 ev62 => ?_)
    have w := w v62 ev62
    refine lv_istore (lv' := [(6, .int v62), (5, .int v57), (0, .ref x38), (1, .int x39), (2, .int x40), (3, .int x41), (4, .int x42)]) hx hb d_MO_divide_89 hl (by decide) rfl (fun ls hl => ?_)
    refine lv_aload_n hx hb d_MO_divide_91 rfl (lv_at hl 2 rfl) ?_
    refine lv_iload_n hx hb d_MO_divide_92 rfl (lv_at hl 5 rfl) ?_
    refine lv_iload hx hb d_MO_divide_93 (lv_at hl 6 rfl) ?_
    refine hb_callv (va_runV (As := [.int x41, .int x42]) (rest := []) ⟨hx, hb, hml, hown, hts⟩ (m_MO_quotient G x38 x41 x42 h47 hst w) (cwV 2 hts (zx_gV hT wd_756 wd_758 wd_s24 wd_5 wd_759) rfl rfl rfl (by decide +kernel) ⟨Nat.le_of_ble_eq_true rfl, Nat.le_of_ble_eq_true rfl⟩) (hb_preV hK hX hW t52 (by decide) rfl) rfl rfl hl.1 rfl (lv_room (Nat.le_of_ble_eq_true rfl)) d_MO_divide_95 ⟨(by show _ ≤ 0; omega), (by show _ ≤ 0; omega)⟩) hW (fun h63 H locs hk hW => ?_)
    obtain ⟨w, mm64⟩ := hk
    have w := w mm64
    have hm := hm.tr mm64
    have t65 := mm64.tg t50 (by decide)
    have t66 := mm64.tg t52 (by decide)
    have t67 := mm64.tg t55 (by decide)
    have t68 := mm64.tg t60 (by decide)
    refine lv_aload_n hx hb d_MO_divide_98 rfl (lv_at hl 2 rfl) ?_
    refine lv_bipush (v := 14) hx hb d_MO_divide_99 (by decide) ?_
    refine lv_iload hx hb d_MO_divide_101 (lv_at hl 6 rfl) ?_
    refine hb_callv (va_runV (As := [.int (14 : Int32), .int x42]) (rest := []) ⟨hx, hb, hml, hown, hts⟩ (m_MO_copyRow G x38 (14 : Int32) x42 h63 hst w) (cwV 2 hts (zx_gV hT wd_691 wd_693 wd_s16 wd_5 wd_694) rfl rfl rfl (by decide +kernel) ⟨Nat.le_of_ble_eq_true rfl, Nat.le_of_ble_eq_true rfl⟩) (hb_preV hK hX hW t66 (by decide) rfl) rfl rfl hl.1 rfl (lv_room (Nat.le_of_ble_eq_true rfl)) d_MO_divide_103 ⟨(by show _ ≤ 0; omega), (by show _ ≤ 0; omega)⟩) hW (fun h69 H locs hk hW => ?_)
    obtain ⟨w, mm70⟩ := hk
    have w := w mm70
    have hm := hm.tr mm70
    have t71 := mm70.tg t65 (by decide)
    have t72 := mm70.tg t66 (by decide)
    have t73 := mm70.tg t67 (by decide)
    have t74 := mm70.tg t68 (by decide)
    refine lv_aload_n hx hb d_MO_divide_106 rfl (lv_at hl 2 rfl) ?_
    obtain ⟨q75, e76, w⟩ := w
    refine hb_get (ci := 4) (C := "BigDeskModel") (T := T_MO) (N := 8) hx hb hts (fun w9 h9 => hT w9 (u_MO w9 h9)) hown hK hW t72 rfl (by decide) 3 (by decide) (hw wd_649) (fun _ h9 => h9) (q := (2, 15)) rfl (v := .ref q75) (ah_f_R e76) d_MO_divide_107 ?_
    refine lv_bipush (v := 14) hx hb d_MO_divide_110 (by decide) ?_
    refine lv_iconst (v := 1) hx hb d_MO_divide_112 (by decide) ?_
    obtain ⟨t77, w⟩ := w
    obtain ⟨i78, w⟩ := w
    refine hb_iast hx hb hK hW t77 (by decide) (by decide) 0 rfl i78 d_MO_divide_113 (fun H locs h79 eh79 hW => ?_)
    have w := w h79 eh79
    have mm80 : ah_m h69 h79 := ah_m.rf.st (by rw [eh79]; rfl) (by rw [eh79]; rfl)
    have hm := hm.tr mm80
    have t81 := mm80.tg t71 (by decide)
    have t82 := mm80.tg t72 (by decide)
    have t83 := mm80.tg t73 (by decide)
    have t84 := mm80.tg t74 (by decide)
    have t85 := mm80.tg t77 (by decide)
    refine lv_iload hx hb d_MO_divide_114 (lv_at hl 1 rfl) ?_
    refine lv_if_eq (tgt := 130) hx hb d_MO_divide_116 (by decide) (fun c86 => ?_) (fun c86 => ?_)
    · have w := w.1 c86
      exact tb_MO_divide_130 C (by omega) (by omega)  x38 x39 x40 v62 h79 _ _ _ w hm hW (lv_sub hl [2, 3, 4, 0] rfl)
    · have w := w.2 c86
      refine lv_iload hx hb d_MO_divide_119 (lv_at hl 1 rfl) ?_
      refine lv_iload hx hb d_MO_divide_121 (lv_at hl 0 rfl) ?_
      refine lv_icmp_eq (tgt := 130) hx hb d_MO_divide_123 (by decide) (fun c179 => ?_) (fun c179 => ?_)
      · have w := w.1 c179
        exact tb_MO_divide_130 C (by omega) (by omega)  x38 x39 x40 v62 h79 _ _ _ w hm hW (lv_sub hl [2, 3, 4, 0] rfl)
      · have w := w.2 c179
        refine lv_iconst (v := 1) hx hb d_MO_divide_126 (by decide) ?_
        refine lv_goto (tgt := 131) hx hb d_MO_divide_127 (by decide) ?_
        exact tb_MO_divide_131 C (by omega) (by omega)  x38 x39 x40 v62 (1 : Int32) h79 _ _ _ w hm hW (lv_sub hl [2, 3, 4, 0] rfl)
  · have w := w.2 c51
    exact tb_MO_divide_73 C (by omega) (by omega)   h47 _ _ _ w hm hW (lv_sub hl [] rfl)
set_option maxHeartbeats 4000000 in
set_option maxRecDepth 100000 in
theorem tb_MO_divide_40 {p : Program} {l : Launch} {e : Env} {s : State} {m : MethodId} {args : Array Value} {below : List Frame} {meth : Method} {c : Code} {G : zG} (C : cx_C p l s m args meth c G y_MO_divide b_MO_divide 8 none "BigDeskModel" (Cond.code y_MO_divide b_MO_divide 8 none :: zx_T) []) {K : ah_H → Prop} {h0 : ah_H} {cells slots : Nat} (hcl : cells + 0 ≤ 0) (hsl : slots + 0 ≤ 0)  (x17 : Nat) (x18 : Int32) (x19 : Int32) (x20 : Int32) (x21 : Int32) (s22 : Int32) (s23 : Nat) (h24 : ah_H) (H : Heap) (locs : List Loc) (ls : Array Slot) (w : bk_MO_divide_40 K x17 x18 x19 x20 x21 s22 s23 h24) (hm : ah_m h0 h24) (hW : ah_W G s.heap h24 H locs) (hl : lv_has ls 8 [(0, .ref x17), (1, .int x18), (2, .int x19), (3, .int x20), (4, .int x21)]) : W p l e rm_MO_divide s m args below meth c H locs cells slots (MQ below (va_Qv (fun h9 => K h9 ∧ ah_m h0 h9) (ah_B G) (fun q => G.2.2 ≤ q)) args s 0 0 (fun q => G.2.2 ≤ q)) (F0 m 40 ls [.int s22, .ref s23]) := by
  unfold bk_MO_divide_40 at w
  obtain ⟨hx, hb, hr, hml, hown, hts, hT, hlk, hK, hX, htb, hin, hst⟩ := id C
  have hw : ∀ {w9 : Cond}, w9 ∈ zx_T → w9.before _ s = true := fun h9 => hts _ (hT _ h9)
  refine lv_iconst (v := 1) hx hb d_MO_divide_40 (by decide) ?_
  obtain ⟨t25, w⟩ := w
  refine hb_calli (va_runV (As := [.int s22, .int (1 : Int32)]) (rest := []) ⟨hx, hb, hml, hown, hts⟩ (m_MO_fails G s23 s22 (1 : Int32) h24 hst w) (cwV 2 hts (zx_gV hT wd_683 wd_685 wd_s15 wd_5 wd_686) rfl rfl rfl (by decide +kernel) ⟨Nat.le_of_ble_eq_true rfl, Nat.le_of_ble_eq_true rfl⟩) (hb_preV hK hX hW t25 (by decide) rfl) rfl rfl hl.1 rfl (lv_room (Nat.le_of_ble_eq_true rfl)) d_MO_divide_41 ⟨(by show _ ≤ 0; omega), (by show _ ≤ 0; omega)⟩) hW (fun r27 h26 H locs hk hW => ?_)
  obtain ⟨w, mm28⟩ := hk
  have w := w mm28
  have hm := hm.tr mm28
  have t29 := mm28.tg t25 (by decide)
  refine lv_if_ne (tgt := 73) hx hb d_MO_divide_44 (by decide) (fun c30 => ?_) (fun c30 => ?_)
  · have w := w.1 c30
    exact tb_MO_divide_73 C (by omega) (by omega)   h26 _ _ _ w hm hW (lv_sub hl [] rfl)
  · have w := w.2 c30
    refine lv_aload_n hx hb d_MO_divide_47 rfl (lv_at hl 0 rfl) ?_
    refine lv_aload_n hx hb d_MO_divide_48 rfl (lv_at hl 0 rfl) ?_
    obtain ⟨t32, w⟩ := w
    obtain ⟨q33, e34, w⟩ := w
    refine hb_get (ci := 4) (C := "BigDeskModel") (T := T_MO) (N := 8) hx hb hts (fun w9 h9 => hT w9 (u_MO w9 h9)) hown hK hW t32 rfl (by decide) 3 (by decide) (hw wd_649) (fun _ h9 => h9) (q := (2, 15)) rfl (v := .ref q33) (ah_f_R e34) d_MO_divide_49 ?_
    refine lv_iload hx hb d_MO_divide_52 (lv_at hl 4 rfl) ?_
    refine lv_bipush (v := 15) hx hb d_MO_divide_54 (by decide) ?_
    refine lv_iand hx hb d_MO_divide_56 ?_
    obtain ⟨t35, w⟩ := w
    obtain ⟨i36, w⟩ := w
    refine hb_iald hx hb hK hW t35 (by decide) (by decide) 0 rfl i36 d_MO_divide_57 ?_
    refine lv_if_ne (tgt := 65) hx hb d_MO_divide_58 (by decide) (fun c37 => ?_) (fun c37 => ?_)
    · have w := w.1 c37
      refine lv_iconst (v := 0) hx hb d_MO_divide_65 (by decide) ?_
      exact tb_MO_divide_66 C (by omega) (by omega)  x17 x18 x19 x20 x21 (0 : Int32) x17 h26 _ _ _ w hm hW (lv_sub hl [0, 1, 2, 3, 4] rfl)
    · have w := w.2 c37
      refine lv_iconst (v := 1) hx hb d_MO_divide_61 (by decide) ?_
      refine lv_goto (tgt := 66) hx hb d_MO_divide_62 (by decide) ?_
      exact tb_MO_divide_66 C (by omega) (by omega)  x17 x18 x19 x20 x21 (1 : Int32) x17 h26 _ _ _ w hm hW (lv_sub hl [0, 1, 2, 3, 4] rfl)
set_option maxHeartbeats 4000000 in
set_option maxRecDepth 100000 in
theorem tb_MO_divide_35 {p : Program} {l : Launch} {e : Env} {s : State} {m : MethodId} {args : Array Value} {below : List Frame} {meth : Method} {c : Code} {G : zG} (C : cx_C p l s m args meth c G y_MO_divide b_MO_divide 8 none "BigDeskModel" (Cond.code y_MO_divide b_MO_divide 8 none :: zx_T) []) {K : ah_H → Prop} {h0 : ah_H} {cells slots : Nat} (hcl : cells + 0 ≤ 0) (hsl : slots + 0 ≤ 0)  (x10 : Nat) (x11 : Int32) (x12 : Int32) (x13 : Int32) (x14 : Int32) (s15 : Nat) (h16 : ah_H) (H : Heap) (locs : List Loc) (ls : Array Slot) (w : bk_MO_divide_35 K x10 x11 x12 x13 x14 s15 h16) (hm : ah_m h0 h16) (hW : ah_W G s.heap h16 H locs) (hl : lv_has ls 8 [(0, .ref x10), (1, .int x11), (2, .int x12), (3, .int x13), (4, .int x14)]) : W p l e rm_MO_divide s m args below meth c H locs cells slots (MQ below (va_Qv (fun h9 => K h9 ∧ ah_m h0 h9) (ah_B G) (fun q => G.2.2 ≤ q)) args s 0 0 (fun q => G.2.2 ≤ q)) (F0 m 35 ls [.ref s15]) := by
  unfold bk_MO_divide_35 at w
  obtain ⟨hx, hb, hr, hml, hown, hts, hT, hlk, hK, hX, htb, hin, hst⟩ := id C
  have hw : ∀ {w9 : Cond}, w9 ∈ zx_T → w9.before _ s = true := fun h9 => hts _ (hT _ h9)
  refine lv_iconst (v := 1) hx hb d_MO_divide_35 (by decide) ?_
  refine lv_goto (tgt := 40) hx hb d_MO_divide_36 (by decide) ?_
  exact tb_MO_divide_40 C (by omega) (by omega)  x10 x11 x12 x13 x14 (1 : Int32) s15 h16 _ _ _ w hm hW (lv_sub hl [0, 1, 2, 3, 4] rfl)
set_option maxHeartbeats 4000000 in
set_option maxRecDepth 100000 in
theorem m_MO_divide {l : Launch} (G : zG) (a1 : Nat) (a2 : Int32) (a3 : Int32) (a4 : Int32) (a5 : Int32) (h0 : ah_H) {K : ah_H → Prop} (hst : l.stackTraces = false) (w : w_MO_divide a1 a2 a3 a4 a5 h0 K) : Met l y_MO_divide (Cond.code y_MO_divide b_MO_divide 8 none :: zx_T) rm_MO_divide (va_Pc [.ref a1, .int a2, .int a3, .int a4, .int a5] (ah_B G h0)) (va_Qv (fun h9 => K h9 ∧ ah_m h0 h9) (ah_B G) (fun q => G.2.2 ≤ q)) 0 0 (fun q => G.2.2 ≤ q) := by
  refine Met.ofW (cc := b_MO_divide) (maxL := 8) (ret := none) (by decide) rfl ?_
  intro p e s m args below meth c s₁ B hml hv
  have htb := cx_out B (atoms_spec B.pre _ List.mem_cons_self)
  obtain ⟨rfl, hB⟩ := hv
  have C : cx_C p l s m _ meth c G y_MO_divide b_MO_divide 8 none "BigDeskModel" (Cond.code y_MO_divide b_MO_divide 8 none :: zx_T) [] := ⟨B.exec, B.bytes, B.returns, hml, findClass_of_methodNamed B.named, atoms_spec B.pre, cx_hd, B.notSynchronized, hB.2.2.1, hB.2.2.2, htb, fun z9 => (name_of_methodNamed B.named B.method).1.trans z9, hst⟩
  obtain ⟨hx, hb, hr, hml, hown, hts, hT, hlk, hK, hX, htb, hin, hst⟩ := id C
  have hw : ∀ {w9 : Cond}, w9 ∈ zx_T → w9.before _ s = true := fun h9 => hts _ (hT _ h9)
  have hW : ah_W G s.heap h0 s.heap [] := ⟨hB.1, hB.2.1, va_S.rf⟩
  have hm : ah_m h0 h0 := ah_m.rf
  have hcl : 0 + 0 ≤ 0 := by decide
  have hsl : 0 + 0 ≤ 0 := by decide
  have hl := lv_entry ([.ref a1, .int a2, .int a3, .int a4, .int a5]) (n := 8) (Nat.le_of_ble_eq_true rfl)
  rw [lg_entry_eq]
  generalize (lg_sl ([.ref a1, .int a2, .int a3, .int a4, .int a5]) ++ List.replicate (8 - (lg_sl ([.ref a1, .int a2, .int a3, .int a4, .int a5])).length) Slot.unset).toArray = ls at hl ⊢
  have hl : lv_has ls 8 [(0, .ref a1), (1, .int a2), (2, .int a3), (3, .int a4), (4, .int a5)] := hl
  unfold w_MO_divide at w
  refine lv_aload_n hx hb d_MO_divide_0 rfl (lv_at hl 0 rfl) ?_
  refine lv_iload_n hx hb d_MO_divide_1 rfl (lv_at hl 1 rfl) ?_
  refine hb_calli (va_runS (As := [.int a2]) (rest := [.ref a1]) ⟨hx, hb, hml, hown, hts⟩ (m_MO_isNone G a2 h0 hst w) (va_cwS 1 hts (zx_gS hT wd_680 wd_681 wd_5 wd_682) rfl rfl rfl (by decide +kernel) ⟨Nat.le_of_ble_eq_true rfl, Nat.le_of_ble_eq_true rfl⟩) (hb_preS hK hX hW) rfl rfl hl.1 rfl (lv_room (Nat.le_of_ble_eq_true rfl)) d_MO_divide_2 ⟨(by show _ ≤ 0; omega), (by show _ ≤ 0; omega)⟩) hW (fun r7 h6 H locs hk hW => ?_)
  obtain ⟨w, mm8⟩ := hk
  have w := w mm8
  have hm := hm.tr mm8
  refine lv_if_ne (tgt := 35) hx hb d_MO_divide_5 (by decide) (fun c9 => ?_) (fun c9 => ?_)
  · have w := w.1 c9
    exact tb_MO_divide_35 C (by omega) (by omega)  a1 a2 a3 a4 a5 a1 h6 _ _ _ w hm hW (lv_sub hl [0, 1, 2, 3, 4] rfl)
  · have w := w.2 c9
    refine lv_iload_n hx hb d_MO_divide_8 rfl (lv_at hl 2 rfl) ?_
    refine hb_calli (va_runS (As := [.int a3]) (rest := [.ref a1]) ⟨hx, hb, hml, hown, hts⟩ (m_MO_isNone G a3 h6 hst w) (va_cwS 1 hts (zx_gS hT wd_680 wd_681 wd_5 wd_682) rfl rfl rfl (by decide +kernel) ⟨Nat.le_of_ble_eq_true rfl, Nat.le_of_ble_eq_true rfl⟩) (hb_preS hK hX hW) rfl rfl hl.1 rfl (lv_room (Nat.le_of_ble_eq_true rfl)) d_MO_divide_9 ⟨(by show _ ≤ 0; omega), (by show _ ≤ 0; omega)⟩) hW (fun r181 h180 H locs hk hW => ?_)
    obtain ⟨w, mm182⟩ := hk
    have w := w mm182
    have hm := hm.tr mm182
    refine lv_if_ne (tgt := 35) hx hb d_MO_divide_12 (by decide) (fun c183 => ?_) (fun c183 => ?_)
    · have w := w.1 c183
      exact tb_MO_divide_35 C (by omega) (by omega)  a1 a2 a3 a4 a5 a1 h180 _ _ _ w hm hW (lv_sub hl [0, 1, 2, 3, 4] rfl)
    · have w := w.2 c183
      refine lv_iload_n hx hb d_MO_divide_15 rfl (lv_at hl 3 rfl) ?_
      refine hb_calli (va_runS (As := [.int a4]) (rest := [.ref a1]) ⟨hx, hb, hml, hown, hts⟩ (m_MO_isNone G a4 h180 hst w) (va_cwS 1 hts (zx_gS hT wd_680 wd_681 wd_5 wd_682) rfl rfl rfl (by decide +kernel) ⟨Nat.le_of_ble_eq_true rfl, Nat.le_of_ble_eq_true rfl⟩) (hb_preS hK hX hW) rfl rfl hl.1 rfl (lv_room (Nat.le_of_ble_eq_true rfl)) d_MO_divide_16 ⟨(by show _ ≤ 0; omega), (by show _ ≤ 0; omega)⟩) hW (fun r185 h184 H locs hk hW => ?_)
      obtain ⟨w, mm186⟩ := hk
      have w := w mm186
      have hm := hm.tr mm186
      refine lv_if_ne (tgt := 35) hx hb d_MO_divide_19 (by decide) (fun c187 => ?_) (fun c187 => ?_)
      · have w := w.1 c187
        exact tb_MO_divide_35 C (by omega) (by omega)  a1 a2 a3 a4 a5 a1 h184 _ _ _ w hm hW (lv_sub hl [0, 1, 2, 3, 4] rfl)
      · have w := w.2 c187
        refine lv_iload hx hb d_MO_divide_22 (lv_at hl 4 rfl) ?_
        refine hb_calli (va_runS (As := [.int a5]) (rest := [.ref a1]) ⟨hx, hb, hml, hown, hts⟩ (m_MO_isNone G a5 h184 hst w) (va_cwS 1 hts (zx_gS hT wd_680 wd_681 wd_5 wd_682) rfl rfl rfl (by decide +kernel) ⟨Nat.le_of_ble_eq_true rfl, Nat.le_of_ble_eq_true rfl⟩) (hb_preS hK hX hW) rfl rfl hl.1 rfl (lv_room (Nat.le_of_ble_eq_true rfl)) d_MO_divide_24 ⟨(by show _ ≤ 0; omega), (by show _ ≤ 0; omega)⟩) hW (fun r189 h188 H locs hk hW => ?_)
        obtain ⟨w, mm190⟩ := hk
        have w := w mm190
        have hm := hm.tr mm190
        refine lv_if_ne (tgt := 35) hx hb d_MO_divide_27 (by decide) (fun c191 => ?_) (fun c191 => ?_)
        · have w := w.1 c191
          exact tb_MO_divide_35 C (by omega) (by omega)  a1 a2 a3 a4 a5 a1 h188 _ _ _ w hm hW (lv_sub hl [0, 1, 2, 3, 4] rfl)
        · have w := w.2 c191
          refine lv_iload_n hx hb d_MO_divide_30 rfl (lv_at hl 1 rfl) ?_
          refine lv_iload_n hx hb d_MO_divide_31 rfl (lv_at hl 2 rfl) ?_
          refine lv_icmp_ne (tgt := 39) hx hb d_MO_divide_32 (by decide) (fun c192 => ?_) (fun c192 => ?_)
          · have w := w.1 c192
            refine lv_iconst (v := 0) hx hb d_MO_divide_39 (by decide) ?_
            exact tb_MO_divide_40 C (by omega) (by omega)  a1 a2 a3 a4 a5 (0 : Int32) a1 h188 _ _ _ w hm hW (lv_sub hl [0, 1, 2, 3, 4] rfl)
          · have w := w.2 c192
            exact tb_MO_divide_35 C (by omega) (by omega)  a1 a2 a3 a4 a5 a1 h188 _ _ _ w hm hW (lv_sub hl [0, 1, 2, 3, 4] rfl)
set_option maxHeartbeats 4000000 in
set_option maxRecDepth 100000 in
theorem tl_MO_gcd_49 {p : Program} {l : Launch} {e : Env} {s : State} {m : MethodId} {args : Array Value} {below : List Frame} {meth : Method} {c : Code} {G : zG} (C : cx_C p l s m args meth c G y_MO_gcd b_MO_gcd 4 none "BigDeskModel" (Cond.code y_MO_gcd b_MO_gcd 4 none :: zx_T) []) {K : ah_H → Prop} {h0 : ah_H} {cells slots : Nat} (hcl : cells + 0 ≤ 0) (hsl : slots + 0 ≤ 0) {xt_86 : Nat → Int32 → ah_H → Prop} (hc_xt_86 : ∀ (z0 : Nat) (z1 : Int32) (hz : ah_H) (H : Heap) (locs : List Loc) (ls : Array Slot), xt_86 z0 z1 hz → ah_m h0 hz → ah_W G s.heap hz H locs → lv_has ls 4 [(0, .ref z0), (1, .int z1)] → W p l e rm_MO_gcd s m args below meth c H locs cells slots (MQ below (va_Qv (fun h9 => K h9 ∧ ah_m h0 h9) (ah_B G) (fun q => G.2.2 ≤ q)) args s 0 0 (fun q => G.2.2 ≤ q)) (F0 m 86 ls [])) : ∀ (n : Nat) (x37 : Nat) (x38 : Int32) (h39 : ah_H) (H : Heap) (locs : List Loc) (ls : Array Slot), lp_MO_gcd_49 xt_86 K n x37 x38 h39 → ah_m h0 h39 → ah_W G s.heap h39 H locs → lv_has ls 4 [(0, .ref x37), (1, .int x38)] → W p l e rm_MO_gcd s m args below meth c H locs cells slots (MQ below (va_Qv (fun h9 => K h9 ∧ ah_m h0 h9) (ah_B G) (fun q => G.2.2 ≤ q)) args s 0 0 (fun q => G.2.2 ≤ q)) (F0 m 49 ls []) := by
  obtain ⟨hx, hb, hr, hml, hown, hts, hT, hlk, hK, hX, htb, hin, hst⟩ := id C
  have hw : ∀ {w9 : Cond}, w9 ∈ zx_T → w9.before _ s = true := fun h9 => hts _ (hT _ h9)
  intro n
  induction n with
  | zero =>
    intro x37 x38 h39 H locs ls w
    exact absurd w (by intro z9; exact z9)
  | succ n ih =>
    intro x37 x38 h39 H locs ls w hm hW hl
    unfold lp_MO_gcd_49 at w
    refine lv_aload_n hx hb d_MO_gcd_49 rfl (lv_at hl 0 rfl) ?_
    obtain ⟨t40, w⟩ := w
    obtain ⟨q41, e42, w⟩ := w
    refine hb_get (ci := 4) (C := "BigDeskModel") (T := T_MO) (N := 8) hx hb hts (fun w9 h9 => hT w9 (u_MO w9 h9)) hown hK hW t40 rfl (by decide) 2 (by decide) (hw wd_648) (fun _ h9 => h9) (q := (2, 14)) rfl (v := .ref q41) (ah_f_R e42) d_MO_gcd_50 ?_
    refine lv_bipush (v := 14) hx hb d_MO_gcd_53 (by decide) ?_
    obtain ⟨t43, w⟩ := w
    obtain ⟨i44, w⟩ := w
    refine hb_iald hx hb hK hW t43 (by decide) (by decide) 0 rfl i44 d_MO_gcd_55 ?_
    refine lv_if_le (tgt := 86) hx hb d_MO_gcd_56 (by decide) (fun c45 => ?_) (fun c45 => ?_)
    · have w := w.1 c45
      exact hc_xt_86 x37 x38 h39 _ _ _ w hm hW (lv_sub hl [0, 1] rfl)
    · have w := w.2 c45
      refine lv_aload_n hx hb d_MO_gcd_59 rfl (lv_at hl 0 rfl) ?_
      refine lv_bipush (v := 13) hx hb d_MO_gcd_60 (by decide) ?_
      refine lv_bipush (v := 14) hx hb d_MO_gcd_62 (by decide) ?_
      refine hb_callv (va_runV (As := [.int (13 : Int32), .int (14 : Int32)]) (rest := []) ⟨hx, hb, hml, hown, hts⟩ (m_MO_quotient G x37 (13 : Int32) (14 : Int32) h39 hst w) (cwV 2 hts (zx_gV hT wd_756 wd_758 wd_s24 wd_5 wd_759) rfl rfl rfl (by decide +kernel) ⟨Nat.le_of_ble_eq_true rfl, Nat.le_of_ble_eq_true rfl⟩) (hb_preV hK hX hW t40 (by decide) rfl) rfl rfl hl.1 rfl (lv_room (Nat.le_of_ble_eq_true rfl)) d_MO_gcd_64 ⟨(by show _ ≤ 0; omega), (by show _ ≤ 0; omega)⟩) hW (fun h46 H locs hk hW => ?_)
      obtain ⟨w, mm47⟩ := hk
      have w := w mm47
      have hm := hm.tr mm47
      have t48 := mm47.tg t40 (by decide)
      have t49 := mm47.tg t43 (by decide)
      refine lv_aload_n hx hb d_MO_gcd_67 rfl (lv_at hl 0 rfl) ?_
      refine lv_bipush (v := 13) hx hb d_MO_gcd_68 (by decide) ?_
      refine lv_bipush (v := 14) hx hb d_MO_gcd_70 (by decide) ?_
      refine hb_callv (va_runV (As := [.int (13 : Int32), .int (14 : Int32)]) (rest := []) ⟨hx, hb, hml, hown, hts⟩ (m_MO_copyRow G x37 (13 : Int32) (14 : Int32) h46 hst w) (cwV 2 hts (zx_gV hT wd_691 wd_693 wd_s16 wd_5 wd_694) rfl rfl rfl (by decide +kernel) ⟨Nat.le_of_ble_eq_true rfl, Nat.le_of_ble_eq_true rfl⟩) (hb_preV hK hX hW t48 (by decide) rfl) rfl rfl hl.1 rfl (lv_room (Nat.le_of_ble_eq_true rfl)) d_MO_gcd_72 ⟨(by show _ ≤ 0; omega), (by show _ ≤ 0; omega)⟩) hW (fun h50 H locs hk hW => ?_)
      obtain ⟨w, mm51⟩ := hk
      have w := w mm51
      have hm := hm.tr mm51
      have t52 := mm51.tg t48 (by decide)
      have t53 := mm51.tg t49 (by decide)
      refine lv_aload_n hx hb d_MO_gcd_75 rfl (lv_at hl 0 rfl) ?_
      refine lv_bipush (v := 14) hx hb d_MO_gcd_76 (by decide) ?_
      refine lv_bipush (v := 16) hx hb d_MO_gcd_78 (by decide) ?_
      refine hb_callv (va_runV (As := [.int (14 : Int32), .int (16 : Int32)]) (rest := []) ⟨hx, hb, hml, hown, hts⟩ (m_MO_copyRow G x37 (14 : Int32) (16 : Int32) h50 hst w) (cwV 2 hts (zx_gV hT wd_691 wd_693 wd_s16 wd_5 wd_694) rfl rfl rfl (by decide +kernel) ⟨Nat.le_of_ble_eq_true rfl, Nat.le_of_ble_eq_true rfl⟩) (hb_preV hK hX hW t52 (by decide) rfl) rfl rfl hl.1 rfl (lv_room (Nat.le_of_ble_eq_true rfl)) d_MO_gcd_80 ⟨(by show _ ≤ 0; omega), (by show _ ≤ 0; omega)⟩) hW (fun h54 H locs hk hW => ?_)
      obtain ⟨w, mm55⟩ := hk
      have w := w mm55
      have hm := hm.tr mm55
      have t56 := mm55.tg t52 (by decide)
      have t57 := mm55.tg t53 (by decide)
      refine lv_goto (tgt := 49) hx hb d_MO_gcd_83 (by decide) ?_
      exact ih x37 x38 h54 _ _ _ w hm hW (lv_sub hl [0, 1] rfl)
set_option maxHeartbeats 4000000 in
set_option maxRecDepth 100000 in
theorem tb_MO_gcd_107 {p : Program} {l : Launch} {e : Env} {s : State} {m : MethodId} {args : Array Value} {below : List Frame} {meth : Method} {c : Code} {G : zG} (C : cx_C p l s m args meth c G y_MO_gcd b_MO_gcd 4 none "BigDeskModel" (Cond.code y_MO_gcd b_MO_gcd 4 none :: zx_T) []) {K : ah_H → Prop} {h0 : ah_H} {cells slots : Nat} (hcl : cells + 0 ≤ 0) (hsl : slots + 0 ≤ 0)  (x69 : Nat) (x70 : Int32) (s71 : Int32) (s72 : Int32) (s73 : Nat) (h74 : ah_H) (H : Heap) (locs : List Loc) (ls : Array Slot) (w : bk_MO_gcd_107 K x69 x70 s71 s72 s73 h74) (hm : ah_m h0 h74) (hW : ah_W G s.heap h74 H locs) (hl : lv_has ls 4 [(0, .ref x69), (1, .int x70)]) : W p l e rm_MO_gcd s m args below meth c H locs cells slots (MQ below (va_Qv (fun h9 => K h9 ∧ ah_m h0 h9) (ah_B G) (fun q => G.2.2 ≤ q)) args s 0 0 (fun q => G.2.2 ≤ q)) (F0 m 107 ls [.int s71, .int s72, .ref s73]) := by
  unfold bk_MO_gcd_107 at w
  obtain ⟨hx, hb, hr, hml, hown, hts, hT, hlk, hK, hX, htb, hin, hst⟩ := id C
  have hw : ∀ {w9 : Cond}, w9 ∈ zx_T → w9.before _ s = true := fun h9 => hts _ (hT _ h9)
  obtain ⟨t75, w⟩ := w
  obtain ⟨i76, w⟩ := w
  refine hb_iast hx hb hK hW t75 (by decide) (by decide) 0 rfl i76 d_MO_gcd_107 (fun H locs h77 eh77 hW => ?_)
  have w := w h77 eh77
  have mm78 : ah_m h74 h77 := ah_m.rf.st (by rw [eh77]; rfl) (by rw [eh77]; rfl)
  have hm := hm.tr mm78
  have t79 := mm78.tg t75 (by decide)
  refine lv_aload_n hx hb d_MO_gcd_108 rfl (lv_at hl 0 rfl) ?_
  refine lv_iload_n hx hb d_MO_gcd_109 rfl (lv_at hl 1 rfl) ?_
  refine lv_bipush (v := 13) hx hb d_MO_gcd_110 (by decide) ?_
  obtain ⟨t80, w⟩ := w
  refine hb_callv (va_runV (As := [.int x70, .int (13 : Int32)]) (rest := []) ⟨hx, hb, hml, hown, hts⟩ (m_MO_copyRow G x69 x70 (13 : Int32) h77 hst w) (cwV 2 hts (zx_gV hT wd_691 wd_693 wd_s16 wd_5 wd_694) rfl rfl rfl (by decide +kernel) ⟨Nat.le_of_ble_eq_true rfl, Nat.le_of_ble_eq_true rfl⟩) (hb_preV hK hX hW t80 (by decide) rfl) rfl rfl hl.1 rfl (lv_room (Nat.le_of_ble_eq_true rfl)) d_MO_gcd_112 ⟨(by show _ ≤ 0; omega), (by show _ ≤ 0; omega)⟩) hW (fun h81 H locs hk hW => ?_)
  obtain ⟨w, mm82⟩ := hk
  have w := w mm82
  have hm := hm.tr mm82
  have t83 := mm82.tg t79 (by decide)
  have t84 := mm82.tg t80 (by decide)
  exact hb_vret (K := fun h9 => K h9 ∧ ah_m h0 h9) hx hb hr hlk hK hX hW ⟨w, hm⟩ (by omega) (by omega) d_MO_gcd_115
set_option maxHeartbeats 4000000 in
set_option maxRecDepth 100000 in
theorem tb_MO_gcd_27 {p : Program} {l : Launch} {e : Env} {s : State} {m : MethodId} {args : Array Value} {below : List Frame} {meth : Method} {c : Code} {G : zG} (C : cx_C p l s m args meth c G y_MO_gcd b_MO_gcd 4 none "BigDeskModel" (Cond.code y_MO_gcd b_MO_gcd 4 none :: zx_T) []) {K : ah_H → Prop} {h0 : ah_H} {cells slots : Nat} (hcl : cells + 0 ≤ 0) (hsl : slots + 0 ≤ 0)  (x15 : Nat) (x16 : Int32) (x17 : Int32) (x18 : Int32) (s19 : Int32) (s20 : Nat) (h21 : ah_H) (H : Heap) (locs : List Loc) (ls : Array Slot) (w : bk_MO_gcd_27 K x15 x16 x17 x18 s19 s20 h21) (hm : ah_m h0 h21) (hW : ah_W G s.heap h21 H locs) (hl : lv_has ls 4 [(0, .ref x15), (1, .int x16), (2, .int x17), (3, .int x18)]) : W p l e rm_MO_gcd s m args below meth c H locs cells slots (MQ below (va_Qv (fun h9 => K h9 ∧ ah_m h0 h9) (ah_B G) (fun q => G.2.2 ≤ q)) args s 0 0 (fun q => G.2.2 ≤ q)) (F0 m 27 ls [.int s19, .ref s20]) := by
  unfold bk_MO_gcd_27 at w
  obtain ⟨hx, hb, hr, hml, hown, hts, hT, hlk, hK, hX, htb, hin, hst⟩ := id C
  have hw : ∀ {w9 : Cond}, w9 ∈ zx_T → w9.before _ s = true := fun h9 => hts _ (hT _ h9)
  refine lv_iconst (v := 1) hx hb d_MO_gcd_27 (by decide) ?_
  obtain ⟨t22, w⟩ := w
  refine hb_calli (va_runV (As := [.int s19, .int (1 : Int32)]) (rest := []) ⟨hx, hb, hml, hown, hts⟩ (m_MO_fails G s20 s19 (1 : Int32) h21 hst w) (cwV 2 hts (zx_gV hT wd_683 wd_685 wd_s15 wd_5 wd_686) rfl rfl rfl (by decide +kernel) ⟨Nat.le_of_ble_eq_true rfl, Nat.le_of_ble_eq_true rfl⟩) (hb_preV hK hX hW t22 (by decide) rfl) rfl rfl hl.1 rfl (lv_room (Nat.le_of_ble_eq_true rfl)) d_MO_gcd_28 ⟨(by show _ ≤ 0; omega), (by show _ ≤ 0; omega)⟩) hW (fun r24 h23 H locs hk hW => ?_)
  obtain ⟨w, mm25⟩ := hk
  have w := w mm25
  have hm := hm.tr mm25
  have t26 := mm25.tg t22 (by decide)
  refine lv_if_eq (tgt := 35) hx hb d_MO_gcd_31 (by decide) (fun c27 => ?_) (fun c27 => ?_)
  · have w := w.1 c27
    refine lv_aload_n hx hb d_MO_gcd_35 rfl (lv_at hl 0 rfl) ?_
    refine lv_bipush (v := 13) hx hb d_MO_gcd_36 (by decide) ?_
    refine lv_iload_n hx hb d_MO_gcd_38 rfl (lv_at hl 2 rfl) ?_
    obtain ⟨t28, w⟩ := w
    refine hb_callv (va_runV (As := [.int (13 : Int32), .int x17]) (rest := []) ⟨hx, hb, hml, hown, hts⟩ (m_MO_copyRow G x15 (13 : Int32) x17 h23 hst w) (cwV 2 hts (zx_gV hT wd_691 wd_693 wd_s16 wd_5 wd_694) rfl rfl rfl (by decide +kernel) ⟨Nat.le_of_ble_eq_true rfl, Nat.le_of_ble_eq_true rfl⟩) (hb_preV hK hX hW t28 (by decide) rfl) rfl rfl hl.1 rfl (lv_room (Nat.le_of_ble_eq_true rfl)) d_MO_gcd_39 ⟨(by show _ ≤ 0; omega), (by show _ ≤ 0; omega)⟩) hW (fun h29 H locs hk hW => ?_)
    obtain ⟨w, mm30⟩ := hk
    have w := w mm30
    have hm := hm.tr mm30
    have t31 := mm30.tg t26 (by decide)
    have t32 := mm30.tg t28 (by decide)
    refine lv_aload_n hx hb d_MO_gcd_42 rfl (lv_at hl 0 rfl) ?_
    refine lv_bipush (v := 14) hx hb d_MO_gcd_43 (by decide) ?_
    refine lv_iload_n hx hb d_MO_gcd_45 rfl (lv_at hl 3 rfl) ?_
    refine hb_callv (va_runV (As := [.int (14 : Int32), .int x18]) (rest := []) ⟨hx, hb, hml, hown, hts⟩ (m_MO_copyRow G x15 (14 : Int32) x18 h29 hst w) (cwV 2 hts (zx_gV hT wd_691 wd_693 wd_s16 wd_5 wd_694) rfl rfl rfl (by decide +kernel) ⟨Nat.le_of_ble_eq_true rfl, Nat.le_of_ble_eq_true rfl⟩) (hb_preV hK hX hW t32 (by decide) rfl) rfl rfl hl.1 rfl (lv_room (Nat.le_of_ble_eq_true rfl)) d_MO_gcd_46 ⟨(by show _ ≤ 0; omega), (by show _ ≤ 0; omega)⟩) hW (fun h33 H locs hk hW => ?_)
    obtain ⟨w, mm34⟩ := hk
    have w := w mm34
    have hm := hm.tr mm34
    have t35 := mm34.tg t31 (by decide)
    have t36 := mm34.tg t32 (by decide)
    obtain ⟨k85, w⟩ := w
    refine tl_MO_gcd_49 C (by omega) (by omega) (fun x58 x59 h60 H locs ls w hm hW hl => ?_) k85 x15 x16 h33 _ _ _ w hm hW (lv_sub hl [0, 1] rfl)
    · refine lv_aload_n hx hb d_MO_gcd_86 rfl (lv_at hl 0 rfl) ?_
      obtain ⟨t61, w⟩ := w
      obtain ⟨q62, e63, w⟩ := w
      refine hb_get (ci := 4) (C := "BigDeskModel") (T := T_MO) (N := 8) hx hb hts (fun w9 h9 => hT w9 (u_MO w9 h9)) hown hK hW t61 rfl (by decide) 3 (by decide) (hw wd_649) (fun _ h9 => h9) (q := (2, 15)) rfl (v := .ref q62) (ah_f_R e63) d_MO_gcd_87 ?_
      refine lv_bipush (v := 13) hx hb d_MO_gcd_90 (by decide) ?_
      refine lv_aload_n hx hb d_MO_gcd_92 rfl (lv_at hl 0 rfl) ?_
      obtain ⟨q64, e65, w⟩ := w
      refine hb_get (ci := 4) (C := "BigDeskModel") (T := T_MO) (N := 8) hx hb hts (fun w9 h9 => hT w9 (u_MO w9 h9)) hown hK hW t61 rfl (by decide) 2 (by decide) (hw wd_648) (fun _ h9 => h9) (q := (2, 14)) rfl (v := .ref q64) (ah_f_R e65) d_MO_gcd_93 ?_
      refine lv_bipush (v := 13) hx hb d_MO_gcd_96 (by decide) ?_
      obtain ⟨t66, w⟩ := w
      obtain ⟨i67, w⟩ := w
      refine hb_iald hx hb hK hW t66 (by decide) (by decide) 0 rfl i67 d_MO_gcd_98 ?_
      refine lv_if_le (tgt := 106) hx hb d_MO_gcd_99 (by decide) (fun c68 => ?_) (fun c68 => ?_)
      · have w := w.1 c68
        refine lv_iconst (v := 0) hx hb d_MO_gcd_106 (by decide) ?_
        exact tb_MO_gcd_107 C (by omega) (by omega)  x58 x59 (0 : Int32) (13 : Int32) q62 h60 _ _ _ w hm hW (lv_sub hl [0, 1] rfl)
      · have w := w.2 c68
        refine lv_iconst (v := 1) hx hb d_MO_gcd_102 (by decide) ?_
        refine lv_goto (tgt := 107) hx hb d_MO_gcd_103 (by decide) ?_
        exact tb_MO_gcd_107 C (by omega) (by omega)  x58 x59 (1 : Int32) (13 : Int32) q62 h60 _ _ _ w hm hW (lv_sub hl [0, 1] rfl)
  · have w := w.2 c27
    exact hb_vret (K := fun h9 => K h9 ∧ ah_m h0 h9) hx hb hr hlk hK hX hW ⟨w, hm⟩ (by omega) (by omega) d_MO_gcd_34
set_option maxHeartbeats 4000000 in
set_option maxRecDepth 100000 in
theorem tb_MO_gcd_22 {p : Program} {l : Launch} {e : Env} {s : State} {m : MethodId} {args : Array Value} {below : List Frame} {meth : Method} {c : Code} {G : zG} (C : cx_C p l s m args meth c G y_MO_gcd b_MO_gcd 4 none "BigDeskModel" (Cond.code y_MO_gcd b_MO_gcd 4 none :: zx_T) []) {K : ah_H → Prop} {h0 : ah_H} {cells slots : Nat} (hcl : cells + 0 ≤ 0) (hsl : slots + 0 ≤ 0)  (x9 : Nat) (x10 : Int32) (x11 : Int32) (x12 : Int32) (s13 : Nat) (h14 : ah_H) (H : Heap) (locs : List Loc) (ls : Array Slot) (w : bk_MO_gcd_22 K x9 x10 x11 x12 s13 h14) (hm : ah_m h0 h14) (hW : ah_W G s.heap h14 H locs) (hl : lv_has ls 4 [(0, .ref x9), (1, .int x10), (2, .int x11), (3, .int x12)]) : W p l e rm_MO_gcd s m args below meth c H locs cells slots (MQ below (va_Qv (fun h9 => K h9 ∧ ah_m h0 h9) (ah_B G) (fun q => G.2.2 ≤ q)) args s 0 0 (fun q => G.2.2 ≤ q)) (F0 m 22 ls [.ref s13]) := by
  unfold bk_MO_gcd_22 at w
  obtain ⟨hx, hb, hr, hml, hown, hts, hT, hlk, hK, hX, htb, hin, hst⟩ := id C
  have hw : ∀ {w9 : Cond}, w9 ∈ zx_T → w9.before _ s = true := fun h9 => hts _ (hT _ h9)
  refine lv_iconst (v := 1) hx hb d_MO_gcd_22 (by decide) ?_
  refine lv_goto (tgt := 27) hx hb d_MO_gcd_23 (by decide) ?_
  exact tb_MO_gcd_27 C (by omega) (by omega)  x9 x10 x11 x12 (1 : Int32) s13 h14 _ _ _ w hm hW (lv_sub hl [0, 1, 2, 3] rfl)
set_option maxHeartbeats 4000000 in
set_option maxRecDepth 100000 in
theorem m_MO_gcd {l : Launch} (G : zG) (a1 : Nat) (a2 : Int32) (a3 : Int32) (a4 : Int32) (h0 : ah_H) {K : ah_H → Prop} (hst : l.stackTraces = false) (w : w_MO_gcd a1 a2 a3 a4 h0 K) : Met l y_MO_gcd (Cond.code y_MO_gcd b_MO_gcd 4 none :: zx_T) rm_MO_gcd (va_Pc [.ref a1, .int a2, .int a3, .int a4] (ah_B G h0)) (va_Qv (fun h9 => K h9 ∧ ah_m h0 h9) (ah_B G) (fun q => G.2.2 ≤ q)) 0 0 (fun q => G.2.2 ≤ q) := by
  refine Met.ofW (cc := b_MO_gcd) (maxL := 4) (ret := none) (by decide) rfl ?_
  intro p e s m args below meth c s₁ B hml hv
  have htb := cx_out B (atoms_spec B.pre _ List.mem_cons_self)
  obtain ⟨rfl, hB⟩ := hv
  have C : cx_C p l s m _ meth c G y_MO_gcd b_MO_gcd 4 none "BigDeskModel" (Cond.code y_MO_gcd b_MO_gcd 4 none :: zx_T) [] := ⟨B.exec, B.bytes, B.returns, hml, findClass_of_methodNamed B.named, atoms_spec B.pre, cx_hd, B.notSynchronized, hB.2.2.1, hB.2.2.2, htb, fun z9 => (name_of_methodNamed B.named B.method).1.trans z9, hst⟩
  obtain ⟨hx, hb, hr, hml, hown, hts, hT, hlk, hK, hX, htb, hin, hst⟩ := id C
  have hw : ∀ {w9 : Cond}, w9 ∈ zx_T → w9.before _ s = true := fun h9 => hts _ (hT _ h9)
  have hW : ah_W G s.heap h0 s.heap [] := ⟨hB.1, hB.2.1, va_S.rf⟩
  have hm : ah_m h0 h0 := ah_m.rf
  have hcl : 0 + 0 ≤ 0 := by decide
  have hsl : 0 + 0 ≤ 0 := by decide
  have hl := lv_entry ([.ref a1, .int a2, .int a3, .int a4]) (n := 4) (Nat.le_of_ble_eq_true rfl)
  rw [lg_entry_eq]
  generalize (lg_sl ([.ref a1, .int a2, .int a3, .int a4]) ++ List.replicate (4 - (lg_sl ([.ref a1, .int a2, .int a3, .int a4])).length) Slot.unset).toArray = ls at hl ⊢
  have hl : lv_has ls 4 [(0, .ref a1), (1, .int a2), (2, .int a3), (3, .int a4)] := hl
  unfold w_MO_gcd at w
  refine lv_aload_n hx hb d_MO_gcd_0 rfl (lv_at hl 0 rfl) ?_
  refine lv_iload_n hx hb d_MO_gcd_1 rfl (lv_at hl 1 rfl) ?_
  refine hb_calli (va_runS (As := [.int a2]) (rest := [.ref a1]) ⟨hx, hb, hml, hown, hts⟩ (m_MO_isNone G a2 h0 hst w) (va_cwS 1 hts (zx_gS hT wd_680 wd_681 wd_5 wd_682) rfl rfl rfl (by decide +kernel) ⟨Nat.le_of_ble_eq_true rfl, Nat.le_of_ble_eq_true rfl⟩) (hb_preS hK hX hW) rfl rfl hl.1 rfl (lv_room (Nat.le_of_ble_eq_true rfl)) d_MO_gcd_2 ⟨(by show _ ≤ 0; omega), (by show _ ≤ 0; omega)⟩) hW (fun r6 h5 H locs hk hW => ?_)
  obtain ⟨w, mm7⟩ := hk
  have w := w mm7
  have hm := hm.tr mm7
  refine lv_if_ne (tgt := 22) hx hb d_MO_gcd_5 (by decide) (fun c8 => ?_) (fun c8 => ?_)
  · have w := w.1 c8
    exact tb_MO_gcd_22 C (by omega) (by omega)  a1 a2 a3 a4 a1 h5 _ _ _ w hm hW (lv_sub hl [0, 1, 2, 3] rfl)
  · have w := w.2 c8
    refine lv_iload_n hx hb d_MO_gcd_8 rfl (lv_at hl 2 rfl) ?_
    refine hb_calli (va_runS (As := [.int a3]) (rest := [.ref a1]) ⟨hx, hb, hml, hown, hts⟩ (m_MO_isNone G a3 h5 hst w) (va_cwS 1 hts (zx_gS hT wd_680 wd_681 wd_5 wd_682) rfl rfl rfl (by decide +kernel) ⟨Nat.le_of_ble_eq_true rfl, Nat.le_of_ble_eq_true rfl⟩) (hb_preS hK hX hW) rfl rfl hl.1 rfl (lv_room (Nat.le_of_ble_eq_true rfl)) d_MO_gcd_9 ⟨(by show _ ≤ 0; omega), (by show _ ≤ 0; omega)⟩) hW (fun r87 h86 H locs hk hW => ?_)
    obtain ⟨w, mm88⟩ := hk
    have w := w mm88
    have hm := hm.tr mm88
    refine lv_if_ne (tgt := 22) hx hb d_MO_gcd_12 (by decide) (fun c89 => ?_) (fun c89 => ?_)
    · have w := w.1 c89
      exact tb_MO_gcd_22 C (by omega) (by omega)  a1 a2 a3 a4 a1 h86 _ _ _ w hm hW (lv_sub hl [0, 1, 2, 3] rfl)
    · have w := w.2 c89
      refine lv_iload_n hx hb d_MO_gcd_15 rfl (lv_at hl 3 rfl) ?_
      refine hb_calli (va_runS (As := [.int a4]) (rest := [.ref a1]) ⟨hx, hb, hml, hown, hts⟩ (m_MO_isNone G a4 h86 hst w) (va_cwS 1 hts (zx_gS hT wd_680 wd_681 wd_5 wd_682) rfl rfl rfl (by decide +kernel) ⟨Nat.le_of_ble_eq_true rfl, Nat.le_of_ble_eq_true rfl⟩) (hb_preS hK hX hW) rfl rfl hl.1 rfl (lv_room (Nat.le_of_ble_eq_true rfl)) d_MO_gcd_16 ⟨(by show _ ≤ 0; omega), (by show _ ≤ 0; omega)⟩) hW (fun r91 h90 H locs hk hW => ?_)
      obtain ⟨w, mm92⟩ := hk
      have w := w mm92
      have hm := hm.tr mm92
      refine lv_if_eq (tgt := 26) hx hb d_MO_gcd_19 (by decide) (fun c93 => ?_) (fun c93 => ?_)
      · have w := w.1 c93
        refine lv_iconst (v := 0) hx hb d_MO_gcd_26 (by decide) ?_
        exact tb_MO_gcd_27 C (by omega) (by omega)  a1 a2 a3 a4 (0 : Int32) a1 h90 _ _ _ w hm hW (lv_sub hl [0, 1, 2, 3] rfl)
      · have w := w.2 c93
        exact tb_MO_gcd_22 C (by omega) (by omega)  a1 a2 a3 a4 a1 h90 _ _ _ w hm hW (lv_sub hl [0, 1, 2, 3] rfl)
set_option maxHeartbeats 4000000 in
set_option maxRecDepth 100000 in
theorem tb_MO_negate_20 {p : Program} {l : Launch} {e : Env} {s : State} {m : MethodId} {args : Array Value} {below : List Frame} {meth : Method} {c : Code} {G : zG} (C : cx_C p l s m args meth c G y_MO_negate b_MO_negate 3 none "BigDeskModel" (Cond.code y_MO_negate b_MO_negate 3 none :: zx_T) []) {K : ah_H → Prop} {h0 : ah_H} {cells slots : Nat} (hcl : cells + 0 ≤ 0) (hsl : slots + 0 ≤ 0)  (x13 : Nat) (x14 : Int32) (x15 : Int32) (s16 : Int32) (s17 : Nat) (h18 : ah_H) (H : Heap) (locs : List Loc) (ls : Array Slot) (w : bk_MO_negate_20 K x13 x14 x15 s16 s17 h18) (hm : ah_m h0 h18) (hW : ah_W G s.heap h18 H locs) (hl : lv_has ls 3 [(0, .ref x13), (1, .int x14), (2, .int x15)]) : W p l e rm_MO_negate s m args below meth c H locs cells slots (MQ below (va_Qv (fun h9 => K h9 ∧ ah_m h0 h9) (ah_B G) (fun q => G.2.2 ≤ q)) args s 0 0 (fun q => G.2.2 ≤ q)) (F0 m 20 ls [.int s16, .ref s17]) := by
  unfold bk_MO_negate_20 at w
  obtain ⟨hx, hb, hr, hml, hown, hts, hT, hlk, hK, hX, htb, hin, hst⟩ := id C
  have hw : ∀ {w9 : Cond}, w9 ∈ zx_T → w9.before _ s = true := fun h9 => hts _ (hT _ h9)
  refine lv_iconst (v := 1) hx hb d_MO_negate_20 (by decide) ?_
  obtain ⟨t19, w⟩ := w
  refine hb_calli (va_runV (As := [.int s16, .int (1 : Int32)]) (rest := []) ⟨hx, hb, hml, hown, hts⟩ (m_MO_fails G s17 s16 (1 : Int32) h18 hst w) (cwV 2 hts (zx_gV hT wd_683 wd_685 wd_s15 wd_5 wd_686) rfl rfl rfl (by decide +kernel) ⟨Nat.le_of_ble_eq_true rfl, Nat.le_of_ble_eq_true rfl⟩) (hb_preV hK hX hW t19 (by decide) rfl) rfl rfl hl.1 rfl (lv_room (Nat.le_of_ble_eq_true rfl)) d_MO_negate_21 ⟨(by show _ ≤ 0; omega), (by show _ ≤ 0; omega)⟩) hW (fun r21 h20 H locs hk hW => ?_)
  obtain ⟨w, mm22⟩ := hk
  have w := w mm22
  have hm := hm.tr mm22
  have t23 := mm22.tg t19 (by decide)
  refine lv_if_eq (tgt := 28) hx hb d_MO_negate_24 (by decide) (fun c24 => ?_) (fun c24 => ?_)
  · have w := w.1 c24
    refine lv_aload_n hx hb d_MO_negate_28 rfl (lv_at hl 0 rfl) ?_
    refine lv_bipush (v := 13) hx hb d_MO_negate_29 (by decide) ?_
    refine lv_iload_n hx hb d_MO_negate_31 rfl (lv_at hl 2 rfl) ?_
    obtain ⟨t25, w⟩ := w
    refine hb_callv (va_runV (As := [.int (13 : Int32), .int x15]) (rest := []) ⟨hx, hb, hml, hown, hts⟩ (m_MO_copyRow G x13 (13 : Int32) x15 h20 hst w) (cwV 2 hts (zx_gV hT wd_691 wd_693 wd_s16 wd_5 wd_694) rfl rfl rfl (by decide +kernel) ⟨Nat.le_of_ble_eq_true rfl, Nat.le_of_ble_eq_true rfl⟩) (hb_preV hK hX hW t25 (by decide) rfl) rfl rfl hl.1 rfl (lv_room (Nat.le_of_ble_eq_true rfl)) d_MO_negate_32 ⟨(by show _ ≤ 0; omega), (by show _ ≤ 0; omega)⟩) hW (fun h26 H locs hk hW => ?_)
    obtain ⟨w, mm27⟩ := hk
    have w := w mm27
    have hm := hm.tr mm27
    have t28 := mm27.tg t23 (by decide)
    have t29 := mm27.tg t25 (by decide)
    refine lv_aload_n hx hb d_MO_negate_35 rfl (lv_at hl 0 rfl) ?_
    obtain ⟨q30, e31, w⟩ := w
    refine hb_get (ci := 4) (C := "BigDeskModel") (T := T_MO) (N := 8) hx hb hts (fun w9 h9 => hT w9 (u_MO w9 h9)) hown hK hW t29 rfl (by decide) 3 (by decide) (hw wd_649) (fun _ h9 => h9) (q := (2, 15)) rfl (v := .ref q30) (ah_f_R e31) d_MO_negate_36 ?_
    refine lv_bipush (v := 13) hx hb d_MO_negate_39 (by decide) ?_
    refine lv_aload_n hx hb d_MO_negate_41 rfl (lv_at hl 0 rfl) ?_
    obtain ⟨q32, e33, w⟩ := w
    refine hb_get (ci := 4) (C := "BigDeskModel") (T := T_MO) (N := 8) hx hb hts (fun w9 h9 => hT w9 (u_MO w9 h9)) hown hK hW t29 rfl (by decide) 3 (by decide) (hw wd_649) (fun _ h9 => h9) (q := (2, 15)) rfl (v := .ref q32) (ah_f_R e33) d_MO_negate_42 ?_
    refine lv_bipush (v := 13) hx hb d_MO_negate_45 (by decide) ?_
    obtain ⟨t34, w⟩ := w
    obtain ⟨i35, w⟩ := w
    refine hb_iald hx hb hK hW t34 (by decide) (by decide) 0 rfl i35 d_MO_negate_47 ?_
    refine lv_ineg hx hb d_MO_negate_48 ?_
    refine lv_topi (fun v36 ev36 => ?_)
    have w := w v36 ev36
    obtain ⟨t37, w⟩ := w
    obtain ⟨i38, w⟩ := w
    refine hb_iast hx hb hK hW t37 (by decide) (by decide) 0 rfl i38 d_MO_negate_49 (fun H locs h39 eh39 hW => ?_)
    have w := w h39 eh39
    have mm40 : ah_m h26 h39 := ah_m.rf.st (by rw [eh39]; rfl) (by rw [eh39]; rfl)
    have hm := hm.tr mm40
    have t41 := mm40.tg t28 (by decide)
    have t42 := mm40.tg t29 (by decide)
    have t43 := mm40.tg t34 (by decide)
    have t44 := mm40.tg t37 (by decide)
    refine lv_aload_n hx hb d_MO_negate_50 rfl (lv_at hl 0 rfl) ?_
    refine lv_iload_n hx hb d_MO_negate_51 rfl (lv_at hl 1 rfl) ?_
    refine lv_bipush (v := 13) hx hb d_MO_negate_52 (by decide) ?_
    refine hb_callv (va_runV (As := [.int x14, .int (13 : Int32)]) (rest := []) ⟨hx, hb, hml, hown, hts⟩ (m_MO_copyRow G x13 x14 (13 : Int32) h39 hst w) (cwV 2 hts (zx_gV hT wd_691 wd_693 wd_s16 wd_5 wd_694) rfl rfl rfl (by decide +kernel) ⟨Nat.le_of_ble_eq_true rfl, Nat.le_of_ble_eq_true rfl⟩) (hb_preV hK hX hW t42 (by decide) rfl) rfl rfl hl.1 rfl (lv_room (Nat.le_of_ble_eq_true rfl)) d_MO_negate_54 ⟨(by show _ ≤ 0; omega), (by show _ ≤ 0; omega)⟩) hW (fun h45 H locs hk hW => ?_)
    obtain ⟨w, mm46⟩ := hk
    have w := w mm46
    have hm := hm.tr mm46
    have t47 := mm46.tg t41 (by decide)
    have t48 := mm46.tg t42 (by decide)
    have t49 := mm46.tg t43 (by decide)
    have t50 := mm46.tg t44 (by decide)
    exact hb_vret (K := fun h9 => K h9 ∧ ah_m h0 h9) hx hb hr hlk hK hX hW ⟨w, hm⟩ (by omega) (by omega) d_MO_negate_57
  · have w := w.2 c24
    exact hb_vret (K := fun h9 => K h9 ∧ ah_m h0 h9) hx hb hr hlk hK hX hW ⟨w, hm⟩ (by omega) (by omega) d_MO_negate_27
set_option maxHeartbeats 4000000 in
set_option maxRecDepth 100000 in
theorem tb_MO_negate_15 {p : Program} {l : Launch} {e : Env} {s : State} {m : MethodId} {args : Array Value} {below : List Frame} {meth : Method} {c : Code} {G : zG} (C : cx_C p l s m args meth c G y_MO_negate b_MO_negate 3 none "BigDeskModel" (Cond.code y_MO_negate b_MO_negate 3 none :: zx_T) []) {K : ah_H → Prop} {h0 : ah_H} {cells slots : Nat} (hcl : cells + 0 ≤ 0) (hsl : slots + 0 ≤ 0)  (x8 : Nat) (x9 : Int32) (x10 : Int32) (s11 : Nat) (h12 : ah_H) (H : Heap) (locs : List Loc) (ls : Array Slot) (w : bk_MO_negate_15 K x8 x9 x10 s11 h12) (hm : ah_m h0 h12) (hW : ah_W G s.heap h12 H locs) (hl : lv_has ls 3 [(0, .ref x8), (1, .int x9), (2, .int x10)]) : W p l e rm_MO_negate s m args below meth c H locs cells slots (MQ below (va_Qv (fun h9 => K h9 ∧ ah_m h0 h9) (ah_B G) (fun q => G.2.2 ≤ q)) args s 0 0 (fun q => G.2.2 ≤ q)) (F0 m 15 ls [.ref s11]) := by
  unfold bk_MO_negate_15 at w
  obtain ⟨hx, hb, hr, hml, hown, hts, hT, hlk, hK, hX, htb, hin, hst⟩ := id C
  have hw : ∀ {w9 : Cond}, w9 ∈ zx_T → w9.before _ s = true := fun h9 => hts _ (hT _ h9)
  refine lv_iconst (v := 1) hx hb d_MO_negate_15 (by decide) ?_
  refine lv_goto (tgt := 20) hx hb d_MO_negate_16 (by decide) ?_
  exact tb_MO_negate_20 C (by omega) (by omega)  x8 x9 x10 (1 : Int32) s11 h12 _ _ _ w hm hW (lv_sub hl [0, 1, 2] rfl)
set_option maxHeartbeats 4000000 in
set_option maxRecDepth 100000 in
theorem m_MO_negate {l : Launch} (G : zG) (a1 : Nat) (a2 : Int32) (a3 : Int32) (h0 : ah_H) {K : ah_H → Prop} (hst : l.stackTraces = false) (w : w_MO_negate a1 a2 a3 h0 K) : Met l y_MO_negate (Cond.code y_MO_negate b_MO_negate 3 none :: zx_T) rm_MO_negate (va_Pc [.ref a1, .int a2, .int a3] (ah_B G h0)) (va_Qv (fun h9 => K h9 ∧ ah_m h0 h9) (ah_B G) (fun q => G.2.2 ≤ q)) 0 0 (fun q => G.2.2 ≤ q) := by
  refine Met.ofW (cc := b_MO_negate) (maxL := 3) (ret := none) (by decide) rfl ?_
  intro p e s m args below meth c s₁ B hml hv
  have htb := cx_out B (atoms_spec B.pre _ List.mem_cons_self)
  obtain ⟨rfl, hB⟩ := hv
  have C : cx_C p l s m _ meth c G y_MO_negate b_MO_negate 3 none "BigDeskModel" (Cond.code y_MO_negate b_MO_negate 3 none :: zx_T) [] := ⟨B.exec, B.bytes, B.returns, hml, findClass_of_methodNamed B.named, atoms_spec B.pre, cx_hd, B.notSynchronized, hB.2.2.1, hB.2.2.2, htb, fun z9 => (name_of_methodNamed B.named B.method).1.trans z9, hst⟩
  obtain ⟨hx, hb, hr, hml, hown, hts, hT, hlk, hK, hX, htb, hin, hst⟩ := id C
  have hw : ∀ {w9 : Cond}, w9 ∈ zx_T → w9.before _ s = true := fun h9 => hts _ (hT _ h9)
  have hW : ah_W G s.heap h0 s.heap [] := ⟨hB.1, hB.2.1, va_S.rf⟩
  have hm : ah_m h0 h0 := ah_m.rf
  have hcl : 0 + 0 ≤ 0 := by decide
  have hsl : 0 + 0 ≤ 0 := by decide
  have hl := lv_entry ([.ref a1, .int a2, .int a3]) (n := 3) (Nat.le_of_ble_eq_true rfl)
  rw [lg_entry_eq]
  generalize (lg_sl ([.ref a1, .int a2, .int a3]) ++ List.replicate (3 - (lg_sl ([.ref a1, .int a2, .int a3])).length) Slot.unset).toArray = ls at hl ⊢
  have hl : lv_has ls 3 [(0, .ref a1), (1, .int a2), (2, .int a3)] := hl
  unfold w_MO_negate at w
  refine lv_aload_n hx hb d_MO_negate_0 rfl (lv_at hl 0 rfl) ?_
  refine lv_iload_n hx hb d_MO_negate_1 rfl (lv_at hl 1 rfl) ?_
  refine hb_calli (va_runS (As := [.int a2]) (rest := [.ref a1]) ⟨hx, hb, hml, hown, hts⟩ (m_MO_isNone G a2 h0 hst w) (va_cwS 1 hts (zx_gS hT wd_680 wd_681 wd_5 wd_682) rfl rfl rfl (by decide +kernel) ⟨Nat.le_of_ble_eq_true rfl, Nat.le_of_ble_eq_true rfl⟩) (hb_preS hK hX hW) rfl rfl hl.1 rfl (lv_room (Nat.le_of_ble_eq_true rfl)) d_MO_negate_2 ⟨(by show _ ≤ 0; omega), (by show _ ≤ 0; omega)⟩) hW (fun r5 h4 H locs hk hW => ?_)
  obtain ⟨w, mm6⟩ := hk
  have w := w mm6
  have hm := hm.tr mm6
  refine lv_if_ne (tgt := 15) hx hb d_MO_negate_5 (by decide) (fun c7 => ?_) (fun c7 => ?_)
  · have w := w.1 c7
    exact tb_MO_negate_15 C (by omega) (by omega)  a1 a2 a3 a1 h4 _ _ _ w hm hW (lv_sub hl [0, 1, 2] rfl)
  · have w := w.2 c7
    refine lv_iload_n hx hb d_MO_negate_8 rfl (lv_at hl 2 rfl) ?_
    refine hb_calli (va_runS (As := [.int a3]) (rest := [.ref a1]) ⟨hx, hb, hml, hown, hts⟩ (m_MO_isNone G a3 h4 hst w) (va_cwS 1 hts (zx_gS hT wd_680 wd_681 wd_5 wd_682) rfl rfl rfl (by decide +kernel) ⟨Nat.le_of_ble_eq_true rfl, Nat.le_of_ble_eq_true rfl⟩) (hb_preS hK hX hW) rfl rfl hl.1 rfl (lv_room (Nat.le_of_ble_eq_true rfl)) d_MO_negate_9 ⟨(by show _ ≤ 0; omega), (by show _ ≤ 0; omega)⟩) hW (fun r52 h51 H locs hk hW => ?_)
    obtain ⟨w, mm53⟩ := hk
    have w := w mm53
    have hm := hm.tr mm53
    refine lv_if_eq (tgt := 19) hx hb d_MO_negate_12 (by decide) (fun c54 => ?_) (fun c54 => ?_)
    · have w := w.1 c54
      refine lv_iconst (v := 0) hx hb d_MO_negate_19 (by decide) ?_
      exact tb_MO_negate_20 C (by omega) (by omega)  a1 a2 a3 (0 : Int32) a1 h51 _ _ _ w hm hW (lv_sub hl [0, 1, 2] rfl)
    · have w := w.2 c54
      exact tb_MO_negate_15 C (by omega) (by omega)  a1 a2 a3 a1 h51 _ _ _ w hm hW (lv_sub hl [0, 1, 2] rfl)
set_option maxHeartbeats 4000000 in
set_option maxRecDepth 100000 in
theorem tb_MO_compare_64 {p : Program} {l : Launch} {e : Env} {s : State} {m : MethodId} {args : Array Value} {below : List Frame} {meth : Method} {c : Code} {G : zG} (C : cx_C p l s m args meth c G y_MO_compare b_MO_compare 3 (some .int) "BigDeskModel" (Cond.code y_MO_compare b_MO_compare 3 (some .int) :: zx_T) []) {K : Int32 → ah_H → Prop} {h0 : ah_H} {cells slots : Nat} (hcl : cells + 0 ≤ 0) (hsl : slots + 0 ≤ 0)  (s56 : Int32) (h57 : ah_H) (H : Heap) (locs : List Loc) (ls : Array Slot) (w : bk_MO_compare_64 K s56 h57) (hm : ah_m h0 h57) (hW : ah_W G s.heap h57 H locs) (hl : lv_has ls 3 []) : W p l e rm_MO_compare s m args below meth c H locs cells slots (MQ below (va_Qi (fun r9 h9 => K r9 h9 ∧ ah_m h0 h9) (ah_B G) (fun q => G.2.2 ≤ q)) args s 0 0 (fun q => G.2.2 ≤ q)) (F0 m 64 ls [.int s56]) := by
  unfold bk_MO_compare_64 at w
  obtain ⟨hx, hb, hr, hml, hown, hts, hT, hlk, hK, hX, htb, hin, hst⟩ := id C
  have hw : ∀ {w9 : Cond}, w9 ∈ zx_T → w9.before _ s = true := fun h9 => hts _ (hT _ h9)
  exact hb_iret (K := fun r9 h9 => K r9 h9 ∧ ah_m h0 h9) hx hb hr hlk hK hX hW ⟨w, hm⟩ (by omega) (by omega) d_MO_compare_64
set_option maxHeartbeats 4000000 in
set_option maxRecDepth 100000 in
theorem tb_MO_compare_20 {p : Program} {l : Launch} {e : Env} {s : State} {m : MethodId} {args : Array Value} {below : List Frame} {meth : Method} {c : Code} {G : zG} (C : cx_C p l s m args meth c G y_MO_compare b_MO_compare 3 (some .int) "BigDeskModel" (Cond.code y_MO_compare b_MO_compare 3 (some .int) :: zx_T) []) {K : Int32 → ah_H → Prop} {h0 : ah_H} {cells slots : Nat} (hcl : cells + 0 ≤ 0) (hsl : slots + 0 ≤ 0)  (x13 : Nat) (x14 : Int32) (x15 : Int32) (s16 : Int32) (s17 : Nat) (h18 : ah_H) (H : Heap) (locs : List Loc) (ls : Array Slot) (w : bk_MO_compare_20 K x13 x14 x15 s16 s17 h18) (hm : ah_m h0 h18) (hW : ah_W G s.heap h18 H locs) (hl : lv_has ls 3 [(0, .ref x13), (1, .int x14), (2, .int x15)]) : W p l e rm_MO_compare s m args below meth c H locs cells slots (MQ below (va_Qi (fun r9 h9 => K r9 h9 ∧ ah_m h0 h9) (ah_B G) (fun q => G.2.2 ≤ q)) args s 0 0 (fun q => G.2.2 ≤ q)) (F0 m 20 ls [.int s16, .ref s17]) := by
  unfold bk_MO_compare_20 at w
  obtain ⟨hx, hb, hr, hml, hown, hts, hT, hlk, hK, hX, htb, hin, hst⟩ := id C
  have hw : ∀ {w9 : Cond}, w9 ∈ zx_T → w9.before _ s = true := fun h9 => hts _ (hT _ h9)
  refine lv_iconst (v := 1) hx hb d_MO_compare_20 (by decide) ?_
  obtain ⟨t19, w⟩ := w
  refine hb_calli (va_runV (As := [.int s16, .int (1 : Int32)]) (rest := []) ⟨hx, hb, hml, hown, hts⟩ (m_MO_fails G s17 s16 (1 : Int32) h18 hst w) (cwV 2 hts (zx_gV hT wd_683 wd_685 wd_s15 wd_5 wd_686) rfl rfl rfl (by decide +kernel) ⟨Nat.le_of_ble_eq_true rfl, Nat.le_of_ble_eq_true rfl⟩) (hb_preV hK hX hW t19 (by decide) rfl) rfl rfl hl.1 rfl (lv_room (Nat.le_of_ble_eq_true rfl)) d_MO_compare_21 ⟨(by show _ ≤ 0; omega), (by show _ ≤ 0; omega)⟩) hW (fun r21 h20 H locs hk hW => ?_)
  obtain ⟨w, mm22⟩ := hk
  have w := w mm22
  have hm := hm.tr mm22
  have t23 := mm22.tg t19 (by decide)
  refine lv_if_eq (tgt := 29) hx hb d_MO_compare_24 (by decide) (fun c24 => ?_) (fun c24 => ?_)
  · have w := w.1 c24
    refine lv_aload_n hx hb d_MO_compare_29 rfl (lv_at hl 0 rfl) ?_
    obtain ⟨t25, w⟩ := w
    obtain ⟨q26, e27, w⟩ := w
    refine hb_get (ci := 4) (C := "BigDeskModel") (T := T_MO) (N := 8) hx hb hts (fun w9 h9 => hT w9 (u_MO w9 h9)) hown hK hW t25 rfl (by decide) 3 (by decide) (hw wd_649) (fun _ h9 => h9) (q := (2, 15)) rfl (v := .ref q26) (ah_f_R e27) d_MO_compare_30 ?_
    refine lv_iload_n hx hb d_MO_compare_33 rfl (lv_at hl 1 rfl) ?_
    obtain ⟨t28, w⟩ := w
    obtain ⟨i29, w⟩ := w
    refine hb_iald hx hb hK hW t28 (by decide) (by decide) 0 rfl i29 d_MO_compare_34 ?_
    refine lv_aload_n hx hb d_MO_compare_35 rfl (lv_at hl 0 rfl) ?_
    obtain ⟨q30, e31, w⟩ := w
    refine hb_get (ci := 4) (C := "BigDeskModel") (T := T_MO) (N := 8) hx hb hts (fun w9 h9 => hT w9 (u_MO w9 h9)) hown hK hW t25 rfl (by decide) 3 (by decide) (hw wd_649) (fun _ h9 => h9) (q := (2, 15)) rfl (v := .ref q30) (ah_f_R e31) d_MO_compare_36 ?_
    refine lv_iload_n hx hb d_MO_compare_39 rfl (lv_at hl 2 rfl) ?_
    obtain ⟨t32, w⟩ := w
    obtain ⟨i33, w⟩ := w
    refine hb_iald hx hb hK hW t32 (by decide) (by decide) 0 rfl i33 d_MO_compare_40 ?_
    refine lv_icmp_eq (tgt := 65) hx hb d_MO_compare_41 (by decide) (fun c34 => ?_) (fun c34 => ?_)
    · have w := w.1 c34
      refine lv_aload_n hx hb d_MO_compare_65 rfl (lv_at hl 0 rfl) ?_
      obtain ⟨q35, e36, w⟩ := w
      refine hb_get (ci := 4) (C := "BigDeskModel") (T := T_MO) (N := 8) hx hb hts (fun w9 h9 => hT w9 (u_MO w9 h9)) hown hK hW t25 rfl (by decide) 3 (by decide) (hw wd_649) (fun _ h9 => h9) (q := (2, 15)) rfl (v := .ref q35) (ah_f_R e36) d_MO_compare_66 ?_
      refine lv_iload_n hx hb d_MO_compare_69 rfl (lv_at hl 1 rfl) ?_
      obtain ⟨t37, w⟩ := w
      obtain ⟨i38, w⟩ := w
      refine hb_iald hx hb hK hW t37 (by decide) (by decide) 0 rfl i38 d_MO_compare_70 ?_
      refine lv_aload_n hx hb d_MO_compare_71 rfl (lv_at hl 0 rfl) ?_
      refine lv_iload_n hx hb d_MO_compare_72 rfl (lv_at hl 1 rfl) ?_
      refine lv_iload_n hx hb d_MO_compare_73 rfl (lv_at hl 2 rfl) ?_
      refine hb_calli (va_runV (As := [.int x14, .int x15]) (rest := [.int (ah_bI h20 q35 x14.toNatClampNeg)]) ⟨hx, hb, hml, hown, hts⟩ (m_MO_against G x13 x14 x15 h20 hst w) (cwV 2 hts (zx_gV hT wd_711 wd_713 wd_s20 wd_5 wd_714) rfl rfl rfl (by decide +kernel) ⟨Nat.le_of_ble_eq_true rfl, Nat.le_of_ble_eq_true rfl⟩) (hb_preV hK hX hW t25 (by decide) rfl) rfl rfl hl.1 rfl (lv_room (Nat.le_of_ble_eq_true rfl)) d_MO_compare_74 ⟨(by show _ ≤ 0; omega), (by show _ ≤ 0; omega)⟩) hW (fun r40 h39 H locs hk hW => ?_)
      obtain ⟨w, mm41⟩ := hk
      have w := w mm41
      have hm := hm.tr mm41
      have t42 := mm41.tg t23 (by decide)
      have t43 := mm41.tg t25 (by decide)
      have t44 := mm41.tg t28 (by decide)
      have t45 := mm41.tg t32 (by decide)
      have t46 := mm41.tg t37 (by decide)
      refine lv_imul hx hb d_MO_compare_77 ?_
      exact hb_iret (K := fun r9 h9 => K r9 h9 ∧ ah_m h0 h9) hx hb hr hlk hK hX hW ⟨w, hm⟩ (by omega) (by omega) d_MO_compare_78
    · have w := w.2 c34
      refine lv_aload_n hx hb d_MO_compare_44 rfl (lv_at hl 0 rfl) ?_
      obtain ⟨q47, e48, w⟩ := w
      refine hb_get (ci := 4) (C := "BigDeskModel") (T := T_MO) (N := 8) hx hb hts (fun w9 h9 => hT w9 (u_MO w9 h9)) hown hK hW t25 rfl (by decide) 3 (by decide) (hw wd_649) (fun _ h9 => h9) (q := (2, 15)) rfl (v := .ref q47) (ah_f_R e48) d_MO_compare_45 ?_
      refine lv_iload_n hx hb d_MO_compare_48 rfl (lv_at hl 1 rfl) ?_
      obtain ⟨t49, w⟩ := w
      obtain ⟨i50, w⟩ := w
      refine hb_iald hx hb hK hW t49 (by decide) (by decide) 0 rfl i50 d_MO_compare_49 ?_
      refine lv_aload_n hx hb d_MO_compare_50 rfl (lv_at hl 0 rfl) ?_
      obtain ⟨q51, e52, w⟩ := w
      refine hb_get (ci := 4) (C := "BigDeskModel") (T := T_MO) (N := 8) hx hb hts (fun w9 h9 => hT w9 (u_MO w9 h9)) hown hK hW t25 rfl (by decide) 3 (by decide) (hw wd_649) (fun _ h9 => h9) (q := (2, 15)) rfl (v := .ref q51) (ah_f_R e52) d_MO_compare_51 ?_
      refine lv_iload_n hx hb d_MO_compare_54 rfl (lv_at hl 2 rfl) ?_
      obtain ⟨t53, w⟩ := w
      obtain ⟨i54, w⟩ := w
      refine hb_iald hx hb hK hW t53 (by decide) (by decide) 0 rfl i54 d_MO_compare_55 ?_
      refine lv_icmp_ge (tgt := 63) hx hb d_MO_compare_56 (by decide) (fun c55 => ?_) (fun c55 => ?_)
      · have w := w.1 c55
        refine lv_iconst (v := 1) hx hb d_MO_compare_63 (by decide) ?_
        exact tb_MO_compare_64 C (by omega) (by omega)  (1 : Int32) h20 _ _ _ w hm hW (lv_sub hl [] rfl)
      · have w := w.2 c55
        refine lv_iconst (v := -1) hx hb d_MO_compare_59 (by decide) ?_
        refine lv_goto (tgt := 64) hx hb d_MO_compare_60 (by decide) ?_
        exact tb_MO_compare_64 C (by omega) (by omega)  (-1 : Int32) h20 _ _ _ w hm hW (lv_sub hl [] rfl)
  · have w := w.2 c24
    refine lv_iconst (v := 0) hx hb d_MO_compare_27 (by decide) ?_
    exact hb_iret (K := fun r9 h9 => K r9 h9 ∧ ah_m h0 h9) hx hb hr hlk hK hX hW ⟨w, hm⟩ (by omega) (by omega) d_MO_compare_28
set_option maxHeartbeats 4000000 in
set_option maxRecDepth 100000 in
theorem tb_MO_compare_15 {p : Program} {l : Launch} {e : Env} {s : State} {m : MethodId} {args : Array Value} {below : List Frame} {meth : Method} {c : Code} {G : zG} (C : cx_C p l s m args meth c G y_MO_compare b_MO_compare 3 (some .int) "BigDeskModel" (Cond.code y_MO_compare b_MO_compare 3 (some .int) :: zx_T) []) {K : Int32 → ah_H → Prop} {h0 : ah_H} {cells slots : Nat} (hcl : cells + 0 ≤ 0) (hsl : slots + 0 ≤ 0)  (x8 : Nat) (x9 : Int32) (x10 : Int32) (s11 : Nat) (h12 : ah_H) (H : Heap) (locs : List Loc) (ls : Array Slot) (w : bk_MO_compare_15 K x8 x9 x10 s11 h12) (hm : ah_m h0 h12) (hW : ah_W G s.heap h12 H locs) (hl : lv_has ls 3 [(0, .ref x8), (1, .int x9), (2, .int x10)]) : W p l e rm_MO_compare s m args below meth c H locs cells slots (MQ below (va_Qi (fun r9 h9 => K r9 h9 ∧ ah_m h0 h9) (ah_B G) (fun q => G.2.2 ≤ q)) args s 0 0 (fun q => G.2.2 ≤ q)) (F0 m 15 ls [.ref s11]) := by
  unfold bk_MO_compare_15 at w
  obtain ⟨hx, hb, hr, hml, hown, hts, hT, hlk, hK, hX, htb, hin, hst⟩ := id C
  have hw : ∀ {w9 : Cond}, w9 ∈ zx_T → w9.before _ s = true := fun h9 => hts _ (hT _ h9)
  refine lv_iconst (v := 1) hx hb d_MO_compare_15 (by decide) ?_
  refine lv_goto (tgt := 20) hx hb d_MO_compare_16 (by decide) ?_
  exact tb_MO_compare_20 C (by omega) (by omega)  x8 x9 x10 (1 : Int32) s11 h12 _ _ _ w hm hW (lv_sub hl [0, 1, 2] rfl)
set_option maxHeartbeats 4000000 in
set_option maxRecDepth 100000 in
theorem m_MO_compare {l : Launch} (G : zG) (a1 : Nat) (a2 : Int32) (a3 : Int32) (h0 : ah_H) {K : Int32 → ah_H → Prop} (hst : l.stackTraces = false) (w : w_MO_compare a1 a2 a3 h0 K) : Met l y_MO_compare (Cond.code y_MO_compare b_MO_compare 3 (some .int) :: zx_T) rm_MO_compare (va_Pc [.ref a1, .int a2, .int a3] (ah_B G h0)) (va_Qi (fun r9 h9 => K r9 h9 ∧ ah_m h0 h9) (ah_B G) (fun q => G.2.2 ≤ q)) 0 0 (fun q => G.2.2 ≤ q) := by
  refine Met.ofW (cc := b_MO_compare) (maxL := 3) (ret := (some .int)) (by decide) rfl ?_
  intro p e s m args below meth c s₁ B hml hv
  have htb := cx_out B (atoms_spec B.pre _ List.mem_cons_self)
  obtain ⟨rfl, hB⟩ := hv
  have C : cx_C p l s m _ meth c G y_MO_compare b_MO_compare 3 (some .int) "BigDeskModel" (Cond.code y_MO_compare b_MO_compare 3 (some .int) :: zx_T) [] := ⟨B.exec, B.bytes, B.returns, hml, findClass_of_methodNamed B.named, atoms_spec B.pre, cx_hd, B.notSynchronized, hB.2.2.1, hB.2.2.2, htb, fun z9 => (name_of_methodNamed B.named B.method).1.trans z9, hst⟩
  obtain ⟨hx, hb, hr, hml, hown, hts, hT, hlk, hK, hX, htb, hin, hst⟩ := id C
  have hw : ∀ {w9 : Cond}, w9 ∈ zx_T → w9.before _ s = true := fun h9 => hts _ (hT _ h9)
  have hW : ah_W G s.heap h0 s.heap [] := ⟨hB.1, hB.2.1, va_S.rf⟩
  have hm : ah_m h0 h0 := ah_m.rf
  have hcl : 0 + 0 ≤ 0 := by decide
  have hsl : 0 + 0 ≤ 0 := by decide
  have hl := lv_entry ([.ref a1, .int a2, .int a3]) (n := 3) (Nat.le_of_ble_eq_true rfl)
  rw [lg_entry_eq]
  generalize (lg_sl ([.ref a1, .int a2, .int a3]) ++ List.replicate (3 - (lg_sl ([.ref a1, .int a2, .int a3])).length) Slot.unset).toArray = ls at hl ⊢
  have hl : lv_has ls 3 [(0, .ref a1), (1, .int a2), (2, .int a3)] := hl
  unfold w_MO_compare at w
  refine lv_aload_n hx hb d_MO_compare_0 rfl (lv_at hl 0 rfl) ?_
  refine lv_iload_n hx hb d_MO_compare_1 rfl (lv_at hl 1 rfl) ?_
  refine hb_calli (va_runS (As := [.int a2]) (rest := [.ref a1]) ⟨hx, hb, hml, hown, hts⟩ (m_MO_isNone G a2 h0 hst w) (va_cwS 1 hts (zx_gS hT wd_680 wd_681 wd_5 wd_682) rfl rfl rfl (by decide +kernel) ⟨Nat.le_of_ble_eq_true rfl, Nat.le_of_ble_eq_true rfl⟩) (hb_preS hK hX hW) rfl rfl hl.1 rfl (lv_room (Nat.le_of_ble_eq_true rfl)) d_MO_compare_2 ⟨(by show _ ≤ 0; omega), (by show _ ≤ 0; omega)⟩) hW (fun r5 h4 H locs hk hW => ?_)
  obtain ⟨w, mm6⟩ := hk
  have w := w mm6
  have hm := hm.tr mm6
  refine lv_if_ne (tgt := 15) hx hb d_MO_compare_5 (by decide) (fun c7 => ?_) (fun c7 => ?_)
  · have w := w.1 c7
    exact tb_MO_compare_15 C (by omega) (by omega)  a1 a2 a3 a1 h4 _ _ _ w hm hW (lv_sub hl [0, 1, 2] rfl)
  · have w := w.2 c7
    refine lv_iload_n hx hb d_MO_compare_8 rfl (lv_at hl 2 rfl) ?_
    refine hb_calli (va_runS (As := [.int a3]) (rest := [.ref a1]) ⟨hx, hb, hml, hown, hts⟩ (m_MO_isNone G a3 h4 hst w) (va_cwS 1 hts (zx_gS hT wd_680 wd_681 wd_5 wd_682) rfl rfl rfl (by decide +kernel) ⟨Nat.le_of_ble_eq_true rfl, Nat.le_of_ble_eq_true rfl⟩) (hb_preS hK hX hW) rfl rfl hl.1 rfl (lv_room (Nat.le_of_ble_eq_true rfl)) d_MO_compare_9 ⟨(by show _ ≤ 0; omega), (by show _ ≤ 0; omega)⟩) hW (fun r59 h58 H locs hk hW => ?_)
    obtain ⟨w, mm60⟩ := hk
    have w := w mm60
    have hm := hm.tr mm60
    refine lv_if_eq (tgt := 19) hx hb d_MO_compare_12 (by decide) (fun c61 => ?_) (fun c61 => ?_)
    · have w := w.1 c61
      refine lv_iconst (v := 0) hx hb d_MO_compare_19 (by decide) ?_
      exact tb_MO_compare_20 C (by omega) (by omega)  a1 a2 a3 (0 : Int32) a1 h58 _ _ _ w hm hW (lv_sub hl [0, 1, 2] rfl)
    · have w := w.2 c61
      exact tb_MO_compare_15 C (by omega) (by omega)  a1 a2 a3 a1 h58 _ _ _ w hm hW (lv_sub hl [0, 1, 2] rfl)
set_option maxHeartbeats 4000000 in
set_option maxRecDepth 100000 in
theorem tb_MO_twice_21 {p : Program} {l : Launch} {e : Env} {s : State} {m : MethodId} {args : Array Value} {below : List Frame} {meth : Method} {c : Code} {G : zG} (C : cx_C p l s m args meth c G y_MO_twice b_MO_twice 6 (some .long) "BigDeskModel" (Cond.code y_MO_twice b_MO_twice 6 (some .long) :: zx_T) []) {K : Int64 → ah_H → Prop} {h0 : ah_H} {cells slots : Nat} (hcl : cells + 0 ≤ 0) (hsl : slots + 0 ≤ 0)  (s5 : Int64) (h6 : ah_H) (H : Heap) (locs : List Loc) (ls : Array Slot) (w : bk_MO_twice_21 K s5 h6) (hm : ah_m h0 h6) (hW : ah_W G s.heap h6 H locs) (hl : lv_has ls 6 []) : W p l e rm_MO_twice s m args below meth c H locs cells slots (MQ below (va_Ql (fun r9 h9 => K r9 h9 ∧ ah_m h0 h9) (ah_B G) (fun q => G.2.2 ≤ q)) args s 0 0 (fun q => G.2.2 ≤ q)) (F0 m 21 ls [.long s5]) := by
  unfold bk_MO_twice_21 at w
  obtain ⟨hx, hb, hr, hml, hown, hts, hT, hlk, hK, hX, htb, hin, hst⟩ := id C
  have hw : ∀ {w9 : Cond}, w9 ∈ zx_T → w9.before _ s = true := fun h9 => hts _ (hT _ h9)
  exact hb_lret (K := fun r9 h9 => K r9 h9 ∧ ah_m h0 h9) hx hb hr hlk hK hX hW ⟨w, hm⟩ (by omega) (by omega) d_MO_twice_21
set_option maxHeartbeats 4000000 in
set_option maxRecDepth 100000 in
theorem m_MO_twice {l : Launch} (G : zG) (a1 : Int64) (a2 : Int64) (a3 : Int64) (h0 : ah_H) {K : Int64 → ah_H → Prop} (hst : l.stackTraces = false) (w : w_MO_twice a1 a2 a3 h0 K) : Met l y_MO_twice (Cond.code y_MO_twice b_MO_twice 6 (some .long) :: zx_T) rm_MO_twice (va_Pc [.long a1, .long a2, .long a3] (ah_B G h0)) (va_Ql (fun r9 h9 => K r9 h9 ∧ ah_m h0 h9) (ah_B G) (fun q => G.2.2 ≤ q)) 0 0 (fun q => G.2.2 ≤ q) := by
  refine Met.ofW (cc := b_MO_twice) (maxL := 6) (ret := (some .long)) (by decide) rfl ?_
  intro p e s m args below meth c s₁ B hml hv
  have htb := cx_out B (atoms_spec B.pre _ List.mem_cons_self)
  obtain ⟨rfl, hB⟩ := hv
  have C : cx_C p l s m _ meth c G y_MO_twice b_MO_twice 6 (some .long) "BigDeskModel" (Cond.code y_MO_twice b_MO_twice 6 (some .long) :: zx_T) [] := ⟨B.exec, B.bytes, B.returns, hml, findClass_of_methodNamed B.named, atoms_spec B.pre, cx_hd, B.notSynchronized, hB.2.2.1, hB.2.2.2, htb, fun z9 => (name_of_methodNamed B.named B.method).1.trans z9, hst⟩
  obtain ⟨hx, hb, hr, hml, hown, hts, hT, hlk, hK, hX, htb, hin, hst⟩ := id C
  have hw : ∀ {w9 : Cond}, w9 ∈ zx_T → w9.before _ s = true := fun h9 => hts _ (hT _ h9)
  have hW : ah_W G s.heap h0 s.heap [] := ⟨hB.1, hB.2.1, va_S.rf⟩
  have hm : ah_m h0 h0 := ah_m.rf
  have hcl : 0 + 0 ≤ 0 := by decide
  have hsl : 0 + 0 ≤ 0 := by decide
  have hl := lv_entry ([.long a1, .long a2, .long a3]) (n := 6) (Nat.le_of_ble_eq_true rfl)
  rw [lg_entry_eq]
  generalize (lg_sl ([.long a1, .long a2, .long a3]) ++ List.replicate (6 - (lg_sl ([.long a1, .long a2, .long a3])).length) Slot.unset).toArray = ls at hl ⊢
  have hl : lv_has ls 6 [(0, .long a1), (2, .long a2), (4, .long a3)] := hl
  unfold w_MO_twice at w
  refine lv_lload_n hx hb d_MO_twice_0 rfl (lv_at hl 0 rfl) ?_
  refine lv_lload hx hb d_MO_twice_1 (lv_at hl 2 rfl) ?_
  refine lv_lload_n hx hb d_MO_twice_3 rfl (lv_at hl 1 rfl) ?_
  refine lv_lsub hx hb d_MO_twice_4 ?_
  refine hb_lcmp_lt (tgt := 18) hx hb d_MO_twice_5 d_MO_twice_6 (by decide) (fun c4 => ?_) (fun c4 => ?_)
  · have w := w.1 c4
    refine lv_lload_n hx hb d_MO_twice_18 rfl (lv_at hl 0 rfl) ?_
    refine lv_lload_n hx hb d_MO_twice_19 rfl (lv_at hl 1 rfl) ?_
    refine lv_ladd hx hb d_MO_twice_20 ?_
    exact tb_MO_twice_21 C (by omega) (by omega)  (a1 + a2) h0 _ _ _ w hm hW (lv_sub hl [] rfl)
  · have w := w.2 c4
    refine lv_lload_n hx hb d_MO_twice_9 rfl (lv_at hl 0 rfl) ?_
    refine lv_lload hx hb d_MO_twice_10 (lv_at hl 2 rfl) ?_
    refine lv_lload_n hx hb d_MO_twice_12 rfl (lv_at hl 1 rfl) ?_
    refine lv_lsub hx hb d_MO_twice_13 ?_
    refine lv_lsub hx hb d_MO_twice_14 ?_
    refine lv_goto (tgt := 21) hx hb d_MO_twice_15 (by decide) ?_
    exact tb_MO_twice_21 C (by omega) (by omega)  (a1 - (a3 - a2)) h0 _ _ _ w hm hW (lv_sub hl [] rfl)
set_option maxHeartbeats 4000000 in
set_option maxRecDepth 100000 in
theorem tb_MO_rest_90 {p : Program} {l : Launch} {e : Env} {s : State} {m : MethodId} {args : Array Value} {below : List Frame} {meth : Method} {c : Code} {G : zG} (C : cx_C p l s m args meth c G y_MO_rest b_MO_rest 10 (some .long) "BigDeskModel" (Cond.code y_MO_rest b_MO_rest 10 (some .long) :: zx_T) []) {K : Int64 → ah_H → Prop} {h0 : ah_H} {cells slots : Nat} (hcl : cells + 0 ≤ 0) (hsl : slots + 0 ≤ 0) {rc_53 : Nat → Int32 → Int64 → Int64 → Int32 → Int64 → Int32 → ah_H → Prop} (hc_rc_53 : ∀ (z0 : Nat) (z1 : Int32) (z2 : Int64) (z3 : Int64) (z4 : Int32) (z5 : Int64) (z6 : Int32) (hz : ah_H) (H : Heap) (locs : List Loc) (ls : Array Slot), rc_53 z0 z1 z2 z3 z4 z5 z6 hz → ah_m h0 hz → ah_W G s.heap hz H locs → lv_has ls 10 [(0, .ref z0), (1, .int z1), (2, .long z2), (4, .long z3), (6, .int z4), (7, .long z5), (9, .int z6)] → W p l e rm_MO_rest s m args below meth c H locs cells slots (MQ below (va_Ql (fun r9 h9 => K r9 h9 ∧ ah_m h0 h9) (ah_B G) (fun q => G.2.2 ≤ q)) args s 0 0 (fun q => G.2.2 ≤ q)) (F0 m 53 ls [])) (x51 : Nat) (x52 : Int32) (x53 : Int64) (x54 : Int64) (x55 : Int32) (x56 : Int64) (x57 : Int32) (h58 : ah_H) (H : Heap) (locs : List Loc) (ls : Array Slot) (w : bk_MO_rest_90 rc_53 K x51 x52 x53 x54 x55 x56 x57 h58) (hm : ah_m h0 h58) (hW : ah_W G s.heap h58 H locs) (hl : lv_has ls 10 [(0, .ref x51), (1, .int x52), (2, .long x53), (4, .long x54), (6, .int x55), (7, .long x56), (9, .int x57)]) : W p l e rm_MO_rest s m args below meth c H locs cells slots (MQ below (va_Ql (fun r9 h9 => K r9 h9 ∧ ah_m h0 h9) (ah_B G) (fun q => G.2.2 ≤ q)) args s 0 0 (fun q => G.2.2 ≤ q)) (F0 m 90 ls []) := by
  unfold bk_MO_rest_90 at w
  obtain ⟨hx, hb, hr, hml, hown, hts, hT, hlk, hK, hX, htb, hin, hst⟩ := id C
  have hw : ∀ {w9 : Cond}, w9 ∈ zx_T → w9.before _ s = true := fun h9 => hts _ (hT _ h9)
  obtain ⟨v59, ev59⟩ : ∃ y9 : Int32, y9 = x57 + (-1) := ⟨_, rfl⟩
  have w := w v59 ev59
  refine lv_iinc (v := v59) (lv' := [(9, .int v59), (0, .ref x51), (1, .int x52), (2, .long x53), (4, .long x54), (6, .int x55), (7, .long x56)]) hx hb d_MO_rest_90 hl (k := 6) rfl (by rw [ev59]; rfl) (by decide) rfl (fun ls hl => ?_)
  refine lv_goto (tgt := 53) hx hb d_MO_rest_93 (by decide) ?_
  exact hc_rc_53 x51 x52 x53 x54 x55 x56 v59 h58 _ _ _ w hm hW (lv_sub hl [1, 2, 3, 4, 5, 6, 0] rfl)
set_option maxHeartbeats 4000000 in
set_option maxRecDepth 100000 in
theorem tl_MO_rest_53 {p : Program} {l : Launch} {e : Env} {s : State} {m : MethodId} {args : Array Value} {below : List Frame} {meth : Method} {c : Code} {G : zG} (C : cx_C p l s m args meth c G y_MO_rest b_MO_rest 10 (some .long) "BigDeskModel" (Cond.code y_MO_rest b_MO_rest 10 (some .long) :: zx_T) []) {K : Int64 → ah_H → Prop} {h0 : ah_H} {cells slots : Nat} (hcl : cells + 0 ≤ 0) (hsl : slots + 0 ≤ 0) {xt_96 : Nat → Int32 → Int64 → Int32 → Int64 → ah_H → Prop} (hc_xt_96 : ∀ (z0 : Nat) (z1 : Int32) (z2 : Int64) (z3 : Int32) (z4 : Int64) (hz : ah_H) (H : Heap) (locs : List Loc) (ls : Array Slot), xt_96 z0 z1 z2 z3 z4 hz → ah_m h0 hz → ah_W G s.heap hz H locs → lv_has ls 10 [(0, .ref z0), (1, .int z1), (2, .long z2), (6, .int z3), (7, .long z4)] → W p l e rm_MO_rest s m args below meth c H locs cells slots (MQ below (va_Ql (fun r9 h9 => K r9 h9 ∧ ah_m h0 h9) (ah_B G) (fun q => G.2.2 ≤ q)) args s 0 0 (fun q => G.2.2 ≤ q)) (F0 m 96 ls [])) : ∀ (n : Nat) (x38 : Nat) (x39 : Int32) (x40 : Int64) (x41 : Int64) (x42 : Int32) (x43 : Int64) (x44 : Int32) (h45 : ah_H) (H : Heap) (locs : List Loc) (ls : Array Slot), lp_MO_rest_53 xt_96 K n x38 x39 x40 x41 x42 x43 x44 h45 → ah_m h0 h45 → ah_W G s.heap h45 H locs → lv_has ls 10 [(0, .ref x38), (1, .int x39), (2, .long x40), (4, .long x41), (6, .int x42), (7, .long x43), (9, .int x44)] → W p l e rm_MO_rest s m args below meth c H locs cells slots (MQ below (va_Ql (fun r9 h9 => K r9 h9 ∧ ah_m h0 h9) (ah_B G) (fun q => G.2.2 ≤ q)) args s 0 0 (fun q => G.2.2 ≤ q)) (F0 m 53 ls []) := by
  obtain ⟨hx, hb, hr, hml, hown, hts, hT, hlk, hK, hX, htb, hin, hst⟩ := id C
  have hw : ∀ {w9 : Cond}, w9 ∈ zx_T → w9.before _ s = true := fun h9 => hts _ (hT _ h9)
  intro n
  induction n with
  | zero =>
    intro x38 x39 x40 x41 x42 x43 x44 h45 H locs ls w
    exact absurd w (by intro z9; exact z9)
  | succ n ih =>
    intro x38 x39 x40 x41 x42 x43 x44 h45 H locs ls w hm hW hl
    unfold lp_MO_rest_53 at w
    refine lv_iload hx hb d_MO_rest_53 (lv_at hl 6 rfl) ?_
    refine lv_if_lt (tgt := 96) hx hb d_MO_rest_55 (by decide) (fun c46 => ?_) (fun c46 => ?_)
    · have w := w.1 c46
      exact hc_xt_96 x38 x39 x40 x42 x43 h45 _ _ _ w hm hW (lv_sub hl [0, 1, 2, 4, 5] rfl)
    · have w := w.2 c46
      refine lv_lload hx hb d_MO_rest_58 (lv_at hl 5 rfl) ?_
      refine lv_lload hx hb d_MO_rest_60 (lv_at hl 5 rfl) ?_
      refine lv_lload_n hx hb d_MO_rest_62 rfl (lv_at hl 2 rfl) ?_
      refine hb_calll (va_runS (As := [.long x43, .long x43, .long x40]) (rest := []) ⟨hx, hb, hml, hown, hts⟩ (m_MO_twice G x43 x43 x40 h45 hst w) (va_cwS 3 hts (zx_gS hT wd_784 wd_785 wd_5 wd_786) rfl rfl rfl (by decide +kernel) ⟨Nat.le_of_ble_eq_true rfl, Nat.le_of_ble_eq_true rfl⟩) (hb_preS hK hX hW) rfl rfl hl.1 rfl (lv_room (Nat.le_of_ble_eq_true rfl)) d_MO_rest_63 ⟨(by show _ ≤ 0; omega), (by show _ ≤ 0; omega)⟩) hW (fun r48 h47 H locs hk hW => ?_)
      obtain ⟨w, mm49⟩ := hk
      have w := w mm49
      have hm := hm.tr mm49
      refine lv_lstore (lv' := [(7, .long r48), (0, .ref x38), (1, .int x39), (2, .long x40), (4, .long x41), (6, .int x42), (9, .int x44)]) hx hb d_MO_rest_66 hl (by decide) rfl (fun ls hl => ?_)
      refine lv_sipush (v := 10000) hx hb d_MO_rest_68 (by decide) ?_
      refine lv_iload hx hb d_MO_rest_71 (lv_at hl 6 rfl) ?_
      refine lv_ishr hx hb d_MO_rest_73 ?_
      refine lv_iconst (v := 1) hx hb d_MO_rest_74 (by decide) ?_
      refine lv_iand hx hb d_MO_rest_75 ?_
      refine lv_iconst (v := 1) hx hb d_MO_rest_76 (by decide) ?_
      refine lv_icmp_ne (tgt := 90) hx hb d_MO_rest_77 (by decide) (fun c50 => ?_) (fun c50 => ?_)
      · have w := w.1 c50
        exact tb_MO_rest_90 C (by omega) (by omega) ih x38 x39 x40 x41 x42 r48 x44 h47 _ _ _ w hm hW (lv_sub hl [1, 2, 3, 4, 5, 0, 6] rfl)
      · have w := w.2 c50
        refine lv_lload hx hb d_MO_rest_80 (lv_at hl 0 rfl) ?_
        refine lv_lload hx hb d_MO_rest_82 (lv_at hl 4 rfl) ?_
        refine lv_lload_n hx hb d_MO_rest_84 rfl (lv_at hl 3 rfl) ?_
        refine hb_calll (va_runS (As := [.long r48, .long x41, .long x40]) (rest := []) ⟨hx, hb, hml, hown, hts⟩ (m_MO_twice G r48 x41 x40 h47 hst w) (va_cwS 3 hts (zx_gS hT wd_784 wd_785 wd_5 wd_786) rfl rfl rfl (by decide +kernel) ⟨Nat.le_of_ble_eq_true rfl, Nat.le_of_ble_eq_true rfl⟩) (hb_preS hK hX hW) rfl rfl hl.1 rfl (lv_room (Nat.le_of_ble_eq_true rfl)) d_MO_rest_85 ⟨(by show _ ≤ 0; omega), (by show _ ≤ 0; omega)⟩) hW (fun r61 h60 H locs hk hW => ?_)
        obtain ⟨w, mm62⟩ := hk
        have w := w mm62
        have hm := hm.tr mm62
        refine lv_lstore (lv' := [(7, .long r61), (0, .ref x38), (1, .int x39), (2, .long x40), (4, .long x41), (6, .int x42), (9, .int x44)]) hx hb d_MO_rest_88 hl (by decide) rfl (fun ls hl => ?_)
        exact tb_MO_rest_90 C (by omega) (by omega) ih x38 x39 x40 x41 x42 r61 x44 h60 _ _ _ w hm hW (lv_sub hl [1, 2, 3, 4, 5, 0, 6] rfl)
set_option maxHeartbeats 4000000 in
set_option maxRecDepth 100000 in
theorem tl_MO_rest_41 {p : Program} {l : Launch} {e : Env} {s : State} {m : MethodId} {args : Array Value} {below : List Frame} {meth : Method} {c : Code} {G : zG} (C : cx_C p l s m args meth c G y_MO_rest b_MO_rest 10 (some .long) "BigDeskModel" (Cond.code y_MO_rest b_MO_rest 10 (some .long) :: zx_T) []) {K : Int64 → ah_H → Prop} {h0 : ah_H} {cells slots : Nat} (hcl : cells + 0 ≤ 0) (hsl : slots + 0 ≤ 0) {xt_120 : Nat → Int32 → Int64 → Int64 → ah_H → Prop} (hc_xt_120 : ∀ (z0 : Nat) (z1 : Int32) (z2 : Int64) (z3 : Int64) (hz : ah_H) (H : Heap) (locs : List Loc) (ls : Array Slot), xt_120 z0 z1 z2 z3 hz → ah_m h0 hz → ah_W G s.heap hz H locs → lv_has ls 10 [(0, .ref z0), (1, .int z1), (2, .long z2), (4, .long z3)] → W p l e rm_MO_rest s m args below meth c H locs cells slots (MQ below (va_Ql (fun r9 h9 => K r9 h9 ∧ ah_m h0 h9) (ah_B G) (fun q => G.2.2 ≤ q)) args s 0 0 (fun q => G.2.2 ≤ q)) (F0 m 120 ls [])) : ∀ (n : Nat) (x31 : Nat) (x32 : Int32) (x33 : Int64) (x34 : Int64) (x35 : Int32) (h36 : ah_H) (H : Heap) (locs : List Loc) (ls : Array Slot), lp_MO_rest_41 xt_120 K n x31 x32 x33 x34 x35 h36 → ah_m h0 h36 → ah_W G s.heap h36 H locs → lv_has ls 10 [(0, .ref x31), (1, .int x32), (2, .long x33), (4, .long x34), (6, .int x35)] → W p l e rm_MO_rest s m args below meth c H locs cells slots (MQ below (va_Ql (fun r9 h9 => K r9 h9 ∧ ah_m h0 h9) (ah_B G) (fun q => G.2.2 ≤ q)) args s 0 0 (fun q => G.2.2 ≤ q)) (F0 m 41 ls []) := by
  obtain ⟨hx, hb, hr, hml, hown, hts, hT, hlk, hK, hX, htb, hin, hst⟩ := id C
  have hw : ∀ {w9 : Cond}, w9 ∈ zx_T → w9.before _ s = true := fun h9 => hts _ (hT _ h9)
  intro n
  induction n with
  | zero =>
    intro x31 x32 x33 x34 x35 h36 H locs ls w
    exact absurd w (by intro z9; exact z9)
  | succ n ih =>
    intro x31 x32 x33 x34 x35 h36 H locs ls w hm hW hl
    unfold lp_MO_rest_41 at w
    refine lv_iload hx hb d_MO_rest_41 (lv_at hl 4 rfl) ?_
    refine lv_if_lt (tgt := 120) hx hb d_MO_rest_43 (by decide) (fun c37 => ?_) (fun c37 => ?_)
    · have w := w.1 c37
      exact hc_xt_120 x31 x32 x33 x34 h36 _ _ _ w hm hW (lv_sub hl [0, 1, 2, 3] rfl)
    · have w := w.2 c37
      refine lv_lconst (v := 0) hx hb d_MO_rest_46 (by decide) ?_
      refine lv_lstore (lv' := [(7, .long (0 : Int64)), (0, .ref x31), (1, .int x32), (2, .long x33), (4, .long x34), (6, .int x35)]) hx hb d_MO_rest_47 hl (by decide) rfl (fun ls hl => ?_)
      refine lv_bipush (v := 13) hx hb d_MO_rest_49 (by decide) ?_
      refine lv_istore (lv' := [(9, .int (13 : Int32)), (7, .long (0 : Int64)), (0, .ref x31), (1, .int x32), (2, .long x33), (4, .long x34), (6, .int x35)]) hx hb d_MO_rest_51 hl (by decide) rfl (fun ls hl => ?_)
      obtain ⟨k80, w⟩ := w
      refine tl_MO_rest_53 C (by omega) (by omega) (fun x63 x64 x65 x66 x67 h68 H locs ls w hm hW hl => ?_) k80 x31 x32 x33 x34 x35 (0 : Int64) (13 : Int32) h36 _ _ _ w hm hW (lv_sub hl [2, 3, 4, 5, 6, 1, 0] rfl)
      · refine lv_lload hx hb d_MO_rest_96 (lv_at hl 4 rfl) ?_
        refine lv_aload_n hx hb d_MO_rest_98 rfl (lv_at hl 0 rfl) ?_
        refine lv_iload_n hx hb d_MO_rest_99 rfl (lv_at hl 1 rfl) ?_
        refine lv_iload hx hb d_MO_rest_100 (lv_at hl 3 rfl) ?_
        obtain ⟨t69, w⟩ := w
        refine hb_calli (va_runV (As := [.int x64, .int x66]) (rest := [.long x67]) ⟨hx, hb, hml, hown, hts⟩ (m_MO_at G x63 x64 x66 h68 hst w) (cwV 2 hts (zx_gV hT wd_642 wd_644 wd_s14 wd_5 wd_645) rfl rfl rfl (by decide +kernel) ⟨Nat.le_of_ble_eq_true rfl, Nat.le_of_ble_eq_true rfl⟩) (hb_preV hK hX hW t69 (by decide) rfl) rfl rfl hl.1 rfl (lv_room (Nat.le_of_ble_eq_true rfl)) d_MO_rest_102 ⟨(by show _ ≤ 0; omega), (by show _ ≤ 0; omega)⟩) hW (fun r71 h70 H locs hk hW => ?_)
        obtain ⟨w, mm72⟩ := hk
        have w := w mm72
        have hm := hm.tr mm72
        have t73 := mm72.tg t69 (by decide)
        refine lv_i2l hx hb d_MO_rest_105 rfl ?_
        refine lv_lload_n hx hb d_MO_rest_106 rfl (lv_at hl 2 rfl) ?_
        obtain ⟨ne74, w⟩ := w
        refine lv_lrem hx hb d_MO_rest_107 ne74 ?_
        refine lv_lload_n hx hb d_MO_rest_108 rfl (lv_at hl 2 rfl) ?_
        refine hb_calll (va_runS (As := [.long x67, .long (r71.toInt64 - r71.toInt64 / x65 * x65), .long x65]) (rest := []) ⟨hx, hb, hml, hown, hts⟩ (m_MO_twice G x67 (r71.toInt64 - r71.toInt64 / x65 * x65) x65 h70 hst w) (va_cwS 3 hts (zx_gS hT wd_784 wd_785 wd_5 wd_786) rfl rfl rfl (by decide +kernel) ⟨Nat.le_of_ble_eq_true rfl, Nat.le_of_ble_eq_true rfl⟩) (hb_preS hK hX hW) rfl rfl hl.1 rfl (lv_room (Nat.le_of_ble_eq_true rfl)) d_MO_rest_109 ⟨(by show _ ≤ 0; omega), (by show _ ≤ 0; omega)⟩) hW (fun r76 h75 H locs hk hW => ?_)
        obtain ⟨w, mm77⟩ := hk
        have w := w mm77
        have hm := hm.tr mm77
        have t78 := mm77.tg t73 (by decide)
        refine lv_lstore (lv' := [(4, .long r76), (0, .ref x63), (1, .int x64), (2, .long x65), (6, .int x66), (7, .long x67)]) hx hb d_MO_rest_112 hl (by decide) rfl (fun ls hl => ?_)
        obtain ⟨v79, ev79⟩ : ∃ y9 : Int32, y9 = x66 + (-1) := ⟨_, rfl⟩
        have w := w v79 ev79
        refine lv_iinc (v := v79) (lv' := [(6, .int v79), (4, .long r76), (0, .ref x63), (1, .int x64), (2, .long x65), (7, .long x67)]) hx hb d_MO_rest_114 hl (k := 4) rfl (by rw [ev79]; rfl) (by decide) rfl (fun ls hl => ?_)
        refine lv_goto (tgt := 41) hx hb d_MO_rest_117 (by decide) ?_
        exact ih x63 x64 x65 r76 v79 h75 _ _ _ w hm hW (lv_sub hl [2, 3, 4, 1, 0] rfl)
set_option maxHeartbeats 4000000 in
set_option maxRecDepth 100000 in
theorem tb_MO_rest_145 {p : Program} {l : Launch} {e : Env} {s : State} {m : MethodId} {args : Array Value} {below : List Frame} {meth : Method} {c : Code} {G : zG} (C : cx_C p l s m args meth c G y_MO_rest b_MO_rest 10 (some .long) "BigDeskModel" (Cond.code y_MO_rest b_MO_rest 10 (some .long) :: zx_T) []) {K : Int64 → ah_H → Prop} {h0 : ah_H} {cells slots : Nat} (hcl : cells + 0 ≤ 0) (hsl : slots + 0 ≤ 0)  (s94 : Int64) (h95 : ah_H) (H : Heap) (locs : List Loc) (ls : Array Slot) (w : bk_MO_rest_145 K s94 h95) (hm : ah_m h0 h95) (hW : ah_W G s.heap h95 H locs) (hl : lv_has ls 10 []) : W p l e rm_MO_rest s m args below meth c H locs cells slots (MQ below (va_Ql (fun r9 h9 => K r9 h9 ∧ ah_m h0 h9) (ah_B G) (fun q => G.2.2 ≤ q)) args s 0 0 (fun q => G.2.2 ≤ q)) (F0 m 145 ls [.long s94]) := by
  unfold bk_MO_rest_145 at w
  obtain ⟨hx, hb, hr, hml, hown, hts, hT, hlk, hK, hX, htb, hin, hst⟩ := id C
  have hw : ∀ {w9 : Cond}, w9 ∈ zx_T → w9.before _ s = true := fun h9 => hts _ (hT _ h9)
  exact hb_lret (K := fun r9 h9 => K r9 h9 ∧ ah_m h0 h9) hx hb hr hlk hK hX hW ⟨w, hm⟩ (by omega) (by omega) d_MO_rest_145
set_option maxHeartbeats 4000000 in
set_option maxRecDepth 100000 in
theorem tb_MO_rest_143 {p : Program} {l : Launch} {e : Env} {s : State} {m : MethodId} {args : Array Value} {below : List Frame} {meth : Method} {c : Code} {G : zG} (C : cx_C p l s m args meth c G y_MO_rest b_MO_rest 10 (some .long) "BigDeskModel" (Cond.code y_MO_rest b_MO_rest 10 (some .long) :: zx_T) []) {K : Int64 → ah_H → Prop} {h0 : ah_H} {cells slots : Nat} (hcl : cells + 0 ≤ 0) (hsl : slots + 0 ≤ 0)  (x92 : Int64) (h93 : ah_H) (H : Heap) (locs : List Loc) (ls : Array Slot) (w : bk_MO_rest_143 K x92 h93) (hm : ah_m h0 h93) (hW : ah_W G s.heap h93 H locs) (hl : lv_has ls 10 [(4, .long x92)]) : W p l e rm_MO_rest s m args below meth c H locs cells slots (MQ below (va_Ql (fun r9 h9 => K r9 h9 ∧ ah_m h0 h9) (ah_B G) (fun q => G.2.2 ≤ q)) args s 0 0 (fun q => G.2.2 ≤ q)) (F0 m 143 ls []) := by
  unfold bk_MO_rest_143 at w
  obtain ⟨hx, hb, hr, hml, hown, hts, hT, hlk, hK, hX, htb, hin, hst⟩ := id C
  have hw : ∀ {w9 : Cond}, w9 ∈ zx_T → w9.before _ s = true := fun h9 => hts _ (hT _ h9)
  refine lv_lload hx hb d_MO_rest_143 (lv_at hl 0 rfl) ?_
  exact tb_MO_rest_145 C (by omega) (by omega)  x92 h93 _ _ _ w hm hW (lv_sub hl [] rfl)
set_option maxHeartbeats 4000000 in
set_option maxRecDepth 100000 in
theorem tb_MO_rest_19 {p : Program} {l : Launch} {e : Env} {s : State} {m : MethodId} {args : Array Value} {below : List Frame} {meth : Method} {c : Code} {G : zG} (C : cx_C p l s m args meth c G y_MO_rest b_MO_rest 10 (some .long) "BigDeskModel" (Cond.code y_MO_rest b_MO_rest 10 (some .long) :: zx_T) []) {K : Int64 → ah_H → Prop} {h0 : ah_H} {cells slots : Nat} (hcl : cells + 0 ≤ 0) (hsl : slots + 0 ≤ 0)  (x13 : Nat) (x14 : Int32) (x15 : Int64) (s16 : Int32) (s17 : Nat) (h18 : ah_H) (H : Heap) (locs : List Loc) (ls : Array Slot) (w : bk_MO_rest_19 K x13 x14 x15 s16 s17 h18) (hm : ah_m h0 h18) (hW : ah_W G s.heap h18 H locs) (hl : lv_has ls 10 [(0, .ref x13), (1, .int x14), (2, .long x15)]) : W p l e rm_MO_rest s m args below meth c H locs cells slots (MQ below (va_Ql (fun r9 h9 => K r9 h9 ∧ ah_m h0 h9) (ah_B G) (fun q => G.2.2 ≤ q)) args s 0 0 (fun q => G.2.2 ≤ q)) (F0 m 19 ls [.int s16, .ref s17]) := by
  unfold bk_MO_rest_19 at w
  obtain ⟨hx, hb, hr, hml, hown, hts, hT, hlk, hK, hX, htb, hin, hst⟩ := id C
  have hw : ∀ {w9 : Cond}, w9 ∈ zx_T → w9.before _ s = true := fun h9 => hts _ (hT _ h9)
  refine lv_iconst (v := 1) hx hb d_MO_rest_19 (by decide) ?_
  obtain ⟨t19, w⟩ := w
  refine hb_calli (va_runV (As := [.int s16, .int (1 : Int32)]) (rest := []) ⟨hx, hb, hml, hown, hts⟩ (m_MO_fails G s17 s16 (1 : Int32) h18 hst w) (cwV 2 hts (zx_gV hT wd_683 wd_685 wd_s15 wd_5 wd_686) rfl rfl rfl (by decide +kernel) ⟨Nat.le_of_ble_eq_true rfl, Nat.le_of_ble_eq_true rfl⟩) (hb_preV hK hX hW t19 (by decide) rfl) rfl rfl hl.1 rfl (lv_room (Nat.le_of_ble_eq_true rfl)) d_MO_rest_20 ⟨(by show _ ≤ 0; omega), (by show _ ≤ 0; omega)⟩) hW (fun r21 h20 H locs hk hW => ?_)
  obtain ⟨w, mm22⟩ := hk
  have w := w mm22
  have hm := hm.tr mm22
  have t23 := mm22.tg t19 (by decide)
  refine lv_if_eq (tgt := 28) hx hb d_MO_rest_23 (by decide) (fun c24 => ?_) (fun c24 => ?_)
  · have w := w.1 c24
    refine lv_lconst (v := 0) hx hb d_MO_rest_28 (by decide) ?_
    refine lv_lstore (lv' := [(4, .long (0 : Int64)), (0, .ref x13), (1, .int x14), (2, .long x15)]) hx hb d_MO_rest_29 hl (by decide) rfl (fun ls hl => ?_)
    refine lv_aload_n hx hb d_MO_rest_31 rfl (lv_at hl 1 rfl) ?_
    obtain ⟨t25, w⟩ := w
    obtain ⟨q26, e27, w⟩ := w
    refine hb_get (ci := 4) (C := "BigDeskModel") (T := T_MO) (N := 8) hx hb hts (fun w9 h9 => hT w9 (u_MO w9 h9)) hown hK hW t25 rfl (by decide) 2 (by decide) (hw wd_648) (fun _ h9 => h9) (q := (2, 14)) rfl (v := .ref q26) (ah_f_R e27) d_MO_rest_32 ?_
    refine lv_iload_n hx hb d_MO_rest_35 rfl (lv_at hl 2 rfl) ?_
    obtain ⟨t28, w⟩ := w
    obtain ⟨i29, w⟩ := w
    refine hb_iald hx hb hK hW t28 (by decide) (by decide) 0 rfl i29 d_MO_rest_36 ?_
    refine lv_iconst (v := 1) hx hb d_MO_rest_37 (by decide) ?_
    refine lv_isub hx hb d_MO_rest_38 ?_
    refine lv_topi (fun v30 ev30 => ?_)
    have w := w v30 ev30
    refine lv_istore (lv' := [(6, .int v30), (4, .long (0 : Int64)), (0, .ref x13), (1, .int x14), (2, .long x15)]) hx hb d_MO_rest_39 hl (by decide) rfl (fun ls hl => ?_)
    obtain ⟨k97, w⟩ := w
    refine tl_MO_rest_41 C (by omega) (by omega) (fun x81 x82 x83 x84 h85 H locs ls w hm hW hl => ?_) k97 x13 x14 x15 (0 : Int64) v30 h20 _ _ _ w hm hW (lv_sub hl [2, 3, 4, 1, 0] rfl)
    · refine lv_aload_n hx hb d_MO_rest_120 rfl (lv_at hl 0 rfl) ?_
      obtain ⟨t86, w⟩ := w
      obtain ⟨q87, e88, w⟩ := w
      refine hb_get (ci := 4) (C := "BigDeskModel") (T := T_MO) (N := 8) hx hb hts (fun w9 h9 => hT w9 (u_MO w9 h9)) hown hK hW t86 rfl (by decide) 3 (by decide) (hw wd_649) (fun _ h9 => h9) (q := (2, 15)) rfl (v := .ref q87) (ah_f_R e88) d_MO_rest_121 ?_
      refine lv_iload_n hx hb d_MO_rest_124 rfl (lv_at hl 1 rfl) ?_
      obtain ⟨t89, w⟩ := w
      obtain ⟨i90, w⟩ := w
      refine hb_iald hx hb hK hW t89 (by decide) (by decide) 0 rfl i90 d_MO_rest_125 ?_
      refine lv_if_ge (tgt := 143) hx hb d_MO_rest_126 (by decide) (fun c91 => ?_) (fun c91 => ?_)
      · have w := w.1 c91
        exact tb_MO_rest_143 C (by omega) (by omega)  x84 h85 _ _ _ w hm hW (lv_sub hl [3] rfl)
      · have w := w.2 c91
        refine lv_lload hx hb d_MO_rest_129 (lv_at hl 3 rfl) ?_
        refine lv_lconst (v := 0) hx hb d_MO_rest_131 (by decide) ?_
        refine hb_lcmp_le (tgt := 143) hx hb d_MO_rest_132 d_MO_rest_133 (by decide) (fun c96 => ?_) (fun c96 => ?_)
        · have w := w.1 c96
          exact tb_MO_rest_143 C (by omega) (by omega)  x84 h85 _ _ _ w hm hW (lv_sub hl [3] rfl)
        · have w := w.2 c96
          refine lv_lload_n hx hb d_MO_rest_136 rfl (lv_at hl 2 rfl) ?_
          refine lv_lload hx hb d_MO_rest_137 (lv_at hl 3 rfl) ?_
          refine lv_lsub hx hb d_MO_rest_139 ?_
          refine lv_goto (tgt := 145) hx hb d_MO_rest_140 (by decide) ?_
          exact tb_MO_rest_145 C (by omega) (by omega)  (x83 - x84) h85 _ _ _ w hm hW (lv_sub hl [] rfl)
  · have w := w.2 c24
    refine lv_lconst (v := 0) hx hb d_MO_rest_26 (by decide) ?_
    exact hb_lret (K := fun r9 h9 => K r9 h9 ∧ ah_m h0 h9) hx hb hr hlk hK hX hW ⟨w, hm⟩ (by omega) (by omega) d_MO_rest_27
set_option maxHeartbeats 4000000 in
set_option maxRecDepth 100000 in
theorem tb_MO_rest_14 {p : Program} {l : Launch} {e : Env} {s : State} {m : MethodId} {args : Array Value} {below : List Frame} {meth : Method} {c : Code} {G : zG} (C : cx_C p l s m args meth c G y_MO_rest b_MO_rest 10 (some .long) "BigDeskModel" (Cond.code y_MO_rest b_MO_rest 10 (some .long) :: zx_T) []) {K : Int64 → ah_H → Prop} {h0 : ah_H} {cells slots : Nat} (hcl : cells + 0 ≤ 0) (hsl : slots + 0 ≤ 0)  (x8 : Nat) (x9 : Int32) (x10 : Int64) (s11 : Nat) (h12 : ah_H) (H : Heap) (locs : List Loc) (ls : Array Slot) (w : bk_MO_rest_14 K x8 x9 x10 s11 h12) (hm : ah_m h0 h12) (hW : ah_W G s.heap h12 H locs) (hl : lv_has ls 10 [(0, .ref x8), (1, .int x9), (2, .long x10)]) : W p l e rm_MO_rest s m args below meth c H locs cells slots (MQ below (va_Ql (fun r9 h9 => K r9 h9 ∧ ah_m h0 h9) (ah_B G) (fun q => G.2.2 ≤ q)) args s 0 0 (fun q => G.2.2 ≤ q)) (F0 m 14 ls [.ref s11]) := by
  unfold bk_MO_rest_14 at w
  obtain ⟨hx, hb, hr, hml, hown, hts, hT, hlk, hK, hX, htb, hin, hst⟩ := id C
  have hw : ∀ {w9 : Cond}, w9 ∈ zx_T → w9.before _ s = true := fun h9 => hts _ (hT _ h9)
  refine lv_iconst (v := 1) hx hb d_MO_rest_14 (by decide) ?_
  refine lv_goto (tgt := 19) hx hb d_MO_rest_15 (by decide) ?_
  exact tb_MO_rest_19 C (by omega) (by omega)  x8 x9 x10 (1 : Int32) s11 h12 _ _ _ w hm hW (lv_sub hl [0, 1, 2] rfl)
set_option maxHeartbeats 4000000 in
set_option maxRecDepth 100000 in
theorem m_MO_rest {l : Launch} (G : zG) (a1 : Nat) (a2 : Int32) (a3 : Int64) (h0 : ah_H) {K : Int64 → ah_H → Prop} (hst : l.stackTraces = false) (w : w_MO_rest a1 a2 a3 h0 K) : Met l y_MO_rest (Cond.code y_MO_rest b_MO_rest 10 (some .long) :: zx_T) rm_MO_rest (va_Pc [.ref a1, .int a2, .long a3] (ah_B G h0)) (va_Ql (fun r9 h9 => K r9 h9 ∧ ah_m h0 h9) (ah_B G) (fun q => G.2.2 ≤ q)) 0 0 (fun q => G.2.2 ≤ q) := by
  refine Met.ofW (cc := b_MO_rest) (maxL := 10) (ret := (some .long)) (by decide) rfl ?_
  intro p e s m args below meth c s₁ B hml hv
  have htb := cx_out B (atoms_spec B.pre _ List.mem_cons_self)
  obtain ⟨rfl, hB⟩ := hv
  have C : cx_C p l s m _ meth c G y_MO_rest b_MO_rest 10 (some .long) "BigDeskModel" (Cond.code y_MO_rest b_MO_rest 10 (some .long) :: zx_T) [] := ⟨B.exec, B.bytes, B.returns, hml, findClass_of_methodNamed B.named, atoms_spec B.pre, cx_hd, B.notSynchronized, hB.2.2.1, hB.2.2.2, htb, fun z9 => (name_of_methodNamed B.named B.method).1.trans z9, hst⟩
  obtain ⟨hx, hb, hr, hml, hown, hts, hT, hlk, hK, hX, htb, hin, hst⟩ := id C
  have hw : ∀ {w9 : Cond}, w9 ∈ zx_T → w9.before _ s = true := fun h9 => hts _ (hT _ h9)
  have hW : ah_W G s.heap h0 s.heap [] := ⟨hB.1, hB.2.1, va_S.rf⟩
  have hm : ah_m h0 h0 := ah_m.rf
  have hcl : 0 + 0 ≤ 0 := by decide
  have hsl : 0 + 0 ≤ 0 := by decide
  have hl := lv_entry ([.ref a1, .int a2, .long a3]) (n := 10) (Nat.le_of_ble_eq_true rfl)
  rw [lg_entry_eq]
  generalize (lg_sl ([.ref a1, .int a2, .long a3]) ++ List.replicate (10 - (lg_sl ([.ref a1, .int a2, .long a3])).length) Slot.unset).toArray = ls at hl ⊢
  have hl : lv_has ls 10 [(0, .ref a1), (1, .int a2), (2, .long a3)] := hl
  unfold w_MO_rest at w
  refine lv_aload_n hx hb d_MO_rest_0 rfl (lv_at hl 0 rfl) ?_
  refine lv_iload_n hx hb d_MO_rest_1 rfl (lv_at hl 1 rfl) ?_
  refine hb_calli (va_runS (As := [.int a2]) (rest := [.ref a1]) ⟨hx, hb, hml, hown, hts⟩ (m_MO_isNone G a2 h0 hst w) (va_cwS 1 hts (zx_gS hT wd_680 wd_681 wd_5 wd_682) rfl rfl rfl (by decide +kernel) ⟨Nat.le_of_ble_eq_true rfl, Nat.le_of_ble_eq_true rfl⟩) (hb_preS hK hX hW) rfl rfl hl.1 rfl (lv_room (Nat.le_of_ble_eq_true rfl)) d_MO_rest_2 ⟨(by show _ ≤ 0; omega), (by show _ ≤ 0; omega)⟩) hW (fun r5 h4 H locs hk hW => ?_)
  obtain ⟨w, mm6⟩ := hk
  have w := w mm6
  have hm := hm.tr mm6
  refine lv_if_ne (tgt := 14) hx hb d_MO_rest_5 (by decide) (fun c7 => ?_) (fun c7 => ?_)
  · have w := w.1 c7
    exact tb_MO_rest_14 C (by omega) (by omega)  a1 a2 a3 a1 h4 _ _ _ w hm hW (lv_sub hl [0, 1, 2] rfl)
  · have w := w.2 c7
    refine lv_lload_n hx hb d_MO_rest_8 rfl (lv_at hl 2 rfl) ?_
    refine lv_lconst (v := 1) hx hb d_MO_rest_9 (by decide) ?_
    refine hb_lcmp_ge (tgt := 18) hx hb d_MO_rest_10 d_MO_rest_11 (by decide) (fun c98 => ?_) (fun c98 => ?_)
    · have w := w.1 c98
      refine lv_iconst (v := 0) hx hb d_MO_rest_18 (by decide) ?_
      exact tb_MO_rest_19 C (by omega) (by omega)  a1 a2 a3 (0 : Int32) a1 h4 _ _ _ w hm hW (lv_sub hl [0, 1, 2] rfl)
    · have w := w.2 c98
      exact tb_MO_rest_14 C (by omega) (by omega)  a1 a2 a3 a1 h4 _ _ _ w hm hW (lv_sub hl [0, 1, 2] rfl)
set_option maxHeartbeats 4000000 in
set_option maxRecDepth 100000 in
theorem tl_MO_isLong_24 {p : Program} {l : Launch} {e : Env} {s : State} {m : MethodId} {args : Array Value} {below : List Frame} {meth : Method} {c : Code} {G : zG} (C : cx_C p l s m args meth c G y_MO_isLong b_MO_isLong 5 (some .boolean) "BigDeskModel" (Cond.code y_MO_isLong b_MO_isLong 5 (some .boolean) :: zx_T) []) {K : Int32 → ah_H → Prop} {h0 : ah_H} {cells slots : Nat} (hcl : cells + 0 ≤ 0) (hsl : slots + 0 ≤ 0) {xt_50 : ah_H → Prop} {xt_73 : Nat → Int32 → Int64 → ah_H → Prop} (hc_xt_50 : ∀ (hz : ah_H) (H : Heap) (locs : List Loc) (ls : Array Slot), xt_50 hz → ah_m h0 hz → ah_W G s.heap hz H locs → lv_has ls 5 [] → W p l e rm_MO_isLong s m args below meth c H locs cells slots (MQ below (va_Qi (fun r9 h9 => K r9 h9 ∧ ah_m h0 h9) (ah_B G) (fun q => G.2.2 ≤ q)) args s 0 0 (fun q => G.2.2 ≤ q)) (F0 m 50 ls [])) (hc_xt_73 : ∀ (z0 : Nat) (z1 : Int32) (z2 : Int64) (hz : ah_H) (H : Heap) (locs : List Loc) (ls : Array Slot), xt_73 z0 z1 z2 hz → ah_m h0 hz → ah_W G s.heap hz H locs → lv_has ls 5 [(0, .ref z0), (1, .int z1), (2, .long z2)] → W p l e rm_MO_isLong s m args below meth c H locs cells slots (MQ below (va_Qi (fun r9 h9 => K r9 h9 ∧ ah_m h0 h9) (ah_B G) (fun q => G.2.2 ≤ q)) args s 0 0 (fun q => G.2.2 ≤ q)) (F0 m 73 ls [])) : ∀ (n : Nat) (x14 : Nat) (x15 : Int32) (x16 : Int64) (x17 : Int32) (h18 : ah_H) (H : Heap) (locs : List Loc) (ls : Array Slot), lp_MO_isLong_24 xt_50 xt_73 K n x14 x15 x16 x17 h18 → ah_m h0 h18 → ah_W G s.heap h18 H locs → lv_has ls 5 [(0, .ref x14), (1, .int x15), (2, .long x16), (4, .int x17)] → W p l e rm_MO_isLong s m args below meth c H locs cells slots (MQ below (va_Qi (fun r9 h9 => K r9 h9 ∧ ah_m h0 h9) (ah_B G) (fun q => G.2.2 ≤ q)) args s 0 0 (fun q => G.2.2 ≤ q)) (F0 m 24 ls []) := by
  obtain ⟨hx, hb, hr, hml, hown, hts, hT, hlk, hK, hX, htb, hin, hst⟩ := id C
  have hw : ∀ {w9 : Cond}, w9 ∈ zx_T → w9.before _ s = true := fun h9 => hts _ (hT _ h9)
  intro n
  induction n with
  | zero =>
    intro x14 x15 x16 x17 h18 H locs ls w
    exact absurd w (by intro z9; exact z9)
  | succ n ih =>
    intro x14 x15 x16 x17 h18 H locs ls w hm hW hl
    unfold lp_MO_isLong_24 at w
    refine lv_iload hx hb d_MO_isLong_24 (lv_at hl 3 rfl) ?_
    refine lv_if_lt (tgt := 73) hx hb d_MO_isLong_26 (by decide) (fun c19 => ?_) (fun c19 => ?_)
    · have w := w.1 c19
      exact hc_xt_73 x14 x15 x16 h18 _ _ _ w hm hW (lv_sub hl [0, 1, 2] rfl)
    · have w := w.2 c19
      refine lv_lload_n hx hb d_MO_isLong_29 rfl (lv_at hl 2 rfl) ?_
      refine lv_ldc2 (v := -9223372036854775808) hx hb hown (hw wd_795) d_MO_isLong_30 ?_
      refine lv_aload_n hx hb d_MO_isLong_33 rfl (lv_at hl 0 rfl) ?_
      refine lv_iload_n hx hb d_MO_isLong_34 rfl (lv_at hl 1 rfl) ?_
      refine lv_iload hx hb d_MO_isLong_35 (lv_at hl 3 rfl) ?_
      obtain ⟨t20, w⟩ := w
      refine hb_calli (va_runV (As := [.int x15, .int x17]) (rest := [.long (-9223372036854775808 : Int64), .long x16]) ⟨hx, hb, hml, hown, hts⟩ (m_MO_at G x14 x15 x17 h18 hst w) (cwV 2 hts (zx_gV hT wd_642 wd_644 wd_s14 wd_5 wd_645) rfl rfl rfl (by decide +kernel) ⟨Nat.le_of_ble_eq_true rfl, Nat.le_of_ble_eq_true rfl⟩) (hb_preV hK hX hW t20 (by decide) rfl) rfl rfl hl.1 rfl (lv_room (Nat.le_of_ble_eq_true rfl)) d_MO_isLong_37 ⟨(by show _ ≤ 0; omega), (by show _ ≤ 0; omega)⟩) hW (fun r22 h21 H locs hk hW => ?_)
      obtain ⟨w, mm23⟩ := hk
      have w := w mm23
      have hm := hm.tr mm23
      have t24 := mm23.tg t20 (by decide)
      refine lv_i2l hx hb d_MO_isLong_40 rfl ?_
      refine lv_ladd hx hb d_MO_isLong_41 ?_
      refine lv_ldc2 (v := 10000) hx hb hown (hw wd_637) d_MO_isLong_42 ?_
      refine lv_ldiv hx hb d_MO_isLong_45 (by decide) ?_
      refine hb_lcmp_ge (tgt := 52) hx hb d_MO_isLong_46 d_MO_isLong_47 (by decide) (fun c25 => ?_) (fun c25 => ?_)
      · have w := w.1 c25
        refine lv_lload_n hx hb d_MO_isLong_52 rfl (lv_at hl 2 rfl) ?_
        refine lv_ldc2 (v := 10000) hx hb hown (hw wd_637) d_MO_isLong_53 ?_
        refine lv_lmul hx hb d_MO_isLong_56 ?_
        refine lv_aload_n hx hb d_MO_isLong_57 rfl (lv_at hl 0 rfl) ?_
        refine lv_iload_n hx hb d_MO_isLong_58 rfl (lv_at hl 1 rfl) ?_
        refine lv_iload hx hb d_MO_isLong_59 (lv_at hl 3 rfl) ?_
        refine hb_calli (va_runV (As := [.int x15, .int x17]) (rest := [.long (x16 * (10000 : Int64))]) ⟨hx, hb, hml, hown, hts⟩ (m_MO_at G x14 x15 x17 h21 hst w) (cwV 2 hts (zx_gV hT wd_642 wd_644 wd_s14 wd_5 wd_645) rfl rfl rfl (by decide +kernel) ⟨Nat.le_of_ble_eq_true rfl, Nat.le_of_ble_eq_true rfl⟩) (hb_preV hK hX hW t24 (by decide) rfl) rfl rfl hl.1 rfl (lv_room (Nat.le_of_ble_eq_true rfl)) d_MO_isLong_61 ⟨(by show _ ≤ 0; omega), (by show _ ≤ 0; omega)⟩) hW (fun r27 h26 H locs hk hW => ?_)
        obtain ⟨w, mm28⟩ := hk
        have w := w mm28
        have hm := hm.tr mm28
        have t29 := mm28.tg t24 (by decide)
        refine lv_i2l hx hb d_MO_isLong_64 rfl ?_
        refine lv_lsub hx hb d_MO_isLong_65 ?_
        refine lv_topl (fun v30 ev30 => ?_)
        have w := w v30 ev30
        refine lv_lstore_n (lv' := [(2, .long v30), (0, .ref x14), (1, .int x15), (4, .int x17)]) hx hb d_MO_isLong_66 rfl hl (by decide) rfl (fun ls hl => ?_)
        obtain ⟨v31, ev31⟩ : ∃ y9 : Int32, y9 = x17 + (-1) := ⟨_, rfl⟩
        have w := w v31 ev31
        refine lv_iinc (v := v31) (lv' := [(4, .int v31), (2, .long v30), (0, .ref x14), (1, .int x15)]) hx hb d_MO_isLong_67 hl (k := 3) rfl (by rw [ev31]; rfl) (by decide) rfl (fun ls hl => ?_)
        refine lv_goto (tgt := 24) hx hb d_MO_isLong_70 (by decide) ?_
        exact ih x14 x15 v30 v31 h26 _ _ _ w hm hW (lv_sub hl [2, 3, 1, 0] rfl)
      · have w := w.2 c25
        exact hc_xt_50  h21 _ _ _ w hm hW (lv_sub hl [] rfl)
set_option maxHeartbeats 4000000 in
set_option maxRecDepth 100000 in
theorem tb_MO_isLong_95 {p : Program} {l : Launch} {e : Env} {s : State} {m : MethodId} {args : Array Value} {below : List Frame} {meth : Method} {c : Code} {G : zG} (C : cx_C p l s m args meth c G y_MO_isLong b_MO_isLong 5 (some .boolean) "BigDeskModel" (Cond.code y_MO_isLong b_MO_isLong 5 (some .boolean) :: zx_T) []) {K : Int32 → ah_H → Prop} {h0 : ah_H} {cells slots : Nat} (hcl : cells + 0 ≤ 0) (hsl : slots + 0 ≤ 0)  (s44 : Int32) (h45 : ah_H) (H : Heap) (locs : List Loc) (ls : Array Slot) (w : bk_MO_isLong_95 K s44 h45) (hm : ah_m h0 h45) (hW : ah_W G s.heap h45 H locs) (hl : lv_has ls 5 []) : W p l e rm_MO_isLong s m args below meth c H locs cells slots (MQ below (va_Qi (fun r9 h9 => K r9 h9 ∧ ah_m h0 h9) (ah_B G) (fun q => G.2.2 ≤ q)) args s 0 0 (fun q => G.2.2 ≤ q)) (F0 m 95 ls [.int s44]) := by
  unfold bk_MO_isLong_95 at w
  obtain ⟨hx, hb, hr, hml, hown, hts, hT, hlk, hK, hX, htb, hin, hst⟩ := id C
  have hw : ∀ {w9 : Cond}, w9 ∈ zx_T → w9.before _ s = true := fun h9 => hts _ (hT _ h9)
  obtain ⟨z46, w⟩ := w
  exact hb_zret (K := fun r9 h9 => K r9 h9 ∧ ah_m h0 h9) hx hb hr hlk z46 hK hX hW ⟨w, hm⟩ (by omega) (by omega) d_MO_isLong_95
set_option maxHeartbeats 4000000 in
set_option maxRecDepth 100000 in
theorem tb_MO_isLong_90 {p : Program} {l : Launch} {e : Env} {s : State} {m : MethodId} {args : Array Value} {below : List Frame} {meth : Method} {c : Code} {G : zG} (C : cx_C p l s m args meth c G y_MO_isLong b_MO_isLong 5 (some .boolean) "BigDeskModel" (Cond.code y_MO_isLong b_MO_isLong 5 (some .boolean) :: zx_T) []) {K : Int32 → ah_H → Prop} {h0 : ah_H} {cells slots : Nat} (hcl : cells + 0 ≤ 0) (hsl : slots + 0 ≤ 0)   (h43 : ah_H) (H : Heap) (locs : List Loc) (ls : Array Slot) (w : bk_MO_isLong_90 K h43) (hm : ah_m h0 h43) (hW : ah_W G s.heap h43 H locs) (hl : lv_has ls 5 []) : W p l e rm_MO_isLong s m args below meth c H locs cells slots (MQ below (va_Qi (fun r9 h9 => K r9 h9 ∧ ah_m h0 h9) (ah_B G) (fun q => G.2.2 ≤ q)) args s 0 0 (fun q => G.2.2 ≤ q)) (F0 m 90 ls []) := by
  unfold bk_MO_isLong_90 at w
  obtain ⟨hx, hb, hr, hml, hown, hts, hT, hlk, hK, hX, htb, hin, hst⟩ := id C
  have hw : ∀ {w9 : Cond}, w9 ∈ zx_T → w9.before _ s = true := fun h9 => hts _ (hT _ h9)
  refine lv_iconst (v := 1) hx hb d_MO_isLong_90 (by decide) ?_
  refine lv_goto (tgt := 95) hx hb d_MO_isLong_91 (by decide) ?_
  exact tb_MO_isLong_95 C (by omega) (by omega)  (1 : Int32) h43 _ _ _ w hm hW (lv_sub hl [] rfl)
set_option maxHeartbeats 4000000 in
set_option maxRecDepth 100000 in
theorem m_MO_isLong {l : Launch} (G : zG) (a1 : Nat) (a2 : Int32) (h0 : ah_H) {K : Int32 → ah_H → Prop} (hst : l.stackTraces = false) (w : w_MO_isLong a1 a2 h0 K) : Met l y_MO_isLong (Cond.code y_MO_isLong b_MO_isLong 5 (some .boolean) :: zx_T) rm_MO_isLong (va_Pc [.ref a1, .int a2] (ah_B G h0)) (va_Qi (fun r9 h9 => K r9 h9 ∧ ah_m h0 h9) (ah_B G) (fun q => G.2.2 ≤ q)) 0 0 (fun q => G.2.2 ≤ q) := by
  refine Met.ofW (cc := b_MO_isLong) (maxL := 5) (ret := (some .boolean)) (by decide) rfl ?_
  intro p e s m args below meth c s₁ B hml hv
  have htb := cx_out B (atoms_spec B.pre _ List.mem_cons_self)
  obtain ⟨rfl, hB⟩ := hv
  have C : cx_C p l s m _ meth c G y_MO_isLong b_MO_isLong 5 (some .boolean) "BigDeskModel" (Cond.code y_MO_isLong b_MO_isLong 5 (some .boolean) :: zx_T) [] := ⟨B.exec, B.bytes, B.returns, hml, findClass_of_methodNamed B.named, atoms_spec B.pre, cx_hd, B.notSynchronized, hB.2.2.1, hB.2.2.2, htb, fun z9 => (name_of_methodNamed B.named B.method).1.trans z9, hst⟩
  obtain ⟨hx, hb, hr, hml, hown, hts, hT, hlk, hK, hX, htb, hin, hst⟩ := id C
  have hw : ∀ {w9 : Cond}, w9 ∈ zx_T → w9.before _ s = true := fun h9 => hts _ (hT _ h9)
  have hW : ah_W G s.heap h0 s.heap [] := ⟨hB.1, hB.2.1, va_S.rf⟩
  have hm : ah_m h0 h0 := ah_m.rf
  have hcl : 0 + 0 ≤ 0 := by decide
  have hsl : 0 + 0 ≤ 0 := by decide
  have hl := lv_entry ([.ref a1, .int a2]) (n := 5) (Nat.le_of_ble_eq_true rfl)
  rw [lg_entry_eq]
  generalize (lg_sl ([.ref a1, .int a2]) ++ List.replicate (5 - (lg_sl ([.ref a1, .int a2])).length) Slot.unset).toArray = ls at hl ⊢
  have hl : lv_has ls 5 [(0, .ref a1), (1, .int a2)] := hl
  unfold w_MO_isLong at w
  refine lv_aload_n hx hb d_MO_isLong_0 rfl (lv_at hl 0 rfl) ?_
  obtain ⟨t3, w⟩ := w
  obtain ⟨q4, e5, w⟩ := w
  refine hb_get (ci := 4) (C := "BigDeskModel") (T := T_MO) (N := 8) hx hb hts (fun w9 h9 => hT w9 (u_MO w9 h9)) hown hK hW t3 rfl (by decide) 2 (by decide) (hw wd_648) (fun _ h9 => h9) (q := (2, 14)) rfl (v := .ref q4) (ah_f_R e5) d_MO_isLong_1 ?_
  refine lv_iload_n hx hb d_MO_isLong_4 rfl (lv_at hl 1 rfl) ?_
  obtain ⟨t6, w⟩ := w
  obtain ⟨i7, w⟩ := w
  refine hb_iald hx hb hK hW t6 (by decide) (by decide) 0 rfl i7 d_MO_isLong_5 ?_
  refine lv_iconst (v := 5) hx hb d_MO_isLong_6 (by decide) ?_
  refine lv_icmp_le (tgt := 12) hx hb d_MO_isLong_7 (by decide) (fun c8 => ?_) (fun c8 => ?_)
  · have w := w.1 c8
    refine lv_lconst (v := 0) hx hb d_MO_isLong_12 (by decide) ?_
    refine lv_lstore_n (lv' := [(2, .long (0 : Int64)), (0, .ref a1), (1, .int a2)]) hx hb d_MO_isLong_13 rfl hl (by decide) rfl (fun ls hl => ?_)
    refine lv_aload_n hx hb d_MO_isLong_14 rfl (lv_at hl 1 rfl) ?_
    obtain ⟨q9, e10, w⟩ := w
    refine hb_get (ci := 4) (C := "BigDeskModel") (T := T_MO) (N := 8) hx hb hts (fun w9 h9 => hT w9 (u_MO w9 h9)) hown hK hW t3 rfl (by decide) 2 (by decide) (hw wd_648) (fun _ h9 => h9) (q := (2, 14)) rfl (v := .ref q9) (ah_f_R e10) d_MO_isLong_15 ?_
    refine lv_iload_n hx hb d_MO_isLong_18 rfl (lv_at hl 2 rfl) ?_
    obtain ⟨t11, w⟩ := w
    obtain ⟨i12, w⟩ := w
    refine hb_iald hx hb hK hW t11 (by decide) (by decide) 0 rfl i12 d_MO_isLong_19 ?_
    refine lv_iconst (v := 1) hx hb d_MO_isLong_20 (by decide) ?_
    refine lv_isub hx hb d_MO_isLong_21 ?_
    refine lv_topi (fun v13 ev13 => ?_)
    have w := w v13 ev13
    refine lv_istore (lv' := [(4, .int v13), (2, .long (0 : Int64)), (0, .ref a1), (1, .int a2)]) hx hb d_MO_isLong_22 hl (by decide) rfl (fun ls hl => ?_)
    obtain ⟨k48, w⟩ := w
    refine tl_MO_isLong_24 C (by omega) (by omega) (fun  h32 H locs ls w hm hW hl => ?_) (fun x33 x34 x35 h36 H locs ls w hm hW hl => ?_) k48 a1 a2 (0 : Int64) v13 h0 _ _ _ w hm hW (lv_sub hl [2, 3, 1, 0] rfl)
    · refine lv_iconst (v := 0) hx hb d_MO_isLong_50 (by decide) ?_
      exact hb_zret (K := fun r9 h9 => K r9 h9 ∧ ah_m h0 h9) hx hb hr hlk (by decide) hK hX hW ⟨w, hm⟩ (by omega) (by omega) d_MO_isLong_51
    · refine lv_aload_n hx hb d_MO_isLong_73 rfl (lv_at hl 0 rfl) ?_
      obtain ⟨t37, w⟩ := w
      obtain ⟨q38, e39, w⟩ := w
      refine hb_get (ci := 4) (C := "BigDeskModel") (T := T_MO) (N := 8) hx hb hts (fun w9 h9 => hT w9 (u_MO w9 h9)) hown hK hW t37 rfl (by decide) 3 (by decide) (hw wd_649) (fun _ h9 => h9) (q := (2, 15)) rfl (v := .ref q38) (ah_f_R e39) d_MO_isLong_74 ?_
      refine lv_iload_n hx hb d_MO_isLong_77 rfl (lv_at hl 1 rfl) ?_
      obtain ⟨t40, w⟩ := w
      obtain ⟨i41, w⟩ := w
      refine hb_iald hx hb hK hW t40 (by decide) (by decide) 0 rfl i41 d_MO_isLong_78 ?_
      refine lv_if_lt (tgt := 90) hx hb d_MO_isLong_79 (by decide) (fun c42 => ?_) (fun c42 => ?_)
      · have w := w.1 c42
        exact tb_MO_isLong_90 C (by omega) (by omega)   h36 _ _ _ w hm hW (lv_sub hl [] rfl)
      · have w := w.2 c42
        refine lv_lload_n hx hb d_MO_isLong_82 rfl (lv_at hl 2 rfl) ?_
        refine lv_ldc2 (v := -9223372036854775808) hx hb hown (hw wd_795) d_MO_isLong_83 ?_
        refine hb_lcmp_le (tgt := 94) hx hb d_MO_isLong_86 d_MO_isLong_87 (by decide) (fun c47 => ?_) (fun c47 => ?_)
        · have w := w.1 c47
          refine lv_iconst (v := 0) hx hb d_MO_isLong_94 (by decide) ?_
          exact tb_MO_isLong_95 C (by omega) (by omega)  (0 : Int32) h36 _ _ _ w hm hW (lv_sub hl [] rfl)
        · have w := w.2 c47
          exact tb_MO_isLong_90 C (by omega) (by omega)   h36 _ _ _ w hm hW (lv_sub hl [] rfl)
  · have w := w.2 c8
    refine lv_iconst (v := 0) hx hb d_MO_isLong_10 (by decide) ?_
    exact hb_zret (K := fun r9 h9 => K r9 h9 ∧ ah_m h0 h9) hx hb hr hlk (by decide) hK hX hW ⟨w, hm⟩ (by omega) (by omega) d_MO_isLong_11
set_option maxHeartbeats 4000000 in
set_option maxRecDepth 100000 in
theorem tl_MO_longOf_12 {p : Program} {l : Launch} {e : Env} {s : State} {m : MethodId} {args : Array Value} {below : List Frame} {meth : Method} {c : Code} {G : zG} (C : cx_C p l s m args meth c G y_MO_longOf b_MO_longOf 5 (some .long) "BigDeskModel" (Cond.code y_MO_longOf b_MO_longOf 5 (some .long) :: zx_T) []) {K : Int64 → ah_H → Prop} {h0 : ah_H} {cells slots : Nat} (hcl : cells + 0 ≤ 0) (hsl : slots + 0 ≤ 0) {xt_38 : Nat → Int32 → Int64 → ah_H → Prop} (hc_xt_38 : ∀ (z0 : Nat) (z1 : Int32) (z2 : Int64) (hz : ah_H) (H : Heap) (locs : List Loc) (ls : Array Slot), xt_38 z0 z1 z2 hz → ah_m h0 hz → ah_W G s.heap hz H locs → lv_has ls 5 [(0, .ref z0), (1, .int z1), (2, .long z2)] → W p l e rm_MO_longOf s m args below meth c H locs cells slots (MQ below (va_Ql (fun r9 h9 => K r9 h9 ∧ ah_m h0 h9) (ah_B G) (fun q => G.2.2 ≤ q)) args s 0 0 (fun q => G.2.2 ≤ q)) (F0 m 38 ls [])) : ∀ (n : Nat) (x9 : Nat) (x10 : Int32) (x11 : Int64) (x12 : Int32) (h13 : ah_H) (H : Heap) (locs : List Loc) (ls : Array Slot), lp_MO_longOf_12 xt_38 K n x9 x10 x11 x12 h13 → ah_m h0 h13 → ah_W G s.heap h13 H locs → lv_has ls 5 [(0, .ref x9), (1, .int x10), (2, .long x11), (4, .int x12)] → W p l e rm_MO_longOf s m args below meth c H locs cells slots (MQ below (va_Ql (fun r9 h9 => K r9 h9 ∧ ah_m h0 h9) (ah_B G) (fun q => G.2.2 ≤ q)) args s 0 0 (fun q => G.2.2 ≤ q)) (F0 m 12 ls []) := by
  obtain ⟨hx, hb, hr, hml, hown, hts, hT, hlk, hK, hX, htb, hin, hst⟩ := id C
  have hw : ∀ {w9 : Cond}, w9 ∈ zx_T → w9.before _ s = true := fun h9 => hts _ (hT _ h9)
  intro n
  induction n with
  | zero =>
    intro x9 x10 x11 x12 h13 H locs ls w
    exact absurd w (by intro z9; exact z9)
  | succ n ih =>
    intro x9 x10 x11 x12 h13 H locs ls w hm hW hl
    unfold lp_MO_longOf_12 at w
    refine lv_iload hx hb d_MO_longOf_12 (lv_at hl 3 rfl) ?_
    refine lv_if_lt (tgt := 38) hx hb d_MO_longOf_14 (by decide) (fun c14 => ?_) (fun c14 => ?_)
    · have w := w.1 c14
      exact hc_xt_38 x9 x10 x11 h13 _ _ _ w hm hW (lv_sub hl [0, 1, 2] rfl)
    · have w := w.2 c14
      refine lv_lload_n hx hb d_MO_longOf_17 rfl (lv_at hl 2 rfl) ?_
      refine lv_ldc2 (v := 10000) hx hb hown (hw wd_637) d_MO_longOf_18 ?_
      refine lv_lmul hx hb d_MO_longOf_21 ?_
      refine lv_aload_n hx hb d_MO_longOf_22 rfl (lv_at hl 0 rfl) ?_
      refine lv_iload_n hx hb d_MO_longOf_23 rfl (lv_at hl 1 rfl) ?_
      refine lv_iload hx hb d_MO_longOf_24 (lv_at hl 3 rfl) ?_
      obtain ⟨t15, w⟩ := w
      refine hb_calli (va_runV (As := [.int x10, .int x12]) (rest := [.long (x11 * (10000 : Int64))]) ⟨hx, hb, hml, hown, hts⟩ (m_MO_at G x9 x10 x12 h13 hst w) (cwV 2 hts (zx_gV hT wd_642 wd_644 wd_s14 wd_5 wd_645) rfl rfl rfl (by decide +kernel) ⟨Nat.le_of_ble_eq_true rfl, Nat.le_of_ble_eq_true rfl⟩) (hb_preV hK hX hW t15 (by decide) rfl) rfl rfl hl.1 rfl (lv_room (Nat.le_of_ble_eq_true rfl)) d_MO_longOf_26 ⟨(by show _ ≤ 0; omega), (by show _ ≤ 0; omega)⟩) hW (fun r17 h16 H locs hk hW => ?_)
      obtain ⟨w, mm18⟩ := hk
      have w := w mm18
      have hm := hm.tr mm18
      have t19 := mm18.tg t15 (by decide)
      refine lv_i2l hx hb d_MO_longOf_29 rfl ?_
      refine lv_lsub hx hb d_MO_longOf_30 ?_
      refine lv_topl (fun v20 ev20 => ?_)
      have w := w v20 ev20
      refine lv_lstore_n (lv' := [(2, .long v20), (0, .ref x9), (1, .int x10), (4, .int x12)]) hx hb d_MO_longOf_31 rfl hl (by decide) rfl (fun ls hl => ?_)
      obtain ⟨v21, ev21⟩ : ∃ y9 : Int32, y9 = x12 + (-1) := ⟨_, rfl⟩
      have w := w v21 ev21
      refine lv_iinc (v := v21) (lv' := [(4, .int v21), (2, .long v20), (0, .ref x9), (1, .int x10)]) hx hb d_MO_longOf_32 hl (k := 3) rfl (by rw [ev21]; rfl) (by decide) rfl (fun ls hl => ?_)
      refine lv_goto (tgt := 12) hx hb d_MO_longOf_35 (by decide) ?_
      exact ih x9 x10 v20 v21 h16 _ _ _ w hm hW (lv_sub hl [2, 3, 1, 0] rfl)
set_option maxHeartbeats 4000000 in
set_option maxRecDepth 100000 in
theorem tb_MO_longOf_53 {p : Program} {l : Launch} {e : Env} {s : State} {m : MethodId} {args : Array Value} {below : List Frame} {meth : Method} {c : Code} {G : zG} (C : cx_C p l s m args meth c G y_MO_longOf b_MO_longOf 5 (some .long) "BigDeskModel" (Cond.code y_MO_longOf b_MO_longOf 5 (some .long) :: zx_T) []) {K : Int64 → ah_H → Prop} {h0 : ah_H} {cells slots : Nat} (hcl : cells + 0 ≤ 0) (hsl : slots + 0 ≤ 0)  (s32 : Int64) (h33 : ah_H) (H : Heap) (locs : List Loc) (ls : Array Slot) (w : bk_MO_longOf_53 K s32 h33) (hm : ah_m h0 h33) (hW : ah_W G s.heap h33 H locs) (hl : lv_has ls 5 []) : W p l e rm_MO_longOf s m args below meth c H locs cells slots (MQ below (va_Ql (fun r9 h9 => K r9 h9 ∧ ah_m h0 h9) (ah_B G) (fun q => G.2.2 ≤ q)) args s 0 0 (fun q => G.2.2 ≤ q)) (F0 m 53 ls [.long s32]) := by
  unfold bk_MO_longOf_53 at w
  obtain ⟨hx, hb, hr, hml, hown, hts, hT, hlk, hK, hX, htb, hin, hst⟩ := id C
  have hw : ∀ {w9 : Cond}, w9 ∈ zx_T → w9.before _ s = true := fun h9 => hts _ (hT _ h9)
  exact hb_lret (K := fun r9 h9 => K r9 h9 ∧ ah_m h0 h9) hx hb hr hlk hK hX hW ⟨w, hm⟩ (by omega) (by omega) d_MO_longOf_53
set_option maxHeartbeats 4000000 in
set_option maxRecDepth 100000 in
theorem m_MO_longOf {l : Launch} (G : zG) (a1 : Nat) (a2 : Int32) (h0 : ah_H) {K : Int64 → ah_H → Prop} (hst : l.stackTraces = false) (w : w_MO_longOf a1 a2 h0 K) : Met l y_MO_longOf (Cond.code y_MO_longOf b_MO_longOf 5 (some .long) :: zx_T) rm_MO_longOf (va_Pc [.ref a1, .int a2] (ah_B G h0)) (va_Ql (fun r9 h9 => K r9 h9 ∧ ah_m h0 h9) (ah_B G) (fun q => G.2.2 ≤ q)) 0 0 (fun q => G.2.2 ≤ q) := by
  refine Met.ofW (cc := b_MO_longOf) (maxL := 5) (ret := (some .long)) (by decide) rfl ?_
  intro p e s m args below meth c s₁ B hml hv
  have htb := cx_out B (atoms_spec B.pre _ List.mem_cons_self)
  obtain ⟨rfl, hB⟩ := hv
  have C : cx_C p l s m _ meth c G y_MO_longOf b_MO_longOf 5 (some .long) "BigDeskModel" (Cond.code y_MO_longOf b_MO_longOf 5 (some .long) :: zx_T) [] := ⟨B.exec, B.bytes, B.returns, hml, findClass_of_methodNamed B.named, atoms_spec B.pre, cx_hd, B.notSynchronized, hB.2.2.1, hB.2.2.2, htb, fun z9 => (name_of_methodNamed B.named B.method).1.trans z9, hst⟩
  obtain ⟨hx, hb, hr, hml, hown, hts, hT, hlk, hK, hX, htb, hin, hst⟩ := id C
  have hw : ∀ {w9 : Cond}, w9 ∈ zx_T → w9.before _ s = true := fun h9 => hts _ (hT _ h9)
  have hW : ah_W G s.heap h0 s.heap [] := ⟨hB.1, hB.2.1, va_S.rf⟩
  have hm : ah_m h0 h0 := ah_m.rf
  have hcl : 0 + 0 ≤ 0 := by decide
  have hsl : 0 + 0 ≤ 0 := by decide
  have hl := lv_entry ([.ref a1, .int a2]) (n := 5) (Nat.le_of_ble_eq_true rfl)
  rw [lg_entry_eq]
  generalize (lg_sl ([.ref a1, .int a2]) ++ List.replicate (5 - (lg_sl ([.ref a1, .int a2])).length) Slot.unset).toArray = ls at hl ⊢
  have hl : lv_has ls 5 [(0, .ref a1), (1, .int a2)] := hl
  unfold w_MO_longOf at w
  refine lv_lconst (v := 0) hx hb d_MO_longOf_0 (by decide) ?_
  refine lv_lstore_n (lv' := [(2, .long (0 : Int64)), (0, .ref a1), (1, .int a2)]) hx hb d_MO_longOf_1 rfl hl (by decide) rfl (fun ls hl => ?_)
  refine lv_aload_n hx hb d_MO_longOf_2 rfl (lv_at hl 1 rfl) ?_
  obtain ⟨t3, w⟩ := w
  obtain ⟨q4, e5, w⟩ := w
  refine hb_get (ci := 4) (C := "BigDeskModel") (T := T_MO) (N := 8) hx hb hts (fun w9 h9 => hT w9 (u_MO w9 h9)) hown hK hW t3 rfl (by decide) 2 (by decide) (hw wd_648) (fun _ h9 => h9) (q := (2, 14)) rfl (v := .ref q4) (ah_f_R e5) d_MO_longOf_3 ?_
  refine lv_iload_n hx hb d_MO_longOf_6 rfl (lv_at hl 2 rfl) ?_
  obtain ⟨t6, w⟩ := w
  obtain ⟨i7, w⟩ := w
  refine hb_iald hx hb hK hW t6 (by decide) (by decide) 0 rfl i7 d_MO_longOf_7 ?_
  refine lv_iconst (v := 1) hx hb d_MO_longOf_8 (by decide) ?_
  refine lv_isub hx hb d_MO_longOf_9 ?_
  refine lv_topi (fun v8 ev8 => ?_)
  have w := w v8 ev8
  refine lv_istore (lv' := [(4, .int v8), (2, .long (0 : Int64)), (0, .ref a1), (1, .int a2)]) hx hb d_MO_longOf_10 hl (by decide) rfl (fun ls hl => ?_)
  obtain ⟨k34, w⟩ := w
  refine tl_MO_longOf_12 C (by omega) (by omega) (fun x22 x23 x24 h25 H locs ls w hm hW hl => ?_) k34 a1 a2 (0 : Int64) v8 h0 _ _ _ w hm hW (lv_sub hl [2, 3, 1, 0] rfl)
  · refine lv_aload_n hx hb d_MO_longOf_38 rfl (lv_at hl 0 rfl) ?_
    obtain ⟨t26, w⟩ := w
    obtain ⟨q27, e28, w⟩ := w
    refine hb_get (ci := 4) (C := "BigDeskModel") (T := T_MO) (N := 8) hx hb hts (fun w9 h9 => hT w9 (u_MO w9 h9)) hown hK hW t26 rfl (by decide) 3 (by decide) (hw wd_649) (fun _ h9 => h9) (q := (2, 15)) rfl (v := .ref q27) (ah_f_R e28) d_MO_longOf_39 ?_
    refine lv_iload_n hx hb d_MO_longOf_42 rfl (lv_at hl 1 rfl) ?_
    obtain ⟨t29, w⟩ := w
    obtain ⟨i30, w⟩ := w
    refine hb_iald hx hb hK hW t29 (by decide) (by decide) 0 rfl i30 d_MO_longOf_43 ?_
    refine lv_if_ge (tgt := 51) hx hb d_MO_longOf_44 (by decide) (fun c31 => ?_) (fun c31 => ?_)
    · have w := w.1 c31
      refine lv_lload_n hx hb d_MO_longOf_51 rfl (lv_at hl 2 rfl) ?_
      refine lv_lneg hx hb d_MO_longOf_52 ?_
      exact tb_MO_longOf_53 C (by omega) (by omega)  (-x24) h25 _ _ _ w hm hW (lv_sub hl [] rfl)
    · have w := w.2 c31
      refine lv_lload_n hx hb d_MO_longOf_47 rfl (lv_at hl 2 rfl) ?_
      refine lv_goto (tgt := 53) hx hb d_MO_longOf_48 (by decide) ?_
      exact tb_MO_longOf_53 C (by omega) (by omega)  x24 h25 _ _ _ w hm hW (lv_sub hl [] rfl)
set_option maxHeartbeats 4000000 in
set_option maxRecDepth 100000 in
theorem tb_MO_value_42 {p : Program} {l : Launch} {e : Env} {s : State} {m : MethodId} {args : Array Value} {below : List Frame} {meth : Method} {c : Code} {G : zG} (C : cx_C p l s m args meth c G y_MO_value b_MO_value 2 (some .long) "BigDeskModel" (Cond.code y_MO_value b_MO_value 2 (some .long) :: zx_T) []) {K : Int64 → ah_H → Prop} {h0 : ah_H} {cells slots : Nat} (hcl : cells + 0 ≤ 0) (hsl : slots + 0 ≤ 0)  (s13 : Int64) (h14 : ah_H) (H : Heap) (locs : List Loc) (ls : Array Slot) (w : bk_MO_value_42 K s13 h14) (hm : ah_m h0 h14) (hW : ah_W G s.heap h14 H locs) (hl : lv_has ls 2 []) : W p l e rm_MO_value s m args below meth c H locs cells slots (MQ below (va_Ql (fun r9 h9 => K r9 h9 ∧ ah_m h0 h9) (ah_B G) (fun q => G.2.2 ≤ q)) args s 0 0 (fun q => G.2.2 ≤ q)) (F0 m 42 ls [.long s13]) := by
  unfold bk_MO_value_42 at w
  obtain ⟨hx, hb, hr, hml, hown, hts, hT, hlk, hK, hX, htb, hin, hst⟩ := id C
  have hw : ∀ {w9 : Cond}, w9 ∈ zx_T → w9.before _ s = true := fun h9 => hts _ (hT _ h9)
  exact hb_lret (K := fun r9 h9 => K r9 h9 ∧ ah_m h0 h9) hx hb hr hlk hK hX hW ⟨w, hm⟩ (by omega) (by omega) d_MO_value_42
set_option maxHeartbeats 4000000 in
set_option maxRecDepth 100000 in
theorem tb_MO_value_33 {p : Program} {l : Launch} {e : Env} {s : State} {m : MethodId} {args : Array Value} {below : List Frame} {meth : Method} {c : Code} {G : zG} (C : cx_C p l s m args meth c G y_MO_value b_MO_value 2 (some .long) "BigDeskModel" (Cond.code y_MO_value b_MO_value 2 (some .long) :: zx_T) []) {K : Int64 → ah_H → Prop} {h0 : ah_H} {cells slots : Nat} (hcl : cells + 0 ≤ 0) (hsl : slots + 0 ≤ 0)   (h12 : ah_H) (H : Heap) (locs : List Loc) (ls : Array Slot) (w : bk_MO_value_33 K h12) (hm : ah_m h0 h12) (hW : ah_W G s.heap h12 H locs) (hl : lv_has ls 2 []) : W p l e rm_MO_value s m args below meth c H locs cells slots (MQ below (va_Ql (fun r9 h9 => K r9 h9 ∧ ah_m h0 h9) (ah_B G) (fun q => G.2.2 ≤ q)) args s 0 0 (fun q => G.2.2 ≤ q)) (F0 m 33 ls []) := by
  unfold bk_MO_value_33 at w
  obtain ⟨hx, hb, hr, hml, hown, hts, hT, hlk, hK, hX, htb, hin, hst⟩ := id C
  have hw : ∀ {w9 : Cond}, w9 ∈ zx_T → w9.before _ s = true := fun h9 => hts _ (hT _ h9)
  refine lv_lconst (v := 0) hx hb d_MO_value_33 (by decide) ?_
  refine lv_goto (tgt := 42) hx hb d_MO_value_34 (by decide) ?_
  exact tb_MO_value_42 C (by omega) (by omega)  (0 : Int64) h12 _ _ _ w hm hW (lv_sub hl [] rfl)
set_option maxHeartbeats 4000000 in
set_option maxRecDepth 100000 in
theorem tb_MO_value_26 {p : Program} {l : Launch} {e : Env} {s : State} {m : MethodId} {args : Array Value} {below : List Frame} {meth : Method} {c : Code} {G : zG} (C : cx_C p l s m args meth c G y_MO_value b_MO_value 2 (some .long) "BigDeskModel" (Cond.code y_MO_value b_MO_value 2 (some .long) :: zx_T) []) {K : Int64 → ah_H → Prop} {h0 : ah_H} {cells slots : Nat} (hcl : cells + 0 ≤ 0) (hsl : slots + 0 ≤ 0)  (x20 : Nat) (x21 : Int32) (s22 : Int32) (s23 : Nat) (h24 : ah_H) (H : Heap) (locs : List Loc) (ls : Array Slot) (w : bk_MO_value_26 K x20 x21 s22 s23 h24) (hm : ah_m h0 h24) (hW : ah_W G s.heap h24 H locs) (hl : lv_has ls 2 [(0, .ref x20), (1, .int x21)]) : W p l e rm_MO_value s m args below meth c H locs cells slots (MQ below (va_Ql (fun r9 h9 => K r9 h9 ∧ ah_m h0 h9) (ah_B G) (fun q => G.2.2 ≤ q)) args s 0 0 (fun q => G.2.2 ≤ q)) (F0 m 26 ls [.int s22, .ref s23]) := by
  unfold bk_MO_value_26 at w
  obtain ⟨hx, hb, hr, hml, hown, hts, hT, hlk, hK, hX, htb, hin, hst⟩ := id C
  have hw : ∀ {w9 : Cond}, w9 ∈ zx_T → w9.before _ s = true := fun h9 => hts _ (hT _ h9)
  refine lv_iconst (v := 2) hx hb d_MO_value_26 (by decide) ?_
  obtain ⟨t25, w⟩ := w
  refine hb_calli (va_runV (As := [.int s22, .int (2 : Int32)]) (rest := []) ⟨hx, hb, hml, hown, hts⟩ (m_MO_fails G s23 s22 (2 : Int32) h24 hst w) (cwV 2 hts (zx_gV hT wd_683 wd_685 wd_s15 wd_5 wd_686) rfl rfl rfl (by decide +kernel) ⟨Nat.le_of_ble_eq_true rfl, Nat.le_of_ble_eq_true rfl⟩) (hb_preV hK hX hW t25 (by decide) rfl) rfl rfl hl.1 rfl (lv_room (Nat.le_of_ble_eq_true rfl)) d_MO_value_27 ⟨(by show _ ≤ 0; omega), (by show _ ≤ 0; omega)⟩) hW (fun r27 h26 H locs hk hW => ?_)
  obtain ⟨w, mm28⟩ := hk
  have w := w mm28
  have hm := hm.tr mm28
  have t29 := mm28.tg t25 (by decide)
  refine lv_if_eq (tgt := 37) hx hb d_MO_value_30 (by decide) (fun c30 => ?_) (fun c30 => ?_)
  · have w := w.1 c30
    refine lv_aload_n hx hb d_MO_value_37 rfl (lv_at hl 0 rfl) ?_
    refine lv_iload_n hx hb d_MO_value_38 rfl (lv_at hl 1 rfl) ?_
    obtain ⟨t31, w⟩ := w
    refine hb_calll (va_runV (As := [.int x21]) (rest := []) ⟨hx, hb, hml, hown, hts⟩ (m_MO_longOf G x20 x21 h26 hst w) (cwV 1 hts (zx_gV hT wd_796 wd_798 wd_s28 wd_5 wd_799) rfl rfl rfl (by decide +kernel) ⟨Nat.le_of_ble_eq_true rfl, Nat.le_of_ble_eq_true rfl⟩) (hb_preV hK hX hW t31 (by decide) rfl) rfl rfl hl.1 rfl (lv_room (Nat.le_of_ble_eq_true rfl)) d_MO_value_39 ⟨(by show _ ≤ 0; omega), (by show _ ≤ 0; omega)⟩) hW (fun r33 h32 H locs hk hW => ?_)
    obtain ⟨w, mm34⟩ := hk
    have w := w mm34
    have hm := hm.tr mm34
    have t35 := mm34.tg t29 (by decide)
    have t36 := mm34.tg t31 (by decide)
    exact tb_MO_value_42 C (by omega) (by omega)  r33 h32 _ _ _ w hm hW (lv_sub hl [] rfl)
  · have w := w.2 c30
    exact tb_MO_value_33 C (by omega) (by omega)   h26 _ _ _ w hm hW (lv_sub hl [] rfl)
set_option maxHeartbeats 4000000 in
set_option maxRecDepth 100000 in
theorem m_MO_value {l : Launch} (G : zG) (a1 : Nat) (a2 : Int32) (h0 : ah_H) {K : Int64 → ah_H → Prop} (hst : l.stackTraces = false) (w : w_MO_value a1 a2 h0 K) : Met l y_MO_value (Cond.code y_MO_value b_MO_value 2 (some .long) :: zx_T) rm_MO_value (va_Pc [.ref a1, .int a2] (ah_B G h0)) (va_Ql (fun r9 h9 => K r9 h9 ∧ ah_m h0 h9) (ah_B G) (fun q => G.2.2 ≤ q)) 0 0 (fun q => G.2.2 ≤ q) := by
  refine Met.ofW (cc := b_MO_value) (maxL := 2) (ret := (some .long)) (by decide) rfl ?_
  intro p e s m args below meth c s₁ B hml hv
  have htb := cx_out B (atoms_spec B.pre _ List.mem_cons_self)
  obtain ⟨rfl, hB⟩ := hv
  have C : cx_C p l s m _ meth c G y_MO_value b_MO_value 2 (some .long) "BigDeskModel" (Cond.code y_MO_value b_MO_value 2 (some .long) :: zx_T) [] := ⟨B.exec, B.bytes, B.returns, hml, findClass_of_methodNamed B.named, atoms_spec B.pre, cx_hd, B.notSynchronized, hB.2.2.1, hB.2.2.2, htb, fun z9 => (name_of_methodNamed B.named B.method).1.trans z9, hst⟩
  obtain ⟨hx, hb, hr, hml, hown, hts, hT, hlk, hK, hX, htb, hin, hst⟩ := id C
  have hw : ∀ {w9 : Cond}, w9 ∈ zx_T → w9.before _ s = true := fun h9 => hts _ (hT _ h9)
  have hW : ah_W G s.heap h0 s.heap [] := ⟨hB.1, hB.2.1, va_S.rf⟩
  have hm : ah_m h0 h0 := ah_m.rf
  have hcl : 0 + 0 ≤ 0 := by decide
  have hsl : 0 + 0 ≤ 0 := by decide
  have hl := lv_entry ([.ref a1, .int a2]) (n := 2) (Nat.le_of_ble_eq_true rfl)
  rw [lg_entry_eq]
  generalize (lg_sl ([.ref a1, .int a2]) ++ List.replicate (2 - (lg_sl ([.ref a1, .int a2])).length) Slot.unset).toArray = ls at hl ⊢
  have hl : lv_has ls 2 [(0, .ref a1), (1, .int a2)] := hl
  unfold w_MO_value at w
  refine lv_aload_n hx hb d_MO_value_0 rfl (lv_at hl 0 rfl) ?_
  refine lv_iload_n hx hb d_MO_value_1 rfl (lv_at hl 1 rfl) ?_
  refine hb_calli (va_runS (As := [.int a2]) (rest := [.ref a1]) ⟨hx, hb, hml, hown, hts⟩ (m_MO_isNone G a2 h0 hst w) (va_cwS 1 hts (zx_gS hT wd_680 wd_681 wd_5 wd_682) rfl rfl rfl (by decide +kernel) ⟨Nat.le_of_ble_eq_true rfl, Nat.le_of_ble_eq_true rfl⟩) (hb_preS hK hX hW) rfl rfl hl.1 rfl (lv_room (Nat.le_of_ble_eq_true rfl)) d_MO_value_2 ⟨(by show _ ≤ 0; omega), (by show _ ≤ 0; omega)⟩) hW (fun r4 h3 H locs hk hW => ?_)
  obtain ⟨w, mm5⟩ := hk
  have w := w mm5
  have hm := hm.tr mm5
  refine lv_iconst (v := 1) hx hb d_MO_value_5 (by decide) ?_
  obtain ⟨t6, w⟩ := w
  refine hb_calli (va_runV (As := [.int r4, .int (1 : Int32)]) (rest := []) ⟨hx, hb, hml, hown, hts⟩ (m_MO_fails G a1 r4 (1 : Int32) h3 hst w) (cwV 2 hts (zx_gV hT wd_683 wd_685 wd_s15 wd_5 wd_686) rfl rfl rfl (by decide +kernel) ⟨Nat.le_of_ble_eq_true rfl, Nat.le_of_ble_eq_true rfl⟩) (hb_preV hK hX hW t6 (by decide) rfl) rfl rfl hl.1 rfl (lv_room (Nat.le_of_ble_eq_true rfl)) d_MO_value_6 ⟨(by show _ ≤ 0; omega), (by show _ ≤ 0; omega)⟩) hW (fun r8 h7 H locs hk hW => ?_)
  obtain ⟨w, mm9⟩ := hk
  have w := w mm9
  have hm := hm.tr mm9
  have t10 := mm9.tg t6 (by decide)
  refine lv_if_ne (tgt := 33) hx hb d_MO_value_9 (by decide) (fun c11 => ?_) (fun c11 => ?_)
  · have w := w.1 c11
    exact tb_MO_value_33 C (by omega) (by omega)   h7 _ _ _ w hm hW (lv_sub hl [] rfl)
  · have w := w.2 c11
    refine lv_aload_n hx hb d_MO_value_12 rfl (lv_at hl 0 rfl) ?_
    refine lv_aload_n hx hb d_MO_value_13 rfl (lv_at hl 0 rfl) ?_
    refine lv_iload_n hx hb d_MO_value_14 rfl (lv_at hl 1 rfl) ?_
    refine hb_calli (va_runV (As := [.int a2]) (rest := [.ref a1]) ⟨hx, hb, hml, hown, hts⟩ (m_MO_isLong G a1 a2 h7 hst w) (cwV 1 hts (zx_gV hT wd_791 wd_793 wd_s27 wd_5 wd_794) rfl rfl rfl (by decide +kernel) ⟨Nat.le_of_ble_eq_true rfl, Nat.le_of_ble_eq_true rfl⟩) (hb_preV hK hX hW t10 (by decide) rfl) rfl rfl hl.1 rfl (lv_room (Nat.le_of_ble_eq_true rfl)) d_MO_value_15 ⟨(by show _ ≤ 0; omega), (by show _ ≤ 0; omega)⟩) hW (fun r16 h15 H locs hk hW => ?_)
    obtain ⟨w, mm17⟩ := hk
    have w := w mm17
    have hm := hm.tr mm17
    have t18 := mm17.tg t10 (by decide)
    refine lv_if_ne (tgt := 25) hx hb d_MO_value_18 (by decide) (fun c19 => ?_) (fun c19 => ?_)
    · have w := w.1 c19
      refine lv_iconst (v := 0) hx hb d_MO_value_25 (by decide) ?_
      exact tb_MO_value_26 C (by omega) (by omega)  a1 a2 (0 : Int32) a1 h15 _ _ _ w hm hW (lv_sub hl [0, 1] rfl)
    · have w := w.2 c19
      refine lv_iconst (v := 1) hx hb d_MO_value_21 (by decide) ?_
      refine lv_goto (tgt := 26) hx hb d_MO_value_22 (by decide) ?_
      exact tb_MO_value_26 C (by omega) (by omega)  a1 a2 (1 : Int32) a1 h15 _ _ _ w hm hW (lv_sub hl [0, 1] rfl)
set_option maxHeartbeats 4000000 in
set_option maxRecDepth 100000 in
theorem tl_MO_limb_43 {p : Program} {l : Launch} {e : Env} {s : State} {m : MethodId} {args : Array Value} {below : List Frame} {meth : Method} {c : Code} {G : zG} (C : cx_C p l s m args meth c G y_MO_limb b_MO_limb 5 (some .long) "BigDeskModel" (Cond.code y_MO_limb b_MO_limb 5 (some .long) :: zx_T) []) {K : Int64 → ah_H → Prop} {h0 : ah_H} {cells slots : Nat} (hcl : cells + 0 ≤ 0) (hsl : slots + 0 ≤ 0) {xt_75 : Nat → ah_H → Prop} (hc_xt_75 : ∀ (z0 : Nat) (hz : ah_H) (H : Heap) (locs : List Loc) (ls : Array Slot), xt_75 z0 hz → ah_m h0 hz → ah_W G s.heap hz H locs → lv_has ls 5 [(0, .ref z0)] → W p l e rm_MO_limb s m args below meth c H locs cells slots (MQ below (va_Ql (fun r9 h9 => K r9 h9 ∧ ah_m h0 h9) (ah_B G) (fun q => G.2.2 ≤ q)) args s 0 0 (fun q => G.2.2 ≤ q)) (F0 m 75 ls [])) : ∀ (n : Nat) (x30 : Nat) (x31 : Int32) (x32 : Int32) (h33 : ah_H) (H : Heap) (locs : List Loc) (ls : Array Slot), lp_MO_limb_43 xt_75 K n x30 x31 x32 h33 → ah_m h0 h33 → ah_W G s.heap h33 H locs → lv_has ls 5 [(0, .ref x30), (2, .int x31), (3, .int x32)] → W p l e rm_MO_limb s m args below meth c H locs cells slots (MQ below (va_Ql (fun r9 h9 => K r9 h9 ∧ ah_m h0 h9) (ah_B G) (fun q => G.2.2 ≤ q)) args s 0 0 (fun q => G.2.2 ≤ q)) (F0 m 43 ls []) := by
  obtain ⟨hx, hb, hr, hml, hown, hts, hT, hlk, hK, hX, htb, hin, hst⟩ := id C
  have hw : ∀ {w9 : Cond}, w9 ∈ zx_T → w9.before _ s = true := fun h9 => hts _ (hT _ h9)
  intro n
  induction n with
  | zero =>
    intro x30 x31 x32 h33 H locs ls w
    exact absurd w (by intro z9; exact z9)
  | succ n ih =>
    intro x30 x31 x32 h33 H locs ls w hm hW hl
    unfold lp_MO_limb_43 at w
    refine lv_iload_n hx hb d_MO_limb_43 rfl (lv_at hl 2 rfl) ?_
    refine lv_iconst (v := 2) hx hb d_MO_limb_44 (by decide) ?_
    refine lv_iload_n hx hb d_MO_limb_45 rfl (lv_at hl 1 rfl) ?_
    refine lv_imul hx hb d_MO_limb_46 ?_
    refine lv_icmp_ge (tgt := 75) hx hb d_MO_limb_47 (by decide) (fun c34 => ?_) (fun c34 => ?_)
    · have w := w.1 c34
      exact hc_xt_75 x30 h33 _ _ _ w hm hW (lv_sub hl [0] rfl)
    · have w := w.2 c34
      refine lv_aload_n hx hb d_MO_limb_50 rfl (lv_at hl 0 rfl) ?_
      obtain ⟨t35, w⟩ := w
      obtain ⟨q36, e37, w⟩ := w
      refine hb_get (ci := 4) (C := "BigDeskModel") (T := T_MO) (N := 8) hx hb hts (fun w9 h9 => hT w9 (u_MO w9 h9)) hown hK hW t35 rfl (by decide) 2 (by decide) (hw wd_648) (fun _ h9 => h9) (q := (2, 14)) rfl (v := .ref q36) (ah_f_R e37) d_MO_limb_51 ?_
      refine lv_bipush (v := 13) hx hb d_MO_limb_54 (by decide) ?_
      obtain ⟨t38, w⟩ := w
      obtain ⟨i39, w⟩ := w
      refine hb_iald hx hb hK hW t38 (by decide) (by decide) 0 rfl i39 d_MO_limb_56 ?_
      refine lv_if_le (tgt := 75) hx hb d_MO_limb_57 (by decide) (fun c40 => ?_) (fun c40 => ?_)
      · have w := w.1 c40
        exact hc_xt_75 x30 h33 _ _ _ w hm hW (lv_sub hl [0] rfl)
      · have w := w.2 c40
        refine lv_aload_n hx hb d_MO_limb_60 rfl (lv_at hl 0 rfl) ?_
        refine lv_bipush (v := 13) hx hb d_MO_limb_61 (by decide) ?_
        refine lv_ldc (v := 65536) hx hb hown (hw wd_805) d_MO_limb_63 ?_
        refine hb_calli (va_runV (As := [.int (13 : Int32), .int (65536 : Int32)]) (rest := []) ⟨hx, hb, hml, hown, hts⟩ (m_MO_parts G x30 (13 : Int32) (65536 : Int32) h33 hst w) (cwV 2 hts (zx_gV hT wd_747 wd_749 wd_s23 wd_5 wd_750) rfl rfl rfl (by decide +kernel) ⟨Nat.le_of_ble_eq_true rfl, Nat.le_of_ble_eq_true rfl⟩) (hb_preV hK hX hW t35 (by decide) rfl) rfl rfl hl.1 rfl (lv_room (Nat.le_of_ble_eq_true rfl)) d_MO_limb_65 ⟨(by show _ ≤ 0; omega), (by show _ ≤ 0; omega)⟩) hW (fun r42 h41 H locs hk hW => ?_)
        obtain ⟨w, mm43⟩ := hk
        have w := w mm43
        have hm := hm.tr mm43
        have t44 := mm43.tg t35 (by decide)
        have t45 := mm43.tg t38 (by decide)
        refine lv_pop hx hb d_MO_limb_68 rfl ?_
        obtain ⟨v46, ev46⟩ : ∃ y9 : Int32, y9 = x32 + 1 := ⟨_, rfl⟩
        have w := w v46 ev46
        refine lv_iinc (v := v46) (lv' := [(3, .int v46), (0, .ref x30), (2, .int x31)]) hx hb d_MO_limb_69 hl (k := 2) rfl (by rw [ev46]; rfl) (by decide) rfl (fun ls hl => ?_)
        refine lv_goto (tgt := 43) hx hb d_MO_limb_72 (by decide) ?_
        exact ih x30 x31 v46 h41 _ _ _ w hm hW (lv_sub hl [1, 2, 0] rfl)
set_option maxHeartbeats 4000000 in
set_option maxRecDepth 100000 in
theorem tb_MO_limb_75 {p : Program} {l : Launch} {e : Env} {s : State} {m : MethodId} {args : Array Value} {below : List Frame} {meth : Method} {c : Code} {G : zG} (C : cx_C p l s m args meth c G y_MO_limb b_MO_limb 5 (some .long) "BigDeskModel" (Cond.code y_MO_limb b_MO_limb 5 (some .long) :: zx_T) []) {K : Int64 → ah_H → Prop} {h0 : ah_H} {cells slots : Nat} (hcl : cells + 0 ≤ 0) (hsl : slots + 0 ≤ 0)  (x49 : Nat) (h50 : ah_H) (H : Heap) (locs : List Loc) (ls : Array Slot) (w : bk_MO_limb_75 K x49 h50) (hm : ah_m h0 h50) (hW : ah_W G s.heap h50 H locs) (hl : lv_has ls 5 [(0, .ref x49)]) : W p l e rm_MO_limb s m args below meth c H locs cells slots (MQ below (va_Ql (fun r9 h9 => K r9 h9 ∧ ah_m h0 h9) (ah_B G) (fun q => G.2.2 ≤ q)) args s 0 0 (fun q => G.2.2 ≤ q)) (F0 m 75 ls []) := by
  unfold bk_MO_limb_75 at w
  obtain ⟨hx, hb, hr, hml, hown, hts, hT, hlk, hK, hX, htb, hin, hst⟩ := id C
  have hw : ∀ {w9 : Cond}, w9 ∈ zx_T → w9.before _ s = true := fun h9 => hts _ (hT _ h9)
  refine lv_aload_n hx hb d_MO_limb_75 rfl (lv_at hl 0 rfl) ?_
  refine lv_bipush (v := 13) hx hb d_MO_limb_76 (by decide) ?_
  refine lv_ldc (v := 65536) hx hb hown (hw wd_805) d_MO_limb_78 ?_
  obtain ⟨t51, w⟩ := w
  refine hb_calli (va_runV (As := [.int (13 : Int32), .int (65536 : Int32)]) (rest := []) ⟨hx, hb, hml, hown, hts⟩ (m_MO_parts G x49 (13 : Int32) (65536 : Int32) h50 hst w) (cwV 2 hts (zx_gV hT wd_747 wd_749 wd_s23 wd_5 wd_750) rfl rfl rfl (by decide +kernel) ⟨Nat.le_of_ble_eq_true rfl, Nat.le_of_ble_eq_true rfl⟩) (hb_preV hK hX hW t51 (by decide) rfl) rfl rfl hl.1 rfl (lv_room (Nat.le_of_ble_eq_true rfl)) d_MO_limb_80 ⟨(by show _ ≤ 0; omega), (by show _ ≤ 0; omega)⟩) hW (fun r53 h52 H locs hk hW => ?_)
  obtain ⟨w, mm54⟩ := hk
  have w := w mm54
  have hm := hm.tr mm54
  have t55 := mm54.tg t51 (by decide)
  refine lv_i2l hx hb d_MO_limb_83 rfl ?_
  refine lv_topl (fun v56 ev56 => ?_)
  have w := w v56 ev56
  refine lv_lstore_n (lv' := [(3, .long v56), (0, .ref x49)]) hx hb d_MO_limb_84 rfl hl (by decide) rfl (fun ls hl => ?_)
  refine lv_lload_n hx hb d_MO_limb_85 rfl (lv_at hl 0 rfl) ?_
  refine lv_ldc2 (v := 65536) hx hb hown (hw wd_806) d_MO_limb_86 ?_
  refine lv_aload_n hx hb d_MO_limb_89 rfl (lv_at hl 1 rfl) ?_
  refine lv_bipush (v := 13) hx hb d_MO_limb_90 (by decide) ?_
  refine lv_ldc (v := 65536) hx hb hown (hw wd_805) d_MO_limb_92 ?_
  refine hb_calli (va_runV (As := [.int (13 : Int32), .int (65536 : Int32)]) (rest := [.long (65536 : Int64), .long v56]) ⟨hx, hb, hml, hown, hts⟩ (m_MO_parts G x49 (13 : Int32) (65536 : Int32) h52 hst w) (cwV 2 hts (zx_gV hT wd_747 wd_749 wd_s23 wd_5 wd_750) rfl rfl rfl (by decide +kernel) ⟨Nat.le_of_ble_eq_true rfl, Nat.le_of_ble_eq_true rfl⟩) (hb_preV hK hX hW t55 (by decide) rfl) rfl rfl hl.1 rfl (lv_room (Nat.le_of_ble_eq_true rfl)) d_MO_limb_94 ⟨(by show _ ≤ 0; omega), (by show _ ≤ 0; omega)⟩) hW (fun r58 h57 H locs hk hW => ?_)
  obtain ⟨w, mm59⟩ := hk
  have w := w mm59
  have hm := hm.tr mm59
  have t60 := mm59.tg t55 (by decide)
  refine lv_i2l hx hb d_MO_limb_97 rfl ?_
  refine lv_lmul hx hb d_MO_limb_98 ?_
  refine lv_ladd hx hb d_MO_limb_99 ?_
  exact hb_lret (K := fun r9 h9 => K r9 h9 ∧ ah_m h0 h9) hx hb hr hlk hK hX hW ⟨w, hm⟩ (by omega) (by omega) d_MO_limb_100
set_option maxHeartbeats 4000000 in
set_option maxRecDepth 100000 in
theorem tb_MO_limb_25 {p : Program} {l : Launch} {e : Env} {s : State} {m : MethodId} {args : Array Value} {below : List Frame} {meth : Method} {c : Code} {G : zG} (C : cx_C p l s m args meth c G y_MO_limb b_MO_limb 5 (some .long) "BigDeskModel" (Cond.code y_MO_limb b_MO_limb 5 (some .long) :: zx_T) []) {K : Int64 → ah_H → Prop} {h0 : ah_H} {cells slots : Nat} (hcl : cells + 0 ≤ 0) (hsl : slots + 0 ≤ 0)  (x13 : Nat) (x14 : Int32) (x15 : Int32) (s16 : Int32) (s17 : Nat) (h18 : ah_H) (H : Heap) (locs : List Loc) (ls : Array Slot) (w : bk_MO_limb_25 K x13 x14 x15 s16 s17 h18) (hm : ah_m h0 h18) (hW : ah_W G s.heap h18 H locs) (hl : lv_has ls 5 [(0, .ref x13), (1, .int x14), (2, .int x15)]) : W p l e rm_MO_limb s m args below meth c H locs cells slots (MQ below (va_Ql (fun r9 h9 => K r9 h9 ∧ ah_m h0 h9) (ah_B G) (fun q => G.2.2 ≤ q)) args s 0 0 (fun q => G.2.2 ≤ q)) (F0 m 25 ls [.int s16, .ref s17]) := by
  unfold bk_MO_limb_25 at w
  obtain ⟨hx, hb, hr, hml, hown, hts, hT, hlk, hK, hX, htb, hin, hst⟩ := id C
  have hw : ∀ {w9 : Cond}, w9 ∈ zx_T → w9.before _ s = true := fun h9 => hts _ (hT _ h9)
  refine lv_iconst (v := 1) hx hb d_MO_limb_25 (by decide) ?_
  obtain ⟨t19, w⟩ := w
  refine hb_calli (va_runV (As := [.int s16, .int (1 : Int32)]) (rest := []) ⟨hx, hb, hml, hown, hts⟩ (m_MO_fails G s17 s16 (1 : Int32) h18 hst w) (cwV 2 hts (zx_gV hT wd_683 wd_685 wd_s15 wd_5 wd_686) rfl rfl rfl (by decide +kernel) ⟨Nat.le_of_ble_eq_true rfl, Nat.le_of_ble_eq_true rfl⟩) (hb_preV hK hX hW t19 (by decide) rfl) rfl rfl hl.1 rfl (lv_room (Nat.le_of_ble_eq_true rfl)) d_MO_limb_26 ⟨(by show _ ≤ 0; omega), (by show _ ≤ 0; omega)⟩) hW (fun r21 h20 H locs hk hW => ?_)
  obtain ⟨w, mm22⟩ := hk
  have w := w mm22
  have hm := hm.tr mm22
  have t23 := mm22.tg t19 (by decide)
  refine lv_if_eq (tgt := 34) hx hb d_MO_limb_29 (by decide) (fun c24 => ?_) (fun c24 => ?_)
  · have w := w.1 c24
    refine lv_aload_n hx hb d_MO_limb_34 rfl (lv_at hl 0 rfl) ?_
    refine lv_bipush (v := 13) hx hb d_MO_limb_35 (by decide) ?_
    refine lv_iload_n hx hb d_MO_limb_37 rfl (lv_at hl 1 rfl) ?_
    obtain ⟨t25, w⟩ := w
    refine hb_callv (va_runV (As := [.int (13 : Int32), .int x14]) (rest := []) ⟨hx, hb, hml, hown, hts⟩ (m_MO_copyRow G x13 (13 : Int32) x14 h20 hst w) (cwV 2 hts (zx_gV hT wd_691 wd_693 wd_s16 wd_5 wd_694) rfl rfl rfl (by decide +kernel) ⟨Nat.le_of_ble_eq_true rfl, Nat.le_of_ble_eq_true rfl⟩) (hb_preV hK hX hW t25 (by decide) rfl) rfl rfl hl.1 rfl (lv_room (Nat.le_of_ble_eq_true rfl)) d_MO_limb_38 ⟨(by show _ ≤ 0; omega), (by show _ ≤ 0; omega)⟩) hW (fun h26 H locs hk hW => ?_)
    obtain ⟨w, mm27⟩ := hk
    have w := w mm27
    have hm := hm.tr mm27
    have t28 := mm27.tg t23 (by decide)
    have t29 := mm27.tg t25 (by decide)
    refine lv_iconst (v := 0) hx hb d_MO_limb_41 (by decide) ?_
    refine lv_istore_n (lv' := [(3, .int (0 : Int32)), (0, .ref x13), (1, .int x14), (2, .int x15)]) hx hb d_MO_limb_42 rfl hl (by decide) rfl (fun ls hl => ?_)
    obtain ⟨k61, w⟩ := w
    refine tl_MO_limb_43 C (by omega) (by omega) (fun x47 h48 H locs ls w hm hW hl => ?_) k61 x13 x15 (0 : Int32) h26 _ _ _ w hm hW (lv_sub hl [1, 3, 0] rfl)
    · exact tb_MO_limb_75 C (by omega) (by omega)  x47 h48 _ _ _ w hm hW (lv_sub hl [0] rfl)
  · have w := w.2 c24
    refine lv_lconst (v := 0) hx hb d_MO_limb_32 (by decide) ?_
    exact hb_lret (K := fun r9 h9 => K r9 h9 ∧ ah_m h0 h9) hx hb hr hlk hK hX hW ⟨w, hm⟩ (by omega) (by omega) d_MO_limb_33
set_option maxHeartbeats 4000000 in
set_option maxRecDepth 100000 in
theorem tb_MO_limb_20 {p : Program} {l : Launch} {e : Env} {s : State} {m : MethodId} {args : Array Value} {below : List Frame} {meth : Method} {c : Code} {G : zG} (C : cx_C p l s m args meth c G y_MO_limb b_MO_limb 5 (some .long) "BigDeskModel" (Cond.code y_MO_limb b_MO_limb 5 (some .long) :: zx_T) []) {K : Int64 → ah_H → Prop} {h0 : ah_H} {cells slots : Nat} (hcl : cells + 0 ≤ 0) (hsl : slots + 0 ≤ 0)  (x8 : Nat) (x9 : Int32) (x10 : Int32) (s11 : Nat) (h12 : ah_H) (H : Heap) (locs : List Loc) (ls : Array Slot) (w : bk_MO_limb_20 K x8 x9 x10 s11 h12) (hm : ah_m h0 h12) (hW : ah_W G s.heap h12 H locs) (hl : lv_has ls 5 [(0, .ref x8), (1, .int x9), (2, .int x10)]) : W p l e rm_MO_limb s m args below meth c H locs cells slots (MQ below (va_Ql (fun r9 h9 => K r9 h9 ∧ ah_m h0 h9) (ah_B G) (fun q => G.2.2 ≤ q)) args s 0 0 (fun q => G.2.2 ≤ q)) (F0 m 20 ls [.ref s11]) := by
  unfold bk_MO_limb_20 at w
  obtain ⟨hx, hb, hr, hml, hown, hts, hT, hlk, hK, hX, htb, hin, hst⟩ := id C
  have hw : ∀ {w9 : Cond}, w9 ∈ zx_T → w9.before _ s = true := fun h9 => hts _ (hT _ h9)
  refine lv_iconst (v := 1) hx hb d_MO_limb_20 (by decide) ?_
  refine lv_goto (tgt := 25) hx hb d_MO_limb_21 (by decide) ?_
  exact tb_MO_limb_25 C (by omega) (by omega)  x8 x9 x10 (1 : Int32) s11 h12 _ _ _ w hm hW (lv_sub hl [0, 1, 2] rfl)
set_option maxHeartbeats 4000000 in
set_option maxRecDepth 100000 in
theorem m_MO_limb {l : Launch} (G : zG) (a1 : Nat) (a2 : Int32) (a3 : Int32) (h0 : ah_H) {K : Int64 → ah_H → Prop} (hst : l.stackTraces = false) (w : w_MO_limb a1 a2 a3 h0 K) : Met l y_MO_limb (Cond.code y_MO_limb b_MO_limb 5 (some .long) :: zx_T) rm_MO_limb (va_Pc [.ref a1, .int a2, .int a3] (ah_B G h0)) (va_Ql (fun r9 h9 => K r9 h9 ∧ ah_m h0 h9) (ah_B G) (fun q => G.2.2 ≤ q)) 0 0 (fun q => G.2.2 ≤ q) := by
  refine Met.ofW (cc := b_MO_limb) (maxL := 5) (ret := (some .long)) (by decide) rfl ?_
  intro p e s m args below meth c s₁ B hml hv
  have htb := cx_out B (atoms_spec B.pre _ List.mem_cons_self)
  obtain ⟨rfl, hB⟩ := hv
  have C : cx_C p l s m _ meth c G y_MO_limb b_MO_limb 5 (some .long) "BigDeskModel" (Cond.code y_MO_limb b_MO_limb 5 (some .long) :: zx_T) [] := ⟨B.exec, B.bytes, B.returns, hml, findClass_of_methodNamed B.named, atoms_spec B.pre, cx_hd, B.notSynchronized, hB.2.2.1, hB.2.2.2, htb, fun z9 => (name_of_methodNamed B.named B.method).1.trans z9, hst⟩
  obtain ⟨hx, hb, hr, hml, hown, hts, hT, hlk, hK, hX, htb, hin, hst⟩ := id C
  have hw : ∀ {w9 : Cond}, w9 ∈ zx_T → w9.before _ s = true := fun h9 => hts _ (hT _ h9)
  have hW : ah_W G s.heap h0 s.heap [] := ⟨hB.1, hB.2.1, va_S.rf⟩
  have hm : ah_m h0 h0 := ah_m.rf
  have hcl : 0 + 0 ≤ 0 := by decide
  have hsl : 0 + 0 ≤ 0 := by decide
  have hl := lv_entry ([.ref a1, .int a2, .int a3]) (n := 5) (Nat.le_of_ble_eq_true rfl)
  rw [lg_entry_eq]
  generalize (lg_sl ([.ref a1, .int a2, .int a3]) ++ List.replicate (5 - (lg_sl ([.ref a1, .int a2, .int a3])).length) Slot.unset).toArray = ls at hl ⊢
  have hl : lv_has ls 5 [(0, .ref a1), (1, .int a2), (2, .int a3)] := hl
  unfold w_MO_limb at w
  refine lv_aload_n hx hb d_MO_limb_0 rfl (lv_at hl 0 rfl) ?_
  refine lv_iload_n hx hb d_MO_limb_1 rfl (lv_at hl 1 rfl) ?_
  refine hb_calli (va_runS (As := [.int a2]) (rest := [.ref a1]) ⟨hx, hb, hml, hown, hts⟩ (m_MO_isNone G a2 h0 hst w) (va_cwS 1 hts (zx_gS hT wd_680 wd_681 wd_5 wd_682) rfl rfl rfl (by decide +kernel) ⟨Nat.le_of_ble_eq_true rfl, Nat.le_of_ble_eq_true rfl⟩) (hb_preS hK hX hW) rfl rfl hl.1 rfl (lv_room (Nat.le_of_ble_eq_true rfl)) d_MO_limb_2 ⟨(by show _ ≤ 0; omega), (by show _ ≤ 0; omega)⟩) hW (fun r5 h4 H locs hk hW => ?_)
  obtain ⟨w, mm6⟩ := hk
  have w := w mm6
  have hm := hm.tr mm6
  refine lv_if_ne (tgt := 20) hx hb d_MO_limb_5 (by decide) (fun c7 => ?_) (fun c7 => ?_)
  · have w := w.1 c7
    exact tb_MO_limb_20 C (by omega) (by omega)  a1 a2 a3 a1 h4 _ _ _ w hm hW (lv_sub hl [0, 1, 2] rfl)
  · have w := w.2 c7
    refine lv_iload_n hx hb d_MO_limb_8 rfl (lv_at hl 2 rfl) ?_
    refine lv_i2l hx hb d_MO_limb_9 rfl ?_
    refine lv_lconst (v := 0) hx hb d_MO_limb_10 (by decide) ?_
    refine lv_ldc2 (v := 255) hx hb hown (hw wd_804) d_MO_limb_11 ?_
    refine hb_calli (va_runS (As := [.long a3.toInt64, .long (0 : Int64), .long (255 : Int64)]) (rest := [.ref a1]) ⟨hx, hb, hml, hown, hts⟩ (m_MO_in G a3.toInt64 (0 : Int64) (255 : Int64) h4 hst w) (va_cwS 3 hts (zx_gS hT wd_740 wd_741 wd_5 wd_742) rfl rfl rfl (by decide +kernel) ⟨Nat.le_of_ble_eq_true rfl, Nat.le_of_ble_eq_true rfl⟩) (hb_preS hK hX hW) rfl rfl hl.1 rfl (lv_room (Nat.le_of_ble_eq_true rfl)) d_MO_limb_14 ⟨(by show _ ≤ 0; omega), (by show _ ≤ 0; omega)⟩) hW (fun r63 h62 H locs hk hW => ?_)
    obtain ⟨w, mm64⟩ := hk
    have w := w mm64
    have hm := hm.tr mm64
    refine lv_if_ne (tgt := 24) hx hb d_MO_limb_17 (by decide) (fun c65 => ?_) (fun c65 => ?_)
    · have w := w.1 c65
      refine lv_iconst (v := 0) hx hb d_MO_limb_24 (by decide) ?_
      exact tb_MO_limb_25 C (by omega) (by omega)  a1 a2 a3 (0 : Int32) a1 h62 _ _ _ w hm hW (lv_sub hl [0, 1, 2] rfl)
    · have w := w.2 c65
      exact tb_MO_limb_20 C (by omega) (by omega)  a1 a2 a3 a1 h62 _ _ _ w hm hW (lv_sub hl [0, 1, 2] rfl)
set_option maxHeartbeats 4000000 in
set_option maxRecDepth 100000 in
theorem tl_MO_look_107 {p : Program} {l : Launch} {e : Env} {s : State} {m : MethodId} {args : Array Value} {below : List Frame} {meth : Method} {c : Code} {G : zG} (C : cx_C p l s m args meth c G y_MO_look b_MO_look 4 (some .int) "BigDeskModel" (Cond.code y_MO_look b_MO_look 4 (some .int) :: zx_T) []) {K : Int32 → ah_H → Prop} {h0 : ah_H} {cells slots : Nat} (hcl : cells + 0 ≤ 0) (hsl : slots + 0 ≤ 0) {xt_133 : Int32 → ah_H → Prop} (hc_xt_133 : ∀ (z0 : Int32) (hz : ah_H) (H : Heap) (locs : List Loc) (ls : Array Slot), xt_133 z0 hz → ah_m h0 hz → ah_W G s.heap hz H locs → lv_has ls 4 [(3, .int z0)] → W p l e rm_MO_look s m args below meth c H locs cells slots (MQ below (va_Qi (fun r9 h9 => K r9 h9 ∧ ah_m h0 h9) (ah_B G) (fun q => G.2.2 ≤ q)) args s 0 0 (fun q => G.2.2 ≤ q)) (F0 m 133 ls [])) : ∀ (n : Nat) (x37 : Nat) (x38 : Int32) (h39 : ah_H) (H : Heap) (locs : List Loc) (ls : Array Slot), lp_MO_look_107 xt_133 K n x37 x38 h39 → ah_m h0 h39 → ah_W G s.heap h39 H locs → lv_has ls 4 [(0, .ref x37), (3, .int x38)] → W p l e rm_MO_look s m args below meth c H locs cells slots (MQ below (va_Qi (fun r9 h9 => K r9 h9 ∧ ah_m h0 h9) (ah_B G) (fun q => G.2.2 ≤ q)) args s 0 0 (fun q => G.2.2 ≤ q)) (F0 m 107 ls []) := by
  obtain ⟨hx, hb, hr, hml, hown, hts, hT, hlk, hK, hX, htb, hin, hst⟩ := id C
  have hw : ∀ {w9 : Cond}, w9 ∈ zx_T → w9.before _ s = true := fun h9 => hts _ (hT _ h9)
  intro n
  induction n with
  | zero =>
    intro x37 x38 h39 H locs ls w
    exact absurd w (by intro z9; exact z9)
  | succ n ih =>
    intro x37 x38 h39 H locs ls w hm hW hl
    unfold lp_MO_look_107 at w
    refine lv_aload_n hx hb d_MO_look_107 rfl (lv_at hl 0 rfl) ?_
    refine lv_bipush (v := 13) hx hb d_MO_look_108 (by decide) ?_
    refine lv_iconst (v := 0) hx hb d_MO_look_110 (by decide) ?_
    obtain ⟨t40, w⟩ := w
    refine hb_calli (va_runV (As := [.int (13 : Int32), .int (0 : Int32)]) (rest := []) ⟨hx, hb, hml, hown, hts⟩ (m_MO_at G x37 (13 : Int32) (0 : Int32) h39 hst w) (cwV 2 hts (zx_gV hT wd_642 wd_644 wd_s14 wd_5 wd_645) rfl rfl rfl (by decide +kernel) ⟨Nat.le_of_ble_eq_true rfl, Nat.le_of_ble_eq_true rfl⟩) (hb_preV hK hX hW t40 (by decide) rfl) rfl rfl hl.1 rfl (lv_room (Nat.le_of_ble_eq_true rfl)) d_MO_look_111 ⟨(by show _ ≤ 0; omega), (by show _ ≤ 0; omega)⟩) hW (fun r42 h41 H locs hk hW => ?_)
    obtain ⟨w, mm43⟩ := hk
    have w := w mm43
    have hm := hm.tr mm43
    have t44 := mm43.tg t40 (by decide)
    refine lv_iconst (v := 2) hx hb d_MO_look_114 (by decide) ?_
    refine lv_irem hx hb d_MO_look_115 (by decide) ?_
    refine lv_if_ne (tgt := 133) hx hb d_MO_look_116 (by decide) (fun c45 => ?_) (fun c45 => ?_)
    · have w := w.1 c45
      exact hc_xt_133 x38 h41 _ _ _ w hm hW (lv_sub hl [1] rfl)
    · have w := w.2 c45
      refine lv_aload_n hx hb d_MO_look_119 rfl (lv_at hl 0 rfl) ?_
      refine lv_bipush (v := 13) hx hb d_MO_look_120 (by decide) ?_
      refine lv_iconst (v := 2) hx hb d_MO_look_122 (by decide) ?_
      refine hb_calli (va_runV (As := [.int (13 : Int32), .int (2 : Int32)]) (rest := []) ⟨hx, hb, hml, hown, hts⟩ (m_MO_parts G x37 (13 : Int32) (2 : Int32) h41 hst w) (cwV 2 hts (zx_gV hT wd_747 wd_749 wd_s23 wd_5 wd_750) rfl rfl rfl (by decide +kernel) ⟨Nat.le_of_ble_eq_true rfl, Nat.le_of_ble_eq_true rfl⟩) (hb_preV hK hX hW t44 (by decide) rfl) rfl rfl hl.1 rfl (lv_room (Nat.le_of_ble_eq_true rfl)) d_MO_look_123 ⟨(by show _ ≤ 0; omega), (by show _ ≤ 0; omega)⟩) hW (fun r47 h46 H locs hk hW => ?_)
      obtain ⟨w, mm48⟩ := hk
      have w := w mm48
      have hm := hm.tr mm48
      have t49 := mm48.tg t44 (by decide)
      refine lv_pop hx hb d_MO_look_126 rfl ?_
      obtain ⟨v50, ev50⟩ : ∃ y9 : Int32, y9 = x38 + 1 := ⟨_, rfl⟩
      have w := w v50 ev50
      refine lv_iinc (v := v50) (lv' := [(3, .int v50), (0, .ref x37)]) hx hb d_MO_look_127 hl (k := 1) rfl (by rw [ev50]; rfl) (by decide) rfl (fun ls hl => ?_)
      refine lv_goto (tgt := 107) hx hb d_MO_look_130 (by decide) ?_
      exact ih x37 v50 h46 _ _ _ w hm hW (lv_sub hl [1, 0] rfl)
set_option maxHeartbeats 4000000 in
set_option maxRecDepth 100000 in
theorem tb_MO_look_86 {p : Program} {l : Launch} {e : Env} {s : State} {m : MethodId} {args : Array Value} {below : List Frame} {meth : Method} {c : Code} {G : zG} (C : cx_C p l s m args meth c G y_MO_look b_MO_look 4 (some .int) "BigDeskModel" (Cond.code y_MO_look b_MO_look 4 (some .int) :: zx_T) []) {K : Int32 → ah_H → Prop} {h0 : ah_H} {cells slots : Nat} (hcl : cells + 0 ≤ 0) (hsl : slots + 0 ≤ 0)  (s72 : Int32) (h73 : ah_H) (H : Heap) (locs : List Loc) (ls : Array Slot) (w : bk_MO_look_86 K s72 h73) (hm : ah_m h0 h73) (hW : ah_W G s.heap h73 H locs) (hl : lv_has ls 4 []) : W p l e rm_MO_look s m args below meth c H locs cells slots (MQ below (va_Qi (fun r9 h9 => K r9 h9 ∧ ah_m h0 h9) (ah_B G) (fun q => G.2.2 ≤ q)) args s 0 0 (fun q => G.2.2 ≤ q)) (F0 m 86 ls [.int s72]) := by
  unfold bk_MO_look_86 at w
  obtain ⟨hx, hb, hr, hml, hown, hts, hT, hlk, hK, hX, htb, hin, hst⟩ := id C
  have hw : ∀ {w9 : Cond}, w9 ∈ zx_T → w9.before _ s = true := fun h9 => hts _ (hT _ h9)
  exact hb_iret (K := fun r9 h9 => K r9 h9 ∧ ah_m h0 h9) hx hb hr hlk hK hX hW ⟨w, hm⟩ (by omega) (by omega) d_MO_look_86
set_option maxHeartbeats 4000000 in
set_option maxRecDepth 100000 in
theorem tb_MO_look_25 {p : Program} {l : Launch} {e : Env} {s : State} {m : MethodId} {args : Array Value} {below : List Frame} {meth : Method} {c : Code} {G : zG} (C : cx_C p l s m args meth c G y_MO_look b_MO_look 4 (some .int) "BigDeskModel" (Cond.code y_MO_look b_MO_look 4 (some .int) :: zx_T) []) {K : Int32 → ah_H → Prop} {h0 : ah_H} {cells slots : Nat} (hcl : cells + 0 ≤ 0) (hsl : slots + 0 ≤ 0)  (x13 : Nat) (x14 : Int32) (x15 : Int32) (s16 : Int32) (s17 : Nat) (h18 : ah_H) (H : Heap) (locs : List Loc) (ls : Array Slot) (w : bk_MO_look_25 K x13 x14 x15 s16 s17 h18) (hm : ah_m h0 h18) (hW : ah_W G s.heap h18 H locs) (hl : lv_has ls 4 [(0, .ref x13), (1, .int x14), (2, .int x15)]) : W p l e rm_MO_look s m args below meth c H locs cells slots (MQ below (va_Qi (fun r9 h9 => K r9 h9 ∧ ah_m h0 h9) (ah_B G) (fun q => G.2.2 ≤ q)) args s 0 0 (fun q => G.2.2 ≤ q)) (F0 m 25 ls [.int s16, .ref s17]) := by
  unfold bk_MO_look_25 at w
  obtain ⟨hx, hb, hr, hml, hown, hts, hT, hlk, hK, hX, htb, hin, hst⟩ := id C
  have hw : ∀ {w9 : Cond}, w9 ∈ zx_T → w9.before _ s = true := fun h9 => hts _ (hT _ h9)
  refine lv_iconst (v := 1) hx hb d_MO_look_25 (by decide) ?_
  obtain ⟨t19, w⟩ := w
  refine hb_calli (va_runV (As := [.int s16, .int (1 : Int32)]) (rest := []) ⟨hx, hb, hml, hown, hts⟩ (m_MO_fails G s17 s16 (1 : Int32) h18 hst w) (cwV 2 hts (zx_gV hT wd_683 wd_685 wd_s15 wd_5 wd_686) rfl rfl rfl (by decide +kernel) ⟨Nat.le_of_ble_eq_true rfl, Nat.le_of_ble_eq_true rfl⟩) (hb_preV hK hX hW t19 (by decide) rfl) rfl rfl hl.1 rfl (lv_room (Nat.le_of_ble_eq_true rfl)) d_MO_look_26 ⟨(by show _ ≤ 0; omega), (by show _ ≤ 0; omega)⟩) hW (fun r21 h20 H locs hk hW => ?_)
  obtain ⟨w, mm22⟩ := hk
  have w := w mm22
  have hm := hm.tr mm22
  have t23 := mm22.tg t19 (by decide)
  refine lv_if_eq (tgt := 34) hx hb d_MO_look_29 (by decide) (fun c24 => ?_) (fun c24 => ?_)
  · have w := w.1 c24
    refine lv_iload_n hx hb d_MO_look_34 rfl (lv_at hl 2 rfl) ?_
    by_cases c25 : x15.toInt < 0 ∨ 2 < x15.toInt
    · have w := w.1 c25
      refine lv_tableOut (tgt := 87) hx hb d_MO_look_35 c25 (by decide) ?_
      refine lv_aload_n hx hb d_MO_look_87 rfl (lv_at hl 0 rfl) ?_
      obtain ⟨t26, w⟩ := w
      obtain ⟨q27, e28, w⟩ := w
      refine hb_get (ci := 4) (C := "BigDeskModel") (T := T_MO) (N := 8) hx hb hts (fun w9 h9 => hT w9 (u_MO w9 h9)) hown hK hW t26 rfl (by decide) 2 (by decide) (hw wd_648) (fun _ h9 => h9) (q := (2, 14)) rfl (v := .ref q27) (ah_f_R e28) d_MO_look_88 ?_
      refine lv_iload_n hx hb d_MO_look_91 rfl (lv_at hl 1 rfl) ?_
      obtain ⟨t29, w⟩ := w
      obtain ⟨i30, w⟩ := w
      refine hb_iald hx hb hK hW t29 (by decide) (by decide) 0 rfl i30 d_MO_look_92 ?_
      refine lv_if_ne (tgt := 98) hx hb d_MO_look_93 (by decide) (fun c31 => ?_) (fun c31 => ?_)
      · have w := w.1 c31
        refine lv_aload_n hx hb d_MO_look_98 rfl (lv_at hl 0 rfl) ?_
        refine lv_bipush (v := 13) hx hb d_MO_look_99 (by decide) ?_
        refine lv_iload_n hx hb d_MO_look_101 rfl (lv_at hl 1 rfl) ?_
        refine hb_callv (va_runV (As := [.int (13 : Int32), .int x14]) (rest := []) ⟨hx, hb, hml, hown, hts⟩ (m_MO_copyRow G x13 (13 : Int32) x14 h20 hst w) (cwV 2 hts (zx_gV hT wd_691 wd_693 wd_s16 wd_5 wd_694) rfl rfl rfl (by decide +kernel) ⟨Nat.le_of_ble_eq_true rfl, Nat.le_of_ble_eq_true rfl⟩) (hb_preV hK hX hW t26 (by decide) rfl) rfl rfl hl.1 rfl (lv_room (Nat.le_of_ble_eq_true rfl)) d_MO_look_102 ⟨(by show _ ≤ 0; omega), (by show _ ≤ 0; omega)⟩) hW (fun h32 H locs hk hW => ?_)
        obtain ⟨w, mm33⟩ := hk
        have w := w mm33
        have hm := hm.tr mm33
        have t34 := mm33.tg t23 (by decide)
        have t35 := mm33.tg t26 (by decide)
        have t36 := mm33.tg t29 (by decide)
        refine lv_iconst (v := 0) hx hb d_MO_look_105 (by decide) ?_
        refine lv_istore_n (lv' := [(3, .int (0 : Int32)), (0, .ref x13), (1, .int x14), (2, .int x15)]) hx hb d_MO_look_106 rfl hl (by decide) rfl (fun ls hl => ?_)
        obtain ⟨k53, w⟩ := w
        refine tl_MO_look_107 C (by omega) (by omega) (fun x51 h52 H locs ls w hm hW hl => ?_) k53 x13 (0 : Int32) h32 _ _ _ w hm hW (lv_sub hl [1, 0] rfl)
        · refine lv_iload_n hx hb d_MO_look_133 rfl (lv_at hl 0 rfl) ?_
          exact hb_iret (K := fun r9 h9 => K r9 h9 ∧ ah_m h0 h9) hx hb hr hlk hK hX hW ⟨w, hm⟩ (by omega) (by omega) d_MO_look_134
      · have w := w.2 c31
        refine lv_iconst (v := 0) hx hb d_MO_look_96 (by decide) ?_
        exact hb_iret (K := fun r9 h9 => K r9 h9 ∧ ah_m h0 h9) hx hb hr hlk hK hX hW ⟨w, hm⟩ (by omega) (by omega) d_MO_look_97
    · have w := w.2
      rcases (show x15.toInt = 0 ∨ x15.toInt = 1 ∨ x15.toInt = 2 by omega) with c25a | c25a | c25a
      · have w := w.1 c25a
        refine lv_tableIn (tgt := 60) hx hb d_MO_look_35 (by omega) (by omega) (by rw [c25a]; rfl) (by decide) ?_
        refine lv_aload_n hx hb d_MO_look_60 rfl (lv_at hl 0 rfl) ?_
        obtain ⟨t54, w⟩ := w
        obtain ⟨q55, e56, w⟩ := w
        refine hb_get (ci := 4) (C := "BigDeskModel") (T := T_MO) (N := 8) hx hb hts (fun w9 h9 => hT w9 (u_MO w9 h9)) hown hK hW t54 rfl (by decide) 3 (by decide) (hw wd_649) (fun _ h9 => h9) (q := (2, 15)) rfl (v := .ref q55) (ah_f_R e56) d_MO_look_61 ?_
        refine lv_iload_n hx hb d_MO_look_64 rfl (lv_at hl 1 rfl) ?_
        obtain ⟨t57, w⟩ := w
        obtain ⟨i58, w⟩ := w
        refine hb_iald hx hb hK hW t57 (by decide) (by decide) 0 rfl i58 d_MO_look_65 ?_
        exact hb_iret (K := fun r9 h9 => K r9 h9 ∧ ah_m h0 h9) hx hb hr hlk hK hX hW ⟨w, hm⟩ (by omega) (by omega) d_MO_look_66
      · have w := w.2.1 c25a
        refine lv_tableIn (tgt := 67) hx hb d_MO_look_35 (by omega) (by omega) (by rw [c25a]; rfl) (by decide) ?_
        refine lv_aload_n hx hb d_MO_look_67 rfl (lv_at hl 0 rfl) ?_
        refine lv_iload_n hx hb d_MO_look_68 rfl (lv_at hl 1 rfl) ?_
        obtain ⟨t59, w⟩ := w
        refine hb_calli (va_runV (As := [.int x14]) (rest := []) ⟨hx, hb, hml, hown, hts⟩ (m_MO_bits G x13 x14 h20 hst w) (cwV 1 hts (zx_gV hT wd_812 wd_814 wd_s29 wd_5 wd_815) rfl rfl rfl (by decide +kernel) ⟨Nat.le_of_ble_eq_true rfl, Nat.le_of_ble_eq_true rfl⟩) (hb_preV hK hX hW t59 (by decide) rfl) rfl rfl hl.1 rfl (lv_room (Nat.le_of_ble_eq_true rfl)) d_MO_look_69 ⟨(by show _ ≤ 0; omega), (by show _ ≤ 0; omega)⟩) hW (fun r61 h60 H locs hk hW => ?_)
        obtain ⟨w, mm62⟩ := hk
        have w := w mm62
        have hm := hm.tr mm62
        have t63 := mm62.tg t23 (by decide)
        have t64 := mm62.tg t59 (by decide)
        exact hb_iret (K := fun r9 h9 => K r9 h9 ∧ ah_m h0 h9) hx hb hr hlk hK hX hW ⟨w, hm⟩ (by omega) (by omega) d_MO_look_72
      · have w := w.2.2 c25a
        refine lv_tableIn (tgt := 73) hx hb d_MO_look_35 (by omega) (by omega) (by rw [c25a]; rfl) (by decide) ?_
        refine lv_aload_n hx hb d_MO_look_73 rfl (lv_at hl 0 rfl) ?_
        refine lv_iload_n hx hb d_MO_look_74 rfl (lv_at hl 1 rfl) ?_
        obtain ⟨t65, w⟩ := w
        refine hb_calli (va_runV (As := [.int x14]) (rest := []) ⟨hx, hb, hml, hown, hts⟩ (m_MO_isLong G x13 x14 h20 hst w) (cwV 1 hts (zx_gV hT wd_791 wd_793 wd_s27 wd_5 wd_794) rfl rfl rfl (by decide +kernel) ⟨Nat.le_of_ble_eq_true rfl, Nat.le_of_ble_eq_true rfl⟩) (hb_preV hK hX hW t65 (by decide) rfl) rfl rfl hl.1 rfl (lv_room (Nat.le_of_ble_eq_true rfl)) d_MO_look_75 ⟨(by show _ ≤ 0; omega), (by show _ ≤ 0; omega)⟩) hW (fun r67 h66 H locs hk hW => ?_)
        obtain ⟨w, mm68⟩ := hk
        have w := w mm68
        have hm := hm.tr mm68
        have t69 := mm68.tg t23 (by decide)
        have t70 := mm68.tg t65 (by decide)
        refine lv_if_eq (tgt := 85) hx hb d_MO_look_78 (by decide) (fun c71 => ?_) (fun c71 => ?_)
        · have w := w.1 c71
          refine lv_iconst (v := 0) hx hb d_MO_look_85 (by decide) ?_
          exact tb_MO_look_86 C (by omega) (by omega)  (0 : Int32) h66 _ _ _ w hm hW (lv_sub hl [] rfl)
        · have w := w.2 c71
          refine lv_iconst (v := 1) hx hb d_MO_look_81 (by decide) ?_
          refine lv_goto (tgt := 86) hx hb d_MO_look_82 (by decide) ?_
          exact tb_MO_look_86 C (by omega) (by omega)  (1 : Int32) h66 _ _ _ w hm hW (lv_sub hl [] rfl)
  · have w := w.2 c24
    refine lv_iconst (v := 0) hx hb d_MO_look_32 (by decide) ?_
    exact hb_iret (K := fun r9 h9 => K r9 h9 ∧ ah_m h0 h9) hx hb hr hlk hK hX hW ⟨w, hm⟩ (by omega) (by omega) d_MO_look_33
set_option maxHeartbeats 4000000 in
set_option maxRecDepth 100000 in
theorem tb_MO_look_20 {p : Program} {l : Launch} {e : Env} {s : State} {m : MethodId} {args : Array Value} {below : List Frame} {meth : Method} {c : Code} {G : zG} (C : cx_C p l s m args meth c G y_MO_look b_MO_look 4 (some .int) "BigDeskModel" (Cond.code y_MO_look b_MO_look 4 (some .int) :: zx_T) []) {K : Int32 → ah_H → Prop} {h0 : ah_H} {cells slots : Nat} (hcl : cells + 0 ≤ 0) (hsl : slots + 0 ≤ 0)  (x8 : Nat) (x9 : Int32) (x10 : Int32) (s11 : Nat) (h12 : ah_H) (H : Heap) (locs : List Loc) (ls : Array Slot) (w : bk_MO_look_20 K x8 x9 x10 s11 h12) (hm : ah_m h0 h12) (hW : ah_W G s.heap h12 H locs) (hl : lv_has ls 4 [(0, .ref x8), (1, .int x9), (2, .int x10)]) : W p l e rm_MO_look s m args below meth c H locs cells slots (MQ below (va_Qi (fun r9 h9 => K r9 h9 ∧ ah_m h0 h9) (ah_B G) (fun q => G.2.2 ≤ q)) args s 0 0 (fun q => G.2.2 ≤ q)) (F0 m 20 ls [.ref s11]) := by
  unfold bk_MO_look_20 at w
  obtain ⟨hx, hb, hr, hml, hown, hts, hT, hlk, hK, hX, htb, hin, hst⟩ := id C
  have hw : ∀ {w9 : Cond}, w9 ∈ zx_T → w9.before _ s = true := fun h9 => hts _ (hT _ h9)
  refine lv_iconst (v := 1) hx hb d_MO_look_20 (by decide) ?_
  refine lv_goto (tgt := 25) hx hb d_MO_look_21 (by decide) ?_
  exact tb_MO_look_25 C (by omega) (by omega)  x8 x9 x10 (1 : Int32) s11 h12 _ _ _ w hm hW (lv_sub hl [0, 1, 2] rfl)
set_option maxHeartbeats 4000000 in
set_option maxRecDepth 100000 in
theorem m_MO_look {l : Launch} (G : zG) (a1 : Nat) (a2 : Int32) (a3 : Int32) (h0 : ah_H) {K : Int32 → ah_H → Prop} (hst : l.stackTraces = false) (w : w_MO_look a1 a2 a3 h0 K) : Met l y_MO_look (Cond.code y_MO_look b_MO_look 4 (some .int) :: zx_T) rm_MO_look (va_Pc [.ref a1, .int a2, .int a3] (ah_B G h0)) (va_Qi (fun r9 h9 => K r9 h9 ∧ ah_m h0 h9) (ah_B G) (fun q => G.2.2 ≤ q)) 0 0 (fun q => G.2.2 ≤ q) := by
  refine Met.ofW (cc := b_MO_look) (maxL := 4) (ret := (some .int)) (by decide) rfl ?_
  intro p e s m args below meth c s₁ B hml hv
  have htb := cx_out B (atoms_spec B.pre _ List.mem_cons_self)
  obtain ⟨rfl, hB⟩ := hv
  have C : cx_C p l s m _ meth c G y_MO_look b_MO_look 4 (some .int) "BigDeskModel" (Cond.code y_MO_look b_MO_look 4 (some .int) :: zx_T) [] := ⟨B.exec, B.bytes, B.returns, hml, findClass_of_methodNamed B.named, atoms_spec B.pre, cx_hd, B.notSynchronized, hB.2.2.1, hB.2.2.2, htb, fun z9 => (name_of_methodNamed B.named B.method).1.trans z9, hst⟩
  obtain ⟨hx, hb, hr, hml, hown, hts, hT, hlk, hK, hX, htb, hin, hst⟩ := id C
  have hw : ∀ {w9 : Cond}, w9 ∈ zx_T → w9.before _ s = true := fun h9 => hts _ (hT _ h9)
  have hW : ah_W G s.heap h0 s.heap [] := ⟨hB.1, hB.2.1, va_S.rf⟩
  have hm : ah_m h0 h0 := ah_m.rf
  have hcl : 0 + 0 ≤ 0 := by decide
  have hsl : 0 + 0 ≤ 0 := by decide
  have hl := lv_entry ([.ref a1, .int a2, .int a3]) (n := 4) (Nat.le_of_ble_eq_true rfl)
  rw [lg_entry_eq]
  generalize (lg_sl ([.ref a1, .int a2, .int a3]) ++ List.replicate (4 - (lg_sl ([.ref a1, .int a2, .int a3])).length) Slot.unset).toArray = ls at hl ⊢
  have hl : lv_has ls 4 [(0, .ref a1), (1, .int a2), (2, .int a3)] := hl
  unfold w_MO_look at w
  refine lv_aload_n hx hb d_MO_look_0 rfl (lv_at hl 0 rfl) ?_
  refine lv_iload_n hx hb d_MO_look_1 rfl (lv_at hl 1 rfl) ?_
  refine hb_calli (va_runS (As := [.int a2]) (rest := [.ref a1]) ⟨hx, hb, hml, hown, hts⟩ (m_MO_isNone G a2 h0 hst w) (va_cwS 1 hts (zx_gS hT wd_680 wd_681 wd_5 wd_682) rfl rfl rfl (by decide +kernel) ⟨Nat.le_of_ble_eq_true rfl, Nat.le_of_ble_eq_true rfl⟩) (hb_preS hK hX hW) rfl rfl hl.1 rfl (lv_room (Nat.le_of_ble_eq_true rfl)) d_MO_look_2 ⟨(by show _ ≤ 0; omega), (by show _ ≤ 0; omega)⟩) hW (fun r5 h4 H locs hk hW => ?_)
  obtain ⟨w, mm6⟩ := hk
  have w := w mm6
  have hm := hm.tr mm6
  refine lv_if_ne (tgt := 20) hx hb d_MO_look_5 (by decide) (fun c7 => ?_) (fun c7 => ?_)
  · have w := w.1 c7
    exact tb_MO_look_20 C (by omega) (by omega)  a1 a2 a3 a1 h4 _ _ _ w hm hW (lv_sub hl [0, 1, 2] rfl)
  · have w := w.2 c7
    refine lv_iload_n hx hb d_MO_look_8 rfl (lv_at hl 2 rfl) ?_
    refine lv_i2l hx hb d_MO_look_9 rfl ?_
    refine lv_lconst (v := 0) hx hb d_MO_look_10 (by decide) ?_
    refine lv_ldc2 (v := 3) hx hb hown (hw wd_811) d_MO_look_11 ?_
    refine hb_calli (va_runS (As := [.long a3.toInt64, .long (0 : Int64), .long (3 : Int64)]) (rest := [.ref a1]) ⟨hx, hb, hml, hown, hts⟩ (m_MO_in G a3.toInt64 (0 : Int64) (3 : Int64) h4 hst w) (va_cwS 3 hts (zx_gS hT wd_740 wd_741 wd_5 wd_742) rfl rfl rfl (by decide +kernel) ⟨Nat.le_of_ble_eq_true rfl, Nat.le_of_ble_eq_true rfl⟩) (hb_preS hK hX hW) rfl rfl hl.1 rfl (lv_room (Nat.le_of_ble_eq_true rfl)) d_MO_look_14 ⟨(by show _ ≤ 0; omega), (by show _ ≤ 0; omega)⟩) hW (fun r75 h74 H locs hk hW => ?_)
    obtain ⟨w, mm76⟩ := hk
    have w := w mm76
    have hm := hm.tr mm76
    refine lv_if_ne (tgt := 24) hx hb d_MO_look_17 (by decide) (fun c77 => ?_) (fun c77 => ?_)
    · have w := w.1 c77
      refine lv_iconst (v := 0) hx hb d_MO_look_24 (by decide) ?_
      exact tb_MO_look_25 C (by omega) (by omega)  a1 a2 a3 (0 : Int32) a1 h74 _ _ _ w hm hW (lv_sub hl [0, 1, 2] rfl)
    · have w := w.2 c77
      exact tb_MO_look_20 C (by omega) (by omega)  a1 a2 a3 a1 h74 _ _ _ w hm hW (lv_sub hl [0, 1, 2] rfl)
set_option maxHeartbeats 4000000 in
set_option maxRecDepth 100000 in
theorem tb_MO_feed_50 {p : Program} {l : Launch} {e : Env} {s : State} {m : MethodId} {args : Array Value} {below : List Frame} {meth : Method} {c : Code} {G : zG} (C : cx_C p l s m args meth c G y_MO_feed b_MO_feed 5 (some .int) "BigDeskModel" (Cond.code y_MO_feed b_MO_feed 5 (some .int) :: zx_T) []) {K : Int32 → ah_H → Prop} {h0 : ah_H} {cells slots : Nat} (hcl : cells + 0 ≤ 0) (hsl : slots + 0 ≤ 0)   (h20 : ah_H) (H : Heap) (locs : List Loc) (ls : Array Slot) (w : bk_MO_feed_50 K h20) (hm : ah_m h0 h20) (hW : ah_W G s.heap h20 H locs) (hl : lv_has ls 5 []) : W p l e rm_MO_feed s m args below meth c H locs cells slots (MQ below (va_Qi (fun r9 h9 => K r9 h9 ∧ ah_m h0 h9) (ah_B G) (fun q => G.2.2 ≤ q)) args s 0 0 (fun q => G.2.2 ≤ q)) (F0 m 50 ls []) := by
  unfold bk_MO_feed_50 at w
  obtain ⟨hx, hb, hr, hml, hown, hts, hT, hlk, hK, hX, htb, hin, hst⟩ := id C
  have hw : ∀ {w9 : Cond}, w9 ∈ zx_T → w9.before _ s = true := fun h9 => hts _ (hT _ h9)
  refine lv_iconst (v := 0) hx hb d_MO_feed_50 (by decide) ?_
  exact hb_iret (K := fun r9 h9 => K r9 h9 ∧ ah_m h0 h9) hx hb hr hlk hK hX hW ⟨w, hm⟩ (by omega) (by omega) d_MO_feed_51
set_option maxHeartbeats 4000000 in
set_option maxRecDepth 100000 in
theorem tl_MO_feed_55 {p : Program} {l : Launch} {e : Env} {s : State} {m : MethodId} {args : Array Value} {below : List Frame} {meth : Method} {c : Code} {G : zG} (C : cx_C p l s m args meth c G y_MO_feed b_MO_feed 5 (some .int) "BigDeskModel" (Cond.code y_MO_feed b_MO_feed 5 (some .int) :: zx_T) []) {K : Int32 → ah_H → Prop} {h0 : ah_H} {cells slots : Nat} (hcl : cells + 0 ≤ 0) (hsl : slots + 0 ≤ 0) {xt_91 : Nat → Int32 → ah_H → Prop} (hc_xt_91 : ∀ (z0 : Nat) (z1 : Int32) (hz : ah_H) (H : Heap) (locs : List Loc) (ls : Array Slot), xt_91 z0 z1 hz → ah_m h0 hz → ah_W G s.heap hz H locs → lv_has ls 5 [(0, .ref z0), (1, .int z1)] → W p l e rm_MO_feed s m args below meth c H locs cells slots (MQ below (va_Qi (fun r9 h9 => K r9 h9 ∧ ah_m h0 h9) (ah_B G) (fun q => G.2.2 ≤ q)) args s 0 0 (fun q => G.2.2 ≤ q)) (F0 m 91 ls [])) : ∀ (n : Nat) (x35 : Nat) (x36 : Int32) (x37 : Int64) (x38 : Int32) (h39 : ah_H) (H : Heap) (locs : List Loc) (ls : Array Slot), lp_MO_feed_55 xt_91 K n x35 x36 x37 x38 h39 → ah_m h0 h39 → ah_W G s.heap h39 H locs → lv_has ls 5 [(0, .ref x35), (1, .int x36), (2, .long x37), (4, .int x38)] → W p l e rm_MO_feed s m args below meth c H locs cells slots (MQ below (va_Qi (fun r9 h9 => K r9 h9 ∧ ah_m h0 h9) (ah_B G) (fun q => G.2.2 ≤ q)) args s 0 0 (fun q => G.2.2 ≤ q)) (F0 m 55 ls []) := by
  obtain ⟨hx, hb, hr, hml, hown, hts, hT, hlk, hK, hX, htb, hin, hst⟩ := id C
  have hw : ∀ {w9 : Cond}, w9 ∈ zx_T → w9.before _ s = true := fun h9 => hts _ (hT _ h9)
  intro n
  induction n with
  | zero =>
    intro x35 x36 x37 x38 h39 H locs ls w
    exact absurd w (by intro z9; exact z9)
  | succ n ih =>
    intro x35 x36 x37 x38 h39 H locs ls w hm hW hl
    unfold lp_MO_feed_55 at w
    refine lv_iload hx hb d_MO_feed_55 (lv_at hl 3 rfl) ?_
    refine lv_iload_n hx hb d_MO_feed_57 rfl (lv_at hl 1 rfl) ?_
    refine lv_icmp_ge (tgt := 91) hx hb d_MO_feed_58 (by decide) (fun c40 => ?_) (fun c40 => ?_)
    · have w := w.1 c40
      exact hc_xt_91 x35 x36 h39 _ _ _ w hm hW (lv_sub hl [0, 1] rfl)
    · have w := w.2 c40
      refine lv_aload_n hx hb d_MO_feed_61 rfl (lv_at hl 0 rfl) ?_
      obtain ⟨t41, w⟩ := w
      obtain ⟨q42, e43, w⟩ := w
      refine hb_get (ci := 4) (C := "BigDeskModel") (T := T_MO) (N := 8) hx hb hts (fun w9 h9 => hT w9 (u_MO w9 h9)) hown hK hW t41 rfl (by decide) 4 (by decide) (hw wd_650) (fun _ h9 => h9) (q := (2, 16)) rfl (v := .ref q42) (ah_f_R e43) d_MO_feed_62 ?_
      refine lv_aload_n hx hb d_MO_feed_65 rfl (lv_at hl 0 rfl) ?_
      refine hb_get (ci := 4) (C := "BigDeskModel") (T := T_MO) (N := 8) hx hb hts (fun w9 h9 => hT w9 (u_MO w9 h9)) hown hK hW t41 rfl (by decide) 5 (by decide) (hw wd_651) (fun _ h9 => h9) (q := (0, 5)) rfl (v := .int (ah_I h39 5 x35)) rfl d_MO_feed_66 ?_
      refine lv_iload hx hb d_MO_feed_69 (lv_at hl 3 rfl) ?_
      refine lv_iadd hx hb d_MO_feed_71 ?_
      refine lv_lload_n hx hb d_MO_feed_72 rfl (lv_at hl 2 rfl) ?_
      refine lv_bipush (v := 8) hx hb d_MO_feed_73 (by decide) ?_
      refine lv_iload hx hb d_MO_feed_75 (lv_at hl 3 rfl) ?_
      refine lv_imul hx hb d_MO_feed_77 ?_
      refine lv_lshr hx hb d_MO_feed_78 rfl ?_
      refine lv_ldc2 (v := 255) hx hb hown (hw wd_804) d_MO_feed_79 ?_
      refine lv_land hx hb d_MO_feed_82 ?_
      refine lv_l2i hx hb d_MO_feed_83 rfl ?_
      refine lv_topi (fun v44 ev44 => ?_)
      have w := w v44 ev44
      obtain ⟨t45, w⟩ := w
      obtain ⟨i46, w⟩ := w
      refine hb_iast hx hb hK hW t45 (by decide) (by decide) 0 rfl i46 d_MO_feed_84 (fun H locs h47 eh47 hW => ?_)
      have w := w h47 eh47
      have mm48 : ah_m h39 h47 := ah_m.rf.st (by rw [eh47]; rfl) (by rw [eh47]; rfl)
      have hm := hm.tr mm48
      have t49 := mm48.tg t41 (by decide)
      have t50 := mm48.tg t45 (by decide)
      obtain ⟨v51, ev51⟩ : ∃ y9 : Int32, y9 = x38 + 1 := ⟨_, rfl⟩
      have w := w v51 ev51
      refine lv_iinc (v := v51) (lv' := [(4, .int v51), (0, .ref x35), (1, .int x36), (2, .long x37)]) hx hb d_MO_feed_85 hl (k := 3) rfl (by rw [ev51]; rfl) (by decide) rfl (fun ls hl => ?_)
      refine lv_goto (tgt := 55) hx hb d_MO_feed_88 (by decide) ?_
      exact ih x35 x36 x37 v51 h47 _ _ _ w hm hW (lv_sub hl [1, 2, 3, 0] rfl)
set_option maxHeartbeats 4000000 in
set_option maxRecDepth 100000 in
theorem tb_MO_feed_43 {p : Program} {l : Launch} {e : Env} {s : State} {m : MethodId} {args : Array Value} {below : List Frame} {meth : Method} {c : Code} {G : zG} (C : cx_C p l s m args meth c G y_MO_feed b_MO_feed 5 (some .int) "BigDeskModel" (Cond.code y_MO_feed b_MO_feed 5 (some .int) :: zx_T) []) {K : Int32 → ah_H → Prop} {h0 : ah_H} {cells slots : Nat} (hcl : cells + 0 ≤ 0) (hsl : slots + 0 ≤ 0)  (x23 : Nat) (x24 : Int32) (x25 : Int64) (s26 : Int32) (s27 : Nat) (h28 : ah_H) (H : Heap) (locs : List Loc) (ls : Array Slot) (w : bk_MO_feed_43 K x23 x24 x25 s26 s27 h28) (hm : ah_m h0 h28) (hW : ah_W G s.heap h28 H locs) (hl : lv_has ls 5 [(0, .ref x23), (1, .int x24), (2, .long x25)]) : W p l e rm_MO_feed s m args below meth c H locs cells slots (MQ below (va_Qi (fun r9 h9 => K r9 h9 ∧ ah_m h0 h9) (ah_B G) (fun q => G.2.2 ≤ q)) args s 0 0 (fun q => G.2.2 ≤ q)) (F0 m 43 ls [.int s26, .ref s27]) := by
  unfold bk_MO_feed_43 at w
  obtain ⟨hx, hb, hr, hml, hown, hts, hT, hlk, hK, hX, htb, hin, hst⟩ := id C
  have hw : ∀ {w9 : Cond}, w9 ∈ zx_T → w9.before _ s = true := fun h9 => hts _ (hT _ h9)
  refine lv_iconst (v := 2) hx hb d_MO_feed_43 (by decide) ?_
  obtain ⟨t29, w⟩ := w
  refine hb_calli (va_runV (As := [.int s26, .int (2 : Int32)]) (rest := []) ⟨hx, hb, hml, hown, hts⟩ (m_MO_fails G s27 s26 (2 : Int32) h28 hst w) (cwV 2 hts (zx_gV hT wd_683 wd_685 wd_s15 wd_5 wd_686) rfl rfl rfl (by decide +kernel) ⟨Nat.le_of_ble_eq_true rfl, Nat.le_of_ble_eq_true rfl⟩) (hb_preV hK hX hW t29 (by decide) rfl) rfl rfl hl.1 rfl (lv_room (Nat.le_of_ble_eq_true rfl)) d_MO_feed_44 ⟨(by show _ ≤ 0; omega), (by show _ ≤ 0; omega)⟩) hW (fun r31 h30 H locs hk hW => ?_)
  obtain ⟨w, mm32⟩ := hk
  have w := w mm32
  have hm := hm.tr mm32
  have t33 := mm32.tg t29 (by decide)
  refine lv_if_eq (tgt := 52) hx hb d_MO_feed_47 (by decide) (fun c34 => ?_) (fun c34 => ?_)
  · have w := w.1 c34
    refine lv_iconst (v := 0) hx hb d_MO_feed_52 (by decide) ?_
    refine lv_istore (lv' := [(4, .int (0 : Int32)), (0, .ref x23), (1, .int x24), (2, .long x25)]) hx hb d_MO_feed_53 hl (by decide) rfl (fun ls hl => ?_)
    obtain ⟨k60, w⟩ := w
    refine tl_MO_feed_55 C (by omega) (by omega) (fun x52 x53 h54 H locs ls w hm hW hl => ?_) k60 x23 x24 x25 (0 : Int32) h30 _ _ _ w hm hW (lv_sub hl [1, 2, 3, 0] rfl)
    · refine lv_aload_n hx hb d_MO_feed_91 rfl (lv_at hl 0 rfl) ?_
      refine lv_dup hx hb d_MO_feed_92 rfl ?_
      obtain ⟨t55, w⟩ := w
      refine hb_get (ci := 4) (C := "BigDeskModel") (T := T_MO) (N := 8) hx hb hts (fun w9 h9 => hT w9 (u_MO w9 h9)) hown hK hW t55 rfl (by decide) 5 (by decide) (hw wd_651) (fun _ h9 => h9) (q := (0, 5)) rfl (v := .int (ah_I h54 5 x52)) rfl d_MO_feed_93 ?_
      refine lv_iload_n hx hb d_MO_feed_96 rfl (lv_at hl 1 rfl) ?_
      refine lv_iadd hx hb d_MO_feed_97 ?_
      refine lv_topi (fun v56 ev56 => ?_)
      have w := w v56 ev56
      refine hb_put (ci := 4) (C := "BigDeskModel") (T := T_MO) (N := 8) hx hb hts (fun w9 h9 => hT w9 (u_MO w9 h9)) t_MO o_MO n_MO hown hK hW t55 rfl (by decide) 5 (by decide) (hw wd_651) (fun _ h9 => h9) rfl (ty := t_MO 5) (by decide +kernel) (q := (0, 5)) rfl (by decide) (v := .int v56) rfl rfl (ah_one_I h54 5 x52 v56) d_MO_feed_98 (fun H locs h57 eh57 hW => ?_)
      have w := w h57 eh57
      have mm58 : ah_m h54 h57 := ah_m.rf.st (by rw [eh57]; rfl) (by rw [eh57]; rfl)
      have hm := hm.tr mm58
      have t59 := mm58.tg t55 (by decide)
      refine lv_aload_n hx hb d_MO_feed_101 rfl (lv_at hl 0 rfl) ?_
      refine hb_get (ci := 4) (C := "BigDeskModel") (T := T_MO) (N := 8) hx hb hts (fun w9 h9 => hT w9 (u_MO w9 h9)) hown hK hW t59 rfl (by decide) 5 (by decide) (hw wd_651) (fun _ h9 => h9) (q := (0, 5)) rfl (v := .int (ah_I h57 5 x52)) rfl d_MO_feed_102 ?_
      exact hb_iret (K := fun r9 h9 => K r9 h9 ∧ ah_m h0 h9) hx hb hr hlk hK hX hW ⟨w, hm⟩ (by omega) (by omega) d_MO_feed_105
  · have w := w.2 c34
    exact tb_MO_feed_50 C (by omega) (by omega)   h30 _ _ _ w hm hW (lv_sub hl [] rfl)
set_option maxHeartbeats 4000000 in
set_option maxRecDepth 100000 in
theorem tb_MO_feed_18 {p : Program} {l : Launch} {e : Env} {s : State} {m : MethodId} {args : Array Value} {below : List Frame} {meth : Method} {c : Code} {G : zG} (C : cx_C p l s m args meth c G y_MO_feed b_MO_feed 5 (some .int) "BigDeskModel" (Cond.code y_MO_feed b_MO_feed 5 (some .int) :: zx_T) []) {K : Int32 → ah_H → Prop} {h0 : ah_H} {cells slots : Nat} (hcl : cells + 0 ≤ 0) (hsl : slots + 0 ≤ 0)  (x8 : Nat) (x9 : Int32) (x10 : Int64) (s11 : Int32) (s12 : Nat) (h13 : ah_H) (H : Heap) (locs : List Loc) (ls : Array Slot) (w : bk_MO_feed_18 K x8 x9 x10 s11 s12 h13) (hm : ah_m h0 h13) (hW : ah_W G s.heap h13 H locs) (hl : lv_has ls 5 [(0, .ref x8), (1, .int x9), (2, .long x10)]) : W p l e rm_MO_feed s m args below meth c H locs cells slots (MQ below (va_Qi (fun r9 h9 => K r9 h9 ∧ ah_m h0 h9) (ah_B G) (fun q => G.2.2 ≤ q)) args s 0 0 (fun q => G.2.2 ≤ q)) (F0 m 18 ls [.int s11, .ref s12]) := by
  unfold bk_MO_feed_18 at w
  obtain ⟨hx, hb, hr, hml, hown, hts, hT, hlk, hK, hX, htb, hin, hst⟩ := id C
  have hw : ∀ {w9 : Cond}, w9 ∈ zx_T → w9.before _ s = true := fun h9 => hts _ (hT _ h9)
  refine lv_iconst (v := 1) hx hb d_MO_feed_18 (by decide) ?_
  obtain ⟨t14, w⟩ := w
  refine hb_calli (va_runV (As := [.int s11, .int (1 : Int32)]) (rest := []) ⟨hx, hb, hml, hown, hts⟩ (m_MO_fails G s12 s11 (1 : Int32) h13 hst w) (cwV 2 hts (zx_gV hT wd_683 wd_685 wd_s15 wd_5 wd_686) rfl rfl rfl (by decide +kernel) ⟨Nat.le_of_ble_eq_true rfl, Nat.le_of_ble_eq_true rfl⟩) (hb_preV hK hX hW t14 (by decide) rfl) rfl rfl hl.1 rfl (lv_room (Nat.le_of_ble_eq_true rfl)) d_MO_feed_19 ⟨(by show _ ≤ 0; omega), (by show _ ≤ 0; omega)⟩) hW (fun r16 h15 H locs hk hW => ?_)
  obtain ⟨w, mm17⟩ := hk
  have w := w mm17
  have hm := hm.tr mm17
  have t18 := mm17.tg t14 (by decide)
  refine lv_if_ne (tgt := 50) hx hb d_MO_feed_22 (by decide) (fun c19 => ?_) (fun c19 => ?_)
  · have w := w.1 c19
    exact tb_MO_feed_50 C (by omega) (by omega)   h15 _ _ _ w hm hW (lv_sub hl [] rfl)
  · have w := w.2 c19
    refine lv_aload_n hx hb d_MO_feed_25 rfl (lv_at hl 0 rfl) ?_
    refine lv_aload_n hx hb d_MO_feed_26 rfl (lv_at hl 0 rfl) ?_
    obtain ⟨t21, w⟩ := w
    refine hb_get (ci := 4) (C := "BigDeskModel") (T := T_MO) (N := 8) hx hb hts (fun w9 h9 => hT w9 (u_MO w9 h9)) hown hK hW t21 rfl (by decide) 5 (by decide) (hw wd_651) (fun _ h9 => h9) (q := (0, 5)) rfl (v := .int (ah_I h15 5 x8)) rfl d_MO_feed_27 ?_
    refine lv_iload_n hx hb d_MO_feed_30 rfl (lv_at hl 1 rfl) ?_
    refine lv_iadd hx hb d_MO_feed_31 ?_
    refine lv_sipush (v := 2600) hx hb d_MO_feed_32 (by decide) ?_
    refine lv_icmp_le (tgt := 42) hx hb d_MO_feed_35 (by decide) (fun c22 => ?_) (fun c22 => ?_)
    · have w := w.1 c22
      refine lv_iconst (v := 0) hx hb d_MO_feed_42 (by decide) ?_
      exact tb_MO_feed_43 C (by omega) (by omega)  x8 x9 x10 (0 : Int32) x8 h15 _ _ _ w hm hW (lv_sub hl [0, 1, 2] rfl)
    · have w := w.2 c22
      refine lv_iconst (v := 1) hx hb d_MO_feed_38 (by decide) ?_
      refine lv_goto (tgt := 43) hx hb d_MO_feed_39 (by decide) ?_
      exact tb_MO_feed_43 C (by omega) (by omega)  x8 x9 x10 (1 : Int32) x8 h15 _ _ _ w hm hW (lv_sub hl [0, 1, 2] rfl)
set_option maxHeartbeats 4000000 in
set_option maxRecDepth 100000 in
theorem m_MO_feed {l : Launch} (G : zG) (a1 : Nat) (a2 : Int32) (a3 : Int64) (h0 : ah_H) {K : Int32 → ah_H → Prop} (hst : l.stackTraces = false) (w : w_MO_feed a1 a2 a3 h0 K) : Met l y_MO_feed (Cond.code y_MO_feed b_MO_feed 5 (some .int) :: zx_T) rm_MO_feed (va_Pc [.ref a1, .int a2, .long a3] (ah_B G h0)) (va_Qi (fun r9 h9 => K r9 h9 ∧ ah_m h0 h9) (ah_B G) (fun q => G.2.2 ≤ q)) 0 0 (fun q => G.2.2 ≤ q) := by
  refine Met.ofW (cc := b_MO_feed) (maxL := 5) (ret := (some .int)) (by decide) rfl ?_
  intro p e s m args below meth c s₁ B hml hv
  have htb := cx_out B (atoms_spec B.pre _ List.mem_cons_self)
  obtain ⟨rfl, hB⟩ := hv
  have C : cx_C p l s m _ meth c G y_MO_feed b_MO_feed 5 (some .int) "BigDeskModel" (Cond.code y_MO_feed b_MO_feed 5 (some .int) :: zx_T) [] := ⟨B.exec, B.bytes, B.returns, hml, findClass_of_methodNamed B.named, atoms_spec B.pre, cx_hd, B.notSynchronized, hB.2.2.1, hB.2.2.2, htb, fun z9 => (name_of_methodNamed B.named B.method).1.trans z9, hst⟩
  obtain ⟨hx, hb, hr, hml, hown, hts, hT, hlk, hK, hX, htb, hin, hst⟩ := id C
  have hw : ∀ {w9 : Cond}, w9 ∈ zx_T → w9.before _ s = true := fun h9 => hts _ (hT _ h9)
  have hW : ah_W G s.heap h0 s.heap [] := ⟨hB.1, hB.2.1, va_S.rf⟩
  have hm : ah_m h0 h0 := ah_m.rf
  have hcl : 0 + 0 ≤ 0 := by decide
  have hsl : 0 + 0 ≤ 0 := by decide
  have hl := lv_entry ([.ref a1, .int a2, .long a3]) (n := 5) (Nat.le_of_ble_eq_true rfl)
  rw [lg_entry_eq]
  generalize (lg_sl ([.ref a1, .int a2, .long a3]) ++ List.replicate (5 - (lg_sl ([.ref a1, .int a2, .long a3])).length) Slot.unset).toArray = ls at hl ⊢
  have hl : lv_has ls 5 [(0, .ref a1), (1, .int a2), (2, .long a3)] := hl
  unfold w_MO_feed at w
  refine lv_aload_n hx hb d_MO_feed_0 rfl (lv_at hl 0 rfl) ?_
  refine lv_iload_n hx hb d_MO_feed_1 rfl (lv_at hl 1 rfl) ?_
  refine lv_i2l hx hb d_MO_feed_2 rfl ?_
  refine lv_lconst (v := 1) hx hb d_MO_feed_3 (by decide) ?_
  refine lv_ldc2 (v := 8) hx hb hown (hw wd_820) d_MO_feed_4 ?_
  refine hb_calli (va_runS (As := [.long a2.toInt64, .long (1 : Int64), .long (8 : Int64)]) (rest := [.ref a1]) ⟨hx, hb, hml, hown, hts⟩ (m_MO_in G a2.toInt64 (1 : Int64) (8 : Int64) h0 hst w) (va_cwS 3 hts (zx_gS hT wd_740 wd_741 wd_5 wd_742) rfl rfl rfl (by decide +kernel) ⟨Nat.le_of_ble_eq_true rfl, Nat.le_of_ble_eq_true rfl⟩) (hb_preS hK hX hW) rfl rfl hl.1 rfl (lv_room (Nat.le_of_ble_eq_true rfl)) d_MO_feed_7 ⟨(by show _ ≤ 0; omega), (by show _ ≤ 0; omega)⟩) hW (fun r5 h4 H locs hk hW => ?_)
  obtain ⟨w, mm6⟩ := hk
  have w := w mm6
  have hm := hm.tr mm6
  refine lv_if_ne (tgt := 17) hx hb d_MO_feed_10 (by decide) (fun c7 => ?_) (fun c7 => ?_)
  · have w := w.1 c7
    refine lv_iconst (v := 0) hx hb d_MO_feed_17 (by decide) ?_
    exact tb_MO_feed_18 C (by omega) (by omega)  a1 a2 a3 (0 : Int32) a1 h4 _ _ _ w hm hW (lv_sub hl [0, 1, 2] rfl)
  · have w := w.2 c7
    refine lv_iconst (v := 1) hx hb d_MO_feed_13 (by decide) ?_
    refine lv_goto (tgt := 18) hx hb d_MO_feed_14 (by decide) ?_
    exact tb_MO_feed_18 C (by omega) (by omega)  a1 a2 a3 (1 : Int32) a1 h4 _ _ _ w hm hW (lv_sub hl [0, 1, 2] rfl)
set_option maxHeartbeats 4000000 in
set_option maxRecDepth 100000 in
theorem tb_MO_reads_78 {p : Program} {l : Launch} {e : Env} {s : State} {m : MethodId} {args : Array Value} {below : List Frame} {meth : Method} {c : Code} {G : zG} (C : cx_C p l s m args meth c G y_MO_reads b_MO_reads 7 (some .boolean) "BigDeskModel" (Cond.code y_MO_reads b_MO_reads 7 (some .boolean) :: zx_T) []) {K : Int32 → ah_H → Prop} {h0 : ah_H} {cells slots : Nat} (hcl : cells + 0 ≤ 0) (hsl : slots + 0 ≤ 0)   (h16 : ah_H) (H : Heap) (locs : List Loc) (ls : Array Slot) (w : bk_MO_reads_78 K h16) (hm : ah_m h0 h16) (hW : ah_W G s.heap h16 H locs) (hl : lv_has ls 7 []) : W p l e rm_MO_reads s m args below meth c H locs cells slots (MQ below (va_Qi (fun r9 h9 => K r9 h9 ∧ ah_m h0 h9) (ah_B G) (fun q => G.2.2 ≤ q)) args s 0 0 (fun q => G.2.2 ≤ q)) (F0 m 78 ls []) := by
  unfold bk_MO_reads_78 at w
  obtain ⟨hx, hb, hr, hml, hown, hts, hT, hlk, hK, hX, htb, hin, hst⟩ := id C
  have hw : ∀ {w9 : Cond}, w9 ∈ zx_T → w9.before _ s = true := fun h9 => hts _ (hT _ h9)
  refine lv_iconst (v := 0) hx hb d_MO_reads_78 (by decide) ?_
  exact hb_zret (K := fun r9 h9 => K r9 h9 ∧ ah_m h0 h9) hx hb hr hlk (by decide) hK hX hW ⟨w, hm⟩ (by omega) (by omega) d_MO_reads_79
set_option maxHeartbeats 4000000 in
set_option maxRecDepth 100000 in
theorem tl_MO_reads_82 {p : Program} {l : Launch} {e : Env} {s : State} {m : MethodId} {args : Array Value} {below : List Frame} {meth : Method} {c : Code} {G : zG} (C : cx_C p l s m args meth c G y_MO_reads b_MO_reads 7 (some .boolean) "BigDeskModel" (Cond.code y_MO_reads b_MO_reads 7 (some .boolean) :: zx_T) []) {K : Int32 → ah_H → Prop} {h0 : ah_H} {cells slots : Nat} (hcl : cells + 0 ≤ 0) (hsl : slots + 0 ≤ 0) {xt_112 : ah_H → Prop} {xt_120 : Nat → Int32 → Int32 → ah_H → Prop} (hc_xt_112 : ∀ (hz : ah_H) (H : Heap) (locs : List Loc) (ls : Array Slot), xt_112 hz → ah_m h0 hz → ah_W G s.heap hz H locs → lv_has ls 7 [] → W p l e rm_MO_reads s m args below meth c H locs cells slots (MQ below (va_Qi (fun r9 h9 => K r9 h9 ∧ ah_m h0 h9) (ah_B G) (fun q => G.2.2 ≤ q)) args s 0 0 (fun q => G.2.2 ≤ q)) (F0 m 112 ls [])) (hc_xt_120 : ∀ (z0 : Nat) (z1 : Int32) (z2 : Int32) (hz : ah_H) (H : Heap) (locs : List Loc) (ls : Array Slot), xt_120 z0 z1 z2 hz → ah_m h0 hz → ah_W G s.heap hz H locs → lv_has ls 7 [(0, .ref z0), (1, .int z1), (2, .int z2)] → W p l e rm_MO_reads s m args below meth c H locs cells slots (MQ below (va_Qi (fun r9 h9 => K r9 h9 ∧ ah_m h0 h9) (ah_B G) (fun q => G.2.2 ≤ q)) args s 0 0 (fun q => G.2.2 ≤ q)) (F0 m 120 ls [])) : ∀ (n : Nat) (x32 : Nat) (x33 : Int32) (x34 : Int32) (x35 : Int32) (h36 : ah_H) (H : Heap) (locs : List Loc) (ls : Array Slot), lp_MO_reads_82 xt_112 xt_120 K n x32 x33 x34 x35 h36 → ah_m h0 h36 → ah_W G s.heap h36 H locs → lv_has ls 7 [(0, .ref x32), (1, .int x33), (2, .int x34), (3, .int x35)] → W p l e rm_MO_reads s m args below meth c H locs cells slots (MQ below (va_Qi (fun r9 h9 => K r9 h9 ∧ ah_m h0 h9) (ah_B G) (fun q => G.2.2 ≤ q)) args s 0 0 (fun q => G.2.2 ≤ q)) (F0 m 82 ls []) := by
  obtain ⟨hx, hb, hr, hml, hown, hts, hT, hlk, hK, hX, htb, hin, hst⟩ := id C
  have hw : ∀ {w9 : Cond}, w9 ∈ zx_T → w9.before _ s = true := fun h9 => hts _ (hT _ h9)
  intro n
  induction n with
  | zero =>
    intro x32 x33 x34 x35 h36 H locs ls w
    exact absurd w (by intro z9; exact z9)
  | succ n ih =>
    intro x32 x33 x34 x35 h36 H locs ls w hm hW hl
    unfold lp_MO_reads_82 at w
    refine lv_iload_n hx hb d_MO_reads_82 rfl (lv_at hl 3 rfl) ?_
    refine lv_aload_n hx hb d_MO_reads_83 rfl (lv_at hl 0 rfl) ?_
    obtain ⟨t37, w⟩ := w
    refine hb_get (ci := 4) (C := "BigDeskModel") (T := T_MO) (N := 8) hx hb hts (fun w9 h9 => hT w9 (u_MO w9 h9)) hown hK hW t37 rfl (by decide) 5 (by decide) (hw wd_651) (fun _ h9 => h9) (q := (0, 5)) rfl (v := .int (ah_I h36 5 x32)) rfl d_MO_reads_84 ?_
    refine lv_icmp_ge (tgt := 120) hx hb d_MO_reads_87 (by decide) (fun c38 => ?_) (fun c38 => ?_)
    · have w := w.1 c38
      exact hc_xt_120 x32 x33 x34 h36 _ _ _ w hm hW (lv_sub hl [0, 1, 2] rfl)
    · have w := w.2 c38
      refine lv_aload_n hx hb d_MO_reads_90 rfl (lv_at hl 0 rfl) ?_
      obtain ⟨q39, e40, w⟩ := w
      refine hb_get (ci := 4) (C := "BigDeskModel") (T := T_MO) (N := 8) hx hb hts (fun w9 h9 => hT w9 (u_MO w9 h9)) hown hK hW t37 rfl (by decide) 4 (by decide) (hw wd_650) (fun _ h9 => h9) (q := (2, 16)) rfl (v := .ref q39) (ah_f_R e40) d_MO_reads_91 ?_
      refine lv_iload_n hx hb d_MO_reads_94 rfl (lv_at hl 3 rfl) ?_
      obtain ⟨t41, w⟩ := w
      obtain ⟨i42, w⟩ := w
      refine hb_iald hx hb hK hW t41 (by decide) (by decide) 0 rfl i42 d_MO_reads_95 ?_
      refine lv_bipush (v := 48) hx hb d_MO_reads_96 (by decide) ?_
      refine lv_icmp_lt (tgt := 112) hx hb d_MO_reads_98 (by decide) (fun c43 => ?_) (fun c43 => ?_)
      · have w := w.1 c43
        exact hc_xt_112  h36 _ _ _ w hm hW (lv_sub hl [] rfl)
      · have w := w.2 c43
        refine lv_aload_n hx hb d_MO_reads_101 rfl (lv_at hl 0 rfl) ?_
        obtain ⟨q44, e45, w⟩ := w
        refine hb_get (ci := 4) (C := "BigDeskModel") (T := T_MO) (N := 8) hx hb hts (fun w9 h9 => hT w9 (u_MO w9 h9)) hown hK hW t37 rfl (by decide) 4 (by decide) (hw wd_650) (fun _ h9 => h9) (q := (2, 16)) rfl (v := .ref q44) (ah_f_R e45) d_MO_reads_102 ?_
        refine lv_iload_n hx hb d_MO_reads_105 rfl (lv_at hl 3 rfl) ?_
        obtain ⟨t46, w⟩ := w
        obtain ⟨i47, w⟩ := w
        refine hb_iald hx hb hK hW t46 (by decide) (by decide) 0 rfl i47 d_MO_reads_106 ?_
        refine lv_bipush (v := 57) hx hb d_MO_reads_107 (by decide) ?_
        refine lv_icmp_le (tgt := 114) hx hb d_MO_reads_109 (by decide) (fun c48 => ?_) (fun c48 => ?_)
        · have w := w.1 c48
          obtain ⟨v49, ev49⟩ : ∃ y9 : Int32, y9 = x35 + 1 := ⟨_, rfl⟩
          have w := w v49 ev49
          refine lv_iinc (v := v49) (lv' := [(3, .int v49), (0, .ref x32), (1, .int x33), (2, .int x34)]) hx hb d_MO_reads_114 hl (k := 3) rfl (by rw [ev49]; rfl) (by decide) rfl (fun ls hl => ?_)
          refine lv_goto (tgt := 82) hx hb d_MO_reads_117 (by decide) ?_
          exact ih x32 x33 x34 v49 h36 _ _ _ w hm hW (lv_sub hl [1, 2, 3, 0] rfl)
        · have w := w.2 c48
          exact hc_xt_112  h36 _ _ _ w hm hW (lv_sub hl [] rfl)
set_option maxHeartbeats 4000000 in
set_option maxRecDepth 100000 in
theorem tb_MO_reads_112 {p : Program} {l : Launch} {e : Env} {s : State} {m : MethodId} {args : Array Value} {below : List Frame} {meth : Method} {c : Code} {G : zG} (C : cx_C p l s m args meth c G y_MO_reads b_MO_reads 7 (some .boolean) "BigDeskModel" (Cond.code y_MO_reads b_MO_reads 7 (some .boolean) :: zx_T) []) {K : Int32 → ah_H → Prop} {h0 : ah_H} {cells slots : Nat} (hcl : cells + 0 ≤ 0) (hsl : slots + 0 ≤ 0)   (h51 : ah_H) (H : Heap) (locs : List Loc) (ls : Array Slot) (w : bk_MO_reads_112 K h51) (hm : ah_m h0 h51) (hW : ah_W G s.heap h51 H locs) (hl : lv_has ls 7 []) : W p l e rm_MO_reads s m args below meth c H locs cells slots (MQ below (va_Qi (fun r9 h9 => K r9 h9 ∧ ah_m h0 h9) (ah_B G) (fun q => G.2.2 ≤ q)) args s 0 0 (fun q => G.2.2 ≤ q)) (F0 m 112 ls []) := by
  unfold bk_MO_reads_112 at w
  obtain ⟨hx, hb, hr, hml, hown, hts, hT, hlk, hK, hX, htb, hin, hst⟩ := id C
  have hw : ∀ {w9 : Cond}, w9 ∈ zx_T → w9.before _ s = true := fun h9 => hts _ (hT _ h9)
  refine lv_iconst (v := 0) hx hb d_MO_reads_112 (by decide) ?_
  exact hb_zret (K := fun r9 h9 => K r9 h9 ∧ ah_m h0 h9) hx hb hr hlk (by decide) hK hX hW ⟨w, hm⟩ (by omega) (by omega) d_MO_reads_113
set_option maxHeartbeats 4000000 in
set_option maxRecDepth 100000 in
theorem tl_MO_reads_155 {p : Program} {l : Launch} {e : Env} {s : State} {m : MethodId} {args : Array Value} {below : List Frame} {meth : Method} {c : Code} {G : zG} (C : cx_C p l s m args meth c G y_MO_reads b_MO_reads 7 (some .boolean) "BigDeskModel" (Cond.code y_MO_reads b_MO_reads 7 (some .boolean) :: zx_T) []) {K : Int32 → ah_H → Prop} {h0 : ah_H} {cells slots : Nat} (hcl : cells + 0 ≤ 0) (hsl : slots + 0 ≤ 0) {xt_186 : Nat → Int32 → Int32 → Int32 → Int32 → Int32 → ah_H → Prop} (hc_xt_186 : ∀ (z0 : Nat) (z1 : Int32) (z2 : Int32) (z3 : Int32) (z4 : Int32) (z5 : Int32) (hz : ah_H) (H : Heap) (locs : List Loc) (ls : Array Slot), xt_186 z0 z1 z2 z3 z4 z5 hz → ah_m h0 hz → ah_W G s.heap hz H locs → lv_has ls 7 [(0, .ref z0), (1, .int z1), (2, .int z2), (3, .int z3), (4, .int z4), (5, .int z5)] → W p l e rm_MO_reads s m args below meth c H locs cells slots (MQ below (va_Qi (fun r9 h9 => K r9 h9 ∧ ah_m h0 h9) (ah_B G) (fun q => G.2.2 ≤ q)) args s 0 0 (fun q => G.2.2 ≤ q)) (F0 m 186 ls [])) : ∀ (n : Nat) (x74 : Nat) (x75 : Int32) (x76 : Int32) (x77 : Int32) (x78 : Int32) (x79 : Int32) (x80 : Int32) (h81 : ah_H) (H : Heap) (locs : List Loc) (ls : Array Slot), lp_MO_reads_155 xt_186 K n x74 x75 x76 x77 x78 x79 x80 h81 → ah_m h0 h81 → ah_W G s.heap h81 H locs → lv_has ls 7 [(0, .ref x74), (1, .int x75), (2, .int x76), (3, .int x77), (4, .int x78), (5, .int x79), (6, .int x80)] → W p l e rm_MO_reads s m args below meth c H locs cells slots (MQ below (va_Qi (fun r9 h9 => K r9 h9 ∧ ah_m h0 h9) (ah_B G) (fun q => G.2.2 ≤ q)) args s 0 0 (fun q => G.2.2 ≤ q)) (F0 m 155 ls []) := by
  obtain ⟨hx, hb, hr, hml, hown, hts, hT, hlk, hK, hX, htb, hin, hst⟩ := id C
  have hw : ∀ {w9 : Cond}, w9 ∈ zx_T → w9.before _ s = true := fun h9 => hts _ (hT _ h9)
  intro n
  induction n with
  | zero =>
    intro x74 x75 x76 x77 x78 x79 x80 h81 H locs ls w
    exact absurd w (by intro z9; exact z9)
  | succ n ih =>
    intro x74 x75 x76 x77 x78 x79 x80 h81 H locs ls w hm hW hl
    unfold lp_MO_reads_155 at w
    refine lv_iload hx hb d_MO_reads_155 (lv_at hl 6 rfl) ?_
    refine lv_iload hx hb d_MO_reads_157 (lv_at hl 4 rfl) ?_
    refine lv_icmp_ge (tgt := 186) hx hb d_MO_reads_159 (by decide) (fun c82 => ?_) (fun c82 => ?_)
    · have w := w.1 c82
      exact hc_xt_186 x74 x75 x76 x77 x78 x79 h81 _ _ _ w hm hW (lv_sub hl [0, 1, 2, 3, 4, 5] rfl)
    · have w := w.2 c82
      refine lv_bipush (v := 10) hx hb d_MO_reads_162 (by decide) ?_
      refine lv_iload hx hb d_MO_reads_164 (lv_at hl 5 rfl) ?_
      refine lv_imul hx hb d_MO_reads_166 ?_
      refine lv_aload_n hx hb d_MO_reads_167 rfl (lv_at hl 0 rfl) ?_
      obtain ⟨t83, w⟩ := w
      obtain ⟨q84, e85, w⟩ := w
      refine hb_get (ci := 4) (C := "BigDeskModel") (T := T_MO) (N := 8) hx hb hts (fun w9 h9 => hT w9 (u_MO w9 h9)) hown hK hW t83 rfl (by decide) 4 (by decide) (hw wd_650) (fun _ h9 => h9) (q := (2, 16)) rfl (v := .ref q84) (ah_f_R e85) d_MO_reads_168 ?_
      refine lv_iload hx hb d_MO_reads_171 (lv_at hl 6 rfl) ?_
      obtain ⟨t86, w⟩ := w
      obtain ⟨i87, w⟩ := w
      refine hb_iald hx hb hK hW t86 (by decide) (by decide) 0 rfl i87 d_MO_reads_173 ?_
      refine lv_iadd hx hb d_MO_reads_174 ?_
      refine lv_bipush (v := 48) hx hb d_MO_reads_175 (by decide) ?_
      refine lv_isub hx hb d_MO_reads_177 ?_
      refine lv_topi (fun v88 ev88 => ?_)
      have w := w v88 ev88
      refine lv_istore (lv' := [(5, .int v88), (0, .ref x74), (1, .int x75), (2, .int x76), (3, .int x77), (4, .int x78), (6, .int x80)]) hx hb d_MO_reads_178 hl (by decide) rfl (fun ls hl => ?_)
      obtain ⟨v89, ev89⟩ : ∃ y9 : Int32, y9 = x80 + 1 := ⟨_, rfl⟩
      have w := w v89 ev89
      refine lv_iinc (v := v89) (lv' := [(6, .int v89), (5, .int v88), (0, .ref x74), (1, .int x75), (2, .int x76), (3, .int x77), (4, .int x78)]) hx hb d_MO_reads_180 hl (k := 6) rfl (by rw [ev89]; rfl) (by decide) rfl (fun ls hl => ?_)
      refine lv_goto (tgt := 155) hx hb d_MO_reads_183 (by decide) ?_
      exact ih x74 x75 x76 x77 x78 v88 v89 h81 _ _ _ w hm hW (lv_sub hl [2, 3, 4, 5, 6, 1, 0] rfl)
set_option maxHeartbeats 4000000 in
set_option maxRecDepth 100000 in
theorem tb_MO_reads_153 {p : Program} {l : Launch} {e : Env} {s : State} {m : MethodId} {args : Array Value} {below : List Frame} {meth : Method} {c : Code} {G : zG} (C : cx_C p l s m args meth c G y_MO_reads b_MO_reads 7 (some .boolean) "BigDeskModel" (Cond.code y_MO_reads b_MO_reads 7 (some .boolean) :: zx_T) []) {K : Int32 → ah_H → Prop} {h0 : ah_H} {cells slots : Nat} (hcl : cells + 0 ≤ 0) (hsl : slots + 0 ≤ 0) {rc_128 : Nat → Int32 → Int32 → Int32 → Int32 → ah_H → Prop} (hc_rc_128 : ∀ (z0 : Nat) (z1 : Int32) (z2 : Int32) (z3 : Int32) (z4 : Int32) (hz : ah_H) (H : Heap) (locs : List Loc) (ls : Array Slot), rc_128 z0 z1 z2 z3 z4 hz → ah_m h0 hz → ah_W G s.heap hz H locs → lv_has ls 7 [(0, .ref z0), (1, .int z1), (2, .int z2), (3, .int z3), (4, .int z4)] → W p l e rm_MO_reads s m args below meth c H locs cells slots (MQ below (va_Qi (fun r9 h9 => K r9 h9 ∧ ah_m h0 h9) (ah_B G) (fun q => G.2.2 ≤ q)) args s 0 0 (fun q => G.2.2 ≤ q)) (F0 m 128 ls [])) (x66 : Nat) (x67 : Int32) (x68 : Int32) (x69 : Int32) (x70 : Int32) (x71 : Int32) (s72 : Int32) (h73 : ah_H) (H : Heap) (locs : List Loc) (ls : Array Slot) (w : bk_MO_reads_153 rc_128 K x66 x67 x68 x69 x70 x71 s72 h73) (hm : ah_m h0 h73) (hW : ah_W G s.heap h73 H locs) (hl : lv_has ls 7 [(0, .ref x66), (1, .int x67), (2, .int x68), (3, .int x69), (4, .int x70), (5, .int x71)]) : W p l e rm_MO_reads s m args below meth c H locs cells slots (MQ below (va_Qi (fun r9 h9 => K r9 h9 ∧ ah_m h0 h9) (ah_B G) (fun q => G.2.2 ≤ q)) args s 0 0 (fun q => G.2.2 ≤ q)) (F0 m 153 ls [.int s72]) := by
  unfold bk_MO_reads_153 at w
  obtain ⟨hx, hb, hr, hml, hown, hts, hT, hlk, hK, hX, htb, hin, hst⟩ := id C
  have hw : ∀ {w9 : Cond}, w9 ∈ zx_T → w9.before _ s = true := fun h9 => hts _ (hT _ h9)
  refine lv_istore (lv' := [(6, .int s72), (0, .ref x66), (1, .int x67), (2, .int x68), (3, .int x69), (4, .int x70), (5, .int x71)]) hx hb d_MO_reads_153 hl (by decide) rfl (fun ls hl => ?_)
  obtain ⟨k108, w⟩ := w
  refine tl_MO_reads_155 C (by omega) (by omega) (fun x90 x91 x92 x93 x94 x95 h96 H locs ls w hm hW hl => ?_) k108 x66 x67 x68 x69 x70 x71 s72 h73 _ _ _ w hm hW (lv_sub hl [1, 2, 3, 4, 5, 6, 0] rfl)
  · refine lv_aload_n hx hb d_MO_reads_186 rfl (lv_at hl 0 rfl) ?_
    obtain ⟨t97, w⟩ := w
    obtain ⟨q98, e99, w⟩ := w
    refine hb_get (ci := 4) (C := "BigDeskModel") (T := T_MO) (N := 8) hx hb hts (fun w9 h9 => hT w9 (u_MO w9 h9)) hown hK hW t97 rfl (by decide) 1 (by decide) (hw wd_647) (fun _ h9 => h9) (q := (2, 13)) rfl (v := .ref q98) (ah_f_R e99) d_MO_reads_187 ?_
    refine lv_sipush (v := 22100) hx hb d_MO_reads_190 (by decide) ?_
    refine lv_iload_n hx hb d_MO_reads_193 rfl (lv_at hl 3 rfl) ?_
    refine lv_iadd hx hb d_MO_reads_194 ?_
    refine lv_iload hx hb d_MO_reads_195 (lv_at hl 5 rfl) ?_
    obtain ⟨t100, w⟩ := w
    obtain ⟨i101, w⟩ := w
    refine hb_iast hx hb hK hW t100 (by decide) (by decide) 0 rfl i101 d_MO_reads_197 (fun H locs h102 eh102 hW => ?_)
    have w := w h102 eh102
    have mm103 : ah_m h96 h102 := ah_m.rf.st (by rw [eh102]; rfl) (by rw [eh102]; rfl)
    have hm := hm.tr mm103
    have t104 := mm103.tg t97 (by decide)
    have t105 := mm103.tg t100 (by decide)
    obtain ⟨v106, ev106⟩ : ∃ y9 : Int32, y9 = x93 + 1 := ⟨_, rfl⟩
    have w := w v106 ev106
    refine lv_iinc (v := v106) (lv' := [(3, .int v106), (0, .ref x90), (1, .int x91), (2, .int x92), (4, .int x94), (5, .int x95)]) hx hb d_MO_reads_198 hl (k := 3) rfl (by rw [ev106]; rfl) (by decide) rfl (fun ls hl => ?_)
    obtain ⟨v107, ev107⟩ : ∃ y9 : Int32, y9 = x94 + (-4) := ⟨_, rfl⟩
    have w := w v107 ev107
    refine lv_iinc (v := v107) (lv' := [(4, .int v107), (3, .int v106), (0, .ref x90), (1, .int x91), (2, .int x92), (5, .int x95)]) hx hb d_MO_reads_201 hl (k := 4) rfl (by rw [ev107]; rfl) (by decide) rfl (fun ls hl => ?_)
    refine lv_goto (tgt := 128) hx hb d_MO_reads_204 (by decide) ?_
    exact hc_rc_128 x90 x91 x92 v106 v107 h102 _ _ _ w hm hW (lv_sub hl [2, 3, 4, 1, 0] rfl)
set_option maxHeartbeats 4000000 in
set_option maxRecDepth 100000 in
theorem tl_MO_reads_128 {p : Program} {l : Launch} {e : Env} {s : State} {m : MethodId} {args : Array Value} {below : List Frame} {meth : Method} {c : Code} {G : zG} (C : cx_C p l s m args meth c G y_MO_reads b_MO_reads 7 (some .boolean) "BigDeskModel" (Cond.code y_MO_reads b_MO_reads 7 (some .boolean) :: zx_T) []) {K : Int32 → ah_H → Prop} {h0 : ah_H} {cells slots : Nat} (hcl : cells + 0 ≤ 0) (hsl : slots + 0 ≤ 0) {xt_207 : Nat → Int32 → Int32 → ah_H → Prop} (hc_xt_207 : ∀ (z0 : Nat) (z1 : Int32) (z2 : Int32) (hz : ah_H) (H : Heap) (locs : List Loc) (ls : Array Slot), xt_207 z0 z1 z2 hz → ah_m h0 hz → ah_W G s.heap hz H locs → lv_has ls 7 [(0, .ref z0), (1, .int z1), (3, .int z2)] → W p l e rm_MO_reads s m args below meth c H locs cells slots (MQ below (va_Qi (fun r9 h9 => K r9 h9 ∧ ah_m h0 h9) (ah_B G) (fun q => G.2.2 ≤ q)) args s 0 0 (fun q => G.2.2 ≤ q)) (F0 m 207 ls [])) : ∀ (n : Nat) (x58 : Nat) (x59 : Int32) (x60 : Int32) (x61 : Int32) (x62 : Int32) (h63 : ah_H) (H : Heap) (locs : List Loc) (ls : Array Slot), lp_MO_reads_128 xt_207 K n x58 x59 x60 x61 x62 h63 → ah_m h0 h63 → ah_W G s.heap h63 H locs → lv_has ls 7 [(0, .ref x58), (1, .int x59), (2, .int x60), (3, .int x61), (4, .int x62)] → W p l e rm_MO_reads s m args below meth c H locs cells slots (MQ below (va_Qi (fun r9 h9 => K r9 h9 ∧ ah_m h0 h9) (ah_B G) (fun q => G.2.2 ≤ q)) args s 0 0 (fun q => G.2.2 ≤ q)) (F0 m 128 ls []) := by
  obtain ⟨hx, hb, hr, hml, hown, hts, hT, hlk, hK, hX, htb, hin, hst⟩ := id C
  have hw : ∀ {w9 : Cond}, w9 ∈ zx_T → w9.before _ s = true := fun h9 => hts _ (hT _ h9)
  intro n
  induction n with
  | zero =>
    intro x58 x59 x60 x61 x62 h63 H locs ls w
    exact absurd w (by intro z9; exact z9)
  | succ n ih =>
    intro x58 x59 x60 x61 x62 h63 H locs ls w hm hW hl
    unfold lp_MO_reads_128 at w
    refine lv_iload hx hb d_MO_reads_128 (lv_at hl 4 rfl) ?_
    refine lv_iload_n hx hb d_MO_reads_130 rfl (lv_at hl 2 rfl) ?_
    refine lv_icmp_le (tgt := 207) hx hb d_MO_reads_131 (by decide) (fun c64 => ?_) (fun c64 => ?_)
    · have w := w.1 c64
      exact hc_xt_207 x58 x59 x61 h63 _ _ _ w hm hW (lv_sub hl [0, 1, 3] rfl)
    · have w := w.2 c64
      refine lv_iconst (v := 0) hx hb d_MO_reads_134 (by decide) ?_
      refine lv_istore (lv' := [(5, .int (0 : Int32)), (0, .ref x58), (1, .int x59), (2, .int x60), (3, .int x61), (4, .int x62)]) hx hb d_MO_reads_135 hl (by decide) rfl (fun ls hl => ?_)
      refine lv_iload hx hb d_MO_reads_137 (lv_at hl 5 rfl) ?_
      refine lv_iconst (v := 4) hx hb d_MO_reads_139 (by decide) ?_
      refine lv_isub hx hb d_MO_reads_140 ?_
      refine lv_iload_n hx hb d_MO_reads_141 rfl (lv_at hl 3 rfl) ?_
      refine lv_icmp_ge (tgt := 149) hx hb d_MO_reads_142 (by decide) (fun c65 => ?_) (fun c65 => ?_)
      · have w := w.1 c65
        refine lv_iload hx hb d_MO_reads_149 (lv_at hl 5 rfl) ?_
        refine lv_iconst (v := 4) hx hb d_MO_reads_151 (by decide) ?_
        refine lv_isub hx hb d_MO_reads_152 ?_
        exact tb_MO_reads_153 C (by omega) (by omega) ih x58 x59 x60 x61 x62 (0 : Int32) (x62 - (4 : Int32)) h63 _ _ _ w hm hW (lv_sub hl [1, 2, 3, 4, 5, 0] rfl)
      · have w := w.2 c65
        refine lv_iload_n hx hb d_MO_reads_145 rfl (lv_at hl 3 rfl) ?_
        refine lv_goto (tgt := 153) hx hb d_MO_reads_146 (by decide) ?_
        exact tb_MO_reads_153 C (by omega) (by omega) ih x58 x59 x60 x61 x62 (0 : Int32) x60 h63 _ _ _ w hm hW (lv_sub hl [1, 2, 3, 4, 5, 0] rfl)
set_option maxHeartbeats 4000000 in
set_option maxRecDepth 100000 in
theorem tb_MO_reads_246 {p : Program} {l : Launch} {e : Env} {s : State} {m : MethodId} {args : Array Value} {below : List Frame} {meth : Method} {c : Code} {G : zG} (C : cx_C p l s m args meth c G y_MO_reads b_MO_reads 7 (some .boolean) "BigDeskModel" (Cond.code y_MO_reads b_MO_reads 7 (some .boolean) :: zx_T) []) {K : Int32 → ah_H → Prop} {h0 : ah_H} {cells slots : Nat} (hcl : cells + 0 ≤ 0) (hsl : slots + 0 ≤ 0)  (s139 : Int32) (h140 : ah_H) (H : Heap) (locs : List Loc) (ls : Array Slot) (w : bk_MO_reads_246 K s139 h140) (hm : ah_m h0 h140) (hW : ah_W G s.heap h140 H locs) (hl : lv_has ls 7 []) : W p l e rm_MO_reads s m args below meth c H locs cells slots (MQ below (va_Qi (fun r9 h9 => K r9 h9 ∧ ah_m h0 h9) (ah_B G) (fun q => G.2.2 ≤ q)) args s 0 0 (fun q => G.2.2 ≤ q)) (F0 m 246 ls [.int s139]) := by
  unfold bk_MO_reads_246 at w
  obtain ⟨hx, hb, hr, hml, hown, hts, hT, hlk, hK, hX, htb, hin, hst⟩ := id C
  have hw : ∀ {w9 : Cond}, w9 ∈ zx_T → w9.before _ s = true := fun h9 => hts _ (hT _ h9)
  obtain ⟨z141, w⟩ := w
  exact hb_zret (K := fun r9 h9 => K r9 h9 ∧ ah_m h0 h9) hx hb hr hlk z141 hK hX hW ⟨w, hm⟩ (by omega) (by omega) d_MO_reads_246
set_option maxHeartbeats 4000000 in
set_option maxRecDepth 100000 in
theorem tb_MO_reads_222 {p : Program} {l : Launch} {e : Env} {s : State} {m : MethodId} {args : Array Value} {below : List Frame} {meth : Method} {c : Code} {G : zG} (C : cx_C p l s m args meth c G y_MO_reads b_MO_reads 7 (some .boolean) "BigDeskModel" (Cond.code y_MO_reads b_MO_reads 7 (some .boolean) :: zx_T) []) {K : Int32 → ah_H → Prop} {h0 : ah_H} {cells slots : Nat} (hcl : cells + 0 ≤ 0) (hsl : slots + 0 ≤ 0)  (x117 : Nat) (x118 : Int32) (s119 : Int32) (s120 : Int32) (s121 : Nat) (h122 : ah_H) (H : Heap) (locs : List Loc) (ls : Array Slot) (w : bk_MO_reads_222 K x117 x118 s119 s120 s121 h122) (hm : ah_m h0 h122) (hW : ah_W G s.heap h122 H locs) (hl : lv_has ls 7 [(0, .ref x117), (3, .int x118)]) : W p l e rm_MO_reads s m args below meth c H locs cells slots (MQ below (va_Qi (fun r9 h9 => K r9 h9 ∧ ah_m h0 h9) (ah_B G) (fun q => G.2.2 ≤ q)) args s 0 0 (fun q => G.2.2 ≤ q)) (F0 m 222 ls [.int s119, .int s120, .ref s121]) := by
  unfold bk_MO_reads_222 at w
  obtain ⟨hx, hb, hr, hml, hown, hts, hT, hlk, hK, hX, htb, hin, hst⟩ := id C
  have hw : ∀ {w9 : Cond}, w9 ∈ zx_T → w9.before _ s = true := fun h9 => hts _ (hT _ h9)
  obtain ⟨t123, w⟩ := w
  obtain ⟨i124, w⟩ := w
  refine hb_iast hx hb hK hW t123 (by decide) (by decide) 0 rfl i124 d_MO_reads_222 (fun H locs h125 eh125 hW => ?_)
  have w := w h125 eh125
  have mm126 : ah_m h122 h125 := ah_m.rf.st (by rw [eh125]; rfl) (by rw [eh125]; rfl)
  have hm := hm.tr mm126
  have t127 := mm126.tg t123 (by decide)
  refine lv_aload_n hx hb d_MO_reads_223 rfl (lv_at hl 0 rfl) ?_
  refine lv_bipush (v := 17) hx hb d_MO_reads_224 (by decide) ?_
  refine lv_iload_n hx hb d_MO_reads_226 rfl (lv_at hl 1 rfl) ?_
  obtain ⟨t128, w⟩ := w
  refine hb_callv (va_runV (As := [.int (17 : Int32), .int x118]) (rest := []) ⟨hx, hb, hml, hown, hts⟩ (m_MO_trim G x117 (17 : Int32) x118 h125 hst w) (cwV 2 hts (zx_gV hT wd_707 wd_709 wd_s19 wd_5 wd_710) rfl rfl rfl (by decide +kernel) ⟨Nat.le_of_ble_eq_true rfl, Nat.le_of_ble_eq_true rfl⟩) (hb_preV hK hX hW t128 (by decide) rfl) rfl rfl hl.1 rfl (lv_room (Nat.le_of_ble_eq_true rfl)) d_MO_reads_227 ⟨(by show _ ≤ 0; omega), (by show _ ≤ 0; omega)⟩) hW (fun h129 H locs hk hW => ?_)
  obtain ⟨w, mm130⟩ := hk
  have w := w mm130
  have hm := hm.tr mm130
  have t131 := mm130.tg t127 (by decide)
  have t132 := mm130.tg t128 (by decide)
  refine lv_aload_n hx hb d_MO_reads_230 rfl (lv_at hl 0 rfl) ?_
  refine lv_bipush (v := 17) hx hb d_MO_reads_231 (by decide) ?_
  refine lv_bipush (v := 12) hx hb d_MO_reads_233 (by decide) ?_
  refine hb_calli (va_runV (As := [.int (17 : Int32), .int (12 : Int32)]) (rest := []) ⟨hx, hb, hml, hown, hts⟩ (m_MO_against G x117 (17 : Int32) (12 : Int32) h129 hst w) (cwV 2 hts (zx_gV hT wd_711 wd_713 wd_s20 wd_5 wd_714) rfl rfl rfl (by decide +kernel) ⟨Nat.le_of_ble_eq_true rfl, Nat.le_of_ble_eq_true rfl⟩) (hb_preV hK hX hW t132 (by decide) rfl) rfl rfl hl.1 rfl (lv_room (Nat.le_of_ble_eq_true rfl)) d_MO_reads_235 ⟨(by show _ ≤ 0; omega), (by show _ ≤ 0; omega)⟩) hW (fun r134 h133 H locs hk hW => ?_)
  obtain ⟨w, mm135⟩ := hk
  have w := w mm135
  have hm := hm.tr mm135
  have t136 := mm135.tg t131 (by decide)
  have t137 := mm135.tg t132 (by decide)
  refine lv_if_ge (tgt := 245) hx hb d_MO_reads_238 (by decide) (fun c138 => ?_) (fun c138 => ?_)
  · have w := w.1 c138
    refine lv_iconst (v := 0) hx hb d_MO_reads_245 (by decide) ?_
    exact tb_MO_reads_246 C (by omega) (by omega)  (0 : Int32) h133 _ _ _ w hm hW (lv_sub hl [] rfl)
  · have w := w.2 c138
    refine lv_iconst (v := 1) hx hb d_MO_reads_241 (by decide) ?_
    refine lv_goto (tgt := 246) hx hb d_MO_reads_242 (by decide) ?_
    exact tb_MO_reads_246 C (by omega) (by omega)  (1 : Int32) h133 _ _ _ w hm hW (lv_sub hl [] rfl)
set_option maxHeartbeats 4000000 in
set_option maxRecDepth 100000 in
theorem tb_MO_reads_80 {p : Program} {l : Launch} {e : Env} {s : State} {m : MethodId} {args : Array Value} {below : List Frame} {meth : Method} {c : Code} {G : zG} (C : cx_C p l s m args meth c G y_MO_reads b_MO_reads 7 (some .boolean) "BigDeskModel" (Cond.code y_MO_reads b_MO_reads 7 (some .boolean) :: zx_T) []) {K : Int32 → ah_H → Prop} {h0 : ah_H} {cells slots : Nat} (hcl : cells + 0 ≤ 0) (hsl : slots + 0 ≤ 0)  (x28 : Nat) (x29 : Int32) (x30 : Int32) (h31 : ah_H) (H : Heap) (locs : List Loc) (ls : Array Slot) (w : bk_MO_reads_80 K x28 x29 x30 h31) (hm : ah_m h0 h31) (hW : ah_W G s.heap h31 H locs) (hl : lv_has ls 7 [(0, .ref x28), (1, .int x29), (2, .int x30)]) : W p l e rm_MO_reads s m args below meth c H locs cells slots (MQ below (va_Qi (fun r9 h9 => K r9 h9 ∧ ah_m h0 h9) (ah_B G) (fun q => G.2.2 ≤ q)) args s 0 0 (fun q => G.2.2 ≤ q)) (F0 m 80 ls []) := by
  unfold bk_MO_reads_80 at w
  obtain ⟨hx, hb, hr, hml, hown, hts, hT, hlk, hK, hX, htb, hin, hst⟩ := id C
  have hw : ∀ {w9 : Cond}, w9 ∈ zx_T → w9.before _ s = true := fun h9 => hts _ (hT _ h9)
  refine lv_iload_n hx hb d_MO_reads_80 rfl (lv_at hl 2 rfl) ?_
  refine lv_istore_n (lv' := [(3, .int x30), (0, .ref x28), (1, .int x29), (2, .int x30)]) hx hb d_MO_reads_81 rfl hl (by decide) rfl (fun ls hl => ?_)
  obtain ⟨k143, w⟩ := w
  refine tl_MO_reads_82 C (by omega) (by omega) (fun  h50 H locs ls w hm hW hl => ?_) (fun x52 x53 x54 h55 H locs ls w hm hW hl => ?_) k143 x28 x29 x30 x30 h31 _ _ _ w hm hW (lv_sub hl [1, 2, 3, 0] rfl)
  · exact tb_MO_reads_112 C (by omega) (by omega)   h50 _ _ _ w hm hW (lv_sub hl [] rfl)
  · refine lv_iconst (v := 0) hx hb d_MO_reads_120 (by decide) ?_
    refine lv_istore_n (lv' := [(3, .int (0 : Int32)), (0, .ref x52), (1, .int x53), (2, .int x54)]) hx hb d_MO_reads_121 rfl hl (by decide) rfl (fun ls hl => ?_)
    refine lv_aload_n hx hb d_MO_reads_122 rfl (lv_at hl 1 rfl) ?_
    obtain ⟨t56, w⟩ := w
    refine hb_get (ci := 4) (C := "BigDeskModel") (T := T_MO) (N := 8) hx hb hts (fun w9 h9 => hT w9 (u_MO w9 h9)) hown hK hW t56 rfl (by decide) 5 (by decide) (hw wd_651) (fun _ h9 => h9) (q := (0, 5)) rfl (v := .int (ah_I h55 5 x52)) rfl d_MO_reads_123 ?_
    refine lv_topi (fun v57 ev57 => ?_)
    have w := w v57 ev57
    refine lv_istore (lv' := [(4, .int v57), (3, .int (0 : Int32)), (0, .ref x52), (1, .int x53), (2, .int x54)]) hx hb d_MO_reads_126 hl (by decide) rfl (fun ls hl => ?_)
    obtain ⟨k142, w⟩ := w
    refine tl_MO_reads_128 C (by omega) (by omega) (fun x109 x110 x111 h112 H locs ls w hm hW hl => ?_) k142 x52 x53 x54 (0 : Int32) v57 h55 _ _ _ w hm hW (lv_sub hl [2, 3, 4, 1, 0] rfl)
    · refine lv_aload_n hx hb d_MO_reads_207 rfl (lv_at hl 0 rfl) ?_
      obtain ⟨t113, w⟩ := w
      obtain ⟨q114, e115, w⟩ := w
      refine hb_get (ci := 4) (C := "BigDeskModel") (T := T_MO) (N := 8) hx hb hts (fun w9 h9 => hT w9 (u_MO w9 h9)) hown hK hW t113 rfl (by decide) 3 (by decide) (hw wd_649) (fun _ h9 => h9) (q := (2, 15)) rfl (v := .ref q114) (ah_f_R e115) d_MO_reads_208 ?_
      refine lv_bipush (v := 17) hx hb d_MO_reads_211 (by decide) ?_
      refine lv_iload_n hx hb d_MO_reads_213 rfl (lv_at hl 1 rfl) ?_
      refine lv_if_eq (tgt := 221) hx hb d_MO_reads_214 (by decide) (fun c116 => ?_) (fun c116 => ?_)
      · have w := w.1 c116
        refine lv_iconst (v := 1) hx hb d_MO_reads_221 (by decide) ?_
        exact tb_MO_reads_222 C (by omega) (by omega)  x109 x111 (1 : Int32) (17 : Int32) q114 h112 _ _ _ w hm hW (lv_sub hl [0, 2] rfl)
      · have w := w.2 c116
        refine lv_iconst (v := -1) hx hb d_MO_reads_217 (by decide) ?_
        refine lv_goto (tgt := 222) hx hb d_MO_reads_218 (by decide) ?_
        exact tb_MO_reads_222 C (by omega) (by omega)  x109 x111 (-1 : Int32) (17 : Int32) q114 h112 _ _ _ w hm hW (lv_sub hl [0, 2] rfl)
set_option maxHeartbeats 4000000 in
set_option maxRecDepth 100000 in
theorem tb_MO_reads_57 {p : Program} {l : Launch} {e : Env} {s : State} {m : MethodId} {args : Array Value} {below : List Frame} {meth : Method} {c : Code} {G : zG} (C : cx_C p l s m args meth c G y_MO_reads b_MO_reads 7 (some .boolean) "BigDeskModel" (Cond.code y_MO_reads b_MO_reads 7 (some .boolean) :: zx_T) []) {K : Int32 → ah_H → Prop} {h0 : ah_H} {cells slots : Nat} (hcl : cells + 0 ≤ 0) (hsl : slots + 0 ≤ 0)  (x18 : Nat) (x19 : Int32) (x20 : Int32) (h21 : ah_H) (H : Heap) (locs : List Loc) (ls : Array Slot) (w : bk_MO_reads_57 K x18 x19 x20 h21) (hm : ah_m h0 h21) (hW : ah_W G s.heap h21 H locs) (hl : lv_has ls 7 [(0, .ref x18), (1, .int x19), (2, .int x20)]) : W p l e rm_MO_reads s m args below meth c H locs cells slots (MQ below (va_Qi (fun r9 h9 => K r9 h9 ∧ ah_m h0 h9) (ah_B G) (fun q => G.2.2 ≤ q)) args s 0 0 (fun q => G.2.2 ≤ q)) (F0 m 57 ls []) := by
  unfold bk_MO_reads_57 at w
  obtain ⟨hx, hb, hr, hml, hown, hts, hT, hlk, hK, hX, htb, hin, hst⟩ := id C
  have hw : ∀ {w9 : Cond}, w9 ∈ zx_T → w9.before _ s = true := fun h9 => hts _ (hT _ h9)
  refine lv_aload_n hx hb d_MO_reads_57 rfl (lv_at hl 0 rfl) ?_
  obtain ⟨t22, w⟩ := w
  obtain ⟨q23, e24, w⟩ := w
  refine hb_get (ci := 4) (C := "BigDeskModel") (T := T_MO) (N := 8) hx hb hts (fun w9 h9 => hT w9 (u_MO w9 h9)) hown hK hW t22 rfl (by decide) 4 (by decide) (hw wd_650) (fun _ h9 => h9) (q := (2, 16)) rfl (v := .ref q23) (ah_f_R e24) d_MO_reads_58 ?_
  refine lv_iload_n hx hb d_MO_reads_61 rfl (lv_at hl 2 rfl) ?_
  obtain ⟨t25, w⟩ := w
  obtain ⟨i26, w⟩ := w
  refine hb_iald hx hb hK hW t25 (by decide) (by decide) 0 rfl i26 d_MO_reads_62 ?_
  refine lv_bipush (v := 48) hx hb d_MO_reads_63 (by decide) ?_
  refine lv_icmp_ne (tgt := 80) hx hb d_MO_reads_65 (by decide) (fun c27 => ?_) (fun c27 => ?_)
  · have w := w.1 c27
    exact tb_MO_reads_80 C (by omega) (by omega)  x18 x19 x20 h21 _ _ _ w hm hW (lv_sub hl [0, 1, 2] rfl)
  · have w := w.2 c27
    refine lv_aload_n hx hb d_MO_reads_68 rfl (lv_at hl 0 rfl) ?_
    refine hb_get (ci := 4) (C := "BigDeskModel") (T := T_MO) (N := 8) hx hb hts (fun w9 h9 => hT w9 (u_MO w9 h9)) hown hK hW t22 rfl (by decide) 5 (by decide) (hw wd_651) (fun _ h9 => h9) (q := (0, 5)) rfl (v := .int (ah_I h21 5 x18)) rfl d_MO_reads_69 ?_
    refine lv_iload_n hx hb d_MO_reads_72 rfl (lv_at hl 2 rfl) ?_
    refine lv_iconst (v := 1) hx hb d_MO_reads_73 (by decide) ?_
    refine lv_iadd hx hb d_MO_reads_74 ?_
    refine lv_icmp_le (tgt := 80) hx hb d_MO_reads_75 (by decide) (fun c144 => ?_) (fun c144 => ?_)
    · have w := w.1 c144
      exact tb_MO_reads_80 C (by omega) (by omega)  x18 x19 x20 h21 _ _ _ w hm hW (lv_sub hl [0, 1, 2] rfl)
    · have w := w.2 c144
      exact tb_MO_reads_78 C (by omega) (by omega)   h21 _ _ _ w hm hW (lv_sub hl [] rfl)
set_option maxHeartbeats 4000000 in
set_option maxRecDepth 100000 in
theorem tb_MO_reads_33 {p : Program} {l : Launch} {e : Env} {s : State} {m : MethodId} {args : Array Value} {below : List Frame} {meth : Method} {c : Code} {G : zG} (C : cx_C p l s m args meth c G y_MO_reads b_MO_reads 7 (some .boolean) "BigDeskModel" (Cond.code y_MO_reads b_MO_reads 7 (some .boolean) :: zx_T) []) {K : Int32 → ah_H → Prop} {h0 : ah_H} {cells slots : Nat} (hcl : cells + 0 ≤ 0) (hsl : slots + 0 ≤ 0)  (x10 : Nat) (x11 : Int32) (s12 : Int32) (h13 : ah_H) (H : Heap) (locs : List Loc) (ls : Array Slot) (w : bk_MO_reads_33 K x10 x11 s12 h13) (hm : ah_m h0 h13) (hW : ah_W G s.heap h13 H locs) (hl : lv_has ls 7 [(0, .ref x10), (1, .int x11)]) : W p l e rm_MO_reads s m args below meth c H locs cells slots (MQ below (va_Qi (fun r9 h9 => K r9 h9 ∧ ah_m h0 h9) (ah_B G) (fun q => G.2.2 ≤ q)) args s 0 0 (fun q => G.2.2 ≤ q)) (F0 m 33 ls [.int s12]) := by
  unfold bk_MO_reads_33 at w
  obtain ⟨hx, hb, hr, hml, hown, hts, hT, hlk, hK, hX, htb, hin, hst⟩ := id C
  have hw : ∀ {w9 : Cond}, w9 ∈ zx_T → w9.before _ s = true := fun h9 => hts _ (hT _ h9)
  refine lv_istore_n (lv' := [(2, .int s12), (0, .ref x10), (1, .int x11)]) hx hb d_MO_reads_33 rfl hl (by decide) rfl (fun ls hl => ?_)
  refine lv_aload_n hx hb d_MO_reads_34 rfl (lv_at hl 1 rfl) ?_
  obtain ⟨t14, w⟩ := w
  refine hb_get (ci := 4) (C := "BigDeskModel") (T := T_MO) (N := 8) hx hb hts (fun w9 h9 => hT w9 (u_MO w9 h9)) hown hK hW t14 rfl (by decide) 5 (by decide) (hw wd_651) (fun _ h9 => h9) (q := (0, 5)) rfl (v := .int (ah_I h13 5 x10)) rfl d_MO_reads_35 ?_
  refine lv_iload_n hx hb d_MO_reads_38 rfl (lv_at hl 0 rfl) ?_
  refine lv_icmp_eq (tgt := 78) hx hb d_MO_reads_39 (by decide) (fun c15 => ?_) (fun c15 => ?_)
  · have w := w.1 c15
    exact tb_MO_reads_78 C (by omega) (by omega)   h13 _ _ _ w hm hW (lv_sub hl [] rfl)
  · have w := w.2 c15
    refine lv_iload_n hx hb d_MO_reads_42 rfl (lv_at hl 2 rfl) ?_
    refine lv_if_eq (tgt := 57) hx hb d_MO_reads_43 (by decide) (fun c17 => ?_) (fun c17 => ?_)
    · have w := w.1 c17
      exact tb_MO_reads_57 C (by omega) (by omega)  x10 x11 s12 h13 _ _ _ w hm hW (lv_sub hl [1, 2, 0] rfl)
    · have w := w.2 c17
      refine lv_aload_n hx hb d_MO_reads_46 rfl (lv_at hl 1 rfl) ?_
      obtain ⟨q145, e146, w⟩ := w
      refine hb_get (ci := 4) (C := "BigDeskModel") (T := T_MO) (N := 8) hx hb hts (fun w9 h9 => hT w9 (u_MO w9 h9)) hown hK hW t14 rfl (by decide) 4 (by decide) (hw wd_650) (fun _ h9 => h9) (q := (2, 16)) rfl (v := .ref q145) (ah_f_R e146) d_MO_reads_47 ?_
      refine lv_iconst (v := 1) hx hb d_MO_reads_50 (by decide) ?_
      obtain ⟨t147, w⟩ := w
      obtain ⟨i148, w⟩ := w
      refine hb_iald hx hb hK hW t147 (by decide) (by decide) 0 rfl i148 d_MO_reads_51 ?_
      refine lv_bipush (v := 48) hx hb d_MO_reads_52 (by decide) ?_
      refine lv_icmp_eq (tgt := 78) hx hb d_MO_reads_54 (by decide) (fun c149 => ?_) (fun c149 => ?_)
      · have w := w.1 c149
        exact tb_MO_reads_78 C (by omega) (by omega)   h13 _ _ _ w hm hW (lv_sub hl [] rfl)
      · have w := w.2 c149
        exact tb_MO_reads_57 C (by omega) (by omega)  x10 x11 s12 h13 _ _ _ w hm hW (lv_sub hl [1, 2, 0] rfl)
set_option maxHeartbeats 4000000 in
set_option maxRecDepth 100000 in
theorem tb_MO_reads_23 {p : Program} {l : Launch} {e : Env} {s : State} {m : MethodId} {args : Array Value} {below : List Frame} {meth : Method} {c : Code} {G : zG} (C : cx_C p l s m args meth c G y_MO_reads b_MO_reads 7 (some .boolean) "BigDeskModel" (Cond.code y_MO_reads b_MO_reads 7 (some .boolean) :: zx_T) []) {K : Int32 → ah_H → Prop} {h0 : ah_H} {cells slots : Nat} (hcl : cells + 0 ≤ 0) (hsl : slots + 0 ≤ 0)  (x6 : Nat) (s7 : Int32) (h8 : ah_H) (H : Heap) (locs : List Loc) (ls : Array Slot) (w : bk_MO_reads_23 K x6 s7 h8) (hm : ah_m h0 h8) (hW : ah_W G s.heap h8 H locs) (hl : lv_has ls 7 [(0, .ref x6)]) : W p l e rm_MO_reads s m args below meth c H locs cells slots (MQ below (va_Qi (fun r9 h9 => K r9 h9 ∧ ah_m h0 h9) (ah_B G) (fun q => G.2.2 ≤ q)) args s 0 0 (fun q => G.2.2 ≤ q)) (F0 m 23 ls [.int s7]) := by
  unfold bk_MO_reads_23 at w
  obtain ⟨hx, hb, hr, hml, hown, hts, hT, hlk, hK, hX, htb, hin, hst⟩ := id C
  have hw : ∀ {w9 : Cond}, w9 ∈ zx_T → w9.before _ s = true := fun h9 => hts _ (hT _ h9)
  refine lv_istore_n (lv' := [(1, .int s7), (0, .ref x6)]) hx hb d_MO_reads_23 rfl hl (by decide) rfl (fun ls hl => ?_)
  refine lv_iload_n hx hb d_MO_reads_24 rfl (lv_at hl 0 rfl) ?_
  refine lv_if_eq (tgt := 32) hx hb d_MO_reads_25 (by decide) (fun c9 => ?_) (fun c9 => ?_)
  · have w := w.1 c9
    refine lv_iconst (v := 0) hx hb d_MO_reads_32 (by decide) ?_
    exact tb_MO_reads_33 C (by omega) (by omega)  x6 s7 (0 : Int32) h8 _ _ _ w hm hW (lv_sub hl [1, 0] rfl)
  · have w := w.2 c9
    refine lv_iconst (v := 1) hx hb d_MO_reads_28 (by decide) ?_
    refine lv_goto (tgt := 33) hx hb d_MO_reads_29 (by decide) ?_
    exact tb_MO_reads_33 C (by omega) (by omega)  x6 s7 (1 : Int32) h8 _ _ _ w hm hW (lv_sub hl [1, 0] rfl)
set_option maxHeartbeats 4000000 in
set_option maxRecDepth 100000 in
theorem tb_MO_reads_22 {p : Program} {l : Launch} {e : Env} {s : State} {m : MethodId} {args : Array Value} {below : List Frame} {meth : Method} {c : Code} {G : zG} (C : cx_C p l s m args meth c G y_MO_reads b_MO_reads 7 (some .boolean) "BigDeskModel" (Cond.code y_MO_reads b_MO_reads 7 (some .boolean) :: zx_T) []) {K : Int32 → ah_H → Prop} {h0 : ah_H} {cells slots : Nat} (hcl : cells + 0 ≤ 0) (hsl : slots + 0 ≤ 0)  (x4 : Nat) (h5 : ah_H) (H : Heap) (locs : List Loc) (ls : Array Slot) (w : bk_MO_reads_22 K x4 h5) (hm : ah_m h0 h5) (hW : ah_W G s.heap h5 H locs) (hl : lv_has ls 7 [(0, .ref x4)]) : W p l e rm_MO_reads s m args below meth c H locs cells slots (MQ below (va_Qi (fun r9 h9 => K r9 h9 ∧ ah_m h0 h9) (ah_B G) (fun q => G.2.2 ≤ q)) args s 0 0 (fun q => G.2.2 ≤ q)) (F0 m 22 ls []) := by
  unfold bk_MO_reads_22 at w
  obtain ⟨hx, hb, hr, hml, hown, hts, hT, hlk, hK, hX, htb, hin, hst⟩ := id C
  have hw : ∀ {w9 : Cond}, w9 ∈ zx_T → w9.before _ s = true := fun h9 => hts _ (hT _ h9)
  refine lv_iconst (v := 0) hx hb d_MO_reads_22 (by decide) ?_
  exact tb_MO_reads_23 C (by omega) (by omega)  x4 (0 : Int32) h5 _ _ _ w hm hW (lv_sub hl [0] rfl)
set_option maxHeartbeats 4000000 in
set_option maxRecDepth 100000 in
theorem m_MO_reads {l : Launch} (G : zG) (a1 : Nat) (h0 : ah_H) {K : Int32 → ah_H → Prop} (hst : l.stackTraces = false) (w : w_MO_reads a1 h0 K) : Met l y_MO_reads (Cond.code y_MO_reads b_MO_reads 7 (some .boolean) :: zx_T) rm_MO_reads (va_Pc [.ref a1] (ah_B G h0)) (va_Qi (fun r9 h9 => K r9 h9 ∧ ah_m h0 h9) (ah_B G) (fun q => G.2.2 ≤ q)) 0 0 (fun q => G.2.2 ≤ q) := by
  refine Met.ofW (cc := b_MO_reads) (maxL := 7) (ret := (some .boolean)) (by decide) rfl ?_
  intro p e s m args below meth c s₁ B hml hv
  have htb := cx_out B (atoms_spec B.pre _ List.mem_cons_self)
  obtain ⟨rfl, hB⟩ := hv
  have C : cx_C p l s m _ meth c G y_MO_reads b_MO_reads 7 (some .boolean) "BigDeskModel" (Cond.code y_MO_reads b_MO_reads 7 (some .boolean) :: zx_T) [] := ⟨B.exec, B.bytes, B.returns, hml, findClass_of_methodNamed B.named, atoms_spec B.pre, cx_hd, B.notSynchronized, hB.2.2.1, hB.2.2.2, htb, fun z9 => (name_of_methodNamed B.named B.method).1.trans z9, hst⟩
  obtain ⟨hx, hb, hr, hml, hown, hts, hT, hlk, hK, hX, htb, hin, hst⟩ := id C
  have hw : ∀ {w9 : Cond}, w9 ∈ zx_T → w9.before _ s = true := fun h9 => hts _ (hT _ h9)
  have hW : ah_W G s.heap h0 s.heap [] := ⟨hB.1, hB.2.1, va_S.rf⟩
  have hm : ah_m h0 h0 := ah_m.rf
  have hcl : 0 + 0 ≤ 0 := by decide
  have hsl : 0 + 0 ≤ 0 := by decide
  have hl := lv_entry ([.ref a1]) (n := 7) (Nat.le_of_ble_eq_true rfl)
  rw [lg_entry_eq]
  generalize (lg_sl ([.ref a1]) ++ List.replicate (7 - (lg_sl ([.ref a1])).length) Slot.unset).toArray = ls at hl ⊢
  have hl : lv_has ls 7 [(0, .ref a1)] := hl
  unfold w_MO_reads at w
  refine lv_aload_n hx hb d_MO_reads_0 rfl (lv_at hl 0 rfl) ?_
  obtain ⟨t2, w⟩ := w
  refine hb_get (ci := 4) (C := "BigDeskModel") (T := T_MO) (N := 8) hx hb hts (fun w9 h9 => hT w9 (u_MO w9 h9)) hown hK hW t2 rfl (by decide) 5 (by decide) (hw wd_651) (fun _ h9 => h9) (q := (0, 5)) rfl (v := .int (ah_I h0 5 a1)) rfl d_MO_reads_1 ?_
  refine lv_if_le (tgt := 22) hx hb d_MO_reads_4 (by decide) (fun c3 => ?_) (fun c3 => ?_)
  · have w := w.1 c3
    exact tb_MO_reads_22 C (by omega) (by omega)  a1 h0 _ _ _ w hm hW (lv_sub hl [0] rfl)
  · have w := w.2 c3
    refine lv_aload_n hx hb d_MO_reads_7 rfl (lv_at hl 0 rfl) ?_
    obtain ⟨q150, e151, w⟩ := w
    refine hb_get (ci := 4) (C := "BigDeskModel") (T := T_MO) (N := 8) hx hb hts (fun w9 h9 => hT w9 (u_MO w9 h9)) hown hK hW t2 rfl (by decide) 4 (by decide) (hw wd_650) (fun _ h9 => h9) (q := (2, 16)) rfl (v := .ref q150) (ah_f_R e151) d_MO_reads_8 ?_
    refine lv_iconst (v := 0) hx hb d_MO_reads_11 (by decide) ?_
    obtain ⟨t152, w⟩ := w
    obtain ⟨i153, w⟩ := w
    refine hb_iald hx hb hK hW t152 (by decide) (by decide) 0 rfl i153 d_MO_reads_12 ?_
    refine lv_bipush (v := 45) hx hb d_MO_reads_13 (by decide) ?_
    refine lv_icmp_ne (tgt := 22) hx hb d_MO_reads_15 (by decide) (fun c154 => ?_) (fun c154 => ?_)
    · have w := w.1 c154
      exact tb_MO_reads_22 C (by omega) (by omega)  a1 h0 _ _ _ w hm hW (lv_sub hl [0] rfl)
    · have w := w.2 c154
      refine lv_iconst (v := 1) hx hb d_MO_reads_18 (by decide) ?_
      refine lv_goto (tgt := 23) hx hb d_MO_reads_19 (by decide) ?_
      exact tb_MO_reads_23 C (by omega) (by omega)  a1 (1 : Int32) h0 _ _ _ w hm hW (lv_sub hl [0] rfl)
set_option maxHeartbeats 4000000 in
set_option maxRecDepth 100000 in
theorem tb_MO_read_35 {p : Program} {l : Launch} {e : Env} {s : State} {m : MethodId} {args : Array Value} {below : List Frame} {meth : Method} {c : Code} {G : zG} (C : cx_C p l s m args meth c G y_MO_read b_MO_read 3 (some .boolean) "BigDeskModel" (Cond.code y_MO_read b_MO_read 3 (some .boolean) :: zx_T) []) {K : Int32 → ah_H → Prop} {h0 : ah_H} {cells slots : Nat} (hcl : cells + 0 ≤ 0) (hsl : slots + 0 ≤ 0)  (x20 : Int32) (h21 : ah_H) (H : Heap) (locs : List Loc) (ls : Array Slot) (w : bk_MO_read_35 K x20 h21) (hm : ah_m h0 h21) (hW : ah_W G s.heap h21 H locs) (hl : lv_has ls 3 [(2, .int x20)]) : W p l e rm_MO_read s m args below meth c H locs cells slots (MQ below (va_Qi (fun r9 h9 => K r9 h9 ∧ ah_m h0 h9) (ah_B G) (fun q => G.2.2 ≤ q)) args s 0 0 (fun q => G.2.2 ≤ q)) (F0 m 35 ls []) := by
  unfold bk_MO_read_35 at w
  obtain ⟨hx, hb, hr, hml, hown, hts, hT, hlk, hK, hX, htb, hin, hst⟩ := id C
  have hw : ∀ {w9 : Cond}, w9 ∈ zx_T → w9.before _ s = true := fun h9 => hts _ (hT _ h9)
  refine lv_iload_n hx hb d_MO_read_35 rfl (lv_at hl 0 rfl) ?_
  obtain ⟨z22, w⟩ := w
  exact hb_zret (K := fun r9 h9 => K r9 h9 ∧ ah_m h0 h9) hx hb hr hlk z22 hK hX hW ⟨w, hm⟩ (by omega) (by omega) d_MO_read_36
set_option maxHeartbeats 4000000 in
set_option maxRecDepth 100000 in
theorem m_MO_read {l : Launch} (G : zG) (a1 : Nat) (a2 : Int32) (h0 : ah_H) {K : Int32 → ah_H → Prop} (hst : l.stackTraces = false) (w : w_MO_read a1 a2 h0 K) : Met l y_MO_read (Cond.code y_MO_read b_MO_read 3 (some .boolean) :: zx_T) rm_MO_read (va_Pc [.ref a1, .int a2] (ah_B G h0)) (va_Qi (fun r9 h9 => K r9 h9 ∧ ah_m h0 h9) (ah_B G) (fun q => G.2.2 ≤ q)) 0 0 (fun q => G.2.2 ≤ q) := by
  refine Met.ofW (cc := b_MO_read) (maxL := 3) (ret := (some .boolean)) (by decide) rfl ?_
  intro p e s m args below meth c s₁ B hml hv
  have htb := cx_out B (atoms_spec B.pre _ List.mem_cons_self)
  obtain ⟨rfl, hB⟩ := hv
  have C : cx_C p l s m _ meth c G y_MO_read b_MO_read 3 (some .boolean) "BigDeskModel" (Cond.code y_MO_read b_MO_read 3 (some .boolean) :: zx_T) [] := ⟨B.exec, B.bytes, B.returns, hml, findClass_of_methodNamed B.named, atoms_spec B.pre, cx_hd, B.notSynchronized, hB.2.2.1, hB.2.2.2, htb, fun z9 => (name_of_methodNamed B.named B.method).1.trans z9, hst⟩
  obtain ⟨hx, hb, hr, hml, hown, hts, hT, hlk, hK, hX, htb, hin, hst⟩ := id C
  have hw : ∀ {w9 : Cond}, w9 ∈ zx_T → w9.before _ s = true := fun h9 => hts _ (hT _ h9)
  have hW : ah_W G s.heap h0 s.heap [] := ⟨hB.1, hB.2.1, va_S.rf⟩
  have hm : ah_m h0 h0 := ah_m.rf
  have hcl : 0 + 0 ≤ 0 := by decide
  have hsl : 0 + 0 ≤ 0 := by decide
  have hl := lv_entry ([.ref a1, .int a2]) (n := 3) (Nat.le_of_ble_eq_true rfl)
  rw [lg_entry_eq]
  generalize (lg_sl ([.ref a1, .int a2]) ++ List.replicate (3 - (lg_sl ([.ref a1, .int a2])).length) Slot.unset).toArray = ls at hl ⊢
  have hl : lv_has ls 3 [(0, .ref a1), (1, .int a2)] := hl
  unfold w_MO_read at w
  refine lv_aload_n hx hb d_MO_read_0 rfl (lv_at hl 0 rfl) ?_
  refine lv_iload_n hx hb d_MO_read_1 rfl (lv_at hl 1 rfl) ?_
  refine hb_calli (va_runS (As := [.int a2]) (rest := [.ref a1]) ⟨hx, hb, hml, hown, hts⟩ (m_MO_isNone G a2 h0 hst w) (va_cwS 1 hts (zx_gS hT wd_680 wd_681 wd_5 wd_682) rfl rfl rfl (by decide +kernel) ⟨Nat.le_of_ble_eq_true rfl, Nat.le_of_ble_eq_true rfl⟩) (hb_preS hK hX hW) rfl rfl hl.1 rfl (lv_room (Nat.le_of_ble_eq_true rfl)) d_MO_read_2 ⟨(by show _ ≤ 0; omega), (by show _ ≤ 0; omega)⟩) hW (fun r4 h3 H locs hk hW => ?_)
  obtain ⟨w, mm5⟩ := hk
  have w := w mm5
  have hm := hm.tr mm5
  refine lv_iconst (v := 1) hx hb d_MO_read_5 (by decide) ?_
  obtain ⟨t6, w⟩ := w
  refine hb_calli (va_runV (As := [.int r4, .int (1 : Int32)]) (rest := []) ⟨hx, hb, hml, hown, hts⟩ (m_MO_fails G a1 r4 (1 : Int32) h3 hst w) (cwV 2 hts (zx_gV hT wd_683 wd_685 wd_s15 wd_5 wd_686) rfl rfl rfl (by decide +kernel) ⟨Nat.le_of_ble_eq_true rfl, Nat.le_of_ble_eq_true rfl⟩) (hb_preV hK hX hW t6 (by decide) rfl) rfl rfl hl.1 rfl (lv_room (Nat.le_of_ble_eq_true rfl)) d_MO_read_6 ⟨(by show _ ≤ 0; omega), (by show _ ≤ 0; omega)⟩) hW (fun r8 h7 H locs hk hW => ?_)
  obtain ⟨w, mm9⟩ := hk
  have w := w mm9
  have hm := hm.tr mm9
  have t10 := mm9.tg t6 (by decide)
  refine lv_if_eq (tgt := 14) hx hb d_MO_read_9 (by decide) (fun c11 => ?_) (fun c11 => ?_)
  · have w := w.1 c11
    refine lv_aload_n hx hb d_MO_read_14 rfl (lv_at hl 0 rfl) ?_
    refine hb_calli (va_runV (As := []) (rest := []) ⟨hx, hb, hml, hown, hts⟩ (m_MO_reads G a1 h7 hst w) (cwV 0 hts (zx_gV hT wd_825 wd_827 wd_s30 wd_5 wd_828) rfl rfl rfl (by decide +kernel) ⟨Nat.le_of_ble_eq_true rfl, Nat.le_of_ble_eq_true rfl⟩) (hb_preV hK hX hW t10 (by decide) rfl) rfl rfl hl.1 rfl (lv_room (Nat.le_of_ble_eq_true rfl)) d_MO_read_15 ⟨(by show _ ≤ 0; omega), (by show _ ≤ 0; omega)⟩) hW (fun r13 h12 H locs hk hW => ?_)
    obtain ⟨w, mm14⟩ := hk
    have w := w mm14
    have hm := hm.tr mm14
    have t15 := mm14.tg t10 (by decide)
    refine lv_istore_n (lv' := [(2, .int r13), (0, .ref a1), (1, .int a2)]) hx hb d_MO_read_18 rfl hl (by decide) rfl (fun ls hl => ?_)
    refine lv_aload_n hx hb d_MO_read_19 rfl (lv_at hl 1 rfl) ?_
    refine lv_iconst (v := 0) hx hb d_MO_read_20 (by decide) ?_
    refine hb_put (ci := 4) (C := "BigDeskModel") (T := T_MO) (N := 8) hx hb hts (fun w9 h9 => hT w9 (u_MO w9 h9)) t_MO o_MO n_MO hown hK hW t15 rfl (by decide) 5 (by decide) (hw wd_651) (fun _ h9 => h9) rfl (ty := t_MO 5) (by decide +kernel) (q := (0, 5)) rfl (by decide) (v := .int (0 : Int32)) rfl rfl (ah_one_I h12 5 a1 (0 : Int32)) d_MO_read_21 (fun H locs h16 eh16 hW => ?_)
    have w := w h16 eh16
    have mm17 : ah_m h12 h16 := ah_m.rf.st (by rw [eh16]; rfl) (by rw [eh16]; rfl)
    have hm := hm.tr mm17
    have t18 := mm17.tg t15 (by decide)
    refine lv_iload_n hx hb d_MO_read_24 rfl (lv_at hl 0 rfl) ?_
    refine lv_if_eq (tgt := 35) hx hb d_MO_read_25 (by decide) (fun c19 => ?_) (fun c19 => ?_)
    · have w := w.1 c19
      exact tb_MO_read_35 C (by omega) (by omega)  r13 h16 _ _ _ w hm hW (lv_sub hl [0] rfl)
    · have w := w.2 c19
      refine lv_aload_n hx hb d_MO_read_28 rfl (lv_at hl 1 rfl) ?_
      refine lv_iload_n hx hb d_MO_read_29 rfl (lv_at hl 2 rfl) ?_
      refine lv_bipush (v := 17) hx hb d_MO_read_30 (by decide) ?_
      refine hb_callv (va_runV (As := [.int a2, .int (17 : Int32)]) (rest := []) ⟨hx, hb, hml, hown, hts⟩ (m_MO_copyRow G a1 a2 (17 : Int32) h16 hst w) (cwV 2 hts (zx_gV hT wd_691 wd_693 wd_s16 wd_5 wd_694) rfl rfl rfl (by decide +kernel) ⟨Nat.le_of_ble_eq_true rfl, Nat.le_of_ble_eq_true rfl⟩) (hb_preV hK hX hW t18 (by decide) rfl) rfl rfl hl.1 rfl (lv_room (Nat.le_of_ble_eq_true rfl)) d_MO_read_32 ⟨(by show _ ≤ 0; omega), (by show _ ≤ 0; omega)⟩) hW (fun h23 H locs hk hW => ?_)
      obtain ⟨w, mm24⟩ := hk
      have w := w mm24
      have hm := hm.tr mm24
      have t25 := mm24.tg t18 (by decide)
      exact tb_MO_read_35 C (by omega) (by omega)  r13 h23 _ _ _ w hm hW (lv_sub hl [0] rfl)
  · have w := w.2 c11
    refine lv_iconst (v := 0) hx hb d_MO_read_12 (by decide) ?_
    exact hb_zret (K := fun r9 h9 => K r9 h9 ∧ ah_m h0 h9) hx hb hr hlk (by decide) hK hX hW ⟨w, hm⟩ (by omega) (by omega) d_MO_read_13
set_option maxHeartbeats 4000000 in
set_option maxRecDepth 100000 in
theorem m_MO_say {l : Launch} (G : zG) (a1 : Nat) (a2 : Int32) (h0 : ah_H) {K : ah_H → Prop} (hst : l.stackTraces = false) (w : w_MO_say a1 a2 h0 K) : Met l y_MO_say (Cond.code y_MO_say b_MO_say 2 none :: zx_T) rm_MO_say (va_Pc [.ref a1, .int a2] (ah_B G h0)) (va_Qv (fun h9 => K h9 ∧ ah_m h0 h9) (ah_B G) (fun q => G.2.2 ≤ q)) 0 0 (fun q => G.2.2 ≤ q) := by
  refine Met.ofW (cc := b_MO_say) (maxL := 2) (ret := none) (by decide) rfl ?_
  intro p e s m args below meth c s₁ B hml hv
  have htb := cx_out B (atoms_spec B.pre _ List.mem_cons_self)
  obtain ⟨rfl, hB⟩ := hv
  have C : cx_C p l s m _ meth c G y_MO_say b_MO_say 2 none "BigDeskModel" (Cond.code y_MO_say b_MO_say 2 none :: zx_T) [] := ⟨B.exec, B.bytes, B.returns, hml, findClass_of_methodNamed B.named, atoms_spec B.pre, cx_hd, B.notSynchronized, hB.2.2.1, hB.2.2.2, htb, fun z9 => (name_of_methodNamed B.named B.method).1.trans z9, hst⟩
  obtain ⟨hx, hb, hr, hml, hown, hts, hT, hlk, hK, hX, htb, hin, hst⟩ := id C
  have hw : ∀ {w9 : Cond}, w9 ∈ zx_T → w9.before _ s = true := fun h9 => hts _ (hT _ h9)
  have hW : ah_W G s.heap h0 s.heap [] := ⟨hB.1, hB.2.1, va_S.rf⟩
  have hm : ah_m h0 h0 := ah_m.rf
  have hcl : 0 + 0 ≤ 0 := by decide
  have hsl : 0 + 0 ≤ 0 := by decide
  have hl := lv_entry ([.ref a1, .int a2]) (n := 2) (Nat.le_of_ble_eq_true rfl)
  rw [lg_entry_eq]
  generalize (lg_sl ([.ref a1, .int a2]) ++ List.replicate (2 - (lg_sl ([.ref a1, .int a2])).length) Slot.unset).toArray = ls at hl ⊢
  have hl : lv_has ls 2 [(0, .ref a1), (1, .int a2)] := hl
  unfold w_MO_say at w
  refine lv_aload_n hx hb d_MO_say_0 rfl (lv_at hl 0 rfl) ?_
  obtain ⟨t3, w⟩ := w
  obtain ⟨q4, e5, w⟩ := w
  refine hb_get (ci := 4) (C := "BigDeskModel") (T := T_MO) (N := 8) hx hb hts (fun w9 h9 => hT w9 (u_MO w9 h9)) hown hK hW t3 rfl (by decide) 6 (by decide) (hw wd_652) (fun _ h9 => h9) (q := (2, 17)) rfl (v := .ref q4) (ah_f_R e5) d_MO_say_1 ?_
  refine lv_aload_n hx hb d_MO_say_4 rfl (lv_at hl 0 rfl) ?_
  refine hb_get (ci := 4) (C := "BigDeskModel") (T := T_MO) (N := 8) hx hb hts (fun w9 h9 => hT w9 (u_MO w9 h9)) hown hK hW t3 rfl (by decide) 7 (by decide) (hw wd_653) (fun _ h9 => h9) (q := (0, 6)) rfl (v := .int (ah_I h0 6 a1)) rfl d_MO_say_5 ?_
  refine lv_iload_n hx hb d_MO_say_8 rfl (lv_at hl 1 rfl) ?_
  obtain ⟨t6, w⟩ := w
  obtain ⟨i7, w⟩ := w
  refine hb_iast hx hb hK hW t6 (by decide) (by decide) 0 rfl i7 d_MO_say_9 (fun H locs h8 eh8 hW => ?_)
  have w := w h8 eh8
  have mm9 : ah_m h0 h8 := ah_m.rf.st (by rw [eh8]; rfl) (by rw [eh8]; rfl)
  have hm := hm.tr mm9
  have t10 := mm9.tg t3 (by decide)
  have t11 := mm9.tg t6 (by decide)
  refine lv_aload_n hx hb d_MO_say_10 rfl (lv_at hl 0 rfl) ?_
  refine lv_dup hx hb d_MO_say_11 rfl ?_
  refine hb_get (ci := 4) (C := "BigDeskModel") (T := T_MO) (N := 8) hx hb hts (fun w9 h9 => hT w9 (u_MO w9 h9)) hown hK hW t10 rfl (by decide) 7 (by decide) (hw wd_653) (fun _ h9 => h9) (q := (0, 6)) rfl (v := .int (ah_I h8 6 a1)) rfl d_MO_say_12 ?_
  refine lv_iconst (v := 1) hx hb d_MO_say_15 (by decide) ?_
  refine lv_iadd hx hb d_MO_say_16 ?_
  refine lv_topi (fun v12 ev12 => ?_)
  have w := w v12 ev12
  refine hb_put (ci := 4) (C := "BigDeskModel") (T := T_MO) (N := 8) hx hb hts (fun w9 h9 => hT w9 (u_MO w9 h9)) t_MO o_MO n_MO hown hK hW t10 rfl (by decide) 7 (by decide) (hw wd_653) (fun _ h9 => h9) rfl (ty := t_MO 7) (by decide +kernel) (q := (0, 6)) rfl (by decide) (v := .int v12) rfl rfl (ah_one_I h8 6 a1 v12) d_MO_say_17 (fun H locs h13 eh13 hW => ?_)
  have w := w h13 eh13
  have mm14 : ah_m h8 h13 := ah_m.rf.st (by rw [eh13]; rfl) (by rw [eh13]; rfl)
  have hm := hm.tr mm14
  have t15 := mm14.tg t10 (by decide)
  have t16 := mm14.tg t11 (by decide)
  exact hb_vret (K := fun h9 => K h9 ∧ ah_m h0 h9) hx hb hr hlk hK hX hW ⟨w, hm⟩ (by omega) (by omega) d_MO_say_20
set_option maxHeartbeats 4000000 in
set_option maxRecDepth 100000 in
theorem tb_MO_write_162 {p : Program} {l : Launch} {e : Env} {s : State} {m : MethodId} {args : Array Value} {below : List Frame} {meth : Method} {c : Code} {G : zG} (C : cx_C p l s m args meth c G y_MO_write b_MO_write 5 (some .int) "BigDeskModel" (Cond.code y_MO_write b_MO_write 5 (some .int) :: zx_T) []) {K : Int32 → ah_H → Prop} {h0 : ah_H} {cells slots : Nat} (hcl : cells + 0 ≤ 0) (hsl : slots + 0 ≤ 0) {rc_58 : Nat → Int32 → Int32 → ah_H → Prop} (hc_rc_58 : ∀ (z0 : Nat) (z1 : Int32) (z2 : Int32) (hz : ah_H) (H : Heap) (locs : List Loc) (ls : Array Slot), rc_58 z0 z1 z2 hz → ah_m h0 hz → ah_W G s.heap hz H locs → lv_has ls 5 [(0, .ref z0), (1, .int z1), (2, .int z2)] → W p l e rm_MO_write s m args below meth c H locs cells slots (MQ below (va_Qi (fun r9 h9 => K r9 h9 ∧ ah_m h0 h9) (ah_B G) (fun q => G.2.2 ≤ q)) args s 0 0 (fun q => G.2.2 ≤ q)) (F0 m 58 ls [])) (x103 : Nat) (x104 : Int32) (x105 : Int32) (x106 : Int32) (h107 : ah_H) (H : Heap) (locs : List Loc) (ls : Array Slot) (w : bk_MO_write_162 rc_58 K x103 x104 x105 x106 h107) (hm : ah_m h0 h107) (hW : ah_W G s.heap h107 H locs) (hl : lv_has ls 5 [(0, .ref x103), (1, .int x104), (2, .int x105), (3, .int x106)]) : W p l e rm_MO_write s m args below meth c H locs cells slots (MQ below (va_Qi (fun r9 h9 => K r9 h9 ∧ ah_m h0 h9) (ah_B G) (fun q => G.2.2 ≤ q)) args s 0 0 (fun q => G.2.2 ≤ q)) (F0 m 162 ls []) := by
  unfold bk_MO_write_162 at w
  obtain ⟨hx, hb, hr, hml, hown, hts, hT, hlk, hK, hX, htb, hin, hst⟩ := id C
  have hw : ∀ {w9 : Cond}, w9 ∈ zx_T → w9.before _ s = true := fun h9 => hts _ (hT _ h9)
  refine lv_aload_n hx hb d_MO_write_162 rfl (lv_at hl 0 rfl) ?_
  refine lv_bipush (v := 48) hx hb d_MO_write_163 (by decide) ?_
  refine lv_iload_n hx hb d_MO_write_165 rfl (lv_at hl 3 rfl) ?_
  refine lv_bipush (v := 10) hx hb d_MO_write_166 (by decide) ?_
  refine lv_irem hx hb d_MO_write_168 (by decide) ?_
  refine lv_iadd hx hb d_MO_write_169 ?_
  obtain ⟨t108, w⟩ := w
  refine hb_callv (va_runV (As := [.int ((48 : Int32) + (x106 - x106 / (10 : Int32) * (10 : Int32)))]) (rest := []) ⟨hx, hb, hml, hown, hts⟩ (m_MO_say G x103 ((48 : Int32) + (x106 - x106 / (10 : Int32) * (10 : Int32))) h107 hst w) (cwV 1 hts (zx_gV hT wd_833 wd_835 wd_s31 wd_5 wd_836) rfl rfl rfl (by decide +kernel) ⟨Nat.le_of_ble_eq_true rfl, Nat.le_of_ble_eq_true rfl⟩) (hb_preV hK hX hW t108 (by decide) rfl) rfl rfl hl.1 rfl (lv_room (Nat.le_of_ble_eq_true rfl)) d_MO_write_170 ⟨(by show _ ≤ 0; omega), (by show _ ≤ 0; omega)⟩) hW (fun h109 H locs hk hW => ?_)
  obtain ⟨w, mm110⟩ := hk
  have w := w mm110
  have hm := hm.tr mm110
  have t111 := mm110.tg t108 (by decide)
  obtain ⟨v112, ev112⟩ : ∃ y9 : Int32, y9 = x105 + (-1) := ⟨_, rfl⟩
  have w := w v112 ev112
  refine lv_iinc (v := v112) (lv' := [(2, .int v112), (0, .ref x103), (1, .int x104), (3, .int x106)]) hx hb d_MO_write_173 hl (k := 2) rfl (by rw [ev112]; rfl) (by decide) rfl (fun ls hl => ?_)
  refine lv_goto (tgt := 58) hx hb d_MO_write_176 (by decide) ?_
  exact hc_rc_58 x103 x104 v112 h109 _ _ _ w hm hW (lv_sub hl [1, 2, 0] rfl)
set_option maxHeartbeats 4000000 in
set_option maxRecDepth 100000 in
theorem tb_MO_write_148 {p : Program} {l : Launch} {e : Env} {s : State} {m : MethodId} {args : Array Value} {below : List Frame} {meth : Method} {c : Code} {G : zG} (C : cx_C p l s m args meth c G y_MO_write b_MO_write 5 (some .int) "BigDeskModel" (Cond.code y_MO_write b_MO_write 5 (some .int) :: zx_T) []) {K : Int32 → ah_H → Prop} {h0 : ah_H} {cells slots : Nat} (hcl : cells + 0 ≤ 0) (hsl : slots + 0 ≤ 0) {rc_58 : Nat → Int32 → Int32 → ah_H → Prop} (hc_rc_58 : ∀ (z0 : Nat) (z1 : Int32) (z2 : Int32) (hz : ah_H) (H : Heap) (locs : List Loc) (ls : Array Slot), rc_58 z0 z1 z2 hz → ah_m h0 hz → ah_W G s.heap hz H locs → lv_has ls 5 [(0, .ref z0), (1, .int z1), (2, .int z2)] → W p l e rm_MO_write s m args below meth c H locs cells slots (MQ below (va_Qi (fun r9 h9 => K r9 h9 ∧ ah_m h0 h9) (ah_B G) (fun q => G.2.2 ≤ q)) args s 0 0 (fun q => G.2.2 ≤ q)) (F0 m 58 ls [])) (x94 : Nat) (x95 : Int32) (x96 : Int32) (x97 : Int32) (h98 : ah_H) (H : Heap) (locs : List Loc) (ls : Array Slot) (w : bk_MO_write_148 rc_58 K x94 x95 x96 x97 h98) (hm : ah_m h0 h98) (hW : ah_W G s.heap h98 H locs) (hl : lv_has ls 5 [(0, .ref x94), (1, .int x95), (2, .int x96), (3, .int x97)]) : W p l e rm_MO_write s m args below meth c H locs cells slots (MQ below (va_Qi (fun r9 h9 => K r9 h9 ∧ ah_m h0 h9) (ah_B G) (fun q => G.2.2 ≤ q)) args s 0 0 (fun q => G.2.2 ≤ q)) (F0 m 148 ls []) := by
  unfold bk_MO_write_148 at w
  obtain ⟨hx, hb, hr, hml, hown, hts, hT, hlk, hK, hX, htb, hin, hst⟩ := id C
  have hw : ∀ {w9 : Cond}, w9 ∈ zx_T → w9.before _ s = true := fun h9 => hts _ (hT _ h9)
  refine lv_aload_n hx hb d_MO_write_148 rfl (lv_at hl 0 rfl) ?_
  refine lv_bipush (v := 48) hx hb d_MO_write_149 (by decide) ?_
  refine lv_iload_n hx hb d_MO_write_151 rfl (lv_at hl 3 rfl) ?_
  refine lv_bipush (v := 10) hx hb d_MO_write_152 (by decide) ?_
  refine lv_idiv hx hb d_MO_write_154 (by decide) ?_
  refine lv_bipush (v := 10) hx hb d_MO_write_155 (by decide) ?_
  refine lv_irem hx hb d_MO_write_157 (by decide) ?_
  refine lv_iadd hx hb d_MO_write_158 ?_
  obtain ⟨t99, w⟩ := w
  refine hb_callv (va_runV (As := [.int ((48 : Int32) + ((x97 / (10 : Int32)) - (x97 / (10 : Int32)) / (10 : Int32) * (10 : Int32)))]) (rest := []) ⟨hx, hb, hml, hown, hts⟩ (m_MO_say G x94 ((48 : Int32) + ((x97 / (10 : Int32)) - (x97 / (10 : Int32)) / (10 : Int32) * (10 : Int32))) h98 hst w) (cwV 1 hts (zx_gV hT wd_833 wd_835 wd_s31 wd_5 wd_836) rfl rfl rfl (by decide +kernel) ⟨Nat.le_of_ble_eq_true rfl, Nat.le_of_ble_eq_true rfl⟩) (hb_preV hK hX hW t99 (by decide) rfl) rfl rfl hl.1 rfl (lv_room (Nat.le_of_ble_eq_true rfl)) d_MO_write_159 ⟨(by show _ ≤ 0; omega), (by show _ ≤ 0; omega)⟩) hW (fun h100 H locs hk hW => ?_)
  obtain ⟨w, mm101⟩ := hk
  have w := w mm101
  have hm := hm.tr mm101
  have t102 := mm101.tg t99 (by decide)
  exact tb_MO_write_162 C (by omega) (by omega) hc_rc_58 x94 x95 x96 x97 h100 _ _ _ w hm hW (lv_sub hl [0, 1, 2, 3] rfl)
set_option maxHeartbeats 4000000 in
set_option maxRecDepth 100000 in
theorem tb_MO_write_137 {p : Program} {l : Launch} {e : Env} {s : State} {m : MethodId} {args : Array Value} {below : List Frame} {meth : Method} {c : Code} {G : zG} (C : cx_C p l s m args meth c G y_MO_write b_MO_write 5 (some .int) "BigDeskModel" (Cond.code y_MO_write b_MO_write 5 (some .int) :: zx_T) []) {K : Int32 → ah_H → Prop} {h0 : ah_H} {cells slots : Nat} (hcl : cells + 0 ≤ 0) (hsl : slots + 0 ≤ 0) {rc_58 : Nat → Int32 → Int32 → ah_H → Prop} (hc_rc_58 : ∀ (z0 : Nat) (z1 : Int32) (z2 : Int32) (hz : ah_H) (H : Heap) (locs : List Loc) (ls : Array Slot), rc_58 z0 z1 z2 hz → ah_m h0 hz → ah_W G s.heap hz H locs → lv_has ls 5 [(0, .ref z0), (1, .int z1), (2, .int z2)] → W p l e rm_MO_write s m args below meth c H locs cells slots (MQ below (va_Qi (fun r9 h9 => K r9 h9 ∧ ah_m h0 h9) (ah_B G) (fun q => G.2.2 ≤ q)) args s 0 0 (fun q => G.2.2 ≤ q)) (F0 m 58 ls [])) (x87 : Nat) (x88 : Int32) (x89 : Int32) (x90 : Int32) (x91 : Int32) (h92 : ah_H) (H : Heap) (locs : List Loc) (ls : Array Slot) (w : bk_MO_write_137 rc_58 K x87 x88 x89 x90 x91 h92) (hm : ah_m h0 h92) (hW : ah_W G s.heap h92 H locs) (hl : lv_has ls 5 [(0, .ref x87), (1, .int x88), (2, .int x89), (3, .int x90), (4, .int x91)]) : W p l e rm_MO_write s m args below meth c H locs cells slots (MQ below (va_Qi (fun r9 h9 => K r9 h9 ∧ ah_m h0 h9) (ah_B G) (fun q => G.2.2 ≤ q)) args s 0 0 (fun q => G.2.2 ≤ q)) (F0 m 137 ls []) := by
  unfold bk_MO_write_137 at w
  obtain ⟨hx, hb, hr, hml, hown, hts, hT, hlk, hK, hX, htb, hin, hst⟩ := id C
  have hw : ∀ {w9 : Cond}, w9 ∈ zx_T → w9.before _ s = true := fun h9 => hts _ (hT _ h9)
  refine lv_iload hx hb d_MO_write_137 (lv_at hl 4 rfl) ?_
  refine lv_if_eq (tgt := 148) hx hb d_MO_write_139 (by decide) (fun c93 => ?_) (fun c93 => ?_)
  · have w := w.1 c93
    exact tb_MO_write_148 C (by omega) (by omega) hc_rc_58 x87 x88 x89 x90 h92 _ _ _ w hm hW (lv_sub hl [0, 1, 2, 3] rfl)
  · have w := w.2 c93
    refine lv_iload_n hx hb d_MO_write_142 rfl (lv_at hl 3 rfl) ?_
    refine lv_bipush (v := 9) hx hb d_MO_write_143 (by decide) ?_
    refine lv_icmp_le (tgt := 162) hx hb d_MO_write_145 (by decide) (fun c113 => ?_) (fun c113 => ?_)
    · have w := w.1 c113
      exact tb_MO_write_162 C (by omega) (by omega) hc_rc_58 x87 x88 x89 x90 h92 _ _ _ w hm hW (lv_sub hl [0, 1, 2, 3] rfl)
    · have w := w.2 c113
      exact tb_MO_write_148 C (by omega) (by omega) hc_rc_58 x87 x88 x89 x90 h92 _ _ _ w hm hW (lv_sub hl [0, 1, 2, 3] rfl)
set_option maxHeartbeats 4000000 in
set_option maxRecDepth 100000 in
theorem tb_MO_write_123 {p : Program} {l : Launch} {e : Env} {s : State} {m : MethodId} {args : Array Value} {below : List Frame} {meth : Method} {c : Code} {G : zG} (C : cx_C p l s m args meth c G y_MO_write b_MO_write 5 (some .int) "BigDeskModel" (Cond.code y_MO_write b_MO_write 5 (some .int) :: zx_T) []) {K : Int32 → ah_H → Prop} {h0 : ah_H} {cells slots : Nat} (hcl : cells + 0 ≤ 0) (hsl : slots + 0 ≤ 0) {rc_58 : Nat → Int32 → Int32 → ah_H → Prop} (hc_rc_58 : ∀ (z0 : Nat) (z1 : Int32) (z2 : Int32) (hz : ah_H) (H : Heap) (locs : List Loc) (ls : Array Slot), rc_58 z0 z1 z2 hz → ah_m h0 hz → ah_W G s.heap hz H locs → lv_has ls 5 [(0, .ref z0), (1, .int z1), (2, .int z2)] → W p l e rm_MO_write s m args below meth c H locs cells slots (MQ below (va_Qi (fun r9 h9 => K r9 h9 ∧ ah_m h0 h9) (ah_B G) (fun q => G.2.2 ≤ q)) args s 0 0 (fun q => G.2.2 ≤ q)) (F0 m 58 ls [])) (x77 : Nat) (x78 : Int32) (x79 : Int32) (x80 : Int32) (x81 : Int32) (h82 : ah_H) (H : Heap) (locs : List Loc) (ls : Array Slot) (w : bk_MO_write_123 rc_58 K x77 x78 x79 x80 x81 h82) (hm : ah_m h0 h82) (hW : ah_W G s.heap h82 H locs) (hl : lv_has ls 5 [(0, .ref x77), (1, .int x78), (2, .int x79), (3, .int x80), (4, .int x81)]) : W p l e rm_MO_write s m args below meth c H locs cells slots (MQ below (va_Qi (fun r9 h9 => K r9 h9 ∧ ah_m h0 h9) (ah_B G) (fun q => G.2.2 ≤ q)) args s 0 0 (fun q => G.2.2 ≤ q)) (F0 m 123 ls []) := by
  unfold bk_MO_write_123 at w
  obtain ⟨hx, hb, hr, hml, hown, hts, hT, hlk, hK, hX, htb, hin, hst⟩ := id C
  have hw : ∀ {w9 : Cond}, w9 ∈ zx_T → w9.before _ s = true := fun h9 => hts _ (hT _ h9)
  refine lv_aload_n hx hb d_MO_write_123 rfl (lv_at hl 0 rfl) ?_
  refine lv_bipush (v := 48) hx hb d_MO_write_124 (by decide) ?_
  refine lv_iload_n hx hb d_MO_write_126 rfl (lv_at hl 3 rfl) ?_
  refine lv_bipush (v := 100) hx hb d_MO_write_127 (by decide) ?_
  refine lv_idiv hx hb d_MO_write_129 (by decide) ?_
  refine lv_bipush (v := 10) hx hb d_MO_write_130 (by decide) ?_
  refine lv_irem hx hb d_MO_write_132 (by decide) ?_
  refine lv_iadd hx hb d_MO_write_133 ?_
  obtain ⟨t83, w⟩ := w
  refine hb_callv (va_runV (As := [.int ((48 : Int32) + ((x80 / (100 : Int32)) - (x80 / (100 : Int32)) / (10 : Int32) * (10 : Int32)))]) (rest := []) ⟨hx, hb, hml, hown, hts⟩ (m_MO_say G x77 ((48 : Int32) + ((x80 / (100 : Int32)) - (x80 / (100 : Int32)) / (10 : Int32) * (10 : Int32))) h82 hst w) (cwV 1 hts (zx_gV hT wd_833 wd_835 wd_s31 wd_5 wd_836) rfl rfl rfl (by decide +kernel) ⟨Nat.le_of_ble_eq_true rfl, Nat.le_of_ble_eq_true rfl⟩) (hb_preV hK hX hW t83 (by decide) rfl) rfl rfl hl.1 rfl (lv_room (Nat.le_of_ble_eq_true rfl)) d_MO_write_134 ⟨(by show _ ≤ 0; omega), (by show _ ≤ 0; omega)⟩) hW (fun h84 H locs hk hW => ?_)
  obtain ⟨w, mm85⟩ := hk
  have w := w mm85
  have hm := hm.tr mm85
  have t86 := mm85.tg t83 (by decide)
  exact tb_MO_write_137 C (by omega) (by omega) hc_rc_58 x77 x78 x79 x80 x81 h84 _ _ _ w hm hW (lv_sub hl [0, 1, 2, 3, 4] rfl)
set_option maxHeartbeats 4000000 in
set_option maxRecDepth 100000 in
theorem tb_MO_write_112 {p : Program} {l : Launch} {e : Env} {s : State} {m : MethodId} {args : Array Value} {below : List Frame} {meth : Method} {c : Code} {G : zG} (C : cx_C p l s m args meth c G y_MO_write b_MO_write 5 (some .int) "BigDeskModel" (Cond.code y_MO_write b_MO_write 5 (some .int) :: zx_T) []) {K : Int32 → ah_H → Prop} {h0 : ah_H} {cells slots : Nat} (hcl : cells + 0 ≤ 0) (hsl : slots + 0 ≤ 0) {rc_58 : Nat → Int32 → Int32 → ah_H → Prop} (hc_rc_58 : ∀ (z0 : Nat) (z1 : Int32) (z2 : Int32) (hz : ah_H) (H : Heap) (locs : List Loc) (ls : Array Slot), rc_58 z0 z1 z2 hz → ah_m h0 hz → ah_W G s.heap hz H locs → lv_has ls 5 [(0, .ref z0), (1, .int z1), (2, .int z2)] → W p l e rm_MO_write s m args below meth c H locs cells slots (MQ below (va_Qi (fun r9 h9 => K r9 h9 ∧ ah_m h0 h9) (ah_B G) (fun q => G.2.2 ≤ q)) args s 0 0 (fun q => G.2.2 ≤ q)) (F0 m 58 ls [])) (x70 : Nat) (x71 : Int32) (x72 : Int32) (x73 : Int32) (x74 : Int32) (h75 : ah_H) (H : Heap) (locs : List Loc) (ls : Array Slot) (w : bk_MO_write_112 rc_58 K x70 x71 x72 x73 x74 h75) (hm : ah_m h0 h75) (hW : ah_W G s.heap h75 H locs) (hl : lv_has ls 5 [(0, .ref x70), (1, .int x71), (2, .int x72), (3, .int x73), (4, .int x74)]) : W p l e rm_MO_write s m args below meth c H locs cells slots (MQ below (va_Qi (fun r9 h9 => K r9 h9 ∧ ah_m h0 h9) (ah_B G) (fun q => G.2.2 ≤ q)) args s 0 0 (fun q => G.2.2 ≤ q)) (F0 m 112 ls []) := by
  unfold bk_MO_write_112 at w
  obtain ⟨hx, hb, hr, hml, hown, hts, hT, hlk, hK, hX, htb, hin, hst⟩ := id C
  have hw : ∀ {w9 : Cond}, w9 ∈ zx_T → w9.before _ s = true := fun h9 => hts _ (hT _ h9)
  refine lv_iload hx hb d_MO_write_112 (lv_at hl 4 rfl) ?_
  refine lv_if_eq (tgt := 123) hx hb d_MO_write_114 (by decide) (fun c76 => ?_) (fun c76 => ?_)
  · have w := w.1 c76
    exact tb_MO_write_123 C (by omega) (by omega) hc_rc_58 x70 x71 x72 x73 x74 h75 _ _ _ w hm hW (lv_sub hl [0, 1, 2, 3, 4] rfl)
  · have w := w.2 c76
    refine lv_iload_n hx hb d_MO_write_117 rfl (lv_at hl 3 rfl) ?_
    refine lv_bipush (v := 99) hx hb d_MO_write_118 (by decide) ?_
    refine lv_icmp_le (tgt := 137) hx hb d_MO_write_120 (by decide) (fun c114 => ?_) (fun c114 => ?_)
    · have w := w.1 c114
      exact tb_MO_write_137 C (by omega) (by omega) hc_rc_58 x70 x71 x72 x73 x74 h75 _ _ _ w hm hW (lv_sub hl [0, 1, 2, 3, 4] rfl)
    · have w := w.2 c114
      exact tb_MO_write_123 C (by omega) (by omega) hc_rc_58 x70 x71 x72 x73 x74 h75 _ _ _ w hm hW (lv_sub hl [0, 1, 2, 3, 4] rfl)
set_option maxHeartbeats 4000000 in
set_option maxRecDepth 100000 in
theorem tb_MO_write_100 {p : Program} {l : Launch} {e : Env} {s : State} {m : MethodId} {args : Array Value} {below : List Frame} {meth : Method} {c : Code} {G : zG} (C : cx_C p l s m args meth c G y_MO_write b_MO_write 5 (some .int) "BigDeskModel" (Cond.code y_MO_write b_MO_write 5 (some .int) :: zx_T) []) {K : Int32 → ah_H → Prop} {h0 : ah_H} {cells slots : Nat} (hcl : cells + 0 ≤ 0) (hsl : slots + 0 ≤ 0) {rc_58 : Nat → Int32 → Int32 → ah_H → Prop} (hc_rc_58 : ∀ (z0 : Nat) (z1 : Int32) (z2 : Int32) (hz : ah_H) (H : Heap) (locs : List Loc) (ls : Array Slot), rc_58 z0 z1 z2 hz → ah_m h0 hz → ah_W G s.heap hz H locs → lv_has ls 5 [(0, .ref z0), (1, .int z1), (2, .int z2)] → W p l e rm_MO_write s m args below meth c H locs cells slots (MQ below (va_Qi (fun r9 h9 => K r9 h9 ∧ ah_m h0 h9) (ah_B G) (fun q => G.2.2 ≤ q)) args s 0 0 (fun q => G.2.2 ≤ q)) (F0 m 58 ls [])) (x60 : Nat) (x61 : Int32) (x62 : Int32) (x63 : Int32) (x64 : Int32) (h65 : ah_H) (H : Heap) (locs : List Loc) (ls : Array Slot) (w : bk_MO_write_100 rc_58 K x60 x61 x62 x63 x64 h65) (hm : ah_m h0 h65) (hW : ah_W G s.heap h65 H locs) (hl : lv_has ls 5 [(0, .ref x60), (1, .int x61), (2, .int x62), (3, .int x63), (4, .int x64)]) : W p l e rm_MO_write s m args below meth c H locs cells slots (MQ below (va_Qi (fun r9 h9 => K r9 h9 ∧ ah_m h0 h9) (ah_B G) (fun q => G.2.2 ≤ q)) args s 0 0 (fun q => G.2.2 ≤ q)) (F0 m 100 ls []) := by
  unfold bk_MO_write_100 at w
  obtain ⟨hx, hb, hr, hml, hown, hts, hT, hlk, hK, hX, htb, hin, hst⟩ := id C
  have hw : ∀ {w9 : Cond}, w9 ∈ zx_T → w9.before _ s = true := fun h9 => hts _ (hT _ h9)
  refine lv_aload_n hx hb d_MO_write_100 rfl (lv_at hl 0 rfl) ?_
  refine lv_bipush (v := 48) hx hb d_MO_write_101 (by decide) ?_
  refine lv_iload_n hx hb d_MO_write_103 rfl (lv_at hl 3 rfl) ?_
  refine lv_sipush (v := 1000) hx hb d_MO_write_104 (by decide) ?_
  refine lv_idiv hx hb d_MO_write_107 (by decide) ?_
  refine lv_iadd hx hb d_MO_write_108 ?_
  obtain ⟨t66, w⟩ := w
  refine hb_callv (va_runV (As := [.int ((48 : Int32) + (x63 / (1000 : Int32)))]) (rest := []) ⟨hx, hb, hml, hown, hts⟩ (m_MO_say G x60 ((48 : Int32) + (x63 / (1000 : Int32))) h65 hst w) (cwV 1 hts (zx_gV hT wd_833 wd_835 wd_s31 wd_5 wd_836) rfl rfl rfl (by decide +kernel) ⟨Nat.le_of_ble_eq_true rfl, Nat.le_of_ble_eq_true rfl⟩) (hb_preV hK hX hW t66 (by decide) rfl) rfl rfl hl.1 rfl (lv_room (Nat.le_of_ble_eq_true rfl)) d_MO_write_109 ⟨(by show _ ≤ 0; omega), (by show _ ≤ 0; omega)⟩) hW (fun h67 H locs hk hW => ?_)
  obtain ⟨w, mm68⟩ := hk
  have w := w mm68
  have hm := hm.tr mm68
  have t69 := mm68.tg t66 (by decide)
  exact tb_MO_write_112 C (by omega) (by omega) hc_rc_58 x60 x61 x62 x63 x64 h67 _ _ _ w hm hW (lv_sub hl [0, 1, 2, 3, 4] rfl)
set_option maxHeartbeats 4000000 in
set_option maxRecDepth 100000 in
theorem tb_MO_write_86 {p : Program} {l : Launch} {e : Env} {s : State} {m : MethodId} {args : Array Value} {below : List Frame} {meth : Method} {c : Code} {G : zG} (C : cx_C p l s m args meth c G y_MO_write b_MO_write 5 (some .int) "BigDeskModel" (Cond.code y_MO_write b_MO_write 5 (some .int) :: zx_T) []) {K : Int32 → ah_H → Prop} {h0 : ah_H} {cells slots : Nat} (hcl : cells + 0 ≤ 0) (hsl : slots + 0 ≤ 0) {rc_58 : Nat → Int32 → Int32 → ah_H → Prop} (hc_rc_58 : ∀ (z0 : Nat) (z1 : Int32) (z2 : Int32) (hz : ah_H) (H : Heap) (locs : List Loc) (ls : Array Slot), rc_58 z0 z1 z2 hz → ah_m h0 hz → ah_W G s.heap hz H locs → lv_has ls 5 [(0, .ref z0), (1, .int z1), (2, .int z2)] → W p l e rm_MO_write s m args below meth c H locs cells slots (MQ below (va_Qi (fun r9 h9 => K r9 h9 ∧ ah_m h0 h9) (ah_B G) (fun q => G.2.2 ≤ q)) args s 0 0 (fun q => G.2.2 ≤ q)) (F0 m 58 ls [])) (x53 : Nat) (x54 : Int32) (x55 : Int32) (x56 : Int32) (s57 : Int32) (h58 : ah_H) (H : Heap) (locs : List Loc) (ls : Array Slot) (w : bk_MO_write_86 rc_58 K x53 x54 x55 x56 s57 h58) (hm : ah_m h0 h58) (hW : ah_W G s.heap h58 H locs) (hl : lv_has ls 5 [(0, .ref x53), (1, .int x54), (2, .int x55), (3, .int x56)]) : W p l e rm_MO_write s m args below meth c H locs cells slots (MQ below (va_Qi (fun r9 h9 => K r9 h9 ∧ ah_m h0 h9) (ah_B G) (fun q => G.2.2 ≤ q)) args s 0 0 (fun q => G.2.2 ≤ q)) (F0 m 86 ls [.int s57]) := by
  unfold bk_MO_write_86 at w
  obtain ⟨hx, hb, hr, hml, hown, hts, hT, hlk, hK, hX, htb, hin, hst⟩ := id C
  have hw : ∀ {w9 : Cond}, w9 ∈ zx_T → w9.before _ s = true := fun h9 => hts _ (hT _ h9)
  refine lv_istore (lv' := [(4, .int s57), (0, .ref x53), (1, .int x54), (2, .int x55), (3, .int x56)]) hx hb d_MO_write_86 hl (by decide) rfl (fun ls hl => ?_)
  refine lv_iload hx hb d_MO_write_88 (lv_at hl 0 rfl) ?_
  refine lv_if_eq (tgt := 100) hx hb d_MO_write_90 (by decide) (fun c59 => ?_) (fun c59 => ?_)
  · have w := w.1 c59
    exact tb_MO_write_100 C (by omega) (by omega) hc_rc_58 x53 x54 x55 x56 s57 h58 _ _ _ w hm hW (lv_sub hl [1, 2, 3, 4, 0] rfl)
  · have w := w.2 c59
    refine lv_iload_n hx hb d_MO_write_93 rfl (lv_at hl 4 rfl) ?_
    refine lv_sipush (v := 999) hx hb d_MO_write_94 (by decide) ?_
    refine lv_icmp_le (tgt := 112) hx hb d_MO_write_97 (by decide) (fun c115 => ?_) (fun c115 => ?_)
    · have w := w.1 c115
      exact tb_MO_write_112 C (by omega) (by omega) hc_rc_58 x53 x54 x55 x56 s57 h58 _ _ _ w hm hW (lv_sub hl [1, 2, 3, 4, 0] rfl)
    · have w := w.2 c115
      exact tb_MO_write_100 C (by omega) (by omega) hc_rc_58 x53 x54 x55 x56 s57 h58 _ _ _ w hm hW (lv_sub hl [1, 2, 3, 4, 0] rfl)
set_option maxHeartbeats 4000000 in
set_option maxRecDepth 100000 in
theorem tl_MO_write_58 {p : Program} {l : Launch} {e : Env} {s : State} {m : MethodId} {args : Array Value} {below : List Frame} {meth : Method} {c : Code} {G : zG} (C : cx_C p l s m args meth c G y_MO_write b_MO_write 5 (some .int) "BigDeskModel" (Cond.code y_MO_write b_MO_write 5 (some .int) :: zx_T) []) {K : Int32 → ah_H → Prop} {h0 : ah_H} {cells slots : Nat} (hcl : cells + 0 ≤ 0) (hsl : slots + 0 ≤ 0) {xt_179 : Nat → ah_H → Prop} (hc_xt_179 : ∀ (z0 : Nat) (hz : ah_H) (H : Heap) (locs : List Loc) (ls : Array Slot), xt_179 z0 hz → ah_m h0 hz → ah_W G s.heap hz H locs → lv_has ls 5 [(0, .ref z0)] → W p l e rm_MO_write s m args below meth c H locs cells slots (MQ below (va_Qi (fun r9 h9 => K r9 h9 ∧ ah_m h0 h9) (ah_B G) (fun q => G.2.2 ≤ q)) args s 0 0 (fun q => G.2.2 ≤ q)) (F0 m 179 ls [])) : ∀ (n : Nat) (x38 : Nat) (x39 : Int32) (x40 : Int32) (h41 : ah_H) (H : Heap) (locs : List Loc) (ls : Array Slot), lp_MO_write_58 xt_179 K n x38 x39 x40 h41 → ah_m h0 h41 → ah_W G s.heap h41 H locs → lv_has ls 5 [(0, .ref x38), (1, .int x39), (2, .int x40)] → W p l e rm_MO_write s m args below meth c H locs cells slots (MQ below (va_Qi (fun r9 h9 => K r9 h9 ∧ ah_m h0 h9) (ah_B G) (fun q => G.2.2 ≤ q)) args s 0 0 (fun q => G.2.2 ≤ q)) (F0 m 58 ls []) := by
  obtain ⟨hx, hb, hr, hml, hown, hts, hT, hlk, hK, hX, htb, hin, hst⟩ := id C
  have hw : ∀ {w9 : Cond}, w9 ∈ zx_T → w9.before _ s = true := fun h9 => hts _ (hT _ h9)
  intro n
  induction n with
  | zero =>
    intro x38 x39 x40 h41 H locs ls w
    exact absurd w (by intro z9; exact z9)
  | succ n ih =>
    intro x38 x39 x40 h41 H locs ls w hm hW hl
    unfold lp_MO_write_58 at w
    refine lv_iload_n hx hb d_MO_write_58 rfl (lv_at hl 2 rfl) ?_
    refine lv_if_lt (tgt := 179) hx hb d_MO_write_59 (by decide) (fun c42 => ?_) (fun c42 => ?_)
    · have w := w.1 c42
      exact hc_xt_179 x38 h41 _ _ _ w hm hW (lv_sub hl [0] rfl)
    · have w := w.2 c42
      refine lv_aload_n hx hb d_MO_write_62 rfl (lv_at hl 0 rfl) ?_
      refine lv_iload_n hx hb d_MO_write_63 rfl (lv_at hl 1 rfl) ?_
      refine lv_iload_n hx hb d_MO_write_64 rfl (lv_at hl 2 rfl) ?_
      obtain ⟨t43, w⟩ := w
      refine hb_calli (va_runV (As := [.int x39, .int x40]) (rest := []) ⟨hx, hb, hml, hown, hts⟩ (m_MO_at G x38 x39 x40 h41 hst w) (cwV 2 hts (zx_gV hT wd_642 wd_644 wd_s14 wd_5 wd_645) rfl rfl rfl (by decide +kernel) ⟨Nat.le_of_ble_eq_true rfl, Nat.le_of_ble_eq_true rfl⟩) (hb_preV hK hX hW t43 (by decide) rfl) rfl rfl hl.1 rfl (lv_room (Nat.le_of_ble_eq_true rfl)) d_MO_write_65 ⟨(by show _ ≤ 0; omega), (by show _ ≤ 0; omega)⟩) hW (fun r45 h44 H locs hk hW => ?_)
      obtain ⟨w, mm46⟩ := hk
      have w := w mm46
      have hm := hm.tr mm46
      have t47 := mm46.tg t43 (by decide)
      refine lv_istore_n (lv' := [(3, .int r45), (0, .ref x38), (1, .int x39), (2, .int x40)]) hx hb d_MO_write_68 rfl hl (by decide) rfl (fun ls hl => ?_)
      refine lv_iload_n hx hb d_MO_write_69 rfl (lv_at hl 3 rfl) ?_
      refine lv_aload_n hx hb d_MO_write_70 rfl (lv_at hl 1 rfl) ?_
      obtain ⟨q48, e49, w⟩ := w
      refine hb_get (ci := 4) (C := "BigDeskModel") (T := T_MO) (N := 8) hx hb hts (fun w9 h9 => hT w9 (u_MO w9 h9)) hown hK hW t47 rfl (by decide) 2 (by decide) (hw wd_648) (fun _ h9 => h9) (q := (2, 14)) rfl (v := .ref q48) (ah_f_R e49) d_MO_write_71 ?_
      refine lv_iload_n hx hb d_MO_write_74 rfl (lv_at hl 2 rfl) ?_
      obtain ⟨t50, w⟩ := w
      obtain ⟨i51, w⟩ := w
      refine hb_iald hx hb hK hW t50 (by decide) (by decide) 0 rfl i51 d_MO_write_75 ?_
      refine lv_iconst (v := 1) hx hb d_MO_write_76 (by decide) ?_
      refine lv_isub hx hb d_MO_write_77 ?_
      refine lv_icmp_ne (tgt := 85) hx hb d_MO_write_78 (by decide) (fun c52 => ?_) (fun c52 => ?_)
      · have w := w.1 c52
        refine lv_iconst (v := 0) hx hb d_MO_write_85 (by decide) ?_
        exact tb_MO_write_86 C (by omega) (by omega) ih x38 x39 x40 r45 (0 : Int32) h44 _ _ _ w hm hW (lv_sub hl [1, 2, 3, 0] rfl)
      · have w := w.2 c52
        refine lv_iconst (v := 1) hx hb d_MO_write_81 (by decide) ?_
        refine lv_goto (tgt := 86) hx hb d_MO_write_82 (by decide) ?_
        exact tb_MO_write_86 C (by omega) (by omega) ih x38 x39 x40 r45 (1 : Int32) h44 _ _ _ w hm hW (lv_sub hl [1, 2, 3, 0] rfl)
set_option maxHeartbeats 4000000 in
set_option maxRecDepth 100000 in
theorem tb_MO_write_49 {p : Program} {l : Launch} {e : Env} {s : State} {m : MethodId} {args : Array Value} {below : List Frame} {meth : Method} {c : Code} {G : zG} (C : cx_C p l s m args meth c G y_MO_write b_MO_write 5 (some .int) "BigDeskModel" (Cond.code y_MO_write b_MO_write 5 (some .int) :: zx_T) []) {K : Int32 → ah_H → Prop} {h0 : ah_H} {cells slots : Nat} (hcl : cells + 0 ≤ 0) (hsl : slots + 0 ≤ 0)  (x29 : Nat) (x30 : Int32) (h31 : ah_H) (H : Heap) (locs : List Loc) (ls : Array Slot) (w : bk_MO_write_49 K x29 x30 h31) (hm : ah_m h0 h31) (hW : ah_W G s.heap h31 H locs) (hl : lv_has ls 5 [(0, .ref x29), (1, .int x30)]) : W p l e rm_MO_write s m args below meth c H locs cells slots (MQ below (va_Qi (fun r9 h9 => K r9 h9 ∧ ah_m h0 h9) (ah_B G) (fun q => G.2.2 ≤ q)) args s 0 0 (fun q => G.2.2 ≤ q)) (F0 m 49 ls []) := by
  unfold bk_MO_write_49 at w
  obtain ⟨hx, hb, hr, hml, hown, hts, hT, hlk, hK, hX, htb, hin, hst⟩ := id C
  have hw : ∀ {w9 : Cond}, w9 ∈ zx_T → w9.before _ s = true := fun h9 => hts _ (hT _ h9)
  refine lv_aload_n hx hb d_MO_write_49 rfl (lv_at hl 0 rfl) ?_
  obtain ⟨t32, w⟩ := w
  obtain ⟨q33, e34, w⟩ := w
  refine hb_get (ci := 4) (C := "BigDeskModel") (T := T_MO) (N := 8) hx hb hts (fun w9 h9 => hT w9 (u_MO w9 h9)) hown hK hW t32 rfl (by decide) 2 (by decide) (hw wd_648) (fun _ h9 => h9) (q := (2, 14)) rfl (v := .ref q33) (ah_f_R e34) d_MO_write_50 ?_
  refine lv_iload_n hx hb d_MO_write_53 rfl (lv_at hl 1 rfl) ?_
  obtain ⟨t35, w⟩ := w
  obtain ⟨i36, w⟩ := w
  refine hb_iald hx hb hK hW t35 (by decide) (by decide) 0 rfl i36 d_MO_write_54 ?_
  refine lv_iconst (v := 1) hx hb d_MO_write_55 (by decide) ?_
  refine lv_isub hx hb d_MO_write_56 ?_
  refine lv_topi (fun v37 ev37 => ?_)
  have w := w v37 ev37
  refine lv_istore_n (lv' := [(2, .int v37), (0, .ref x29), (1, .int x30)]) hx hb d_MO_write_57 rfl hl (by decide) rfl (fun ls hl => ?_)
  obtain ⟨k119, w⟩ := w
  refine tl_MO_write_58 C (by omega) (by omega) (fun x116 h117 H locs ls w hm hW hl => ?_) k119 x29 x30 v37 h31 _ _ _ w hm hW (lv_sub hl [1, 2, 0] rfl)
  · refine lv_aload_n hx hb d_MO_write_179 rfl (lv_at hl 0 rfl) ?_
    obtain ⟨t118, w⟩ := w
    refine hb_get (ci := 4) (C := "BigDeskModel") (T := T_MO) (N := 8) hx hb hts (fun w9 h9 => hT w9 (u_MO w9 h9)) hown hK hW t118 rfl (by decide) 7 (by decide) (hw wd_653) (fun _ h9 => h9) (q := (0, 6)) rfl (v := .int (ah_I h117 6 x116)) rfl d_MO_write_180 ?_
    exact hb_iret (K := fun r9 h9 => K r9 h9 ∧ ah_m h0 h9) hx hb hr hlk hK hX hW ⟨w, hm⟩ (by omega) (by omega) d_MO_write_183
set_option maxHeartbeats 4000000 in
set_option maxRecDepth 100000 in
theorem tb_MO_write_34 {p : Program} {l : Launch} {e : Env} {s : State} {m : MethodId} {args : Array Value} {below : List Frame} {meth : Method} {c : Code} {G : zG} (C : cx_C p l s m args meth c G y_MO_write b_MO_write 5 (some .int) "BigDeskModel" (Cond.code y_MO_write b_MO_write 5 (some .int) :: zx_T) []) {K : Int32 → ah_H → Prop} {h0 : ah_H} {cells slots : Nat} (hcl : cells + 0 ≤ 0) (hsl : slots + 0 ≤ 0)  (x20 : Nat) (x21 : Int32) (h22 : ah_H) (H : Heap) (locs : List Loc) (ls : Array Slot) (w : bk_MO_write_34 K x20 x21 h22) (hm : ah_m h0 h22) (hW : ah_W G s.heap h22 H locs) (hl : lv_has ls 5 [(0, .ref x20), (1, .int x21)]) : W p l e rm_MO_write s m args below meth c H locs cells slots (MQ below (va_Qi (fun r9 h9 => K r9 h9 ∧ ah_m h0 h9) (ah_B G) (fun q => G.2.2 ≤ q)) args s 0 0 (fun q => G.2.2 ≤ q)) (F0 m 34 ls []) := by
  unfold bk_MO_write_34 at w
  obtain ⟨hx, hb, hr, hml, hown, hts, hT, hlk, hK, hX, htb, hin, hst⟩ := id C
  have hw : ∀ {w9 : Cond}, w9 ∈ zx_T → w9.before _ s = true := fun h9 => hts _ (hT _ h9)
  refine lv_aload_n hx hb d_MO_write_34 rfl (lv_at hl 0 rfl) ?_
  obtain ⟨t23, w⟩ := w
  obtain ⟨q24, e25, w⟩ := w
  refine hb_get (ci := 4) (C := "BigDeskModel") (T := T_MO) (N := 8) hx hb hts (fun w9 h9 => hT w9 (u_MO w9 h9)) hown hK hW t23 rfl (by decide) 3 (by decide) (hw wd_649) (fun _ h9 => h9) (q := (2, 15)) rfl (v := .ref q24) (ah_f_R e25) d_MO_write_35 ?_
  refine lv_iload_n hx hb d_MO_write_38 rfl (lv_at hl 1 rfl) ?_
  obtain ⟨t26, w⟩ := w
  obtain ⟨i27, w⟩ := w
  refine hb_iald hx hb hK hW t26 (by decide) (by decide) 0 rfl i27 d_MO_write_39 ?_
  refine lv_if_ne (tgt := 49) hx hb d_MO_write_40 (by decide) (fun c28 => ?_) (fun c28 => ?_)
  · have w := w.1 c28
    exact tb_MO_write_49 C (by omega) (by omega)  x20 x21 h22 _ _ _ w hm hW (lv_sub hl [0, 1] rfl)
  · have w := w.2 c28
    refine lv_aload_n hx hb d_MO_write_43 rfl (lv_at hl 0 rfl) ?_
    refine lv_bipush (v := 48) hx hb d_MO_write_44 (by decide) ?_
    refine hb_callv (va_runV (As := [.int (48 : Int32)]) (rest := []) ⟨hx, hb, hml, hown, hts⟩ (m_MO_say G x20 (48 : Int32) h22 hst w) (cwV 1 hts (zx_gV hT wd_833 wd_835 wd_s31 wd_5 wd_836) rfl rfl rfl (by decide +kernel) ⟨Nat.le_of_ble_eq_true rfl, Nat.le_of_ble_eq_true rfl⟩) (hb_preV hK hX hW t23 (by decide) rfl) rfl rfl hl.1 rfl (lv_room (Nat.le_of_ble_eq_true rfl)) d_MO_write_46 ⟨(by show _ ≤ 0; omega), (by show _ ≤ 0; omega)⟩) hW (fun h120 H locs hk hW => ?_)
    obtain ⟨w, mm121⟩ := hk
    have w := w mm121
    have hm := hm.tr mm121
    have t122 := mm121.tg t23 (by decide)
    have t123 := mm121.tg t26 (by decide)
    exact tb_MO_write_49 C (by omega) (by omega)  x20 x21 h120 _ _ _ w hm hW (lv_sub hl [0, 1] rfl)
set_option maxHeartbeats 4000000 in
set_option maxRecDepth 100000 in
theorem m_MO_write {l : Launch} (G : zG) (a1 : Nat) (a2 : Int32) (h0 : ah_H) {K : Int32 → ah_H → Prop} (hst : l.stackTraces = false) (w : w_MO_write a1 a2 h0 K) : Met l y_MO_write (Cond.code y_MO_write b_MO_write 5 (some .int) :: zx_T) rm_MO_write (va_Pc [.ref a1, .int a2] (ah_B G h0)) (va_Qi (fun r9 h9 => K r9 h9 ∧ ah_m h0 h9) (ah_B G) (fun q => G.2.2 ≤ q)) 0 0 (fun q => G.2.2 ≤ q) := by
  refine Met.ofW (cc := b_MO_write) (maxL := 5) (ret := (some .int)) (by decide) rfl ?_
  intro p e s m args below meth c s₁ B hml hv
  have htb := cx_out B (atoms_spec B.pre _ List.mem_cons_self)
  obtain ⟨rfl, hB⟩ := hv
  have C : cx_C p l s m _ meth c G y_MO_write b_MO_write 5 (some .int) "BigDeskModel" (Cond.code y_MO_write b_MO_write 5 (some .int) :: zx_T) [] := ⟨B.exec, B.bytes, B.returns, hml, findClass_of_methodNamed B.named, atoms_spec B.pre, cx_hd, B.notSynchronized, hB.2.2.1, hB.2.2.2, htb, fun z9 => (name_of_methodNamed B.named B.method).1.trans z9, hst⟩
  obtain ⟨hx, hb, hr, hml, hown, hts, hT, hlk, hK, hX, htb, hin, hst⟩ := id C
  have hw : ∀ {w9 : Cond}, w9 ∈ zx_T → w9.before _ s = true := fun h9 => hts _ (hT _ h9)
  have hW : ah_W G s.heap h0 s.heap [] := ⟨hB.1, hB.2.1, va_S.rf⟩
  have hm : ah_m h0 h0 := ah_m.rf
  have hcl : 0 + 0 ≤ 0 := by decide
  have hsl : 0 + 0 ≤ 0 := by decide
  have hl := lv_entry ([.ref a1, .int a2]) (n := 5) (Nat.le_of_ble_eq_true rfl)
  rw [lg_entry_eq]
  generalize (lg_sl ([.ref a1, .int a2]) ++ List.replicate (5 - (lg_sl ([.ref a1, .int a2])).length) Slot.unset).toArray = ls at hl ⊢
  have hl : lv_has ls 5 [(0, .ref a1), (1, .int a2)] := hl
  unfold w_MO_write at w
  refine lv_aload_n hx hb d_MO_write_0 rfl (lv_at hl 0 rfl) ?_
  refine lv_iload_n hx hb d_MO_write_1 rfl (lv_at hl 1 rfl) ?_
  refine hb_calli (va_runS (As := [.int a2]) (rest := [.ref a1]) ⟨hx, hb, hml, hown, hts⟩ (m_MO_isNone G a2 h0 hst w) (va_cwS 1 hts (zx_gS hT wd_680 wd_681 wd_5 wd_682) rfl rfl rfl (by decide +kernel) ⟨Nat.le_of_ble_eq_true rfl, Nat.le_of_ble_eq_true rfl⟩) (hb_preS hK hX hW) rfl rfl hl.1 rfl (lv_room (Nat.le_of_ble_eq_true rfl)) d_MO_write_2 ⟨(by show _ ≤ 0; omega), (by show _ ≤ 0; omega)⟩) hW (fun r4 h3 H locs hk hW => ?_)
  obtain ⟨w, mm5⟩ := hk
  have w := w mm5
  have hm := hm.tr mm5
  refine lv_iconst (v := 1) hx hb d_MO_write_5 (by decide) ?_
  obtain ⟨t6, w⟩ := w
  refine hb_calli (va_runV (As := [.int r4, .int (1 : Int32)]) (rest := []) ⟨hx, hb, hml, hown, hts⟩ (m_MO_fails G a1 r4 (1 : Int32) h3 hst w) (cwV 2 hts (zx_gV hT wd_683 wd_685 wd_s15 wd_5 wd_686) rfl rfl rfl (by decide +kernel) ⟨Nat.le_of_ble_eq_true rfl, Nat.le_of_ble_eq_true rfl⟩) (hb_preV hK hX hW t6 (by decide) rfl) rfl rfl hl.1 rfl (lv_room (Nat.le_of_ble_eq_true rfl)) d_MO_write_6 ⟨(by show _ ≤ 0; omega), (by show _ ≤ 0; omega)⟩) hW (fun r8 h7 H locs hk hW => ?_)
  obtain ⟨w, mm9⟩ := hk
  have w := w mm9
  have hm := hm.tr mm9
  have t10 := mm9.tg t6 (by decide)
  refine lv_if_eq (tgt := 14) hx hb d_MO_write_9 (by decide) (fun c11 => ?_) (fun c11 => ?_)
  · have w := w.1 c11
    refine lv_aload_n hx hb d_MO_write_14 rfl (lv_at hl 0 rfl) ?_
    refine lv_iconst (v := 0) hx hb d_MO_write_15 (by decide) ?_
    refine hb_put (ci := 4) (C := "BigDeskModel") (T := T_MO) (N := 8) hx hb hts (fun w9 h9 => hT w9 (u_MO w9 h9)) t_MO o_MO n_MO hown hK hW t10 rfl (by decide) 7 (by decide) (hw wd_653) (fun _ h9 => h9) rfl (ty := t_MO 7) (by decide +kernel) (q := (0, 6)) rfl (by decide) (v := .int (0 : Int32)) rfl rfl (ah_one_I h7 6 a1 (0 : Int32)) d_MO_write_16 (fun H locs h12 eh12 hW => ?_)
    have w := w h12 eh12
    have mm13 : ah_m h7 h12 := ah_m.rf.st (by rw [eh12]; rfl) (by rw [eh12]; rfl)
    have hm := hm.tr mm13
    have t14 := mm13.tg t10 (by decide)
    refine lv_aload_n hx hb d_MO_write_19 rfl (lv_at hl 0 rfl) ?_
    obtain ⟨q15, e16, w⟩ := w
    refine hb_get (ci := 4) (C := "BigDeskModel") (T := T_MO) (N := 8) hx hb hts (fun w9 h9 => hT w9 (u_MO w9 h9)) hown hK hW t14 rfl (by decide) 3 (by decide) (hw wd_649) (fun _ h9 => h9) (q := (2, 15)) rfl (v := .ref q15) (ah_f_R e16) d_MO_write_20 ?_
    refine lv_iload_n hx hb d_MO_write_23 rfl (lv_at hl 1 rfl) ?_
    obtain ⟨t17, w⟩ := w
    obtain ⟨i18, w⟩ := w
    refine hb_iald hx hb hK hW t17 (by decide) (by decide) 0 rfl i18 d_MO_write_24 ?_
    refine lv_if_ge (tgt := 34) hx hb d_MO_write_25 (by decide) (fun c19 => ?_) (fun c19 => ?_)
    · have w := w.1 c19
      exact tb_MO_write_34 C (by omega) (by omega)  a1 a2 h12 _ _ _ w hm hW (lv_sub hl [0, 1] rfl)
    · have w := w.2 c19
      refine lv_aload_n hx hb d_MO_write_28 rfl (lv_at hl 0 rfl) ?_
      refine lv_bipush (v := 45) hx hb d_MO_write_29 (by decide) ?_
      refine hb_callv (va_runV (As := [.int (45 : Int32)]) (rest := []) ⟨hx, hb, hml, hown, hts⟩ (m_MO_say G a1 (45 : Int32) h12 hst w) (cwV 1 hts (zx_gV hT wd_833 wd_835 wd_s31 wd_5 wd_836) rfl rfl rfl (by decide +kernel) ⟨Nat.le_of_ble_eq_true rfl, Nat.le_of_ble_eq_true rfl⟩) (hb_preV hK hX hW t14 (by decide) rfl) rfl rfl hl.1 rfl (lv_room (Nat.le_of_ble_eq_true rfl)) d_MO_write_31 ⟨(by show _ ≤ 0; omega), (by show _ ≤ 0; omega)⟩) hW (fun h124 H locs hk hW => ?_)
      obtain ⟨w, mm125⟩ := hk
      have w := w mm125
      have hm := hm.tr mm125
      have t126 := mm125.tg t14 (by decide)
      have t127 := mm125.tg t17 (by decide)
      exact tb_MO_write_34 C (by omega) (by omega)  a1 a2 h124 _ _ _ w hm hW (lv_sub hl [0, 1] rfl)
  · have w := w.2 c11
    refine lv_iconst (v := 0) hx hb d_MO_write_12 (by decide) ?_
    exact hb_iret (K := fun r9 h9 => K r9 h9 ∧ ah_m h0 h9) hx hb hr hlk hK hX hW ⟨w, hm⟩ (by omega) (by omega) d_MO_write_13
set_option maxHeartbeats 4000000 in
set_option maxRecDepth 100000 in
theorem tl_MO_out_36 {p : Program} {l : Launch} {e : Env} {s : State} {m : MethodId} {args : Array Value} {below : List Frame} {meth : Method} {c : Code} {G : zG} (C : cx_C p l s m args meth c G y_MO_out b_MO_out 5 (some .long) "BigDeskModel" (Cond.code y_MO_out b_MO_out 5 (some .long) :: zx_T) []) {K : Int64 → ah_H → Prop} {h0 : ah_H} {cells slots : Nat} (hcl : cells + 0 ≤ 0) (hsl : slots + 0 ≤ 0) {xt_79 : Int64 → ah_H → Prop} (hc_xt_79 : ∀ (z0 : Int64) (hz : ah_H) (H : Heap) (locs : List Loc) (ls : Array Slot), xt_79 z0 hz → ah_m h0 hz → ah_W G s.heap hz H locs → lv_has ls 5 [(2, .long z0)] → W p l e rm_MO_out s m args below meth c H locs cells slots (MQ below (va_Ql (fun r9 h9 => K r9 h9 ∧ ah_m h0 h9) (ah_B G) (fun q => G.2.2 ≤ q)) args s 0 0 (fun q => G.2.2 ≤ q)) (F0 m 79 ls [])) : ∀ (n : Nat) (x20 : Nat) (x21 : Int32) (x22 : Int64) (x23 : Int32) (h24 : ah_H) (H : Heap) (locs : List Loc) (ls : Array Slot), lp_MO_out_36 xt_79 K n x20 x21 x22 x23 h24 → ah_m h0 h24 → ah_W G s.heap h24 H locs → lv_has ls 5 [(0, .ref x20), (1, .int x21), (2, .long x22), (4, .int x23)] → W p l e rm_MO_out s m args below meth c H locs cells slots (MQ below (va_Ql (fun r9 h9 => K r9 h9 ∧ ah_m h0 h9) (ah_B G) (fun q => G.2.2 ≤ q)) args s 0 0 (fun q => G.2.2 ≤ q)) (F0 m 36 ls []) := by
  obtain ⟨hx, hb, hr, hml, hown, hts, hT, hlk, hK, hX, htb, hin, hst⟩ := id C
  have hw : ∀ {w9 : Cond}, w9 ∈ zx_T → w9.before _ s = true := fun h9 => hts _ (hT _ h9)
  intro n
  induction n with
  | zero =>
    intro x20 x21 x22 x23 h24 H locs ls w
    exact absurd w (by intro z9; exact z9)
  | succ n ih =>
    intro x20 x21 x22 x23 h24 H locs ls w hm hW hl
    unfold lp_MO_out_36 at w
    refine lv_iload hx hb d_MO_out_36 (lv_at hl 3 rfl) ?_
    refine lv_bipush (v := 8) hx hb d_MO_out_38 (by decide) ?_
    refine lv_icmp_ge (tgt := 79) hx hb d_MO_out_40 (by decide) (fun c25 => ?_) (fun c25 => ?_)
    · have w := w.1 c25
      exact hc_xt_79 x22 h24 _ _ _ w hm hW (lv_sub hl [2] rfl)
    · have w := w.2 c25
      refine lv_iload_n hx hb d_MO_out_43 rfl (lv_at hl 1 rfl) ?_
      refine lv_iload hx hb d_MO_out_44 (lv_at hl 3 rfl) ?_
      refine lv_iadd hx hb d_MO_out_46 ?_
      refine lv_aload_n hx hb d_MO_out_47 rfl (lv_at hl 0 rfl) ?_
      obtain ⟨t26, w⟩ := w
      refine hb_get (ci := 4) (C := "BigDeskModel") (T := T_MO) (N := 8) hx hb hts (fun w9 h9 => hT w9 (u_MO w9 h9)) hown hK hW t26 rfl (by decide) 7 (by decide) (hw wd_653) (fun _ h9 => h9) (q := (0, 6)) rfl (v := .int (ah_I h24 6 x20)) rfl d_MO_out_48 ?_
      refine lv_icmp_ge (tgt := 79) hx hb d_MO_out_51 (by decide) (fun c27 => ?_) (fun c27 => ?_)
      · have w := w.1 c27
        exact hc_xt_79 x22 h24 _ _ _ w hm hW (lv_sub hl [2] rfl)
      · have w := w.2 c27
        refine lv_lload_n hx hb d_MO_out_54 rfl (lv_at hl 2 rfl) ?_
        refine lv_aload_n hx hb d_MO_out_55 rfl (lv_at hl 0 rfl) ?_
        obtain ⟨q28, e29, w⟩ := w
        refine hb_get (ci := 4) (C := "BigDeskModel") (T := T_MO) (N := 8) hx hb hts (fun w9 h9 => hT w9 (u_MO w9 h9)) hown hK hW t26 rfl (by decide) 6 (by decide) (hw wd_652) (fun _ h9 => h9) (q := (2, 17)) rfl (v := .ref q28) (ah_f_R e29) d_MO_out_56 ?_
        refine lv_iload_n hx hb d_MO_out_59 rfl (lv_at hl 1 rfl) ?_
        refine lv_iload hx hb d_MO_out_60 (lv_at hl 3 rfl) ?_
        refine lv_iadd hx hb d_MO_out_62 ?_
        obtain ⟨t30, w⟩ := w
        obtain ⟨i31, w⟩ := w
        refine hb_iald hx hb hK hW t30 (by decide) (by decide) 0 rfl i31 d_MO_out_63 ?_
        refine lv_i2l hx hb d_MO_out_64 rfl ?_
        refine lv_bipush (v := 8) hx hb d_MO_out_65 (by decide) ?_
        refine lv_iload hx hb d_MO_out_67 (lv_at hl 3 rfl) ?_
        refine lv_imul hx hb d_MO_out_69 ?_
        refine lv_lshl hx hb d_MO_out_70 rfl ?_
        refine lv_lor hx hb d_MO_out_71 ?_
        refine lv_topl (fun v32 ev32 => ?_)
        have w := w v32 ev32
        refine lv_lstore_n (lv' := [(2, .long v32), (0, .ref x20), (1, .int x21), (4, .int x23)]) hx hb d_MO_out_72 rfl hl (by decide) rfl (fun ls hl => ?_)
        obtain ⟨v33, ev33⟩ : ∃ y9 : Int32, y9 = x23 + 1 := ⟨_, rfl⟩
        have w := w v33 ev33
        refine lv_iinc (v := v33) (lv' := [(4, .int v33), (2, .long v32), (0, .ref x20), (1, .int x21)]) hx hb d_MO_out_73 hl (k := 3) rfl (by rw [ev33]; rfl) (by decide) rfl (fun ls hl => ?_)
        refine lv_goto (tgt := 36) hx hb d_MO_out_76 (by decide) ?_
        exact ih x20 x21 v32 v33 h24 _ _ _ w hm hW (lv_sub hl [2, 3, 1, 0] rfl)
set_option maxHeartbeats 4000000 in
set_option maxRecDepth 100000 in
theorem tb_MO_out_79 {p : Program} {l : Launch} {e : Env} {s : State} {m : MethodId} {args : Array Value} {below : List Frame} {meth : Method} {c : Code} {G : zG} (C : cx_C p l s m args meth c G y_MO_out b_MO_out 5 (some .long) "BigDeskModel" (Cond.code y_MO_out b_MO_out 5 (some .long) :: zx_T) []) {K : Int64 → ah_H → Prop} {h0 : ah_H} {cells slots : Nat} (hcl : cells + 0 ≤ 0) (hsl : slots + 0 ≤ 0)  (x36 : Int64) (h37 : ah_H) (H : Heap) (locs : List Loc) (ls : Array Slot) (w : bk_MO_out_79 K x36 h37) (hm : ah_m h0 h37) (hW : ah_W G s.heap h37 H locs) (hl : lv_has ls 5 [(2, .long x36)]) : W p l e rm_MO_out s m args below meth c H locs cells slots (MQ below (va_Ql (fun r9 h9 => K r9 h9 ∧ ah_m h0 h9) (ah_B G) (fun q => G.2.2 ≤ q)) args s 0 0 (fun q => G.2.2 ≤ q)) (F0 m 79 ls []) := by
  unfold bk_MO_out_79 at w
  obtain ⟨hx, hb, hr, hml, hown, hts, hT, hlk, hK, hX, htb, hin, hst⟩ := id C
  have hw : ∀ {w9 : Cond}, w9 ∈ zx_T → w9.before _ s = true := fun h9 => hts _ (hT _ h9)
  refine lv_lload_n hx hb d_MO_out_79 rfl (lv_at hl 0 rfl) ?_
  exact hb_lret (K := fun r9 h9 => K r9 h9 ∧ ah_m h0 h9) hx hb hr hlk hK hX hW ⟨w, hm⟩ (by omega) (by omega) d_MO_out_80
set_option maxHeartbeats 4000000 in
set_option maxRecDepth 100000 in
theorem tb_MO_out_22 {p : Program} {l : Launch} {e : Env} {s : State} {m : MethodId} {args : Array Value} {below : List Frame} {meth : Method} {c : Code} {G : zG} (C : cx_C p l s m args meth c G y_MO_out b_MO_out 5 (some .long) "BigDeskModel" (Cond.code y_MO_out b_MO_out 5 (some .long) :: zx_T) []) {K : Int64 → ah_H → Prop} {h0 : ah_H} {cells slots : Nat} (hcl : cells + 0 ≤ 0) (hsl : slots + 0 ≤ 0)  (x9 : Nat) (x10 : Int32) (s11 : Int32) (s12 : Nat) (h13 : ah_H) (H : Heap) (locs : List Loc) (ls : Array Slot) (w : bk_MO_out_22 K x9 x10 s11 s12 h13) (hm : ah_m h0 h13) (hW : ah_W G s.heap h13 H locs) (hl : lv_has ls 5 [(0, .ref x9), (1, .int x10)]) : W p l e rm_MO_out s m args below meth c H locs cells slots (MQ below (va_Ql (fun r9 h9 => K r9 h9 ∧ ah_m h0 h9) (ah_B G) (fun q => G.2.2 ≤ q)) args s 0 0 (fun q => G.2.2 ≤ q)) (F0 m 22 ls [.int s11, .ref s12]) := by
  unfold bk_MO_out_22 at w
  obtain ⟨hx, hb, hr, hml, hown, hts, hT, hlk, hK, hX, htb, hin, hst⟩ := id C
  have hw : ∀ {w9 : Cond}, w9 ∈ zx_T → w9.before _ s = true := fun h9 => hts _ (hT _ h9)
  refine lv_iconst (v := 1) hx hb d_MO_out_22 (by decide) ?_
  obtain ⟨t14, w⟩ := w
  refine hb_calli (va_runV (As := [.int s11, .int (1 : Int32)]) (rest := []) ⟨hx, hb, hml, hown, hts⟩ (m_MO_fails G s12 s11 (1 : Int32) h13 hst w) (cwV 2 hts (zx_gV hT wd_683 wd_685 wd_s15 wd_5 wd_686) rfl rfl rfl (by decide +kernel) ⟨Nat.le_of_ble_eq_true rfl, Nat.le_of_ble_eq_true rfl⟩) (hb_preV hK hX hW t14 (by decide) rfl) rfl rfl hl.1 rfl (lv_room (Nat.le_of_ble_eq_true rfl)) d_MO_out_23 ⟨(by show _ ≤ 0; omega), (by show _ ≤ 0; omega)⟩) hW (fun r16 h15 H locs hk hW => ?_)
  obtain ⟨w, mm17⟩ := hk
  have w := w mm17
  have hm := hm.tr mm17
  have t18 := mm17.tg t14 (by decide)
  refine lv_if_eq (tgt := 31) hx hb d_MO_out_26 (by decide) (fun c19 => ?_) (fun c19 => ?_)
  · have w := w.1 c19
    refine lv_lconst (v := 0) hx hb d_MO_out_31 (by decide) ?_
    refine lv_lstore_n (lv' := [(2, .long (0 : Int64)), (0, .ref x9), (1, .int x10)]) hx hb d_MO_out_32 rfl hl (by decide) rfl (fun ls hl => ?_)
    refine lv_iconst (v := 0) hx hb d_MO_out_33 (by decide) ?_
    refine lv_istore (lv' := [(4, .int (0 : Int32)), (2, .long (0 : Int64)), (0, .ref x9), (1, .int x10)]) hx hb d_MO_out_34 hl (by decide) rfl (fun ls hl => ?_)
    obtain ⟨k38, w⟩ := w
    refine tl_MO_out_36 C (by omega) (by omega) (fun x34 h35 H locs ls w hm hW hl => ?_) k38 x9 x10 (0 : Int64) (0 : Int32) h15 _ _ _ w hm hW (lv_sub hl [2, 3, 1, 0] rfl)
    · exact tb_MO_out_79 C (by omega) (by omega)  x34 h35 _ _ _ w hm hW (lv_sub hl [0] rfl)
  · have w := w.2 c19
    refine lv_lconst (v := 0) hx hb d_MO_out_29 (by decide) ?_
    exact hb_lret (K := fun r9 h9 => K r9 h9 ∧ ah_m h0 h9) hx hb hr hlk hK hX hW ⟨w, hm⟩ (by omega) (by omega) d_MO_out_30
set_option maxHeartbeats 4000000 in
set_option maxRecDepth 100000 in
theorem m_MO_out {l : Launch} (G : zG) (a1 : Nat) (a2 : Int32) (h0 : ah_H) {K : Int64 → ah_H → Prop} (hst : l.stackTraces = false) (w : w_MO_out a1 a2 h0 K) : Met l y_MO_out (Cond.code y_MO_out b_MO_out 5 (some .long) :: zx_T) rm_MO_out (va_Pc [.ref a1, .int a2] (ah_B G h0)) (va_Ql (fun r9 h9 => K r9 h9 ∧ ah_m h0 h9) (ah_B G) (fun q => G.2.2 ≤ q)) 0 0 (fun q => G.2.2 ≤ q) := by
  refine Met.ofW (cc := b_MO_out) (maxL := 5) (ret := (some .long)) (by decide) rfl ?_
  intro p e s m args below meth c s₁ B hml hv
  have htb := cx_out B (atoms_spec B.pre _ List.mem_cons_self)
  obtain ⟨rfl, hB⟩ := hv
  have C : cx_C p l s m _ meth c G y_MO_out b_MO_out 5 (some .long) "BigDeskModel" (Cond.code y_MO_out b_MO_out 5 (some .long) :: zx_T) [] := ⟨B.exec, B.bytes, B.returns, hml, findClass_of_methodNamed B.named, atoms_spec B.pre, cx_hd, B.notSynchronized, hB.2.2.1, hB.2.2.2, htb, fun z9 => (name_of_methodNamed B.named B.method).1.trans z9, hst⟩
  obtain ⟨hx, hb, hr, hml, hown, hts, hT, hlk, hK, hX, htb, hin, hst⟩ := id C
  have hw : ∀ {w9 : Cond}, w9 ∈ zx_T → w9.before _ s = true := fun h9 => hts _ (hT _ h9)
  have hW : ah_W G s.heap h0 s.heap [] := ⟨hB.1, hB.2.1, va_S.rf⟩
  have hm : ah_m h0 h0 := ah_m.rf
  have hcl : 0 + 0 ≤ 0 := by decide
  have hsl : 0 + 0 ≤ 0 := by decide
  have hl := lv_entry ([.ref a1, .int a2]) (n := 5) (Nat.le_of_ble_eq_true rfl)
  rw [lg_entry_eq]
  generalize (lg_sl ([.ref a1, .int a2]) ++ List.replicate (5 - (lg_sl ([.ref a1, .int a2])).length) Slot.unset).toArray = ls at hl ⊢
  have hl : lv_has ls 5 [(0, .ref a1), (1, .int a2)] := hl
  unfold w_MO_out at w
  refine lv_aload_n hx hb d_MO_out_0 rfl (lv_at hl 0 rfl) ?_
  refine lv_iload_n hx hb d_MO_out_1 rfl (lv_at hl 1 rfl) ?_
  refine lv_i2l hx hb d_MO_out_2 rfl ?_
  refine lv_lconst (v := 0) hx hb d_MO_out_3 (by decide) ?_
  refine lv_aload_n hx hb d_MO_out_4 rfl (lv_at hl 0 rfl) ?_
  obtain ⟨t3, w⟩ := w
  refine hb_get (ci := 4) (C := "BigDeskModel") (T := T_MO) (N := 8) hx hb hts (fun w9 h9 => hT w9 (u_MO w9 h9)) hown hK hW t3 rfl (by decide) 7 (by decide) (hw wd_653) (fun _ h9 => h9) (q := (0, 6)) rfl (v := .int (ah_I h0 6 a1)) rfl d_MO_out_5 ?_
  refine lv_iconst (v := 1) hx hb d_MO_out_8 (by decide) ?_
  refine lv_isub hx hb d_MO_out_9 ?_
  refine lv_i2l hx hb d_MO_out_10 rfl ?_
  refine hb_calli (va_runS (As := [.long a2.toInt64, .long (0 : Int64), .long (((ah_I h0 6 a1) - (1 : Int32)).toInt64)]) (rest := [.ref a1]) ⟨hx, hb, hml, hown, hts⟩ (m_MO_in G a2.toInt64 (0 : Int64) (((ah_I h0 6 a1) - (1 : Int32)).toInt64) h0 hst w) (va_cwS 3 hts (zx_gS hT wd_740 wd_741 wd_5 wd_742) rfl rfl rfl (by decide +kernel) ⟨Nat.le_of_ble_eq_true rfl, Nat.le_of_ble_eq_true rfl⟩) (hb_preS hK hX hW) rfl rfl hl.1 rfl (lv_room (Nat.le_of_ble_eq_true rfl)) d_MO_out_11 ⟨(by show _ ≤ 0; omega), (by show _ ≤ 0; omega)⟩) hW (fun r5 h4 H locs hk hW => ?_)
  obtain ⟨w, mm6⟩ := hk
  have w := w mm6
  have hm := hm.tr mm6
  have t7 := mm6.tg t3 (by decide)
  refine lv_if_ne (tgt := 21) hx hb d_MO_out_14 (by decide) (fun c8 => ?_) (fun c8 => ?_)
  · have w := w.1 c8
    refine lv_iconst (v := 0) hx hb d_MO_out_21 (by decide) ?_
    exact tb_MO_out_22 C (by omega) (by omega)  a1 a2 (0 : Int32) a1 h4 _ _ _ w hm hW (lv_sub hl [0, 1] rfl)
  · have w := w.2 c8
    refine lv_iconst (v := 1) hx hb d_MO_out_17 (by decide) ?_
    refine lv_goto (tgt := 22) hx hb d_MO_out_18 (by decide) ?_
    exact tb_MO_out_22 C (by omega) (by omega)  a1 a2 (1 : Int32) a1 h4 _ _ _ w hm hW (lv_sub hl [0, 1] rfl)
set_option maxHeartbeats 4000000 in
set_option maxRecDepth 100000 in
theorem tb_MO_text_42 {p : Program} {l : Launch} {e : Env} {s : State} {m : MethodId} {args : Array Value} {below : List Frame} {meth : Method} {c : Code} {G : zG} (C : cx_C p l s m args meth c G y_MO_text b_MO_text 2 (some .int) "BigDeskModel" (Cond.code y_MO_text b_MO_text 2 (some .int) :: zx_T) []) {K : Int32 → ah_H → Prop} {h0 : ah_H} {cells slots : Nat} (hcl : cells + 0 ≤ 0) (hsl : slots + 0 ≤ 0)  (s20 : Int32) (h21 : ah_H) (H : Heap) (locs : List Loc) (ls : Array Slot) (w : bk_MO_text_42 K s20 h21) (hm : ah_m h0 h21) (hW : ah_W G s.heap h21 H locs) (hl : lv_has ls 2 []) : W p l e rm_MO_text s m args below meth c H locs cells slots (MQ below (va_Qi (fun r9 h9 => K r9 h9 ∧ ah_m h0 h9) (ah_B G) (fun q => G.2.2 ≤ q)) args s 0 0 (fun q => G.2.2 ≤ q)) (F0 m 42 ls [.int s20]) := by
  unfold bk_MO_text_42 at w
  obtain ⟨hx, hb, hr, hml, hown, hts, hT, hlk, hK, hX, htb, hin, hst⟩ := id C
  have hw : ∀ {w9 : Cond}, w9 ∈ zx_T → w9.before _ s = true := fun h9 => hts _ (hT _ h9)
  exact hb_iret (K := fun r9 h9 => K r9 h9 ∧ ah_m h0 h9) hx hb hr hlk hK hX hW ⟨w, hm⟩ (by omega) (by omega) d_MO_text_42
set_option maxHeartbeats 4000000 in
set_option maxRecDepth 100000 in
theorem tb_MO_text_16 {p : Program} {l : Launch} {e : Env} {s : State} {m : MethodId} {args : Array Value} {below : List Frame} {meth : Method} {c : Code} {G : zG} (C : cx_C p l s m args meth c G y_MO_text b_MO_text 2 (some .int) "BigDeskModel" (Cond.code y_MO_text b_MO_text 2 (some .int) :: zx_T) []) {K : Int32 → ah_H → Prop} {h0 : ah_H} {cells slots : Nat} (hcl : cells + 0 ≤ 0) (hsl : slots + 0 ≤ 0)  (x7 : Nat) (x8 : Int32) (s9 : Int32) (s10 : Nat) (h11 : ah_H) (H : Heap) (locs : List Loc) (ls : Array Slot) (w : bk_MO_text_16 K x7 x8 s9 s10 h11) (hm : ah_m h0 h11) (hW : ah_W G s.heap h11 H locs) (hl : lv_has ls 2 [(0, .ref x7), (1, .int x8)]) : W p l e rm_MO_text s m args below meth c H locs cells slots (MQ below (va_Qi (fun r9 h9 => K r9 h9 ∧ ah_m h0 h9) (ah_B G) (fun q => G.2.2 ≤ q)) args s 0 0 (fun q => G.2.2 ≤ q)) (F0 m 16 ls [.int s9, .ref s10]) := by
  unfold bk_MO_text_16 at w
  obtain ⟨hx, hb, hr, hml, hown, hts, hT, hlk, hK, hX, htb, hin, hst⟩ := id C
  have hw : ∀ {w9 : Cond}, w9 ∈ zx_T → w9.before _ s = true := fun h9 => hts _ (hT _ h9)
  refine lv_iconst (v := 1) hx hb d_MO_text_16 (by decide) ?_
  obtain ⟨t12, w⟩ := w
  refine hb_calli (va_runV (As := [.int s9, .int (1 : Int32)]) (rest := []) ⟨hx, hb, hml, hown, hts⟩ (m_MO_fails G s10 s9 (1 : Int32) h11 hst w) (cwV 2 hts (zx_gV hT wd_683 wd_685 wd_s15 wd_5 wd_686) rfl rfl rfl (by decide +kernel) ⟨Nat.le_of_ble_eq_true rfl, Nat.le_of_ble_eq_true rfl⟩) (hb_preV hK hX hW t12 (by decide) rfl) rfl rfl hl.1 rfl (lv_room (Nat.le_of_ble_eq_true rfl)) d_MO_text_17 ⟨(by show _ ≤ 0; omega), (by show _ ≤ 0; omega)⟩) hW (fun r14 h13 H locs hk hW => ?_)
  obtain ⟨w, mm15⟩ := hk
  have w := w mm15
  have hm := hm.tr mm15
  have t16 := mm15.tg t12 (by decide)
  refine lv_if_eq (tgt := 27) hx hb d_MO_text_20 (by decide) (fun c17 => ?_) (fun c17 => ?_)
  · have w := w.1 c17
    refine lv_iload_n hx hb d_MO_text_27 rfl (lv_at hl 1 rfl) ?_
    refine lv_if_ne (tgt := 38) hx hb d_MO_text_28 (by decide) (fun c18 => ?_) (fun c18 => ?_)
    · have w := w.1 c18
      refine lv_aload_n hx hb d_MO_text_38 rfl (lv_at hl 0 rfl) ?_
      obtain ⟨t19, w⟩ := w
      refine hb_get (ci := 4) (C := "BigDeskModel") (T := T_MO) (N := 8) hx hb hts (fun w9 h9 => hT w9 (u_MO w9 h9)) hown hK hW t19 rfl (by decide) 7 (by decide) (hw wd_653) (fun _ h9 => h9) (q := (0, 6)) rfl (v := .int (ah_I h13 6 x7)) rfl d_MO_text_39 ?_
      exact tb_MO_text_42 C (by omega) (by omega)  (ah_I h13 6 x7) h13 _ _ _ w hm hW (lv_sub hl [] rfl)
    · have w := w.2 c18
      refine lv_aload_n hx hb d_MO_text_31 rfl (lv_at hl 0 rfl) ?_
      obtain ⟨t22, w⟩ := w
      refine hb_get (ci := 4) (C := "BigDeskModel") (T := T_MO) (N := 8) hx hb hts (fun w9 h9 => hT w9 (u_MO w9 h9)) hown hK hW t22 rfl (by decide) 5 (by decide) (hw wd_651) (fun _ h9 => h9) (q := (0, 5)) rfl (v := .int (ah_I h13 5 x7)) rfl d_MO_text_32 ?_
      refine lv_goto (tgt := 42) hx hb d_MO_text_35 (by decide) ?_
      exact tb_MO_text_42 C (by omega) (by omega)  (ah_I h13 5 x7) h13 _ _ _ w hm hW (lv_sub hl [] rfl)
  · have w := w.2 c17
    refine lv_iconst (v := 0) hx hb d_MO_text_23 (by decide) ?_
    refine lv_goto (tgt := 42) hx hb d_MO_text_24 (by decide) ?_
    exact tb_MO_text_42 C (by omega) (by omega)  (0 : Int32) h13 _ _ _ w hm hW (lv_sub hl [] rfl)
set_option maxHeartbeats 4000000 in
set_option maxRecDepth 100000 in
theorem m_MO_text {l : Launch} (G : zG) (a1 : Nat) (a2 : Int32) (h0 : ah_H) {K : Int32 → ah_H → Prop} (hst : l.stackTraces = false) (w : w_MO_text a1 a2 h0 K) : Met l y_MO_text (Cond.code y_MO_text b_MO_text 2 (some .int) :: zx_T) rm_MO_text (va_Pc [.ref a1, .int a2] (ah_B G h0)) (va_Qi (fun r9 h9 => K r9 h9 ∧ ah_m h0 h9) (ah_B G) (fun q => G.2.2 ≤ q)) 0 0 (fun q => G.2.2 ≤ q) := by
  refine Met.ofW (cc := b_MO_text) (maxL := 2) (ret := (some .int)) (by decide) rfl ?_
  intro p e s m args below meth c s₁ B hml hv
  have htb := cx_out B (atoms_spec B.pre _ List.mem_cons_self)
  obtain ⟨rfl, hB⟩ := hv
  have C : cx_C p l s m _ meth c G y_MO_text b_MO_text 2 (some .int) "BigDeskModel" (Cond.code y_MO_text b_MO_text 2 (some .int) :: zx_T) [] := ⟨B.exec, B.bytes, B.returns, hml, findClass_of_methodNamed B.named, atoms_spec B.pre, cx_hd, B.notSynchronized, hB.2.2.1, hB.2.2.2, htb, fun z9 => (name_of_methodNamed B.named B.method).1.trans z9, hst⟩
  obtain ⟨hx, hb, hr, hml, hown, hts, hT, hlk, hK, hX, htb, hin, hst⟩ := id C
  have hw : ∀ {w9 : Cond}, w9 ∈ zx_T → w9.before _ s = true := fun h9 => hts _ (hT _ h9)
  have hW : ah_W G s.heap h0 s.heap [] := ⟨hB.1, hB.2.1, va_S.rf⟩
  have hm : ah_m h0 h0 := ah_m.rf
  have hcl : 0 + 0 ≤ 0 := by decide
  have hsl : 0 + 0 ≤ 0 := by decide
  have hl := lv_entry ([.ref a1, .int a2]) (n := 2) (Nat.le_of_ble_eq_true rfl)
  rw [lg_entry_eq]
  generalize (lg_sl ([.ref a1, .int a2]) ++ List.replicate (2 - (lg_sl ([.ref a1, .int a2])).length) Slot.unset).toArray = ls at hl ⊢
  have hl : lv_has ls 2 [(0, .ref a1), (1, .int a2)] := hl
  unfold w_MO_text at w
  refine lv_aload_n hx hb d_MO_text_0 rfl (lv_at hl 0 rfl) ?_
  refine lv_iload_n hx hb d_MO_text_1 rfl (lv_at hl 1 rfl) ?_
  refine lv_i2l hx hb d_MO_text_2 rfl ?_
  refine lv_lconst (v := 0) hx hb d_MO_text_3 (by decide) ?_
  refine lv_lconst (v := 1) hx hb d_MO_text_4 (by decide) ?_
  refine hb_calli (va_runS (As := [.long a2.toInt64, .long (0 : Int64), .long (1 : Int64)]) (rest := [.ref a1]) ⟨hx, hb, hml, hown, hts⟩ (m_MO_in G a2.toInt64 (0 : Int64) (1 : Int64) h0 hst w) (va_cwS 3 hts (zx_gS hT wd_740 wd_741 wd_5 wd_742) rfl rfl rfl (by decide +kernel) ⟨Nat.le_of_ble_eq_true rfl, Nat.le_of_ble_eq_true rfl⟩) (hb_preS hK hX hW) rfl rfl hl.1 rfl (lv_room (Nat.le_of_ble_eq_true rfl)) d_MO_text_5 ⟨(by show _ ≤ 0; omega), (by show _ ≤ 0; omega)⟩) hW (fun r4 h3 H locs hk hW => ?_)
  obtain ⟨w, mm5⟩ := hk
  have w := w mm5
  have hm := hm.tr mm5
  refine lv_if_ne (tgt := 15) hx hb d_MO_text_8 (by decide) (fun c6 => ?_) (fun c6 => ?_)
  · have w := w.1 c6
    refine lv_iconst (v := 0) hx hb d_MO_text_15 (by decide) ?_
    exact tb_MO_text_16 C (by omega) (by omega)  a1 a2 (0 : Int32) a1 h3 _ _ _ w hm hW (lv_sub hl [0, 1] rfl)
  · have w := w.2 c6
    refine lv_iconst (v := 1) hx hb d_MO_text_11 (by decide) ?_
    refine lv_goto (tgt := 16) hx hb d_MO_text_12 (by decide) ?_
    exact tb_MO_text_16 C (by omega) (by omega)  a1 a2 (1 : Int32) a1 h3 _ _ _ w hm hW (lv_sub hl [0, 1] rfl)
