theorem d_SU_sumOfAbsolutes_0 : decode b_SU_sumOfAbsolutes 0 = .ok (.aload_n 1, 1) := by decide +kernel
theorem d_SU_sumOfAbsolutes_1 : decode b_SU_sumOfAbsolutes 1 = .ok (.getfield 32, 3) := by decide +kernel
theorem d_SU_sumOfAbsolutes_4 : decode b_SU_sumOfAbsolutes 4 = .ok (.aload_n 2, 1) := by decide +kernel
theorem d_SU_sumOfAbsolutes_5 : decode b_SU_sumOfAbsolutes 5 = .ok (.getfield 32, 3) := by decide +kernel
theorem d_SU_sumOfAbsolutes_8 : decode b_SU_sumOfAbsolutes 8 = .ok (.invokestatic 40, 3) := by decide +kernel
theorem d_SU_sumOfAbsolutes_11 : decode b_SU_sumOfAbsolutes 11 = .ok (.iconst 1, 1) := by decide +kernel
theorem d_SU_sumOfAbsolutes_12 : decode b_SU_sumOfAbsolutes 12 = .ok (.iadd, 1) := by decide +kernel
theorem d_SU_sumOfAbsolutes_13 : decode b_SU_sumOfAbsolutes 13 = .ok (.sipush 258, 3) := by decide +kernel
theorem d_SU_sumOfAbsolutes_16 : decode b_SU_sumOfAbsolutes 16 = .ok (.invokestatic 46, 3) := by decide +kernel
theorem d_SU_sumOfAbsolutes_19 : decode b_SU_sumOfAbsolutes 19 = .ok (.istore_n 3, 1) := by decide +kernel
theorem d_SU_sumOfAbsolutes_20 : decode b_SU_sumOfAbsolutes 20 = .ok (.lconst 0, 1) := by decide +kernel
theorem d_SU_sumOfAbsolutes_21 : decode b_SU_sumOfAbsolutes 21 = .ok (.lstore 4, 2) := by decide +kernel
theorem d_SU_sumOfAbsolutes_23 : decode b_SU_sumOfAbsolutes 23 = .ok (.iconst 0, 1) := by decide +kernel
theorem d_SU_sumOfAbsolutes_24 : decode b_SU_sumOfAbsolutes 24 = .ok (.istore 6, 2) := by decide +kernel
theorem d_SU_sumOfAbsolutes_26 : decode b_SU_sumOfAbsolutes 26 = .ok (.iload 6, 2) := by decide +kernel
theorem d_SU_sumOfAbsolutes_28 : decode b_SU_sumOfAbsolutes 28 = .ok (.iload_n 3, 1) := by decide +kernel
theorem d_SU_sumOfAbsolutes_29 : decode b_SU_sumOfAbsolutes 29 = .ok (.if_icmp .ge 49, 3) := by decide +kernel
theorem d_SU_sumOfAbsolutes_32 : decode b_SU_sumOfAbsolutes 32 = .ok (.aload_n 1, 1) := by decide +kernel
theorem d_SU_sumOfAbsolutes_33 : decode b_SU_sumOfAbsolutes 33 = .ok (.getfield 36, 3) := by decide +kernel
theorem d_SU_sumOfAbsolutes_36 : decode b_SU_sumOfAbsolutes 36 = .ok (.iload 6, 2) := by decide +kernel
theorem d_SU_sumOfAbsolutes_38 : decode b_SU_sumOfAbsolutes 38 = .ok (.laload, 1) := by decide +kernel
theorem d_SU_sumOfAbsolutes_39 : decode b_SU_sumOfAbsolutes 39 = .ok (.aload_n 2, 1) := by decide +kernel
theorem d_SU_sumOfAbsolutes_40 : decode b_SU_sumOfAbsolutes 40 = .ok (.getfield 36, 3) := by decide +kernel
theorem d_SU_sumOfAbsolutes_43 : decode b_SU_sumOfAbsolutes 43 = .ok (.iload 6, 2) := by decide +kernel
theorem d_SU_sumOfAbsolutes_45 : decode b_SU_sumOfAbsolutes 45 = .ok (.laload, 1) := by decide +kernel
theorem d_SU_sumOfAbsolutes_46 : decode b_SU_sumOfAbsolutes 46 = .ok (.ladd, 1) := by decide +kernel
theorem d_SU_sumOfAbsolutes_47 : decode b_SU_sumOfAbsolutes 47 = .ok (.lload 4, 2) := by decide +kernel
theorem d_SU_sumOfAbsolutes_49 : decode b_SU_sumOfAbsolutes 49 = .ok (.ladd, 1) := by decide +kernel
theorem d_SU_sumOfAbsolutes_50 : decode b_SU_sumOfAbsolutes 50 = .ok (.lstore 7, 2) := by decide +kernel
theorem d_SU_sumOfAbsolutes_52 : decode b_SU_sumOfAbsolutes 52 = .ok (.aload_n 0, 1) := by decide +kernel
theorem d_SU_sumOfAbsolutes_53 : decode b_SU_sumOfAbsolutes 53 = .ok (.getfield 36, 3) := by decide +kernel
theorem d_SU_sumOfAbsolutes_56 : decode b_SU_sumOfAbsolutes 56 = .ok (.iload 6, 2) := by decide +kernel
theorem d_SU_sumOfAbsolutes_58 : decode b_SU_sumOfAbsolutes 58 = .ok (.lload 7, 2) := by decide +kernel
theorem d_SU_sumOfAbsolutes_60 : decode b_SU_sumOfAbsolutes 60 = .ok (.ldc2_w 49, 3) := by decide +kernel
theorem d_SU_sumOfAbsolutes_63 : decode b_SU_sumOfAbsolutes 63 = .ok (.land, 1) := by decide +kernel
theorem d_SU_sumOfAbsolutes_64 : decode b_SU_sumOfAbsolutes 64 = .ok (.lastore, 1) := by decide +kernel
theorem d_SU_sumOfAbsolutes_65 : decode b_SU_sumOfAbsolutes 65 = .ok (.lload 7, 2) := by decide +kernel
theorem d_SU_sumOfAbsolutes_67 : decode b_SU_sumOfAbsolutes 67 = .ok (.bipush 32, 2) := by decide +kernel
theorem d_SU_sumOfAbsolutes_69 : decode b_SU_sumOfAbsolutes 69 = .ok (.lushr, 1) := by decide +kernel
theorem d_SU_sumOfAbsolutes_70 : decode b_SU_sumOfAbsolutes 70 = .ok (.lstore 4, 2) := by decide +kernel
theorem d_SU_sumOfAbsolutes_72 : decode b_SU_sumOfAbsolutes 72 = .ok (.iinc 6 1, 3) := by decide +kernel
theorem d_SU_sumOfAbsolutes_75 : decode b_SU_sumOfAbsolutes 75 = .ok (.goto (-49), 3) := by decide +kernel
theorem d_SU_sumOfAbsolutes_78 : decode b_SU_sumOfAbsolutes 78 = .ok (.aload_n 0, 1) := by decide +kernel
theorem d_SU_sumOfAbsolutes_79 : decode b_SU_sumOfAbsolutes 79 = .ok (.iload_n 3, 1) := by decide +kernel
theorem d_SU_sumOfAbsolutes_80 : decode b_SU_sumOfAbsolutes 80 = .ok (.invokevirtual 51, 3) := by decide +kernel
theorem d_SU_sumOfAbsolutes_83 : decode b_SU_sumOfAbsolutes 83 = .ok (.return_, 1) := by decide +kernel
theorem d_SU_orderOfAbsolutes_0 : decode b_SU_orderOfAbsolutes 0 = .ok (.aload_n 0, 1) := by decide +kernel
theorem d_SU_orderOfAbsolutes_1 : decode b_SU_orderOfAbsolutes 1 = .ok (.getfield 32, 3) := by decide +kernel
theorem d_SU_orderOfAbsolutes_4 : decode b_SU_orderOfAbsolutes 4 = .ok (.aload_n 1, 1) := by decide +kernel
theorem d_SU_orderOfAbsolutes_5 : decode b_SU_orderOfAbsolutes 5 = .ok (.getfield 32, 3) := by decide +kernel
theorem d_SU_orderOfAbsolutes_8 : decode b_SU_orderOfAbsolutes 8 = .ok (.if_icmp .eq 20, 3) := by decide +kernel
theorem d_SU_orderOfAbsolutes_11 : decode b_SU_orderOfAbsolutes 11 = .ok (.aload_n 0, 1) := by decide +kernel
theorem d_SU_orderOfAbsolutes_12 : decode b_SU_orderOfAbsolutes 12 = .ok (.getfield 32, 3) := by decide +kernel
theorem d_SU_orderOfAbsolutes_15 : decode b_SU_orderOfAbsolutes 15 = .ok (.aload_n 1, 1) := by decide +kernel
theorem d_SU_orderOfAbsolutes_16 : decode b_SU_orderOfAbsolutes 16 = .ok (.getfield 32, 3) := by decide +kernel
theorem d_SU_orderOfAbsolutes_19 : decode b_SU_orderOfAbsolutes 19 = .ok (.if_icmp .ge 7, 3) := by decide +kernel
theorem d_SU_orderOfAbsolutes_22 : decode b_SU_orderOfAbsolutes 22 = .ok (.iconst (-1), 1) := by decide +kernel
theorem d_SU_orderOfAbsolutes_23 : decode b_SU_orderOfAbsolutes 23 = .ok (.goto 4, 3) := by decide +kernel
theorem d_SU_orderOfAbsolutes_26 : decode b_SU_orderOfAbsolutes 26 = .ok (.iconst 1, 1) := by decide +kernel
theorem d_SU_orderOfAbsolutes_27 : decode b_SU_orderOfAbsolutes 27 = .ok (.ireturn, 1) := by decide +kernel
theorem d_SU_orderOfAbsolutes_28 : decode b_SU_orderOfAbsolutes 28 = .ok (.aload_n 0, 1) := by decide +kernel
theorem d_SU_orderOfAbsolutes_29 : decode b_SU_orderOfAbsolutes 29 = .ok (.getfield 32, 3) := by decide +kernel
theorem d_SU_orderOfAbsolutes_32 : decode b_SU_orderOfAbsolutes 32 = .ok (.iconst 1, 1) := by decide +kernel
theorem d_SU_orderOfAbsolutes_33 : decode b_SU_orderOfAbsolutes 33 = .ok (.isub, 1) := by decide +kernel
theorem d_SU_orderOfAbsolutes_34 : decode b_SU_orderOfAbsolutes 34 = .ok (.istore_n 2, 1) := by decide +kernel
theorem d_SU_orderOfAbsolutes_35 : decode b_SU_orderOfAbsolutes 35 = .ok (.iload_n 2, 1) := by decide +kernel
theorem d_SU_orderOfAbsolutes_36 : decode b_SU_orderOfAbsolutes 36 = .ok (.ifCond .lt 47, 3) := by decide +kernel
theorem d_SU_orderOfAbsolutes_39 : decode b_SU_orderOfAbsolutes 39 = .ok (.aload_n 0, 1) := by decide +kernel
theorem d_SU_orderOfAbsolutes_40 : decode b_SU_orderOfAbsolutes 40 = .ok (.getfield 36, 3) := by decide +kernel
theorem d_SU_orderOfAbsolutes_43 : decode b_SU_orderOfAbsolutes 43 = .ok (.iload_n 2, 1) := by decide +kernel
theorem d_SU_orderOfAbsolutes_44 : decode b_SU_orderOfAbsolutes 44 = .ok (.laload, 1) := by decide +kernel
theorem d_SU_orderOfAbsolutes_45 : decode b_SU_orderOfAbsolutes 45 = .ok (.aload_n 1, 1) := by decide +kernel
theorem d_SU_orderOfAbsolutes_46 : decode b_SU_orderOfAbsolutes 46 = .ok (.getfield 36, 3) := by decide +kernel
theorem d_SU_orderOfAbsolutes_49 : decode b_SU_orderOfAbsolutes 49 = .ok (.iload_n 2, 1) := by decide +kernel
theorem d_SU_orderOfAbsolutes_50 : decode b_SU_orderOfAbsolutes 50 = .ok (.laload, 1) := by decide +kernel
theorem d_SU_orderOfAbsolutes_51 : decode b_SU_orderOfAbsolutes 51 = .ok (.lcmp, 1) := by decide +kernel
theorem d_SU_orderOfAbsolutes_52 : decode b_SU_orderOfAbsolutes 52 = .ok (.ifCond .eq 25, 3) := by decide +kernel
theorem d_SU_orderOfAbsolutes_55 : decode b_SU_orderOfAbsolutes 55 = .ok (.aload_n 0, 1) := by decide +kernel
theorem d_SU_orderOfAbsolutes_56 : decode b_SU_orderOfAbsolutes 56 = .ok (.getfield 36, 3) := by decide +kernel
theorem d_SU_orderOfAbsolutes_59 : decode b_SU_orderOfAbsolutes 59 = .ok (.iload_n 2, 1) := by decide +kernel
theorem d_SU_orderOfAbsolutes_60 : decode b_SU_orderOfAbsolutes 60 = .ok (.laload, 1) := by decide +kernel
theorem d_SU_orderOfAbsolutes_61 : decode b_SU_orderOfAbsolutes 61 = .ok (.aload_n 1, 1) := by decide +kernel
theorem d_SU_orderOfAbsolutes_62 : decode b_SU_orderOfAbsolutes 62 = .ok (.getfield 36, 3) := by decide +kernel
theorem d_SU_orderOfAbsolutes_65 : decode b_SU_orderOfAbsolutes 65 = .ok (.iload_n 2, 1) := by decide +kernel
theorem d_SU_orderOfAbsolutes_66 : decode b_SU_orderOfAbsolutes 66 = .ok (.laload, 1) := by decide +kernel
theorem d_SU_orderOfAbsolutes_67 : decode b_SU_orderOfAbsolutes 67 = .ok (.lcmp, 1) := by decide +kernel
theorem d_SU_orderOfAbsolutes_68 : decode b_SU_orderOfAbsolutes 68 = .ok (.ifCond .ge 7, 3) := by decide +kernel
theorem d_SU_orderOfAbsolutes_71 : decode b_SU_orderOfAbsolutes 71 = .ok (.iconst (-1), 1) := by decide +kernel
theorem d_SU_orderOfAbsolutes_72 : decode b_SU_orderOfAbsolutes 72 = .ok (.goto 4, 3) := by decide +kernel
theorem d_SU_orderOfAbsolutes_75 : decode b_SU_orderOfAbsolutes 75 = .ok (.iconst 1, 1) := by decide +kernel
theorem d_SU_orderOfAbsolutes_76 : decode b_SU_orderOfAbsolutes 76 = .ok (.ireturn, 1) := by decide +kernel
theorem d_SU_orderOfAbsolutes_77 : decode b_SU_orderOfAbsolutes 77 = .ok (.iinc 2 (-1), 3) := by decide +kernel
theorem d_SU_orderOfAbsolutes_80 : decode b_SU_orderOfAbsolutes 80 = .ok (.goto (-45), 3) := by decide +kernel
theorem d_SU_orderOfAbsolutes_83 : decode b_SU_orderOfAbsolutes 83 = .ok (.iconst 0, 1) := by decide +kernel
theorem d_SU_orderOfAbsolutes_84 : decode b_SU_orderOfAbsolutes 84 = .ok (.ireturn, 1) := by decide +kernel
theorem d_SU_differenceOfAbsolutes_0 : decode b_SU_differenceOfAbsolutes 0 = .ok (.aload_n 1, 1) := by decide +kernel
theorem d_SU_differenceOfAbsolutes_1 : decode b_SU_differenceOfAbsolutes 1 = .ok (.getfield 32, 3) := by decide +kernel
theorem d_SU_differenceOfAbsolutes_4 : decode b_SU_differenceOfAbsolutes 4 = .ok (.istore_n 3, 1) := by decide +kernel
theorem d_SU_differenceOfAbsolutes_5 : decode b_SU_differenceOfAbsolutes 5 = .ok (.lconst 0, 1) := by decide +kernel
theorem d_SU_differenceOfAbsolutes_6 : decode b_SU_differenceOfAbsolutes 6 = .ok (.lstore 4, 2) := by decide +kernel
theorem d_SU_differenceOfAbsolutes_8 : decode b_SU_differenceOfAbsolutes 8 = .ok (.iconst 0, 1) := by decide +kernel
theorem d_SU_differenceOfAbsolutes_9 : decode b_SU_differenceOfAbsolutes 9 = .ok (.istore 6, 2) := by decide +kernel
theorem d_SU_differenceOfAbsolutes_11 : decode b_SU_differenceOfAbsolutes 11 = .ok (.iload 6, 2) := by decide +kernel
theorem d_SU_differenceOfAbsolutes_13 : decode b_SU_differenceOfAbsolutes 13 = .ok (.iload_n 3, 1) := by decide +kernel
theorem d_SU_differenceOfAbsolutes_14 : decode b_SU_differenceOfAbsolutes 14 = .ok (.if_icmp .ge 49, 3) := by decide +kernel
theorem d_SU_differenceOfAbsolutes_17 : decode b_SU_differenceOfAbsolutes 17 = .ok (.aload_n 1, 1) := by decide +kernel
theorem d_SU_differenceOfAbsolutes_18 : decode b_SU_differenceOfAbsolutes 18 = .ok (.getfield 36, 3) := by decide +kernel
theorem d_SU_differenceOfAbsolutes_21 : decode b_SU_differenceOfAbsolutes 21 = .ok (.iload 6, 2) := by decide +kernel
theorem d_SU_differenceOfAbsolutes_23 : decode b_SU_differenceOfAbsolutes 23 = .ok (.laload, 1) := by decide +kernel
theorem d_SU_differenceOfAbsolutes_24 : decode b_SU_differenceOfAbsolutes 24 = .ok (.aload_n 2, 1) := by decide +kernel
theorem d_SU_differenceOfAbsolutes_25 : decode b_SU_differenceOfAbsolutes 25 = .ok (.getfield 36, 3) := by decide +kernel
theorem d_SU_differenceOfAbsolutes_28 : decode b_SU_differenceOfAbsolutes 28 = .ok (.iload 6, 2) := by decide +kernel
theorem d_SU_differenceOfAbsolutes_30 : decode b_SU_differenceOfAbsolutes 30 = .ok (.laload, 1) := by decide +kernel
theorem d_SU_differenceOfAbsolutes_31 : decode b_SU_differenceOfAbsolutes 31 = .ok (.lsub, 1) := by decide +kernel
theorem d_SU_differenceOfAbsolutes_32 : decode b_SU_differenceOfAbsolutes 32 = .ok (.lload 4, 2) := by decide +kernel
theorem d_SU_differenceOfAbsolutes_34 : decode b_SU_differenceOfAbsolutes 34 = .ok (.lsub, 1) := by decide +kernel
theorem d_SU_differenceOfAbsolutes_35 : decode b_SU_differenceOfAbsolutes 35 = .ok (.lstore 7, 2) := by decide +kernel
theorem d_SU_differenceOfAbsolutes_37 : decode b_SU_differenceOfAbsolutes 37 = .ok (.aload_n 0, 1) := by decide +kernel
theorem d_SU_differenceOfAbsolutes_38 : decode b_SU_differenceOfAbsolutes 38 = .ok (.getfield 36, 3) := by decide +kernel
theorem d_SU_differenceOfAbsolutes_41 : decode b_SU_differenceOfAbsolutes 41 = .ok (.iload 6, 2) := by decide +kernel
theorem d_SU_differenceOfAbsolutes_43 : decode b_SU_differenceOfAbsolutes 43 = .ok (.lload 7, 2) := by decide +kernel
theorem d_SU_differenceOfAbsolutes_45 : decode b_SU_differenceOfAbsolutes 45 = .ok (.ldc2_w 49, 3) := by decide +kernel
theorem d_SU_differenceOfAbsolutes_48 : decode b_SU_differenceOfAbsolutes 48 = .ok (.land, 1) := by decide +kernel
theorem d_SU_differenceOfAbsolutes_49 : decode b_SU_differenceOfAbsolutes 49 = .ok (.lastore, 1) := by decide +kernel
theorem d_SU_differenceOfAbsolutes_50 : decode b_SU_differenceOfAbsolutes 50 = .ok (.lload 7, 2) := by decide +kernel
theorem d_SU_differenceOfAbsolutes_52 : decode b_SU_differenceOfAbsolutes 52 = .ok (.bipush 63, 2) := by decide +kernel
theorem d_SU_differenceOfAbsolutes_54 : decode b_SU_differenceOfAbsolutes 54 = .ok (.lushr, 1) := by decide +kernel
theorem d_SU_differenceOfAbsolutes_55 : decode b_SU_differenceOfAbsolutes 55 = .ok (.lstore 4, 2) := by decide +kernel
theorem d_SU_differenceOfAbsolutes_57 : decode b_SU_differenceOfAbsolutes 57 = .ok (.iinc 6 1, 3) := by decide +kernel
theorem d_SU_differenceOfAbsolutes_60 : decode b_SU_differenceOfAbsolutes 60 = .ok (.goto (-49), 3) := by decide +kernel
theorem d_SU_differenceOfAbsolutes_63 : decode b_SU_differenceOfAbsolutes 63 = .ok (.aload_n 0, 1) := by decide +kernel
theorem d_SU_differenceOfAbsolutes_64 : decode b_SU_differenceOfAbsolutes 64 = .ok (.iload_n 3, 1) := by decide +kernel
theorem d_SU_differenceOfAbsolutes_65 : decode b_SU_differenceOfAbsolutes 65 = .ok (.invokevirtual 51, 3) := by decide +kernel
theorem d_SU_differenceOfAbsolutes_68 : decode b_SU_differenceOfAbsolutes 68 = .ok (.return_, 1) := by decide +kernel
theorem d_SU_total_0 : decode b_SU_total 0 = .ok (.aload_n 2, 1) := by decide +kernel
theorem d_SU_total_1 : decode b_SU_total 1 = .ok (.getfield 9, 3) := by decide +kernel
theorem d_SU_total_4 : decode b_SU_total 4 = .ok (.iload_n 3, 1) := by decide +kernel
theorem d_SU_total_5 : decode b_SU_total 5 = .ok (.if_icmp .eq 7, 3) := by decide +kernel
theorem d_SU_total_8 : decode b_SU_total 8 = .ok (.iconst 1, 1) := by decide +kernel
theorem d_SU_total_9 : decode b_SU_total 9 = .ok (.goto 4, 3) := by decide +kernel
theorem d_SU_total_12 : decode b_SU_total 12 = .ok (.iconst 0, 1) := by decide +kernel
theorem d_SU_total_13 : decode b_SU_total 13 = .ok (.istore 4, 2) := by decide +kernel
theorem d_SU_total_15 : decode b_SU_total 15 = .ok (.aload_n 1, 1) := by decide +kernel
theorem d_SU_total_16 : decode b_SU_total 16 = .ok (.getfield 9, 3) := by decide +kernel
theorem d_SU_total_19 : decode b_SU_total 19 = .ok (.iload 4, 2) := by decide +kernel
theorem d_SU_total_21 : decode b_SU_total 21 = .ok (.if_icmp .ne 20, 3) := by decide +kernel
theorem d_SU_total_24 : decode b_SU_total 24 = .ok (.aload_n 0, 1) := by decide +kernel
theorem d_SU_total_25 : decode b_SU_total 25 = .ok (.aload_n 1, 1) := by decide +kernel
theorem d_SU_total_26 : decode b_SU_total 26 = .ok (.aload_n 2, 1) := by decide +kernel
theorem d_SU_total_27 : decode b_SU_total 27 = .ok (.invokestatic 15, 3) := by decide +kernel
theorem d_SU_total_30 : decode b_SU_total 30 = .ok (.aload_n 0, 1) := by decide +kernel
theorem d_SU_total_31 : decode b_SU_total 31 = .ok (.aload_n 1, 1) := by decide +kernel
theorem d_SU_total_32 : decode b_SU_total 32 = .ok (.getfield 9, 3) := by decide +kernel
theorem d_SU_total_35 : decode b_SU_total 35 = .ok (.invokevirtual 21, 3) := by decide +kernel
theorem d_SU_total_38 : decode b_SU_total 38 = .ok (.goto 40, 3) := by decide +kernel
theorem d_SU_total_41 : decode b_SU_total 41 = .ok (.aload_n 1, 1) := by decide +kernel
theorem d_SU_total_42 : decode b_SU_total 42 = .ok (.aload_n 2, 1) := by decide +kernel
theorem d_SU_total_43 : decode b_SU_total 43 = .ok (.invokestatic 25, 3) := by decide +kernel
theorem d_SU_total_46 : decode b_SU_total 46 = .ok (.ifCond .lt 20, 3) := by decide +kernel
theorem d_SU_total_49 : decode b_SU_total 49 = .ok (.aload_n 0, 1) := by decide +kernel
theorem d_SU_total_50 : decode b_SU_total 50 = .ok (.aload_n 1, 1) := by decide +kernel
theorem d_SU_total_51 : decode b_SU_total 51 = .ok (.aload_n 2, 1) := by decide +kernel
theorem d_SU_total_52 : decode b_SU_total 52 = .ok (.invokestatic 29, 3) := by decide +kernel
theorem d_SU_total_55 : decode b_SU_total 55 = .ok (.aload_n 0, 1) := by decide +kernel
theorem d_SU_total_56 : decode b_SU_total 56 = .ok (.aload_n 1, 1) := by decide +kernel
theorem d_SU_total_57 : decode b_SU_total 57 = .ok (.getfield 9, 3) := by decide +kernel
theorem d_SU_total_60 : decode b_SU_total 60 = .ok (.invokevirtual 21, 3) := by decide +kernel
theorem d_SU_total_63 : decode b_SU_total 63 = .ok (.goto 15, 3) := by decide +kernel
theorem d_SU_total_66 : decode b_SU_total 66 = .ok (.aload_n 0, 1) := by decide +kernel
theorem d_SU_total_67 : decode b_SU_total 67 = .ok (.aload_n 2, 1) := by decide +kernel
theorem d_SU_total_68 : decode b_SU_total 68 = .ok (.aload_n 1, 1) := by decide +kernel
theorem d_SU_total_69 : decode b_SU_total 69 = .ok (.invokestatic 29, 3) := by decide +kernel
theorem d_SU_total_72 : decode b_SU_total 72 = .ok (.aload_n 0, 1) := by decide +kernel
theorem d_SU_total_73 : decode b_SU_total 73 = .ok (.iload 4, 2) := by decide +kernel
theorem d_SU_total_75 : decode b_SU_total 75 = .ok (.invokevirtual 21, 3) := by decide +kernel
theorem d_SU_total_78 : decode b_SU_total 78 = .ok (.return_, 1) := by decide +kernel
theorem d_SU_addRow_0 : decode b_SU_addRow 0 = .ok (.aload 4, 2) := by decide +kernel
theorem d_SU_addRow_2 : decode b_SU_addRow 2 = .ok (.getfield 36, 3) := by decide +kernel
theorem d_SU_addRow_5 : decode b_SU_addRow 5 = .ok (.astore 5, 2) := by decide +kernel
theorem d_SU_addRow_7 : decode b_SU_addRow 7 = .ok (.aload 4, 2) := by decide +kernel
theorem d_SU_addRow_9 : decode b_SU_addRow 9 = .ok (.getfield 32, 3) := by decide +kernel
theorem d_SU_addRow_12 : decode b_SU_addRow 12 = .ok (.istore 6, 2) := by decide +kernel
theorem d_SU_addRow_14 : decode b_SU_addRow 14 = .ok (.lconst 0, 1) := by decide +kernel
theorem d_SU_addRow_15 : decode b_SU_addRow 15 = .ok (.lstore 7, 2) := by decide +kernel
theorem d_SU_addRow_17 : decode b_SU_addRow 17 = .ok (.iconst 0, 1) := by decide +kernel
theorem d_SU_addRow_18 : decode b_SU_addRow 18 = .ok (.istore 9, 2) := by decide +kernel
theorem d_SU_addRow_20 : decode b_SU_addRow 20 = .ok (.iload 9, 2) := by decide +kernel
theorem d_SU_addRow_22 : decode b_SU_addRow 22 = .ok (.iload 6, 2) := by decide +kernel
theorem d_SU_addRow_24 : decode b_SU_addRow 24 = .ok (.if_icmp .ge 47, 3) := by decide +kernel
theorem d_SU_addRow_27 : decode b_SU_addRow 27 = .ok (.lload_n 2, 1) := by decide +kernel
theorem d_SU_addRow_28 : decode b_SU_addRow 28 = .ok (.aload 5, 2) := by decide +kernel
theorem d_SU_addRow_30 : decode b_SU_addRow 30 = .ok (.iload 9, 2) := by decide +kernel
theorem d_SU_addRow_32 : decode b_SU_addRow 32 = .ok (.laload, 1) := by decide +kernel
theorem d_SU_addRow_33 : decode b_SU_addRow 33 = .ok (.lmul, 1) := by decide +kernel
theorem d_SU_addRow_34 : decode b_SU_addRow 34 = .ok (.aload_n 0, 1) := by decide +kernel
theorem d_SU_addRow_35 : decode b_SU_addRow 35 = .ok (.iload_n 1, 1) := by decide +kernel
theorem d_SU_addRow_36 : decode b_SU_addRow 36 = .ok (.iload 9, 2) := by decide +kernel
theorem d_SU_addRow_38 : decode b_SU_addRow 38 = .ok (.iadd, 1) := by decide +kernel
theorem d_SU_addRow_39 : decode b_SU_addRow 39 = .ok (.laload, 1) := by decide +kernel
theorem d_SU_addRow_40 : decode b_SU_addRow 40 = .ok (.ladd, 1) := by decide +kernel
theorem d_SU_addRow_41 : decode b_SU_addRow 41 = .ok (.lload 7, 2) := by decide +kernel
theorem d_SU_addRow_43 : decode b_SU_addRow 43 = .ok (.ladd, 1) := by decide +kernel
theorem d_SU_addRow_44 : decode b_SU_addRow 44 = .ok (.lstore 10, 2) := by decide +kernel
theorem d_SU_addRow_46 : decode b_SU_addRow 46 = .ok (.aload_n 0, 1) := by decide +kernel
theorem d_SU_addRow_47 : decode b_SU_addRow 47 = .ok (.iload_n 1, 1) := by decide +kernel
theorem d_SU_addRow_48 : decode b_SU_addRow 48 = .ok (.iload 9, 2) := by decide +kernel
theorem d_SU_addRow_50 : decode b_SU_addRow 50 = .ok (.iadd, 1) := by decide +kernel
theorem d_SU_addRow_51 : decode b_SU_addRow 51 = .ok (.lload 10, 2) := by decide +kernel
theorem d_SU_addRow_53 : decode b_SU_addRow 53 = .ok (.ldc2_w 49, 3) := by decide +kernel
theorem d_SU_addRow_56 : decode b_SU_addRow 56 = .ok (.land, 1) := by decide +kernel
theorem d_SU_addRow_57 : decode b_SU_addRow 57 = .ok (.lastore, 1) := by decide +kernel
theorem d_SU_addRow_58 : decode b_SU_addRow 58 = .ok (.lload 10, 2) := by decide +kernel
theorem d_SU_addRow_60 : decode b_SU_addRow 60 = .ok (.bipush 32, 2) := by decide +kernel
theorem d_SU_addRow_62 : decode b_SU_addRow 62 = .ok (.lushr, 1) := by decide +kernel
theorem d_SU_addRow_63 : decode b_SU_addRow 63 = .ok (.lstore 7, 2) := by decide +kernel
theorem d_SU_addRow_65 : decode b_SU_addRow 65 = .ok (.iinc 9 1, 3) := by decide +kernel
theorem d_SU_addRow_68 : decode b_SU_addRow 68 = .ok (.goto (-48), 3) := by decide +kernel
theorem d_SU_addRow_71 : decode b_SU_addRow 71 = .ok (.aload_n 0, 1) := by decide +kernel
theorem d_SU_addRow_72 : decode b_SU_addRow 72 = .ok (.iload_n 1, 1) := by decide +kernel
theorem d_SU_addRow_73 : decode b_SU_addRow 73 = .ok (.iload 6, 2) := by decide +kernel
theorem d_SU_addRow_75 : decode b_SU_addRow 75 = .ok (.iadd, 1) := by decide +kernel
theorem d_SU_addRow_76 : decode b_SU_addRow 76 = .ok (.lload 7, 2) := by decide +kernel
theorem d_SU_addRow_78 : decode b_SU_addRow 78 = .ok (.lastore, 1) := by decide +kernel
theorem d_SU_addRow_79 : decode b_SU_addRow 79 = .ok (.return_, 1) := by decide +kernel
theorem d_SU_product_0 : decode b_SU_product 0 = .ok (.aload_n 1, 1) := by decide +kernel
theorem d_SU_product_1 : decode b_SU_product 1 = .ok (.getfield 32, 3) := by decide +kernel
theorem d_SU_product_4 : decode b_SU_product 4 = .ok (.aload_n 2, 1) := by decide +kernel
theorem d_SU_product_5 : decode b_SU_product 5 = .ok (.getfield 32, 3) := by decide +kernel
theorem d_SU_product_8 : decode b_SU_product 8 = .ok (.iadd, 1) := by decide +kernel
theorem d_SU_product_9 : decode b_SU_product 9 = .ok (.istore_n 3, 1) := by decide +kernel
theorem d_SU_product_10 : decode b_SU_product 10 = .ok (.iload_n 3, 1) := by decide +kernel
theorem d_SU_product_11 : decode b_SU_product 11 = .ok (.sipush 258, 3) := by decide +kernel
theorem d_SU_product_14 : decode b_SU_product 14 = .ok (.if_icmp .le 5, 3) := by decide +kernel
theorem d_SU_product_17 : decode b_SU_product 17 = .ok (.iconst 0, 1) := by decide +kernel
theorem d_SU_product_18 : decode b_SU_product 18 = .ok (.ireturn, 1) := by decide +kernel
theorem d_SU_product_19 : decode b_SU_product 19 = .ok (.iconst 0, 1) := by decide +kernel
theorem d_SU_product_20 : decode b_SU_product 20 = .ok (.istore 4, 2) := by decide +kernel
theorem d_SU_product_22 : decode b_SU_product 22 = .ok (.iload 4, 2) := by decide +kernel
theorem d_SU_product_24 : decode b_SU_product 24 = .ok (.iload_n 3, 1) := by decide +kernel
theorem d_SU_product_25 : decode b_SU_product 25 = .ok (.if_icmp .ge 17, 3) := by decide +kernel
theorem d_SU_product_28 : decode b_SU_product 28 = .ok (.aload_n 0, 1) := by decide +kernel
theorem d_SU_product_29 : decode b_SU_product 29 = .ok (.getfield 36, 3) := by decide +kernel
theorem d_SU_product_32 : decode b_SU_product 32 = .ok (.iload 4, 2) := by decide +kernel
theorem d_SU_product_34 : decode b_SU_product 34 = .ok (.lconst 0, 1) := by decide +kernel
theorem d_SU_product_35 : decode b_SU_product 35 = .ok (.lastore, 1) := by decide +kernel
theorem d_SU_product_36 : decode b_SU_product 36 = .ok (.iinc 4 1, 3) := by decide +kernel
theorem d_SU_product_39 : decode b_SU_product 39 = .ok (.goto (-17), 3) := by decide +kernel
theorem d_SU_product_42 : decode b_SU_product 42 = .ok (.iconst 0, 1) := by decide +kernel
theorem d_SU_product_43 : decode b_SU_product 43 = .ok (.istore 4, 2) := by decide +kernel
theorem d_SU_product_45 : decode b_SU_product 45 = .ok (.iload 4, 2) := by decide +kernel
theorem d_SU_product_47 : decode b_SU_product 47 = .ok (.aload_n 1, 1) := by decide +kernel
theorem d_SU_product_48 : decode b_SU_product 48 = .ok (.getfield 32, 3) := by decide +kernel
theorem d_SU_product_51 : decode b_SU_product 51 = .ok (.if_icmp .ge 26, 3) := by decide +kernel
theorem d_SU_product_54 : decode b_SU_product 54 = .ok (.aload_n 0, 1) := by decide +kernel
theorem d_SU_product_55 : decode b_SU_product 55 = .ok (.getfield 36, 3) := by decide +kernel
theorem d_SU_product_58 : decode b_SU_product 58 = .ok (.iload 4, 2) := by decide +kernel
theorem d_SU_product_60 : decode b_SU_product 60 = .ok (.aload_n 1, 1) := by decide +kernel
theorem d_SU_product_61 : decode b_SU_product 61 = .ok (.getfield 36, 3) := by decide +kernel
theorem d_SU_product_64 : decode b_SU_product 64 = .ok (.iload 4, 2) := by decide +kernel
theorem d_SU_product_66 : decode b_SU_product 66 = .ok (.laload, 1) := by decide +kernel
theorem d_SU_product_67 : decode b_SU_product 67 = .ok (.aload_n 2, 1) := by decide +kernel
theorem d_SU_product_68 : decode b_SU_product 68 = .ok (.invokestatic 55, 3) := by decide +kernel
theorem d_SU_product_71 : decode b_SU_product 71 = .ok (.iinc 4 1, 3) := by decide +kernel
theorem d_SU_product_74 : decode b_SU_product 74 = .ok (.goto (-29), 3) := by decide +kernel
theorem d_SU_product_77 : decode b_SU_product 77 = .ok (.aload_n 0, 1) := by decide +kernel
theorem d_SU_product_78 : decode b_SU_product 78 = .ok (.iload_n 3, 1) := by decide +kernel
theorem d_SU_product_79 : decode b_SU_product 79 = .ok (.invokevirtual 51, 3) := by decide +kernel
theorem d_SU_product_82 : decode b_SU_product 82 = .ok (.aload_n 0, 1) := by decide +kernel
theorem d_SU_product_83 : decode b_SU_product 83 = .ok (.aload_n 1, 1) := by decide +kernel
theorem d_SU_product_84 : decode b_SU_product 84 = .ok (.getfield 9, 3) := by decide +kernel
theorem d_SU_product_87 : decode b_SU_product 87 = .ok (.aload_n 2, 1) := by decide +kernel
theorem d_SU_product_88 : decode b_SU_product 88 = .ok (.getfield 9, 3) := by decide +kernel
theorem d_SU_product_91 : decode b_SU_product 91 = .ok (.if_icmp .eq 7, 3) := by decide +kernel
theorem d_SU_product_94 : decode b_SU_product 94 = .ok (.iconst 1, 1) := by decide +kernel
theorem d_SU_product_95 : decode b_SU_product 95 = .ok (.goto 4, 3) := by decide +kernel
theorem d_SU_product_98 : decode b_SU_product 98 = .ok (.iconst 0, 1) := by decide +kernel
theorem d_SU_product_99 : decode b_SU_product 99 = .ok (.invokevirtual 21, 3) := by decide +kernel
theorem d_SU_product_102 : decode b_SU_product 102 = .ok (.iconst 1, 1) := by decide +kernel
theorem d_SU_product_103 : decode b_SU_product 103 = .ok (.ireturn, 1) := by decide +kernel
abbrev rm_SU_sumOfAbsolutes : Room := { frames := 1, cells := 0, slots := 0, locals := 24 }
def lp_SU_sumOfAbsolutes_26 (xt_78 : Nat → Int32 → ah_H → Prop) (K : ah_H → Prop) : Nat → Nat → Nat → Nat → Int32 → Int64 → Int32 → ah_H → Prop
  | 0, _, _, _, _, _, _, _ => False
  | n + 1, x7, x8, x9, x10, x11, x12, h13 =>
    (x10 ≤ x12 → (xt_78 x7 x10 h13)) ∧ (¬ x10 ≤ x12 → (ah_T h13 x8 = 3 ∧ ∃ q16, ah_R h13 5 x8 = some q16 ∧ ah_T h13 q16 = 110 ∧ vp_in x12 (ah_N h13 q16) ∧ ah_T h13 x9 = 3 ∧ ∃ q21, ah_R h13 5 x9 = some q21 ∧ ah_T h13 q21 = 110 ∧ vp_in x12 (ah_N h13 q21) ∧ ∀ v25 : Int64, v25 = ((ah_bL h13 q16 x12.toNatClampNeg) + (ah_bL h13 q21 x12.toNatClampNeg)) + x11 → ah_T h13 x7 = 3 ∧ ∃ q27, ah_R h13 5 x7 = some q27 ∧ ∀ v29 : Int64, v29 = v25 &&& (4294967295 : Int64) → ah_T h13 q27 = 110 ∧ vp_in x12 (ah_N h13 q27) ∧ ∀ h32 : ah_H, h32 = ah_cL h13 q27 (vp_updL (ah_bL h13 q27) x12.toNatClampNeg v29) → ∀ v40 : Int64, v40 = (v25.toUInt64 >>> ((32 : Int32).toInt64.toUInt64 &&& Int64.toUInt64 63)).toInt64 → ∀ v41 : Int32, v41 = x12 + 1 → (lp_SU_sumOfAbsolutes_26 xt_78 K n) x7 x8 x9 x10 v40 v41 h32))
def w_SU_sumOfAbsolutes (a1 : Nat) (a2 : Nat) (a3 : Nat) (h0 : ah_H) (K : ah_H → Prop) : Prop :=
  ah_T h0 a2 = 3 ∧ ah_T h0 a3 = 3 ∧ ∀ v6 : Int32, v6 = (if (258 : Int32) < ((if (ah_I h0 0 a2) < (ah_I h0 0 a3) then (ah_I h0 0 a3) else (ah_I h0 0 a2)) + (1 : Int32)) then (258 : Int32) else ((if (ah_I h0 0 a2) < (ah_I h0 0 a3) then (ah_I h0 0 a3) else (ah_I h0 0 a2)) + (1 : Int32))) → ∃ k49, lp_SU_sumOfAbsolutes_26 (fun (x42 : Nat) (x43 : Int32) h44 => ah_T h44 x42 = 3 ∧ w_WH_settle x42 x43 h44 (fun h46 => ah_m h44 h46 → K h46)) K k49 a1 a2 a3 v6 (0 : Int64) (0 : Int32) h0
abbrev rm_SU_orderOfAbsolutes : Room := { frames := 0, cells := 0, slots := 0, locals := 0 }
def lp_SU_orderOfAbsolutes_35 (xt_55 : Nat → Nat → Int32 → ah_H → Prop) (xt_83 : ah_H → Prop) (K : Int32 → ah_H → Prop) : Nat → Nat → Nat → Int32 → ah_H → Prop
  | 0, _, _, _, _ => False
  | n + 1, x7, x8, x9, h10 =>
    (x9 < 0 → (xt_83 h10)) ∧ (¬ x9 < 0 → (ah_T h10 x7 = 3 ∧ ∃ q13, ah_R h10 5 x7 = some q13 ∧ ah_T h10 q13 = 110 ∧ vp_in x9 (ah_N h10 q13) ∧ ah_T h10 x8 = 3 ∧ ∃ q18, ah_R h10 5 x8 = some q18 ∧ ah_T h10 q18 = 110 ∧ vp_in x9 (ah_N h10 q18) ∧ ((ah_bL h10 q13 x9.toNatClampNeg) = (ah_bL h10 q18 x9.toNatClampNeg) → (∀ v23 : Int32, v23 = x9 + (-1) → (lp_SU_orderOfAbsolutes_35 xt_55 xt_83 K n) x7 x8 v23 h10)) ∧ (¬ (ah_bL h10 q13 x9.toNatClampNeg) = (ah_bL h10 q18 x9.toNatClampNeg) → (xt_55 x7 x8 x9 h10))))
def bk_SU_orderOfAbsolutes_76  (K : Int32 → ah_H → Prop) (s39 : Int32) (h40 : ah_H) : Prop :=
  K s39 h40
def bk_SU_orderOfAbsolutes_27  (K : Int32 → ah_H → Prop) (s44 : Int32) (h45 : ah_H) : Prop :=
  K s44 h45
def w_SU_orderOfAbsolutes (a1 : Nat) (a2 : Nat) (h0 : ah_H) (K : Int32 → ah_H → Prop) : Prop :=
  ah_T h0 a1 = 3 ∧ ah_T h0 a2 = 3 ∧ ((ah_I h0 0 a1) = (ah_I h0 0 a2) → (∀ v6 : Int32, v6 = (ah_I h0 0 a1) - (1 : Int32) → ∃ k42, lp_SU_orderOfAbsolutes_35 (fun (x24 : Nat) (x25 : Nat) (x26 : Int32) h27 => ah_T h27 x24 = 3 ∧ ∃ q29, ah_R h27 5 x24 = some q29 ∧ ah_T h27 q29 = 110 ∧ vp_in x26 (ah_N h27 q29) ∧ ah_T h27 x25 = 3 ∧ ∃ q34, ah_R h27 5 x25 = some q34 ∧ ah_T h27 q34 = 110 ∧ vp_in x26 (ah_N h27 q34) ∧ ((ah_bL h27 q34 x26.toNatClampNeg) ≤ (ah_bL h27 q29 x26.toNatClampNeg) → (bk_SU_orderOfAbsolutes_76 K (1 : Int32) h27)) ∧ (¬ (ah_bL h27 q34 x26.toNatClampNeg) ≤ (ah_bL h27 q29 x26.toNatClampNeg) → (bk_SU_orderOfAbsolutes_76 K (-1 : Int32) h27))) (fun  h41 => K (0 : Int32) h41) K k42 a1 a2 v6 h0)) ∧ (¬ (ah_I h0 0 a1) = (ah_I h0 0 a2) → (((ah_I h0 0 a2) ≤ (ah_I h0 0 a1) → (bk_SU_orderOfAbsolutes_27 K (1 : Int32) h0)) ∧ (¬ (ah_I h0 0 a2) ≤ (ah_I h0 0 a1) → (bk_SU_orderOfAbsolutes_27 K (-1 : Int32) h0))))
abbrev rm_SU_differenceOfAbsolutes : Room := { frames := 1, cells := 0, slots := 0, locals := 22 }
def lp_SU_differenceOfAbsolutes_11 (xt_63 : Nat → Int32 → ah_H → Prop) (K : ah_H → Prop) : Nat → Nat → Nat → Nat → Int32 → Int64 → Int32 → ah_H → Prop
  | 0, _, _, _, _, _, _, _ => False
  | n + 1, x6, x7, x8, x9, x10, x11, h12 =>
    (x9 ≤ x11 → (xt_63 x6 x9 h12)) ∧ (¬ x9 ≤ x11 → (ah_T h12 x7 = 3 ∧ ∃ q15, ah_R h12 5 x7 = some q15 ∧ ah_T h12 q15 = 110 ∧ vp_in x11 (ah_N h12 q15) ∧ ah_T h12 x8 = 3 ∧ ∃ q20, ah_R h12 5 x8 = some q20 ∧ ah_T h12 q20 = 110 ∧ vp_in x11 (ah_N h12 q20) ∧ ∀ v24 : Int64, v24 = ((ah_bL h12 q15 x11.toNatClampNeg) - (ah_bL h12 q20 x11.toNatClampNeg)) - x10 → ah_T h12 x6 = 3 ∧ ∃ q26, ah_R h12 5 x6 = some q26 ∧ ∀ v28 : Int64, v28 = v24 &&& (4294967295 : Int64) → ah_T h12 q26 = 110 ∧ vp_in x11 (ah_N h12 q26) ∧ ∀ h31 : ah_H, h31 = ah_cL h12 q26 (vp_updL (ah_bL h12 q26) x11.toNatClampNeg v28) → ∀ v39 : Int64, v39 = (v24.toUInt64 >>> ((63 : Int32).toInt64.toUInt64 &&& Int64.toUInt64 63)).toInt64 → ∀ v40 : Int32, v40 = x11 + 1 → (lp_SU_differenceOfAbsolutes_11 xt_63 K n) x6 x7 x8 x9 v39 v40 h31))
def w_SU_differenceOfAbsolutes (a1 : Nat) (a2 : Nat) (a3 : Nat) (h0 : ah_H) (K : ah_H → Prop) : Prop :=
  ah_T h0 a2 = 3 ∧ ∀ v5 : Int32, v5 = ah_I h0 0 a2 → ∃ k48, lp_SU_differenceOfAbsolutes_11 (fun (x41 : Nat) (x42 : Int32) h43 => ah_T h43 x41 = 3 ∧ w_WH_settle x41 x42 h43 (fun h45 => ah_m h43 h45 → K h45)) K k48 a1 a2 a3 v5 (0 : Int64) (0 : Int32) h0
abbrev rm_SU_total : Room := { frames := 2, cells := 0, slots := 0, locals := 52 }
def bk_SU_total_78  (K : ah_H → Prop)  (h27 : ah_H) : Prop :=
  K h27
def bk_SU_total_13  (K : ah_H → Prop) (x7 : Nat) (x8 : Nat) (x9 : Nat) (s10 : Int32) (h11 : ah_H) : Prop :=
  ah_T h11 x8 = 3 ∧ (¬ (ah_I h11 1 x8) = s10 → (w_SU_orderOfAbsolutes x8 x9 h11 (fun r15 h14 => ah_m h11 h14 → (r15 < 0 → (w_SU_differenceOfAbsolutes x7 x9 x8 h14 (fun h19 => ah_m h14 h19 → ah_T h19 x7 = 3 ∧ w_WH_markSign x7 s10 h19 (fun h23 => ah_m h19 h23 → bk_SU_total_78 K h23)))) ∧ (¬ r15 < 0 → (w_SU_differenceOfAbsolutes x7 x8 x9 h14 (fun h28 => ah_m h14 h28 → ah_T h28 x7 = 3 ∧ w_WH_markSign x7 (ah_I h28 1 x8) h28 (fun h32 => ah_m h28 h32 → bk_SU_total_78 K h32))))))) ∧ ((ah_I h11 1 x8) = s10 → (w_SU_sumOfAbsolutes x7 x8 x9 h11 (fun h36 => ah_m h11 h36 → ah_T h36 x7 = 3 ∧ w_WH_markSign x7 (ah_I h36 1 x8) h36 (fun h40 => ah_m h36 h40 → bk_SU_total_78 K h40))))
def w_SU_total (a1 : Nat) (a2 : Nat) (a3 : Nat) (a4 : Int32) (h0 : ah_H) (K : ah_H → Prop) : Prop :=
  ah_T h0 a3 = 3 ∧ ((ah_I h0 1 a3) = a4 → (bk_SU_total_13 K a1 a2 a3 (0 : Int32) h0)) ∧ (¬ (ah_I h0 1 a3) = a4 → (bk_SU_total_13 K a1 a2 a3 (1 : Int32) h0))
abbrev rm_SU_addRow : Room := { frames := 0, cells := 0, slots := 0, locals := 0 }
def lp_SU_addRow_20 (xt_71 : Nat → Int32 → Int32 → Int64 → ah_H → Prop) (K : ah_H → Prop) : Nat → Nat → Int32 → Int64 → Nat → Int32 → Int64 → Int32 → ah_H → Prop
  | 0, _, _, _, _, _, _, _, _ => False
  | n + 1, x9, x10, x11, x12, x13, x14, x15, h16 =>
    (x13 ≤ x15 → (xt_71 x9 x10 x13 x14 h16)) ∧ (¬ x13 ≤ x15 → (ah_T h16 x12 = 110 ∧ vp_in x15 (ah_N h16 x12) ∧ ah_T h16 x9 = 110 ∧ vp_in (x10 + x15) (ah_N h16 x9) ∧ ∀ v22 : Int64, v22 = ((x11 * (ah_bL h16 x12 x15.toNatClampNeg)) + (ah_bL h16 x9 (x10 + x15).toNatClampNeg)) + x14 → ∀ v23 : Int64, v23 = v22 &&& (4294967295 : Int64) → vp_in (x10 + x15) (ah_N h16 x9) ∧ ∀ h25 : ah_H, h25 = ah_cL h16 x9 (vp_updL (ah_bL h16 x9) (x10 + x15).toNatClampNeg v23) → ∀ v29 : Int64, v29 = (v22.toUInt64 >>> ((32 : Int32).toInt64.toUInt64 &&& Int64.toUInt64 63)).toInt64 → ∀ v30 : Int32, v30 = x15 + 1 → (lp_SU_addRow_20 xt_71 K n) x9 x10 x11 x12 x13 v29 v30 h25))
def w_SU_addRow (a1 : Nat) (a2 : Int32) (a3 : Int64) (a4 : Nat) (h0 : ah_H) (K : ah_H → Prop) : Prop :=
  ah_T h0 a4 = 3 ∧ ∃ q6, ah_R h0 5 a4 = some q6 ∧ ∀ v8 : Int32, v8 = ah_I h0 0 a4 → ∃ k41, lp_SU_addRow_20 (fun (x31 : Nat) (x32 : Int32) (x33 : Int32) (x34 : Int64) h35 => ah_T h35 x31 = 110 ∧ vp_in (x32 + x33) (ah_N h35 x31) ∧ ∀ h38 : ah_H, h38 = ah_cL h35 x31 (vp_updL (ah_bL h35 x31) (x32 + x33).toNatClampNeg x34) → K h38) K k41 a1 a2 a3 q6 v8 (0 : Int64) (0 : Int32) h0
abbrev rm_SU_product : Room := { frames := 1, cells := 0, slots := 0, locals := 31 }
def lp_SU_product_22 (xt_42 : Nat → Nat → Nat → Int32 → ah_H → Prop) (K : Int32 → ah_H → Prop) : Nat → Nat → Nat → Nat → Int32 → Int32 → ah_H → Prop
  | 0, _, _, _, _, _, _ => False
  | n + 1, x8, x9, x10, x11, x12, h13 =>
    (x11 ≤ x12 → (xt_42 x8 x9 x10 x11 h13)) ∧ (¬ x11 ≤ x12 → (ah_T h13 x8 = 3 ∧ ∃ q16, ah_R h13 5 x8 = some q16 ∧ ah_T h13 q16 = 110 ∧ vp_in x12 (ah_N h13 q16) ∧ ∀ h20 : ah_H, h20 = ah_cL h13 q16 (vp_updL (ah_bL h13 q16) x12.toNatClampNeg (0 : Int64)) → ∀ v24 : Int32, v24 = x12 + 1 → (lp_SU_product_22 xt_42 K n) x8 x9 x10 x11 v24 h20))
def lp_SU_product_45 (xt_77 : Nat → Nat → Nat → Int32 → ah_H → Prop) (K : Int32 → ah_H → Prop) : Nat → Nat → Nat → Nat → Int32 → Int32 → ah_H → Prop
  | 0, _, _, _, _, _, _ => False
  | n + 1, x30, x31, x32, x33, x34, h35 =>
    ah_T h35 x31 = 3 ∧ ((ah_I h35 0 x31) ≤ x34 → (xt_77 x30 x31 x32 x33 h35)) ∧ (¬ (ah_I h35 0 x31) ≤ x34 → (ah_T h35 x30 = 3 ∧ ∃ q39, ah_R h35 5 x30 = some q39 ∧ ∃ q41, ah_R h35 5 x31 = some q41 ∧ ah_T h35 q41 = 110 ∧ vp_in x34 (ah_N h35 q41) ∧ w_SU_addRow q39 x34 (ah_bL h35 q41 x34.toNatClampNeg) x32 h35 (fun h45 => ah_m h35 h45 → ∀ v50 : Int32, v50 = x34 + 1 → (lp_SU_product_45 xt_77 K n) x30 x31 x32 x33 v50 h45)))
def bk_SU_product_99  (K : Int32 → ah_H → Prop) (s63 : Int32) (s64 : Nat) (h65 : ah_H) : Prop :=
  ah_T h65 s64 = 3 ∧ w_WH_markSign s64 s63 h65 (fun h67 => ah_m h65 h67 → K (1 : Int32) h67)
def w_SU_product (a1 : Nat) (a2 : Nat) (a3 : Nat) (h0 : ah_H) (K : Int32 → ah_H → Prop) : Prop :=
  ah_T h0 a2 = 3 ∧ ah_T h0 a3 = 3 ∧ ∀ v6 : Int32, v6 = (ah_I h0 0 a2) + (ah_I h0 0 a3) → (v6 ≤ (258 : Int32) → (∃ k71, lp_SU_product_22 (fun (x25 : Nat) (x26 : Nat) (x27 : Nat) (x28 : Int32) h29 => ∃ k70, lp_SU_product_45 (fun (x51 : Nat) (x52 : Nat) (x53 : Nat) (x54 : Int32) h55 => ah_T h55 x51 = 3 ∧ w_WH_settle x51 x54 h55 (fun h57 => ah_m h55 h57 → ah_T h57 x52 = 3 ∧ ah_T h57 x53 = 3 ∧ ((ah_I h57 1 x52) = (ah_I h57 1 x53) → (bk_SU_product_99 K (0 : Int32) x51 h57)) ∧ (¬ (ah_I h57 1 x52) = (ah_I h57 1 x53) → (bk_SU_product_99 K (1 : Int32) x51 h57)))) K k70 x25 x26 x27 x28 (0 : Int32) h29) K k71 a1 a2 a3 v6 (0 : Int32) h0)) ∧ (¬ v6 ≤ (258 : Int32) → (K (0 : Int32) h0))
set_option maxHeartbeats 4000000 in
set_option maxRecDepth 100000 in
theorem tl_SU_sumOfAbsolutes_26 {p : Program} {l : Launch} {e : Env} {s : State} {m : MethodId} {args : Array Value} {below : List Frame} {meth : Method} {c : Code} {G : zG} (C : cx_C p l s m args meth c G y_SU_sumOfAbsolutes b_SU_sumOfAbsolutes 9 none "BigDesk$Sums" (Cond.code y_SU_sumOfAbsolutes b_SU_sumOfAbsolutes 9 none :: zx_T) []) {K : ah_H → Prop} {h0 : ah_H} {cells slots : Nat} (hcl : cells + 0 ≤ 0) (hsl : slots + 0 ≤ 0) {xt_78 : Nat → Int32 → ah_H → Prop} (hc_xt_78 : ∀ (z0 : Nat) (z1 : Int32) (hz : ah_H) (H : Heap) (locs : List Loc) (ls : Array Slot), xt_78 z0 z1 hz → ah_m h0 hz → ah_W G s.heap hz H locs → lv_has ls 9 [(0, .ref z0), (3, .int z1)] → W p l e rm_SU_sumOfAbsolutes s m args below meth c H locs cells slots (MQ below (va_Qv (fun h9 => K h9 ∧ ah_m h0 h9) (ah_B G) (fun q => G.2.2 ≤ q)) args s 0 0 (fun q => G.2.2 ≤ q)) (F0 m 78 ls [])) : ∀ (n : Nat) (x7 : Nat) (x8 : Nat) (x9 : Nat) (x10 : Int32) (x11 : Int64) (x12 : Int32) (h13 : ah_H) (H : Heap) (locs : List Loc) (ls : Array Slot), lp_SU_sumOfAbsolutes_26 xt_78 K n x7 x8 x9 x10 x11 x12 h13 → ah_m h0 h13 → ah_W G s.heap h13 H locs → lv_has ls 9 [(0, .ref x7), (1, .ref x8), (2, .ref x9), (3, .int x10), (4, .long x11), (6, .int x12)] → W p l e rm_SU_sumOfAbsolutes s m args below meth c H locs cells slots (MQ below (va_Qv (fun h9 => K h9 ∧ ah_m h0 h9) (ah_B G) (fun q => G.2.2 ≤ q)) args s 0 0 (fun q => G.2.2 ≤ q)) (F0 m 26 ls []) := by
  obtain ⟨hx, hb, hr, hml, hown, hts, hT, hlk, hK, hX, htb, hin, hst⟩ := id C
  have hw : ∀ {w9 : Cond}, w9 ∈ zx_T → w9.before _ s = true := fun h9 => hts _ (hT _ h9)
  intro n
  induction n with
  | zero =>
    intro x7 x8 x9 x10 x11 x12 h13 H locs ls w
    exact absurd w (by intro z9; exact z9)
  | succ n ih =>
    intro x7 x8 x9 x10 x11 x12 h13 H locs ls w hm hW hl
    unfold lp_SU_sumOfAbsolutes_26 at w
    refine lv_iload hx hb d_SU_sumOfAbsolutes_26 (lv_at hl 5 rfl) ?_
    refine lv_iload_n hx hb d_SU_sumOfAbsolutes_28 rfl (lv_at hl 3 rfl) ?_
    refine lv_icmp_ge (tgt := 78) hx hb d_SU_sumOfAbsolutes_29 (by decide) (fun c14 => ?_) (fun c14 => ?_)
    · have w := w.1 c14
      exact hc_xt_78 x7 x10 h13 _ _ _ w hm hW (lv_sub hl [0, 3] rfl)
    · have w := w.2 c14
      refine lv_aload_n hx hb d_SU_sumOfAbsolutes_32 rfl (lv_at hl 1 rfl) ?_
      obtain ⟨t15, w⟩ := w
      obtain ⟨q16, e17, w⟩ := w
      refine hb_get (ci := 2) (C := "BigDesk$Whole") (T := T_WH) (N := 3) hx hb hts (fun w9 h9 => hT w9 (u_WH w9 h9)) hown hK hW t15 rfl (by decide) 0 (by decide) (hw wd_35) (fun _ h9 => h9) (q := (2, 5)) rfl (v := .ref q16) (ah_f_R e17) d_SU_sumOfAbsolutes_33 ?_
      refine lv_iload hx hb d_SU_sumOfAbsolutes_36 (lv_at hl 5 rfl) ?_
      obtain ⟨t18, w⟩ := w
      obtain ⟨i19, w⟩ := w
      refine hb_lald hx hb hK hW t18 (by decide) (by decide) 2 rfl i19 d_SU_sumOfAbsolutes_38 ?_
      refine lv_aload_n hx hb d_SU_sumOfAbsolutes_39 rfl (lv_at hl 2 rfl) ?_
      obtain ⟨t20, w⟩ := w
      obtain ⟨q21, e22, w⟩ := w
      refine hb_get (ci := 2) (C := "BigDesk$Whole") (T := T_WH) (N := 3) hx hb hts (fun w9 h9 => hT w9 (u_WH w9 h9)) hown hK hW t20 rfl (by decide) 0 (by decide) (hw wd_35) (fun _ h9 => h9) (q := (2, 5)) rfl (v := .ref q21) (ah_f_R e22) d_SU_sumOfAbsolutes_40 ?_
      refine lv_iload hx hb d_SU_sumOfAbsolutes_43 (lv_at hl 5 rfl) ?_
      obtain ⟨t23, w⟩ := w
      obtain ⟨i24, w⟩ := w
      refine hb_lald hx hb hK hW t23 (by decide) (by decide) 2 rfl i24 d_SU_sumOfAbsolutes_45 ?_
      refine lv_ladd hx hb d_SU_sumOfAbsolutes_46 ?_
      refine lv_lload hx hb d_SU_sumOfAbsolutes_47 (lv_at hl 4 rfl) ?_
      refine lv_ladd hx hb d_SU_sumOfAbsolutes_49 ?_
      refine lv_topl (fun v25 ev25 => ?_)
      have w := w v25 ev25
      refine lv_lstore (lv' := [(7, .long v25), (0, .ref x7), (1, .ref x8), (2, .ref x9), (3, .int x10), (4, .long x11), (6, .int x12)]) hx hb d_SU_sumOfAbsolutes_50 hl (by decide) rfl (fun ls hl => ?_)
      refine lv_aload_n hx hb d_SU_sumOfAbsolutes_52 rfl (lv_at hl 1 rfl) ?_
      obtain ⟨t26, w⟩ := w
      obtain ⟨q27, e28, w⟩ := w
      refine hb_get (ci := 2) (C := "BigDesk$Whole") (T := T_WH) (N := 3) hx hb hts (fun w9 h9 => hT w9 (u_WH w9 h9)) hown hK hW t26 rfl (by decide) 0 (by decide) (hw wd_35) (fun _ h9 => h9) (q := (2, 5)) rfl (v := .ref q27) (ah_f_R e28) d_SU_sumOfAbsolutes_53 ?_
      refine lv_iload hx hb d_SU_sumOfAbsolutes_56 (lv_at hl 6 rfl) ?_
      refine lv_lload hx hb d_SU_sumOfAbsolutes_58 (lv_at hl 0 rfl) ?_
      refine lv_ldc2 (v := 4294967295) hx hb hown (hw wd_260) d_SU_sumOfAbsolutes_60 ?_
      refine lv_land hx hb d_SU_sumOfAbsolutes_63 ?_
      refine lv_topl (fun v29 ev29 => ?_)
      have w := w v29 ev29
      obtain ⟨t30, w⟩ := w
      obtain ⟨i31, w⟩ := w
      refine hb_last hx hb hK hW t30 (by decide) (by decide) 2 rfl i31 d_SU_sumOfAbsolutes_64 (fun H locs h32 eh32 hW => ?_)
      have w := w h32 eh32
      have mm33 : ah_m h13 h32 := ah_m.rf.st (by rw [eh32]; rfl) (by rw [eh32]; rfl)
      have hm := hm.tr mm33
      have t34 := mm33.tg t15 (by decide)
      have t35 := mm33.tg t18 (by decide)
      have t36 := mm33.tg t20 (by decide)
      have t37 := mm33.tg t23 (by decide)
      have t38 := mm33.tg t26 (by decide)
      have t39 := mm33.tg t30 (by decide)
      refine lv_lload hx hb d_SU_sumOfAbsolutes_65 (lv_at hl 0 rfl) ?_
      refine lv_bipush (v := 32) hx hb d_SU_sumOfAbsolutes_67 (by decide) ?_
      refine lv_lushr hx hb d_SU_sumOfAbsolutes_69 rfl ?_
      refine lv_topl (fun v40 ev40 => ?_)
      have w := w v40 ev40
      refine lv_lstore (lv' := [(4, .long v40), (7, .long v25), (0, .ref x7), (1, .ref x8), (2, .ref x9), (3, .int x10), (6, .int x12)]) hx hb d_SU_sumOfAbsolutes_70 hl (by decide) rfl (fun ls hl => ?_)
      obtain ⟨v41, ev41⟩ : ∃ y9 : Int32, y9 = x12 + 1 := ⟨_, rfl⟩
      have w := w v41 ev41
      refine lv_iinc (v := v41) (lv' := [(6, .int v41), (4, .long v40), (7, .long v25), (0, .ref x7), (1, .ref x8), (2, .ref x9), (3, .int x10)]) hx hb d_SU_sumOfAbsolutes_72 hl (k := 6) rfl (by rw [ev41]; rfl) (by decide) rfl (fun ls hl => ?_)
      refine lv_goto (tgt := 26) hx hb d_SU_sumOfAbsolutes_75 (by decide) ?_
      exact ih x7 x8 x9 x10 v40 v41 h32 _ _ _ w hm hW (lv_sub hl [3, 4, 5, 6, 1, 0] rfl)
set_option maxHeartbeats 4000000 in
set_option maxRecDepth 100000 in
theorem m_SU_sumOfAbsolutes {l : Launch} (G : zG) (a1 : Nat) (a2 : Nat) (a3 : Nat) (h0 : ah_H) {K : ah_H → Prop} (hst : l.stackTraces = false) (w : w_SU_sumOfAbsolutes a1 a2 a3 h0 K) : Met l y_SU_sumOfAbsolutes (Cond.code y_SU_sumOfAbsolutes b_SU_sumOfAbsolutes 9 none :: zx_T) rm_SU_sumOfAbsolutes (va_Pc [.ref a1, .ref a2, .ref a3] (ah_B G h0)) (va_Qv (fun h9 => K h9 ∧ ah_m h0 h9) (ah_B G) (fun q => G.2.2 ≤ q)) 0 0 (fun q => G.2.2 ≤ q) := by
  refine Met.ofW (cc := b_SU_sumOfAbsolutes) (maxL := 9) (ret := none) (by decide) rfl ?_
  intro p e s m args below meth c s₁ B hml hv
  have htb := cx_out B (atoms_spec B.pre _ List.mem_cons_self)
  obtain ⟨rfl, hB⟩ := hv
  have C : cx_C p l s m _ meth c G y_SU_sumOfAbsolutes b_SU_sumOfAbsolutes 9 none "BigDesk$Sums" (Cond.code y_SU_sumOfAbsolutes b_SU_sumOfAbsolutes 9 none :: zx_T) [] := ⟨B.exec, B.bytes, B.returns, hml, findClass_of_methodNamed B.named, atoms_spec B.pre, cx_hd, B.notSynchronized, hB.2.2.1, hB.2.2.2, htb, fun z9 => (name_of_methodNamed B.named B.method).1.trans z9, hst⟩
  obtain ⟨hx, hb, hr, hml, hown, hts, hT, hlk, hK, hX, htb, hin, hst⟩ := id C
  have hw : ∀ {w9 : Cond}, w9 ∈ zx_T → w9.before _ s = true := fun h9 => hts _ (hT _ h9)
  have hW : ah_W G s.heap h0 s.heap [] := ⟨hB.1, hB.2.1, va_S.rf⟩
  have hm : ah_m h0 h0 := ah_m.rf
  have hcl : 0 + 0 ≤ 0 := by decide
  have hsl : 0 + 0 ≤ 0 := by decide
  have hl := lv_entry ([.ref a1, .ref a2, .ref a3]) (n := 9) (Nat.le_of_ble_eq_true rfl)
  rw [lg_entry_eq]
  generalize (lg_sl ([.ref a1, .ref a2, .ref a3]) ++ List.replicate (9 - (lg_sl ([.ref a1, .ref a2, .ref a3])).length) Slot.unset).toArray = ls at hl ⊢
  have hl : lv_has ls 9 [(0, .ref a1), (1, .ref a2), (2, .ref a3)] := hl
  unfold w_SU_sumOfAbsolutes at w
  refine lv_aload_n hx hb d_SU_sumOfAbsolutes_0 rfl (lv_at hl 1 rfl) ?_
  obtain ⟨t4, w⟩ := w
  refine hb_get (ci := 2) (C := "BigDesk$Whole") (T := T_WH) (N := 3) hx hb hts (fun w9 h9 => hT w9 (u_WH w9 h9)) hown hK hW t4 rfl (by decide) 1 (by decide) (hw wd_40) (fun _ h9 => h9) (q := (0, 0)) rfl (v := .int (ah_I h0 0 a2)) rfl d_SU_sumOfAbsolutes_1 ?_
  refine lv_aload_n hx hb d_SU_sumOfAbsolutes_4 rfl (lv_at hl 2 rfl) ?_
  obtain ⟨t5, w⟩ := w
  refine hb_get (ci := 2) (C := "BigDesk$Whole") (T := T_WH) (N := 3) hx hb hts (fun w9 h9 => hT w9 (u_WH w9 h9)) hown hK hW t5 rfl (by decide) 1 (by decide) (hw wd_40) (fun _ h9 => h9) (q := (0, 0)) rfl (v := .int (ah_I h0 0 a3)) rfl d_SU_sumOfAbsolutes_5 ?_
  refine va_mmax hx hb (by rw [hml]; exact hl.1.symm) hown (hw wd_254) (hw wd_255) (hw wd_12) (hw wd_256) (Nat.le_of_ble_eq_true rfl) (Nat.le_of_ble_eq_true rfl) (by show _ ≤ 0; omega) (by show _ ≤ 0; omega) d_SU_sumOfAbsolutes_8 ?_
  refine lv_iconst (v := 1) hx hb d_SU_sumOfAbsolutes_11 (by decide) ?_
  refine lv_iadd hx hb d_SU_sumOfAbsolutes_12 ?_
  refine lv_sipush (v := 258) hx hb d_SU_sumOfAbsolutes_13 (by decide) ?_
  refine va_mmin hx hb (by rw [hml]; exact hl.1.symm) hown (hw wd_257) (hw wd_258) (hw wd_12) (hw wd_259) (Nat.le_of_ble_eq_true rfl) (Nat.le_of_ble_eq_true rfl) (by show _ ≤ 0; omega) (by show _ ≤ 0; omega) d_SU_sumOfAbsolutes_16 ?_
  refine lv_topi (fun v6 ev6 => ?_)
  have w := w v6 ev6
  refine lv_istore_n (lv' := [(3, .int v6), (0, .ref a1), (1, .ref a2), (2, .ref a3)]) hx hb d_SU_sumOfAbsolutes_19 rfl hl (by decide) rfl (fun ls hl => ?_)
  refine lv_lconst (v := 0) hx hb d_SU_sumOfAbsolutes_20 (by decide) ?_
  refine lv_lstore (lv' := [(4, .long (0 : Int64)), (3, .int v6), (0, .ref a1), (1, .ref a2), (2, .ref a3)]) hx hb d_SU_sumOfAbsolutes_21 hl (by decide) rfl (fun ls hl => ?_)
  refine lv_iconst (v := 0) hx hb d_SU_sumOfAbsolutes_23 (by decide) ?_
  refine lv_istore (lv' := [(6, .int (0 : Int32)), (4, .long (0 : Int64)), (3, .int v6), (0, .ref a1), (1, .ref a2), (2, .ref a3)]) hx hb d_SU_sumOfAbsolutes_24 hl (by decide) rfl (fun ls hl => ?_)
  obtain ⟨k49, w⟩ := w
  refine tl_SU_sumOfAbsolutes_26 C (by omega) (by omega) (fun x42 x43 h44 H locs ls w hm hW hl => ?_) k49 a1 a2 a3 v6 (0 : Int64) (0 : Int32) h0 _ _ _ w hm hW (lv_sub hl [3, 4, 5, 2, 1, 0] rfl)
  · refine lv_aload_n hx hb d_SU_sumOfAbsolutes_78 rfl (lv_at hl 0 rfl) ?_
    refine lv_iload_n hx hb d_SU_sumOfAbsolutes_79 rfl (lv_at hl 1 rfl) ?_
    obtain ⟨t45, w⟩ := w
    refine hb_callv (va_runV (As := [.int x43]) (rest := []) ⟨hx, hb, hml, hown, hts⟩ (m_WH_settle G x42 x43 h44 hst w) (cwV 1 hts (zx_gV hT wd_261 wd_219 wd_220 wd_2 wd_221) rfl rfl rfl (by decide +kernel) ⟨Nat.le_of_ble_eq_true rfl, Nat.le_of_ble_eq_true rfl⟩) (hb_preV hK hX hW t45 (by decide) rfl) rfl rfl hl.1 rfl (lv_room (Nat.le_of_ble_eq_true rfl)) d_SU_sumOfAbsolutes_80 ⟨(by show _ ≤ 0; omega), (by show _ ≤ 0; omega)⟩) hW (fun h46 H locs hk hW => ?_)
    obtain ⟨w, mm47⟩ := hk
    have w := w mm47
    have hm := hm.tr mm47
    have t48 := mm47.tg t45 (by decide)
    exact hb_vret (K := fun h9 => K h9 ∧ ah_m h0 h9) hx hb hr hlk hK hX hW ⟨w, hm⟩ (by omega) (by omega) d_SU_sumOfAbsolutes_83
set_option maxHeartbeats 4000000 in
set_option maxRecDepth 100000 in
theorem tl_SU_orderOfAbsolutes_35 {p : Program} {l : Launch} {e : Env} {s : State} {m : MethodId} {args : Array Value} {below : List Frame} {meth : Method} {c : Code} {G : zG} (C : cx_C p l s m args meth c G y_SU_orderOfAbsolutes b_SU_orderOfAbsolutes 3 (some .int) "BigDesk$Sums" (Cond.code y_SU_orderOfAbsolutes b_SU_orderOfAbsolutes 3 (some .int) :: zx_T) []) {K : Int32 → ah_H → Prop} {h0 : ah_H} {cells slots : Nat} (hcl : cells + 0 ≤ 0) (hsl : slots + 0 ≤ 0) {xt_55 : Nat → Nat → Int32 → ah_H → Prop} {xt_83 : ah_H → Prop} (hc_xt_55 : ∀ (z0 : Nat) (z1 : Nat) (z2 : Int32) (hz : ah_H) (H : Heap) (locs : List Loc) (ls : Array Slot), xt_55 z0 z1 z2 hz → ah_m h0 hz → ah_W G s.heap hz H locs → lv_has ls 3 [(0, .ref z0), (1, .ref z1), (2, .int z2)] → W p l e rm_SU_orderOfAbsolutes s m args below meth c H locs cells slots (MQ below (va_Qi (fun r9 h9 => K r9 h9 ∧ ah_m h0 h9) (ah_B G) (fun q => G.2.2 ≤ q)) args s 0 0 (fun q => G.2.2 ≤ q)) (F0 m 55 ls [])) (hc_xt_83 : ∀ (hz : ah_H) (H : Heap) (locs : List Loc) (ls : Array Slot), xt_83 hz → ah_m h0 hz → ah_W G s.heap hz H locs → lv_has ls 3 [] → W p l e rm_SU_orderOfAbsolutes s m args below meth c H locs cells slots (MQ below (va_Qi (fun r9 h9 => K r9 h9 ∧ ah_m h0 h9) (ah_B G) (fun q => G.2.2 ≤ q)) args s 0 0 (fun q => G.2.2 ≤ q)) (F0 m 83 ls [])) : ∀ (n : Nat) (x7 : Nat) (x8 : Nat) (x9 : Int32) (h10 : ah_H) (H : Heap) (locs : List Loc) (ls : Array Slot), lp_SU_orderOfAbsolutes_35 xt_55 xt_83 K n x7 x8 x9 h10 → ah_m h0 h10 → ah_W G s.heap h10 H locs → lv_has ls 3 [(0, .ref x7), (1, .ref x8), (2, .int x9)] → W p l e rm_SU_orderOfAbsolutes s m args below meth c H locs cells slots (MQ below (va_Qi (fun r9 h9 => K r9 h9 ∧ ah_m h0 h9) (ah_B G) (fun q => G.2.2 ≤ q)) args s 0 0 (fun q => G.2.2 ≤ q)) (F0 m 35 ls []) := by
  obtain ⟨hx, hb, hr, hml, hown, hts, hT, hlk, hK, hX, htb, hin, hst⟩ := id C
  have hw : ∀ {w9 : Cond}, w9 ∈ zx_T → w9.before _ s = true := fun h9 => hts _ (hT _ h9)
  intro n
  induction n with
  | zero =>
    intro x7 x8 x9 h10 H locs ls w
    exact absurd w (by intro z9; exact z9)
  | succ n ih =>
    intro x7 x8 x9 h10 H locs ls w hm hW hl
    unfold lp_SU_orderOfAbsolutes_35 at w
    refine lv_iload_n hx hb d_SU_orderOfAbsolutes_35 rfl (lv_at hl 2 rfl) ?_
    refine lv_if_lt (tgt := 83) hx hb d_SU_orderOfAbsolutes_36 (by decide) (fun c11 => ?_) (fun c11 => ?_)
    · have w := w.1 c11
      exact hc_xt_83  h10 _ _ _ w hm hW (lv_sub hl [] rfl)
    · have w := w.2 c11
      refine lv_aload_n hx hb d_SU_orderOfAbsolutes_39 rfl (lv_at hl 0 rfl) ?_
      obtain ⟨t12, w⟩ := w
      obtain ⟨q13, e14, w⟩ := w
      refine hb_get (ci := 2) (C := "BigDesk$Whole") (T := T_WH) (N := 3) hx hb hts (fun w9 h9 => hT w9 (u_WH w9 h9)) hown hK hW t12 rfl (by decide) 0 (by decide) (hw wd_35) (fun _ h9 => h9) (q := (2, 5)) rfl (v := .ref q13) (ah_f_R e14) d_SU_orderOfAbsolutes_40 ?_
      refine lv_iload_n hx hb d_SU_orderOfAbsolutes_43 rfl (lv_at hl 2 rfl) ?_
      obtain ⟨t15, w⟩ := w
      obtain ⟨i16, w⟩ := w
      refine hb_lald hx hb hK hW t15 (by decide) (by decide) 2 rfl i16 d_SU_orderOfAbsolutes_44 ?_
      refine lv_aload_n hx hb d_SU_orderOfAbsolutes_45 rfl (lv_at hl 1 rfl) ?_
      obtain ⟨t17, w⟩ := w
      obtain ⟨q18, e19, w⟩ := w
      refine hb_get (ci := 2) (C := "BigDesk$Whole") (T := T_WH) (N := 3) hx hb hts (fun w9 h9 => hT w9 (u_WH w9 h9)) hown hK hW t17 rfl (by decide) 0 (by decide) (hw wd_35) (fun _ h9 => h9) (q := (2, 5)) rfl (v := .ref q18) (ah_f_R e19) d_SU_orderOfAbsolutes_46 ?_
      refine lv_iload_n hx hb d_SU_orderOfAbsolutes_49 rfl (lv_at hl 2 rfl) ?_
      obtain ⟨t20, w⟩ := w
      obtain ⟨i21, w⟩ := w
      refine hb_lald hx hb hK hW t20 (by decide) (by decide) 2 rfl i21 d_SU_orderOfAbsolutes_50 ?_
      refine hb_lcmp_eq (tgt := 77) hx hb d_SU_orderOfAbsolutes_51 d_SU_orderOfAbsolutes_52 (by decide) (fun c22 => ?_) (fun c22 => ?_)
      · have w := w.1 c22
        obtain ⟨v23, ev23⟩ : ∃ y9 : Int32, y9 = x9 + (-1) := ⟨_, rfl⟩
        have w := w v23 ev23
        refine lv_iinc (v := v23) (lv' := [(2, .int v23), (0, .ref x7), (1, .ref x8)]) hx hb d_SU_orderOfAbsolutes_77 hl (k := 2) rfl (by rw [ev23]; rfl) (by decide) rfl (fun ls hl => ?_)
        refine lv_goto (tgt := 35) hx hb d_SU_orderOfAbsolutes_80 (by decide) ?_
        exact ih x7 x8 v23 h10 _ _ _ w hm hW (lv_sub hl [1, 2, 0] rfl)
      · have w := w.2 c22
        exact hc_xt_55 x7 x8 x9 h10 _ _ _ w hm hW (lv_sub hl [0, 1, 2] rfl)
set_option maxHeartbeats 4000000 in
set_option maxRecDepth 100000 in
theorem tb_SU_orderOfAbsolutes_76 {p : Program} {l : Launch} {e : Env} {s : State} {m : MethodId} {args : Array Value} {below : List Frame} {meth : Method} {c : Code} {G : zG} (C : cx_C p l s m args meth c G y_SU_orderOfAbsolutes b_SU_orderOfAbsolutes 3 (some .int) "BigDesk$Sums" (Cond.code y_SU_orderOfAbsolutes b_SU_orderOfAbsolutes 3 (some .int) :: zx_T) []) {K : Int32 → ah_H → Prop} {h0 : ah_H} {cells slots : Nat} (hcl : cells + 0 ≤ 0) (hsl : slots + 0 ≤ 0)  (s39 : Int32) (h40 : ah_H) (H : Heap) (locs : List Loc) (ls : Array Slot) (w : bk_SU_orderOfAbsolutes_76 K s39 h40) (hm : ah_m h0 h40) (hW : ah_W G s.heap h40 H locs) (hl : lv_has ls 3 []) : W p l e rm_SU_orderOfAbsolutes s m args below meth c H locs cells slots (MQ below (va_Qi (fun r9 h9 => K r9 h9 ∧ ah_m h0 h9) (ah_B G) (fun q => G.2.2 ≤ q)) args s 0 0 (fun q => G.2.2 ≤ q)) (F0 m 76 ls [.int s39]) := by
  unfold bk_SU_orderOfAbsolutes_76 at w
  obtain ⟨hx, hb, hr, hml, hown, hts, hT, hlk, hK, hX, htb, hin, hst⟩ := id C
  have hw : ∀ {w9 : Cond}, w9 ∈ zx_T → w9.before _ s = true := fun h9 => hts _ (hT _ h9)
  exact hb_iret (K := fun r9 h9 => K r9 h9 ∧ ah_m h0 h9) hx hb hr hlk hK hX hW ⟨w, hm⟩ (by omega) (by omega) d_SU_orderOfAbsolutes_76
set_option maxHeartbeats 4000000 in
set_option maxRecDepth 100000 in
theorem tb_SU_orderOfAbsolutes_27 {p : Program} {l : Launch} {e : Env} {s : State} {m : MethodId} {args : Array Value} {below : List Frame} {meth : Method} {c : Code} {G : zG} (C : cx_C p l s m args meth c G y_SU_orderOfAbsolutes b_SU_orderOfAbsolutes 3 (some .int) "BigDesk$Sums" (Cond.code y_SU_orderOfAbsolutes b_SU_orderOfAbsolutes 3 (some .int) :: zx_T) []) {K : Int32 → ah_H → Prop} {h0 : ah_H} {cells slots : Nat} (hcl : cells + 0 ≤ 0) (hsl : slots + 0 ≤ 0)  (s44 : Int32) (h45 : ah_H) (H : Heap) (locs : List Loc) (ls : Array Slot) (w : bk_SU_orderOfAbsolutes_27 K s44 h45) (hm : ah_m h0 h45) (hW : ah_W G s.heap h45 H locs) (hl : lv_has ls 3 []) : W p l e rm_SU_orderOfAbsolutes s m args below meth c H locs cells slots (MQ below (va_Qi (fun r9 h9 => K r9 h9 ∧ ah_m h0 h9) (ah_B G) (fun q => G.2.2 ≤ q)) args s 0 0 (fun q => G.2.2 ≤ q)) (F0 m 27 ls [.int s44]) := by
  unfold bk_SU_orderOfAbsolutes_27 at w
  obtain ⟨hx, hb, hr, hml, hown, hts, hT, hlk, hK, hX, htb, hin, hst⟩ := id C
  have hw : ∀ {w9 : Cond}, w9 ∈ zx_T → w9.before _ s = true := fun h9 => hts _ (hT _ h9)
  exact hb_iret (K := fun r9 h9 => K r9 h9 ∧ ah_m h0 h9) hx hb hr hlk hK hX hW ⟨w, hm⟩ (by omega) (by omega) d_SU_orderOfAbsolutes_27
set_option maxHeartbeats 4000000 in
set_option maxRecDepth 100000 in
theorem m_SU_orderOfAbsolutes {l : Launch} (G : zG) (a1 : Nat) (a2 : Nat) (h0 : ah_H) {K : Int32 → ah_H → Prop} (hst : l.stackTraces = false) (w : w_SU_orderOfAbsolutes a1 a2 h0 K) : Met l y_SU_orderOfAbsolutes (Cond.code y_SU_orderOfAbsolutes b_SU_orderOfAbsolutes 3 (some .int) :: zx_T) rm_SU_orderOfAbsolutes (va_Pc [.ref a1, .ref a2] (ah_B G h0)) (va_Qi (fun r9 h9 => K r9 h9 ∧ ah_m h0 h9) (ah_B G) (fun q => G.2.2 ≤ q)) 0 0 (fun q => G.2.2 ≤ q) := by
  refine Met.ofW (cc := b_SU_orderOfAbsolutes) (maxL := 3) (ret := (some .int)) (by decide) rfl ?_
  intro p e s m args below meth c s₁ B hml hv
  have htb := cx_out B (atoms_spec B.pre _ List.mem_cons_self)
  obtain ⟨rfl, hB⟩ := hv
  have C : cx_C p l s m _ meth c G y_SU_orderOfAbsolutes b_SU_orderOfAbsolutes 3 (some .int) "BigDesk$Sums" (Cond.code y_SU_orderOfAbsolutes b_SU_orderOfAbsolutes 3 (some .int) :: zx_T) [] := ⟨B.exec, B.bytes, B.returns, hml, findClass_of_methodNamed B.named, atoms_spec B.pre, cx_hd, B.notSynchronized, hB.2.2.1, hB.2.2.2, htb, fun z9 => (name_of_methodNamed B.named B.method).1.trans z9, hst⟩
  obtain ⟨hx, hb, hr, hml, hown, hts, hT, hlk, hK, hX, htb, hin, hst⟩ := id C
  have hw : ∀ {w9 : Cond}, w9 ∈ zx_T → w9.before _ s = true := fun h9 => hts _ (hT _ h9)
  have hW : ah_W G s.heap h0 s.heap [] := ⟨hB.1, hB.2.1, va_S.rf⟩
  have hm : ah_m h0 h0 := ah_m.rf
  have hcl : 0 + 0 ≤ 0 := by decide
  have hsl : 0 + 0 ≤ 0 := by decide
  have hl := lv_entry ([.ref a1, .ref a2]) (n := 3) (Nat.le_of_ble_eq_true rfl)
  rw [lg_entry_eq]
  generalize (lg_sl ([.ref a1, .ref a2]) ++ List.replicate (3 - (lg_sl ([.ref a1, .ref a2])).length) Slot.unset).toArray = ls at hl ⊢
  have hl : lv_has ls 3 [(0, .ref a1), (1, .ref a2)] := hl
  unfold w_SU_orderOfAbsolutes at w
  refine lv_aload_n hx hb d_SU_orderOfAbsolutes_0 rfl (lv_at hl 0 rfl) ?_
  obtain ⟨t3, w⟩ := w
  refine hb_get (ci := 2) (C := "BigDesk$Whole") (T := T_WH) (N := 3) hx hb hts (fun w9 h9 => hT w9 (u_WH w9 h9)) hown hK hW t3 rfl (by decide) 1 (by decide) (hw wd_40) (fun _ h9 => h9) (q := (0, 0)) rfl (v := .int (ah_I h0 0 a1)) rfl d_SU_orderOfAbsolutes_1 ?_
  refine lv_aload_n hx hb d_SU_orderOfAbsolutes_4 rfl (lv_at hl 1 rfl) ?_
  obtain ⟨t4, w⟩ := w
  refine hb_get (ci := 2) (C := "BigDesk$Whole") (T := T_WH) (N := 3) hx hb hts (fun w9 h9 => hT w9 (u_WH w9 h9)) hown hK hW t4 rfl (by decide) 1 (by decide) (hw wd_40) (fun _ h9 => h9) (q := (0, 0)) rfl (v := .int (ah_I h0 0 a2)) rfl d_SU_orderOfAbsolutes_5 ?_
  refine lv_icmp_eq (tgt := 28) hx hb d_SU_orderOfAbsolutes_8 (by decide) (fun c5 => ?_) (fun c5 => ?_)
  · have w := w.1 c5
    refine lv_aload_n hx hb d_SU_orderOfAbsolutes_28 rfl (lv_at hl 0 rfl) ?_
    refine hb_get (ci := 2) (C := "BigDesk$Whole") (T := T_WH) (N := 3) hx hb hts (fun w9 h9 => hT w9 (u_WH w9 h9)) hown hK hW t3 rfl (by decide) 1 (by decide) (hw wd_40) (fun _ h9 => h9) (q := (0, 0)) rfl (v := .int (ah_I h0 0 a1)) rfl d_SU_orderOfAbsolutes_29 ?_
    refine lv_iconst (v := 1) hx hb d_SU_orderOfAbsolutes_32 (by decide) ?_
    refine lv_isub hx hb d_SU_orderOfAbsolutes_33 ?_
    refine lv_topi (fun v6 ev6 => ?_)
    have w := w v6 ev6
    refine lv_istore_n (lv' := [(2, .int v6), (0, .ref a1), (1, .ref a2)]) hx hb d_SU_orderOfAbsolutes_34 rfl hl (by decide) rfl (fun ls hl => ?_)
    obtain ⟨k42, w⟩ := w
    refine tl_SU_orderOfAbsolutes_35 C (by omega) (by omega) (fun x24 x25 x26 h27 H locs ls w hm hW hl => ?_) (fun  h41 H locs ls w hm hW hl => ?_) k42 a1 a2 v6 h0 _ _ _ w hm hW (lv_sub hl [1, 2, 0] rfl)
    · refine lv_aload_n hx hb d_SU_orderOfAbsolutes_55 rfl (lv_at hl 0 rfl) ?_
      obtain ⟨t28, w⟩ := w
      obtain ⟨q29, e30, w⟩ := w
      refine hb_get (ci := 2) (C := "BigDesk$Whole") (T := T_WH) (N := 3) hx hb hts (fun w9 h9 => hT w9 (u_WH w9 h9)) hown hK hW t28 rfl (by decide) 0 (by decide) (hw wd_35) (fun _ h9 => h9) (q := (2, 5)) rfl (v := .ref q29) (ah_f_R e30) d_SU_orderOfAbsolutes_56 ?_
      refine lv_iload_n hx hb d_SU_orderOfAbsolutes_59 rfl (lv_at hl 2 rfl) ?_
      obtain ⟨t31, w⟩ := w
      obtain ⟨i32, w⟩ := w
      refine hb_lald hx hb hK hW t31 (by decide) (by decide) 2 rfl i32 d_SU_orderOfAbsolutes_60 ?_
      refine lv_aload_n hx hb d_SU_orderOfAbsolutes_61 rfl (lv_at hl 1 rfl) ?_
      obtain ⟨t33, w⟩ := w
      obtain ⟨q34, e35, w⟩ := w
      refine hb_get (ci := 2) (C := "BigDesk$Whole") (T := T_WH) (N := 3) hx hb hts (fun w9 h9 => hT w9 (u_WH w9 h9)) hown hK hW t33 rfl (by decide) 0 (by decide) (hw wd_35) (fun _ h9 => h9) (q := (2, 5)) rfl (v := .ref q34) (ah_f_R e35) d_SU_orderOfAbsolutes_62 ?_
      refine lv_iload_n hx hb d_SU_orderOfAbsolutes_65 rfl (lv_at hl 2 rfl) ?_
      obtain ⟨t36, w⟩ := w
      obtain ⟨i37, w⟩ := w
      refine hb_lald hx hb hK hW t36 (by decide) (by decide) 2 rfl i37 d_SU_orderOfAbsolutes_66 ?_
      refine hb_lcmp_ge (tgt := 75) hx hb d_SU_orderOfAbsolutes_67 d_SU_orderOfAbsolutes_68 (by decide) (fun c38 => ?_) (fun c38 => ?_)
      · have w := w.1 c38
        refine lv_iconst (v := 1) hx hb d_SU_orderOfAbsolutes_75 (by decide) ?_
        exact tb_SU_orderOfAbsolutes_76 C (by omega) (by omega)  (1 : Int32) h27 _ _ _ w hm hW (lv_sub hl [] rfl)
      · have w := w.2 c38
        refine lv_iconst (v := -1) hx hb d_SU_orderOfAbsolutes_71 (by decide) ?_
        refine lv_goto (tgt := 76) hx hb d_SU_orderOfAbsolutes_72 (by decide) ?_
        exact tb_SU_orderOfAbsolutes_76 C (by omega) (by omega)  (-1 : Int32) h27 _ _ _ w hm hW (lv_sub hl [] rfl)
    · refine lv_iconst (v := 0) hx hb d_SU_orderOfAbsolutes_83 (by decide) ?_
      exact hb_iret (K := fun r9 h9 => K r9 h9 ∧ ah_m h0 h9) hx hb hr hlk hK hX hW ⟨w, hm⟩ (by omega) (by omega) d_SU_orderOfAbsolutes_84
  · have w := w.2 c5
    refine lv_aload_n hx hb d_SU_orderOfAbsolutes_11 rfl (lv_at hl 0 rfl) ?_
    refine hb_get (ci := 2) (C := "BigDesk$Whole") (T := T_WH) (N := 3) hx hb hts (fun w9 h9 => hT w9 (u_WH w9 h9)) hown hK hW t3 rfl (by decide) 1 (by decide) (hw wd_40) (fun _ h9 => h9) (q := (0, 0)) rfl (v := .int (ah_I h0 0 a1)) rfl d_SU_orderOfAbsolutes_12 ?_
    refine lv_aload_n hx hb d_SU_orderOfAbsolutes_15 rfl (lv_at hl 1 rfl) ?_
    refine hb_get (ci := 2) (C := "BigDesk$Whole") (T := T_WH) (N := 3) hx hb hts (fun w9 h9 => hT w9 (u_WH w9 h9)) hown hK hW t4 rfl (by decide) 1 (by decide) (hw wd_40) (fun _ h9 => h9) (q := (0, 0)) rfl (v := .int (ah_I h0 0 a2)) rfl d_SU_orderOfAbsolutes_16 ?_
    refine lv_icmp_ge (tgt := 26) hx hb d_SU_orderOfAbsolutes_19 (by decide) (fun c43 => ?_) (fun c43 => ?_)
    · have w := w.1 c43
      refine lv_iconst (v := 1) hx hb d_SU_orderOfAbsolutes_26 (by decide) ?_
      exact tb_SU_orderOfAbsolutes_27 C (by omega) (by omega)  (1 : Int32) h0 _ _ _ w hm hW (lv_sub hl [] rfl)
    · have w := w.2 c43
      refine lv_iconst (v := -1) hx hb d_SU_orderOfAbsolutes_22 (by decide) ?_
      refine lv_goto (tgt := 27) hx hb d_SU_orderOfAbsolutes_23 (by decide) ?_
      exact tb_SU_orderOfAbsolutes_27 C (by omega) (by omega)  (-1 : Int32) h0 _ _ _ w hm hW (lv_sub hl [] rfl)
set_option maxHeartbeats 4000000 in
set_option maxRecDepth 100000 in
theorem tl_SU_differenceOfAbsolutes_11 {p : Program} {l : Launch} {e : Env} {s : State} {m : MethodId} {args : Array Value} {below : List Frame} {meth : Method} {c : Code} {G : zG} (C : cx_C p l s m args meth c G y_SU_differenceOfAbsolutes b_SU_differenceOfAbsolutes 9 none "BigDesk$Sums" (Cond.code y_SU_differenceOfAbsolutes b_SU_differenceOfAbsolutes 9 none :: zx_T) []) {K : ah_H → Prop} {h0 : ah_H} {cells slots : Nat} (hcl : cells + 0 ≤ 0) (hsl : slots + 0 ≤ 0) {xt_63 : Nat → Int32 → ah_H → Prop} (hc_xt_63 : ∀ (z0 : Nat) (z1 : Int32) (hz : ah_H) (H : Heap) (locs : List Loc) (ls : Array Slot), xt_63 z0 z1 hz → ah_m h0 hz → ah_W G s.heap hz H locs → lv_has ls 9 [(0, .ref z0), (3, .int z1)] → W p l e rm_SU_differenceOfAbsolutes s m args below meth c H locs cells slots (MQ below (va_Qv (fun h9 => K h9 ∧ ah_m h0 h9) (ah_B G) (fun q => G.2.2 ≤ q)) args s 0 0 (fun q => G.2.2 ≤ q)) (F0 m 63 ls [])) : ∀ (n : Nat) (x6 : Nat) (x7 : Nat) (x8 : Nat) (x9 : Int32) (x10 : Int64) (x11 : Int32) (h12 : ah_H) (H : Heap) (locs : List Loc) (ls : Array Slot), lp_SU_differenceOfAbsolutes_11 xt_63 K n x6 x7 x8 x9 x10 x11 h12 → ah_m h0 h12 → ah_W G s.heap h12 H locs → lv_has ls 9 [(0, .ref x6), (1, .ref x7), (2, .ref x8), (3, .int x9), (4, .long x10), (6, .int x11)] → W p l e rm_SU_differenceOfAbsolutes s m args below meth c H locs cells slots (MQ below (va_Qv (fun h9 => K h9 ∧ ah_m h0 h9) (ah_B G) (fun q => G.2.2 ≤ q)) args s 0 0 (fun q => G.2.2 ≤ q)) (F0 m 11 ls []) := by
  obtain ⟨hx, hb, hr, hml, hown, hts, hT, hlk, hK, hX, htb, hin, hst⟩ := id C
  have hw : ∀ {w9 : Cond}, w9 ∈ zx_T → w9.before _ s = true := fun h9 => hts _ (hT _ h9)
  intro n
  induction n with
  | zero =>
    intro x6 x7 x8 x9 x10 x11 h12 H locs ls w
    exact absurd w (by intro z9; exact z9)
  | succ n ih =>
    intro x6 x7 x8 x9 x10 x11 h12 H locs ls w hm hW hl
    unfold lp_SU_differenceOfAbsolutes_11 at w
    refine lv_iload hx hb d_SU_differenceOfAbsolutes_11 (lv_at hl 5 rfl) ?_
    refine lv_iload_n hx hb d_SU_differenceOfAbsolutes_13 rfl (lv_at hl 3 rfl) ?_
    refine lv_icmp_ge (tgt := 63) hx hb d_SU_differenceOfAbsolutes_14 (by decide) (fun c13 => ?_) (fun c13 => ?_)
    · have w := w.1 c13
      exact hc_xt_63 x6 x9 h12 _ _ _ w hm hW (lv_sub hl [0, 3] rfl)
    · have w := w.2 c13
      refine lv_aload_n hx hb d_SU_differenceOfAbsolutes_17 rfl (lv_at hl 1 rfl) ?_
      obtain ⟨t14, w⟩ := w
      obtain ⟨q15, e16, w⟩ := w
      refine hb_get (ci := 2) (C := "BigDesk$Whole") (T := T_WH) (N := 3) hx hb hts (fun w9 h9 => hT w9 (u_WH w9 h9)) hown hK hW t14 rfl (by decide) 0 (by decide) (hw wd_35) (fun _ h9 => h9) (q := (2, 5)) rfl (v := .ref q15) (ah_f_R e16) d_SU_differenceOfAbsolutes_18 ?_
      refine lv_iload hx hb d_SU_differenceOfAbsolutes_21 (lv_at hl 5 rfl) ?_
      obtain ⟨t17, w⟩ := w
      obtain ⟨i18, w⟩ := w
      refine hb_lald hx hb hK hW t17 (by decide) (by decide) 2 rfl i18 d_SU_differenceOfAbsolutes_23 ?_
      refine lv_aload_n hx hb d_SU_differenceOfAbsolutes_24 rfl (lv_at hl 2 rfl) ?_
      obtain ⟨t19, w⟩ := w
      obtain ⟨q20, e21, w⟩ := w
      refine hb_get (ci := 2) (C := "BigDesk$Whole") (T := T_WH) (N := 3) hx hb hts (fun w9 h9 => hT w9 (u_WH w9 h9)) hown hK hW t19 rfl (by decide) 0 (by decide) (hw wd_35) (fun _ h9 => h9) (q := (2, 5)) rfl (v := .ref q20) (ah_f_R e21) d_SU_differenceOfAbsolutes_25 ?_
      refine lv_iload hx hb d_SU_differenceOfAbsolutes_28 (lv_at hl 5 rfl) ?_
      obtain ⟨t22, w⟩ := w
      obtain ⟨i23, w⟩ := w
      refine hb_lald hx hb hK hW t22 (by decide) (by decide) 2 rfl i23 d_SU_differenceOfAbsolutes_30 ?_
      refine lv_lsub hx hb d_SU_differenceOfAbsolutes_31 ?_
      refine lv_lload hx hb d_SU_differenceOfAbsolutes_32 (lv_at hl 4 rfl) ?_
      refine lv_lsub hx hb d_SU_differenceOfAbsolutes_34 ?_
      refine lv_topl (fun v24 ev24 => ?_)
      have w := w v24 ev24
      refine lv_lstore (lv' := [(7, .long v24), (0, .ref x6), (1, .ref x7), (2, .ref x8), (3, .int x9), (4, .long x10), (6, .int x11)]) hx hb d_SU_differenceOfAbsolutes_35 hl (by decide) rfl (fun ls hl => ?_)
      refine lv_aload_n hx hb d_SU_differenceOfAbsolutes_37 rfl (lv_at hl 1 rfl) ?_
      obtain ⟨t25, w⟩ := w
      obtain ⟨q26, e27, w⟩ := w
      refine hb_get (ci := 2) (C := "BigDesk$Whole") (T := T_WH) (N := 3) hx hb hts (fun w9 h9 => hT w9 (u_WH w9 h9)) hown hK hW t25 rfl (by decide) 0 (by decide) (hw wd_35) (fun _ h9 => h9) (q := (2, 5)) rfl (v := .ref q26) (ah_f_R e27) d_SU_differenceOfAbsolutes_38 ?_
      refine lv_iload hx hb d_SU_differenceOfAbsolutes_41 (lv_at hl 6 rfl) ?_
      refine lv_lload hx hb d_SU_differenceOfAbsolutes_43 (lv_at hl 0 rfl) ?_
      refine lv_ldc2 (v := 4294967295) hx hb hown (hw wd_260) d_SU_differenceOfAbsolutes_45 ?_
      refine lv_land hx hb d_SU_differenceOfAbsolutes_48 ?_
      refine lv_topl (fun v28 ev28 => ?_)
      have w := w v28 ev28
      obtain ⟨t29, w⟩ := w
      obtain ⟨i30, w⟩ := w
      refine hb_last hx hb hK hW t29 (by decide) (by decide) 2 rfl i30 d_SU_differenceOfAbsolutes_49 (fun H locs h31 eh31 hW => ?_)
      have w := w h31 eh31
      have mm32 : ah_m h12 h31 := ah_m.rf.st (by rw [eh31]; rfl) (by rw [eh31]; rfl)
      have hm := hm.tr mm32
      have t33 := mm32.tg t14 (by decide)
      have t34 := mm32.tg t17 (by decide)
      have t35 := mm32.tg t19 (by decide)
      have t36 := mm32.tg t22 (by decide)
      have t37 := mm32.tg t25 (by decide)
      have t38 := mm32.tg t29 (by decide)
      refine lv_lload hx hb d_SU_differenceOfAbsolutes_50 (lv_at hl 0 rfl) ?_
      refine lv_bipush (v := 63) hx hb d_SU_differenceOfAbsolutes_52 (by decide) ?_
      refine lv_lushr hx hb d_SU_differenceOfAbsolutes_54 rfl ?_
      refine lv_topl (fun v39 ev39 => ?_)
      have w := w v39 ev39
      refine lv_lstore (lv' := [(4, .long v39), (7, .long v24), (0, .ref x6), (1, .ref x7), (2, .ref x8), (3, .int x9), (6, .int x11)]) hx hb d_SU_differenceOfAbsolutes_55 hl (by decide) rfl (fun ls hl => ?_)
      obtain ⟨v40, ev40⟩ : ∃ y9 : Int32, y9 = x11 + 1 := ⟨_, rfl⟩
      have w := w v40 ev40
      refine lv_iinc (v := v40) (lv' := [(6, .int v40), (4, .long v39), (7, .long v24), (0, .ref x6), (1, .ref x7), (2, .ref x8), (3, .int x9)]) hx hb d_SU_differenceOfAbsolutes_57 hl (k := 6) rfl (by rw [ev40]; rfl) (by decide) rfl (fun ls hl => ?_)
      refine lv_goto (tgt := 11) hx hb d_SU_differenceOfAbsolutes_60 (by decide) ?_
      exact ih x6 x7 x8 x9 v39 v40 h31 _ _ _ w hm hW (lv_sub hl [3, 4, 5, 6, 1, 0] rfl)
set_option maxHeartbeats 4000000 in
set_option maxRecDepth 100000 in
theorem m_SU_differenceOfAbsolutes {l : Launch} (G : zG) (a1 : Nat) (a2 : Nat) (a3 : Nat) (h0 : ah_H) {K : ah_H → Prop} (hst : l.stackTraces = false) (w : w_SU_differenceOfAbsolutes a1 a2 a3 h0 K) : Met l y_SU_differenceOfAbsolutes (Cond.code y_SU_differenceOfAbsolutes b_SU_differenceOfAbsolutes 9 none :: zx_T) rm_SU_differenceOfAbsolutes (va_Pc [.ref a1, .ref a2, .ref a3] (ah_B G h0)) (va_Qv (fun h9 => K h9 ∧ ah_m h0 h9) (ah_B G) (fun q => G.2.2 ≤ q)) 0 0 (fun q => G.2.2 ≤ q) := by
  refine Met.ofW (cc := b_SU_differenceOfAbsolutes) (maxL := 9) (ret := none) (by decide) rfl ?_
  intro p e s m args below meth c s₁ B hml hv
  have htb := cx_out B (atoms_spec B.pre _ List.mem_cons_self)
  obtain ⟨rfl, hB⟩ := hv
  have C : cx_C p l s m _ meth c G y_SU_differenceOfAbsolutes b_SU_differenceOfAbsolutes 9 none "BigDesk$Sums" (Cond.code y_SU_differenceOfAbsolutes b_SU_differenceOfAbsolutes 9 none :: zx_T) [] := ⟨B.exec, B.bytes, B.returns, hml, findClass_of_methodNamed B.named, atoms_spec B.pre, cx_hd, B.notSynchronized, hB.2.2.1, hB.2.2.2, htb, fun z9 => (name_of_methodNamed B.named B.method).1.trans z9, hst⟩
  obtain ⟨hx, hb, hr, hml, hown, hts, hT, hlk, hK, hX, htb, hin, hst⟩ := id C
  have hw : ∀ {w9 : Cond}, w9 ∈ zx_T → w9.before _ s = true := fun h9 => hts _ (hT _ h9)
  have hW : ah_W G s.heap h0 s.heap [] := ⟨hB.1, hB.2.1, va_S.rf⟩
  have hm : ah_m h0 h0 := ah_m.rf
  have hcl : 0 + 0 ≤ 0 := by decide
  have hsl : 0 + 0 ≤ 0 := by decide
  have hl := lv_entry ([.ref a1, .ref a2, .ref a3]) (n := 9) (Nat.le_of_ble_eq_true rfl)
  rw [lg_entry_eq]
  generalize (lg_sl ([.ref a1, .ref a2, .ref a3]) ++ List.replicate (9 - (lg_sl ([.ref a1, .ref a2, .ref a3])).length) Slot.unset).toArray = ls at hl ⊢
  have hl : lv_has ls 9 [(0, .ref a1), (1, .ref a2), (2, .ref a3)] := hl
  unfold w_SU_differenceOfAbsolutes at w
  refine lv_aload_n hx hb d_SU_differenceOfAbsolutes_0 rfl (lv_at hl 1 rfl) ?_
  obtain ⟨t4, w⟩ := w
  refine hb_get (ci := 2) (C := "BigDesk$Whole") (T := T_WH) (N := 3) hx hb hts (fun w9 h9 => hT w9 (u_WH w9 h9)) hown hK hW t4 rfl (by decide) 1 (by decide) (hw wd_40) (fun _ h9 => h9) (q := (0, 0)) rfl (v := .int (ah_I h0 0 a2)) rfl d_SU_differenceOfAbsolutes_1 ?_
  refine lv_topi (fun v5 ev5 => ?_)
  have w := w v5 ev5
  refine lv_istore_n (lv' := [(3, .int v5), (0, .ref a1), (1, .ref a2), (2, .ref a3)]) hx hb d_SU_differenceOfAbsolutes_4 rfl hl (by decide) rfl (fun ls hl => ?_)
  refine lv_lconst (v := 0) hx hb d_SU_differenceOfAbsolutes_5 (by decide) ?_
  refine lv_lstore (lv' := [(4, .long (0 : Int64)), (3, .int v5), (0, .ref a1), (1, .ref a2), (2, .ref a3)]) hx hb d_SU_differenceOfAbsolutes_6 hl (by decide) rfl (fun ls hl => ?_)
  refine lv_iconst (v := 0) hx hb d_SU_differenceOfAbsolutes_8 (by decide) ?_
  refine lv_istore (lv' := [(6, .int (0 : Int32)), (4, .long (0 : Int64)), (3, .int v5), (0, .ref a1), (1, .ref a2), (2, .ref a3)]) hx hb d_SU_differenceOfAbsolutes_9 hl (by decide) rfl (fun ls hl => ?_)
  obtain ⟨k48, w⟩ := w
  refine tl_SU_differenceOfAbsolutes_11 C (by omega) (by omega) (fun x41 x42 h43 H locs ls w hm hW hl => ?_) k48 a1 a2 a3 v5 (0 : Int64) (0 : Int32) h0 _ _ _ w hm hW (lv_sub hl [3, 4, 5, 2, 1, 0] rfl)
  · refine lv_aload_n hx hb d_SU_differenceOfAbsolutes_63 rfl (lv_at hl 0 rfl) ?_
    refine lv_iload_n hx hb d_SU_differenceOfAbsolutes_64 rfl (lv_at hl 1 rfl) ?_
    obtain ⟨t44, w⟩ := w
    refine hb_callv (va_runV (As := [.int x42]) (rest := []) ⟨hx, hb, hml, hown, hts⟩ (m_WH_settle G x41 x42 h43 hst w) (cwV 1 hts (zx_gV hT wd_261 wd_219 wd_220 wd_2 wd_221) rfl rfl rfl (by decide +kernel) ⟨Nat.le_of_ble_eq_true rfl, Nat.le_of_ble_eq_true rfl⟩) (hb_preV hK hX hW t44 (by decide) rfl) rfl rfl hl.1 rfl (lv_room (Nat.le_of_ble_eq_true rfl)) d_SU_differenceOfAbsolutes_65 ⟨(by show _ ≤ 0; omega), (by show _ ≤ 0; omega)⟩) hW (fun h45 H locs hk hW => ?_)
    obtain ⟨w, mm46⟩ := hk
    have w := w mm46
    have hm := hm.tr mm46
    have t47 := mm46.tg t44 (by decide)
    exact hb_vret (K := fun h9 => K h9 ∧ ah_m h0 h9) hx hb hr hlk hK hX hW ⟨w, hm⟩ (by omega) (by omega) d_SU_differenceOfAbsolutes_68
set_option maxHeartbeats 4000000 in
set_option maxRecDepth 100000 in
theorem tb_SU_total_78 {p : Program} {l : Launch} {e : Env} {s : State} {m : MethodId} {args : Array Value} {below : List Frame} {meth : Method} {c : Code} {G : zG} (C : cx_C p l s m args meth c G y_SU_total b_SU_total 5 none "BigDesk$Sums" (Cond.code y_SU_total b_SU_total 5 none :: zx_T) []) {K : ah_H → Prop} {h0 : ah_H} {cells slots : Nat} (hcl : cells + 0 ≤ 0) (hsl : slots + 0 ≤ 0)   (h27 : ah_H) (H : Heap) (locs : List Loc) (ls : Array Slot) (w : bk_SU_total_78 K h27) (hm : ah_m h0 h27) (hW : ah_W G s.heap h27 H locs) (hl : lv_has ls 5 []) : W p l e rm_SU_total s m args below meth c H locs cells slots (MQ below (va_Qv (fun h9 => K h9 ∧ ah_m h0 h9) (ah_B G) (fun q => G.2.2 ≤ q)) args s 0 0 (fun q => G.2.2 ≤ q)) (F0 m 78 ls []) := by
  unfold bk_SU_total_78 at w
  obtain ⟨hx, hb, hr, hml, hown, hts, hT, hlk, hK, hX, htb, hin, hst⟩ := id C
  have hw : ∀ {w9 : Cond}, w9 ∈ zx_T → w9.before _ s = true := fun h9 => hts _ (hT _ h9)
  exact hb_vret (K := fun h9 => K h9 ∧ ah_m h0 h9) hx hb hr hlk hK hX hW ⟨w, hm⟩ (by omega) (by omega) d_SU_total_78
set_option maxHeartbeats 4000000 in
set_option maxRecDepth 100000 in
theorem tb_SU_total_13 {p : Program} {l : Launch} {e : Env} {s : State} {m : MethodId} {args : Array Value} {below : List Frame} {meth : Method} {c : Code} {G : zG} (C : cx_C p l s m args meth c G y_SU_total b_SU_total 5 none "BigDesk$Sums" (Cond.code y_SU_total b_SU_total 5 none :: zx_T) []) {K : ah_H → Prop} {h0 : ah_H} {cells slots : Nat} (hcl : cells + 0 ≤ 0) (hsl : slots + 0 ≤ 0)  (x7 : Nat) (x8 : Nat) (x9 : Nat) (s10 : Int32) (h11 : ah_H) (H : Heap) (locs : List Loc) (ls : Array Slot) (w : bk_SU_total_13 K x7 x8 x9 s10 h11) (hm : ah_m h0 h11) (hW : ah_W G s.heap h11 H locs) (hl : lv_has ls 5 [(0, .ref x7), (1, .ref x8), (2, .ref x9)]) : W p l e rm_SU_total s m args below meth c H locs cells slots (MQ below (va_Qv (fun h9 => K h9 ∧ ah_m h0 h9) (ah_B G) (fun q => G.2.2 ≤ q)) args s 0 0 (fun q => G.2.2 ≤ q)) (F0 m 13 ls [.int s10]) := by
  unfold bk_SU_total_13 at w
  obtain ⟨hx, hb, hr, hml, hown, hts, hT, hlk, hK, hX, htb, hin, hst⟩ := id C
  have hw : ∀ {w9 : Cond}, w9 ∈ zx_T → w9.before _ s = true := fun h9 => hts _ (hT _ h9)
  refine lv_istore (lv' := [(4, .int s10), (0, .ref x7), (1, .ref x8), (2, .ref x9)]) hx hb d_SU_total_13 hl (by decide) rfl (fun ls hl => ?_)
  refine lv_aload_n hx hb d_SU_total_15 rfl (lv_at hl 2 rfl) ?_
  obtain ⟨t12, w⟩ := w
  refine hb_get (ci := 2) (C := "BigDesk$Whole") (T := T_WH) (N := 3) hx hb hts (fun w9 h9 => hT w9 (u_WH w9 h9)) hown hK hW t12 rfl (by decide) 2 (by decide) (hw wd_44) (fun _ h9 => h9) (q := (0, 1)) rfl (v := .int (ah_I h11 1 x8)) rfl d_SU_total_16 ?_
  refine lv_iload hx hb d_SU_total_19 (lv_at hl 0 rfl) ?_
  refine lv_icmp_ne (tgt := 41) hx hb d_SU_total_21 (by decide) (fun c13 => ?_) (fun c13 => ?_)
  · have w := w.1 c13
    refine lv_aload_n hx hb d_SU_total_41 rfl (lv_at hl 2 rfl) ?_
    refine lv_aload_n hx hb d_SU_total_42 rfl (lv_at hl 3 rfl) ?_
    refine hb_calli (va_runS (As := [.ref x8, .ref x9]) (rest := []) ⟨hx, hb, hml, hown, hts⟩ (m_SU_orderOfAbsolutes G x8 x9 h11 hst w) (va_cwS 2 hts (zx_gS hT wd_263 wd_264 wd_11 wd_265) rfl rfl rfl (by decide +kernel) ⟨Nat.le_of_ble_eq_true rfl, Nat.le_of_ble_eq_true rfl⟩) (hb_preS hK hX hW) rfl rfl hl.1 rfl (lv_room (Nat.le_of_ble_eq_true rfl)) d_SU_total_43 ⟨(by show _ ≤ 0; omega), (by show _ ≤ 0; omega)⟩) hW (fun r15 h14 H locs hk hW => ?_)
    obtain ⟨w, mm16⟩ := hk
    have w := w mm16
    have hm := hm.tr mm16
    have t17 := mm16.tg t12 (by decide)
    refine lv_if_lt (tgt := 66) hx hb d_SU_total_46 (by decide) (fun c18 => ?_) (fun c18 => ?_)
    · have w := w.1 c18
      refine lv_aload_n hx hb d_SU_total_66 rfl (lv_at hl 1 rfl) ?_
      refine lv_aload_n hx hb d_SU_total_67 rfl (lv_at hl 3 rfl) ?_
      refine lv_aload_n hx hb d_SU_total_68 rfl (lv_at hl 2 rfl) ?_
      refine hb_callv (va_runS (As := [.ref x7, .ref x9, .ref x8]) (rest := []) ⟨hx, hb, hml, hown, hts⟩ (m_SU_differenceOfAbsolutes G x7 x9 x8 h14 hst w) (va_cwS 3 hts (zx_gS hT wd_266 wd_267 wd_11 wd_268) rfl rfl rfl (by decide +kernel) ⟨Nat.le_of_ble_eq_true rfl, Nat.le_of_ble_eq_true rfl⟩) (hb_preS hK hX hW) rfl rfl hl.1 rfl (lv_room (Nat.le_of_ble_eq_true rfl)) d_SU_total_69 ⟨(by show _ ≤ 0; omega), (by show _ ≤ 0; omega)⟩) hW (fun h19 H locs hk hW => ?_)
      obtain ⟨w, mm20⟩ := hk
      have w := w mm20
      have hm := hm.tr mm20
      have t21 := mm20.tg t17 (by decide)
      refine lv_aload_n hx hb d_SU_total_72 rfl (lv_at hl 1 rfl) ?_
      refine lv_iload hx hb d_SU_total_73 (lv_at hl 0 rfl) ?_
      obtain ⟨t22, w⟩ := w
      refine hb_callv (va_runV (As := [.int s10]) (rest := []) ⟨hx, hb, hml, hown, hts⟩ (m_WH_markSign G x7 s10 h19 hst w) (cwV 1 hts (zx_gV hT wd_262 wd_223 wd_224 wd_2 wd_225) rfl rfl rfl (by decide +kernel) ⟨Nat.le_of_ble_eq_true rfl, Nat.le_of_ble_eq_true rfl⟩) (hb_preV hK hX hW t22 (by decide) rfl) rfl rfl hl.1 rfl (lv_room (Nat.le_of_ble_eq_true rfl)) d_SU_total_75 ⟨(by show _ ≤ 0; omega), (by show _ ≤ 0; omega)⟩) hW (fun h23 H locs hk hW => ?_)
      obtain ⟨w, mm24⟩ := hk
      have w := w mm24
      have hm := hm.tr mm24
      have t25 := mm24.tg t21 (by decide)
      have t26 := mm24.tg t22 (by decide)
      exact tb_SU_total_78 C (by omega) (by omega)   h23 _ _ _ w hm hW (lv_sub hl [] rfl)
    · have w := w.2 c18
      refine lv_aload_n hx hb d_SU_total_49 rfl (lv_at hl 1 rfl) ?_
      refine lv_aload_n hx hb d_SU_total_50 rfl (lv_at hl 2 rfl) ?_
      refine lv_aload_n hx hb d_SU_total_51 rfl (lv_at hl 3 rfl) ?_
      refine hb_callv (va_runS (As := [.ref x7, .ref x8, .ref x9]) (rest := []) ⟨hx, hb, hml, hown, hts⟩ (m_SU_differenceOfAbsolutes G x7 x8 x9 h14 hst w) (va_cwS 3 hts (zx_gS hT wd_266 wd_267 wd_11 wd_268) rfl rfl rfl (by decide +kernel) ⟨Nat.le_of_ble_eq_true rfl, Nat.le_of_ble_eq_true rfl⟩) (hb_preS hK hX hW) rfl rfl hl.1 rfl (lv_room (Nat.le_of_ble_eq_true rfl)) d_SU_total_52 ⟨(by show _ ≤ 0; omega), (by show _ ≤ 0; omega)⟩) hW (fun h28 H locs hk hW => ?_)
      obtain ⟨w, mm29⟩ := hk
      have w := w mm29
      have hm := hm.tr mm29
      have t30 := mm29.tg t17 (by decide)
      refine lv_aload_n hx hb d_SU_total_55 rfl (lv_at hl 1 rfl) ?_
      refine lv_aload_n hx hb d_SU_total_56 rfl (lv_at hl 2 rfl) ?_
      refine hb_get (ci := 2) (C := "BigDesk$Whole") (T := T_WH) (N := 3) hx hb hts (fun w9 h9 => hT w9 (u_WH w9 h9)) hown hK hW t30 rfl (by decide) 2 (by decide) (hw wd_44) (fun _ h9 => h9) (q := (0, 1)) rfl (v := .int (ah_I h28 1 x8)) rfl d_SU_total_57 ?_
      obtain ⟨t31, w⟩ := w
      refine hb_callv (va_runV (As := [.int (ah_I h28 1 x8)]) (rest := []) ⟨hx, hb, hml, hown, hts⟩ (m_WH_markSign G x7 (ah_I h28 1 x8) h28 hst w) (cwV 1 hts (zx_gV hT wd_262 wd_223 wd_224 wd_2 wd_225) rfl rfl rfl (by decide +kernel) ⟨Nat.le_of_ble_eq_true rfl, Nat.le_of_ble_eq_true rfl⟩) (hb_preV hK hX hW t31 (by decide) rfl) rfl rfl hl.1 rfl (lv_room (Nat.le_of_ble_eq_true rfl)) d_SU_total_60 ⟨(by show _ ≤ 0; omega), (by show _ ≤ 0; omega)⟩) hW (fun h32 H locs hk hW => ?_)
      obtain ⟨w, mm33⟩ := hk
      have w := w mm33
      have hm := hm.tr mm33
      have t34 := mm33.tg t30 (by decide)
      have t35 := mm33.tg t31 (by decide)
      refine lv_goto (tgt := 78) hx hb d_SU_total_63 (by decide) ?_
      exact tb_SU_total_78 C (by omega) (by omega)   h32 _ _ _ w hm hW (lv_sub hl [] rfl)
  · have w := w.2 c13
    refine lv_aload_n hx hb d_SU_total_24 rfl (lv_at hl 1 rfl) ?_
    refine lv_aload_n hx hb d_SU_total_25 rfl (lv_at hl 2 rfl) ?_
    refine lv_aload_n hx hb d_SU_total_26 rfl (lv_at hl 3 rfl) ?_
    refine hb_callv (va_runS (As := [.ref x7, .ref x8, .ref x9]) (rest := []) ⟨hx, hb, hml, hown, hts⟩ (m_SU_sumOfAbsolutes G x7 x8 x9 h11 hst w) (va_cwS 3 hts (zx_gS hT wd_251 wd_252 wd_11 wd_253) rfl rfl rfl (by decide +kernel) ⟨Nat.le_of_ble_eq_true rfl, Nat.le_of_ble_eq_true rfl⟩) (hb_preS hK hX hW) rfl rfl hl.1 rfl (lv_room (Nat.le_of_ble_eq_true rfl)) d_SU_total_27 ⟨(by show _ ≤ 0; omega), (by show _ ≤ 0; omega)⟩) hW (fun h36 H locs hk hW => ?_)
    obtain ⟨w, mm37⟩ := hk
    have w := w mm37
    have hm := hm.tr mm37
    have t38 := mm37.tg t12 (by decide)
    refine lv_aload_n hx hb d_SU_total_30 rfl (lv_at hl 1 rfl) ?_
    refine lv_aload_n hx hb d_SU_total_31 rfl (lv_at hl 2 rfl) ?_
    refine hb_get (ci := 2) (C := "BigDesk$Whole") (T := T_WH) (N := 3) hx hb hts (fun w9 h9 => hT w9 (u_WH w9 h9)) hown hK hW t38 rfl (by decide) 2 (by decide) (hw wd_44) (fun _ h9 => h9) (q := (0, 1)) rfl (v := .int (ah_I h36 1 x8)) rfl d_SU_total_32 ?_
    obtain ⟨t39, w⟩ := w
    refine hb_callv (va_runV (As := [.int (ah_I h36 1 x8)]) (rest := []) ⟨hx, hb, hml, hown, hts⟩ (m_WH_markSign G x7 (ah_I h36 1 x8) h36 hst w) (cwV 1 hts (zx_gV hT wd_262 wd_223 wd_224 wd_2 wd_225) rfl rfl rfl (by decide +kernel) ⟨Nat.le_of_ble_eq_true rfl, Nat.le_of_ble_eq_true rfl⟩) (hb_preV hK hX hW t39 (by decide) rfl) rfl rfl hl.1 rfl (lv_room (Nat.le_of_ble_eq_true rfl)) d_SU_total_35 ⟨(by show _ ≤ 0; omega), (by show _ ≤ 0; omega)⟩) hW (fun h40 H locs hk hW => ?_)
    obtain ⟨w, mm41⟩ := hk
    have w := w mm41
    have hm := hm.tr mm41
    have t42 := mm41.tg t38 (by decide)
    have t43 := mm41.tg t39 (by decide)
    refine lv_goto (tgt := 78) hx hb d_SU_total_38 (by decide) ?_
    exact tb_SU_total_78 C (by omega) (by omega)   h40 _ _ _ w hm hW (lv_sub hl [] rfl)
set_option maxHeartbeats 4000000 in
set_option maxRecDepth 100000 in
theorem m_SU_total {l : Launch} (G : zG) (a1 : Nat) (a2 : Nat) (a3 : Nat) (a4 : Int32) (h0 : ah_H) {K : ah_H → Prop} (hst : l.stackTraces = false) (w : w_SU_total a1 a2 a3 a4 h0 K) : Met l y_SU_total (Cond.code y_SU_total b_SU_total 5 none :: zx_T) rm_SU_total (va_Pc [.ref a1, .ref a2, .ref a3, .int a4] (ah_B G h0)) (va_Qv (fun h9 => K h9 ∧ ah_m h0 h9) (ah_B G) (fun q => G.2.2 ≤ q)) 0 0 (fun q => G.2.2 ≤ q) := by
  refine Met.ofW (cc := b_SU_total) (maxL := 5) (ret := none) (by decide) rfl ?_
  intro p e s m args below meth c s₁ B hml hv
  have htb := cx_out B (atoms_spec B.pre _ List.mem_cons_self)
  obtain ⟨rfl, hB⟩ := hv
  have C : cx_C p l s m _ meth c G y_SU_total b_SU_total 5 none "BigDesk$Sums" (Cond.code y_SU_total b_SU_total 5 none :: zx_T) [] := ⟨B.exec, B.bytes, B.returns, hml, findClass_of_methodNamed B.named, atoms_spec B.pre, cx_hd, B.notSynchronized, hB.2.2.1, hB.2.2.2, htb, fun z9 => (name_of_methodNamed B.named B.method).1.trans z9, hst⟩
  obtain ⟨hx, hb, hr, hml, hown, hts, hT, hlk, hK, hX, htb, hin, hst⟩ := id C
  have hw : ∀ {w9 : Cond}, w9 ∈ zx_T → w9.before _ s = true := fun h9 => hts _ (hT _ h9)
  have hW : ah_W G s.heap h0 s.heap [] := ⟨hB.1, hB.2.1, va_S.rf⟩
  have hm : ah_m h0 h0 := ah_m.rf
  have hcl : 0 + 0 ≤ 0 := by decide
  have hsl : 0 + 0 ≤ 0 := by decide
  have hl := lv_entry ([.ref a1, .ref a2, .ref a3, .int a4]) (n := 5) (Nat.le_of_ble_eq_true rfl)
  rw [lg_entry_eq]
  generalize (lg_sl ([.ref a1, .ref a2, .ref a3, .int a4]) ++ List.replicate (5 - (lg_sl ([.ref a1, .ref a2, .ref a3, .int a4])).length) Slot.unset).toArray = ls at hl ⊢
  have hl : lv_has ls 5 [(0, .ref a1), (1, .ref a2), (2, .ref a3), (3, .int a4)] := hl
  unfold w_SU_total at w
  refine lv_aload_n hx hb d_SU_total_0 rfl (lv_at hl 2 rfl) ?_
  obtain ⟨t5, w⟩ := w
  refine hb_get (ci := 2) (C := "BigDesk$Whole") (T := T_WH) (N := 3) hx hb hts (fun w9 h9 => hT w9 (u_WH w9 h9)) hown hK hW t5 rfl (by decide) 2 (by decide) (hw wd_44) (fun _ h9 => h9) (q := (0, 1)) rfl (v := .int (ah_I h0 1 a3)) rfl d_SU_total_1 ?_
  refine lv_iload_n hx hb d_SU_total_4 rfl (lv_at hl 3 rfl) ?_
  refine lv_icmp_eq (tgt := 12) hx hb d_SU_total_5 (by decide) (fun c6 => ?_) (fun c6 => ?_)
  · have w := w.1 c6
    refine lv_iconst (v := 0) hx hb d_SU_total_12 (by decide) ?_
    exact tb_SU_total_13 C (by omega) (by omega)  a1 a2 a3 (0 : Int32) h0 _ _ _ w hm hW (lv_sub hl [0, 1, 2] rfl)
  · have w := w.2 c6
    refine lv_iconst (v := 1) hx hb d_SU_total_8 (by decide) ?_
    refine lv_goto (tgt := 13) hx hb d_SU_total_9 (by decide) ?_
    exact tb_SU_total_13 C (by omega) (by omega)  a1 a2 a3 (1 : Int32) h0 _ _ _ w hm hW (lv_sub hl [0, 1, 2] rfl)
set_option maxHeartbeats 4000000 in
set_option maxRecDepth 100000 in
theorem tl_SU_addRow_20 {p : Program} {l : Launch} {e : Env} {s : State} {m : MethodId} {args : Array Value} {below : List Frame} {meth : Method} {c : Code} {G : zG} (C : cx_C p l s m args meth c G y_SU_addRow b_SU_addRow 12 none "BigDesk$Sums" (Cond.code y_SU_addRow b_SU_addRow 12 none :: zx_T) []) {K : ah_H → Prop} {h0 : ah_H} {cells slots : Nat} (hcl : cells + 0 ≤ 0) (hsl : slots + 0 ≤ 0) {xt_71 : Nat → Int32 → Int32 → Int64 → ah_H → Prop} (hc_xt_71 : ∀ (z0 : Nat) (z1 : Int32) (z2 : Int32) (z3 : Int64) (hz : ah_H) (H : Heap) (locs : List Loc) (ls : Array Slot), xt_71 z0 z1 z2 z3 hz → ah_m h0 hz → ah_W G s.heap hz H locs → lv_has ls 12 [(0, .ref z0), (1, .int z1), (6, .int z2), (7, .long z3)] → W p l e rm_SU_addRow s m args below meth c H locs cells slots (MQ below (va_Qv (fun h9 => K h9 ∧ ah_m h0 h9) (ah_B G) (fun q => G.2.2 ≤ q)) args s 0 0 (fun q => G.2.2 ≤ q)) (F0 m 71 ls [])) : ∀ (n : Nat) (x9 : Nat) (x10 : Int32) (x11 : Int64) (x12 : Nat) (x13 : Int32) (x14 : Int64) (x15 : Int32) (h16 : ah_H) (H : Heap) (locs : List Loc) (ls : Array Slot), lp_SU_addRow_20 xt_71 K n x9 x10 x11 x12 x13 x14 x15 h16 → ah_m h0 h16 → ah_W G s.heap h16 H locs → lv_has ls 12 [(0, .ref x9), (1, .int x10), (2, .long x11), (5, .ref x12), (6, .int x13), (7, .long x14), (9, .int x15)] → W p l e rm_SU_addRow s m args below meth c H locs cells slots (MQ below (va_Qv (fun h9 => K h9 ∧ ah_m h0 h9) (ah_B G) (fun q => G.2.2 ≤ q)) args s 0 0 (fun q => G.2.2 ≤ q)) (F0 m 20 ls []) := by
  obtain ⟨hx, hb, hr, hml, hown, hts, hT, hlk, hK, hX, htb, hin, hst⟩ := id C
  have hw : ∀ {w9 : Cond}, w9 ∈ zx_T → w9.before _ s = true := fun h9 => hts _ (hT _ h9)
  intro n
  induction n with
  | zero =>
    intro x9 x10 x11 x12 x13 x14 x15 h16 H locs ls w
    exact absurd w (by intro z9; exact z9)
  | succ n ih =>
    intro x9 x10 x11 x12 x13 x14 x15 h16 H locs ls w hm hW hl
    unfold lp_SU_addRow_20 at w
    refine lv_iload hx hb d_SU_addRow_20 (lv_at hl 6 rfl) ?_
    refine lv_iload hx hb d_SU_addRow_22 (lv_at hl 4 rfl) ?_
    refine lv_icmp_ge (tgt := 71) hx hb d_SU_addRow_24 (by decide) (fun c17 => ?_) (fun c17 => ?_)
    · have w := w.1 c17
      exact hc_xt_71 x9 x10 x13 x14 h16 _ _ _ w hm hW (lv_sub hl [0, 1, 4, 5] rfl)
    · have w := w.2 c17
      refine lv_lload_n hx hb d_SU_addRow_27 rfl (lv_at hl 2 rfl) ?_
      refine lv_aload hx hb d_SU_addRow_28 (lv_at hl 3 rfl) ?_
      refine lv_iload hx hb d_SU_addRow_30 (lv_at hl 6 rfl) ?_
      obtain ⟨t18, w⟩ := w
      obtain ⟨i19, w⟩ := w
      refine hb_lald hx hb hK hW t18 (by decide) (by decide) 2 rfl i19 d_SU_addRow_32 ?_
      refine lv_lmul hx hb d_SU_addRow_33 ?_
      refine lv_aload_n hx hb d_SU_addRow_34 rfl (lv_at hl 0 rfl) ?_
      refine lv_iload_n hx hb d_SU_addRow_35 rfl (lv_at hl 1 rfl) ?_
      refine lv_iload hx hb d_SU_addRow_36 (lv_at hl 6 rfl) ?_
      refine lv_iadd hx hb d_SU_addRow_38 ?_
      obtain ⟨t20, w⟩ := w
      obtain ⟨i21, w⟩ := w
      refine hb_lald hx hb hK hW t20 (by decide) (by decide) 2 rfl i21 d_SU_addRow_39 ?_
      refine lv_ladd hx hb d_SU_addRow_40 ?_
      refine lv_lload hx hb d_SU_addRow_41 (lv_at hl 5 rfl) ?_
      refine lv_ladd hx hb d_SU_addRow_43 ?_
      refine lv_topl (fun v22 ev22 => ?_)
      have w := w v22 ev22
      refine lv_lstore (lv' := [(10, .long v22), (0, .ref x9), (1, .int x10), (2, .long x11), (5, .ref x12), (6, .int x13), (7, .long x14), (9, .int x15)]) hx hb d_SU_addRow_44 hl (by decide) rfl (fun ls hl => ?_)
      refine lv_aload_n hx hb d_SU_addRow_46 rfl (lv_at hl 1 rfl) ?_
      refine lv_iload_n hx hb d_SU_addRow_47 rfl (lv_at hl 2 rfl) ?_
      refine lv_iload hx hb d_SU_addRow_48 (lv_at hl 7 rfl) ?_
      refine lv_iadd hx hb d_SU_addRow_50 ?_
      refine lv_lload hx hb d_SU_addRow_51 (lv_at hl 0 rfl) ?_
      refine lv_ldc2 (v := 4294967295) hx hb hown (hw wd_260) d_SU_addRow_53 ?_
      refine lv_land hx hb d_SU_addRow_56 ?_
      refine lv_topl (fun v23 ev23 => ?_)
      have w := w v23 ev23
      obtain ⟨i24, w⟩ := w
      refine hb_last hx hb hK hW t20 (by decide) (by decide) 2 rfl i24 d_SU_addRow_57 (fun H locs h25 eh25 hW => ?_)
      have w := w h25 eh25
      have mm26 : ah_m h16 h25 := ah_m.rf.st (by rw [eh25]; rfl) (by rw [eh25]; rfl)
      have hm := hm.tr mm26
      have t27 := mm26.tg t18 (by decide)
      have t28 := mm26.tg t20 (by decide)
      refine lv_lload hx hb d_SU_addRow_58 (lv_at hl 0 rfl) ?_
      refine lv_bipush (v := 32) hx hb d_SU_addRow_60 (by decide) ?_
      refine lv_lushr hx hb d_SU_addRow_62 rfl ?_
      refine lv_topl (fun v29 ev29 => ?_)
      have w := w v29 ev29
      refine lv_lstore (lv' := [(7, .long v29), (10, .long v22), (0, .ref x9), (1, .int x10), (2, .long x11), (5, .ref x12), (6, .int x13), (9, .int x15)]) hx hb d_SU_addRow_63 hl (by decide) rfl (fun ls hl => ?_)
      obtain ⟨v30, ev30⟩ : ∃ y9 : Int32, y9 = x15 + 1 := ⟨_, rfl⟩
      have w := w v30 ev30
      refine lv_iinc (v := v30) (lv' := [(9, .int v30), (7, .long v29), (10, .long v22), (0, .ref x9), (1, .int x10), (2, .long x11), (5, .ref x12), (6, .int x13)]) hx hb d_SU_addRow_65 hl (k := 7) rfl (by rw [ev30]; rfl) (by decide) rfl (fun ls hl => ?_)
      refine lv_goto (tgt := 20) hx hb d_SU_addRow_68 (by decide) ?_
      exact ih x9 x10 x11 x12 x13 v29 v30 h25 _ _ _ w hm hW (lv_sub hl [3, 4, 5, 6, 7, 1, 0] rfl)
set_option maxHeartbeats 4000000 in
set_option maxRecDepth 100000 in
theorem m_SU_addRow {l : Launch} (G : zG) (a1 : Nat) (a2 : Int32) (a3 : Int64) (a4 : Nat) (h0 : ah_H) {K : ah_H → Prop} (hst : l.stackTraces = false) (w : w_SU_addRow a1 a2 a3 a4 h0 K) : Met l y_SU_addRow (Cond.code y_SU_addRow b_SU_addRow 12 none :: zx_T) rm_SU_addRow (va_Pc [.ref a1, .int a2, .long a3, .ref a4] (ah_B G h0)) (va_Qv (fun h9 => K h9 ∧ ah_m h0 h9) (ah_B G) (fun q => G.2.2 ≤ q)) 0 0 (fun q => G.2.2 ≤ q) := by
  refine Met.ofW (cc := b_SU_addRow) (maxL := 12) (ret := none) (by decide) rfl ?_
  intro p e s m args below meth c s₁ B hml hv
  have htb := cx_out B (atoms_spec B.pre _ List.mem_cons_self)
  obtain ⟨rfl, hB⟩ := hv
  have C : cx_C p l s m _ meth c G y_SU_addRow b_SU_addRow 12 none "BigDesk$Sums" (Cond.code y_SU_addRow b_SU_addRow 12 none :: zx_T) [] := ⟨B.exec, B.bytes, B.returns, hml, findClass_of_methodNamed B.named, atoms_spec B.pre, cx_hd, B.notSynchronized, hB.2.2.1, hB.2.2.2, htb, fun z9 => (name_of_methodNamed B.named B.method).1.trans z9, hst⟩
  obtain ⟨hx, hb, hr, hml, hown, hts, hT, hlk, hK, hX, htb, hin, hst⟩ := id C
  have hw : ∀ {w9 : Cond}, w9 ∈ zx_T → w9.before _ s = true := fun h9 => hts _ (hT _ h9)
  have hW : ah_W G s.heap h0 s.heap [] := ⟨hB.1, hB.2.1, va_S.rf⟩
  have hm : ah_m h0 h0 := ah_m.rf
  have hcl : 0 + 0 ≤ 0 := by decide
  have hsl : 0 + 0 ≤ 0 := by decide
  have hl := lv_entry ([.ref a1, .int a2, .long a3, .ref a4]) (n := 12) (Nat.le_of_ble_eq_true rfl)
  rw [lg_entry_eq]
  generalize (lg_sl ([.ref a1, .int a2, .long a3, .ref a4]) ++ List.replicate (12 - (lg_sl ([.ref a1, .int a2, .long a3, .ref a4])).length) Slot.unset).toArray = ls at hl ⊢
  have hl : lv_has ls 12 [(0, .ref a1), (1, .int a2), (2, .long a3), (4, .ref a4)] := hl
  unfold w_SU_addRow at w
  refine lv_aload hx hb d_SU_addRow_0 (lv_at hl 3 rfl) ?_
  obtain ⟨t5, w⟩ := w
  obtain ⟨q6, e7, w⟩ := w
  refine hb_get (ci := 2) (C := "BigDesk$Whole") (T := T_WH) (N := 3) hx hb hts (fun w9 h9 => hT w9 (u_WH w9 h9)) hown hK hW t5 rfl (by decide) 0 (by decide) (hw wd_35) (fun _ h9 => h9) (q := (2, 5)) rfl (v := .ref q6) (ah_f_R e7) d_SU_addRow_2 ?_
  refine lv_astore (lv' := [(5, .ref q6), (0, .ref a1), (1, .int a2), (2, .long a3), (4, .ref a4)]) hx hb d_SU_addRow_5 hl (by decide) rfl (fun ls hl => ?_)
  refine lv_aload hx hb d_SU_addRow_7 (lv_at hl 4 rfl) ?_
  refine hb_get (ci := 2) (C := "BigDesk$Whole") (T := T_WH) (N := 3) hx hb hts (fun w9 h9 => hT w9 (u_WH w9 h9)) hown hK hW t5 rfl (by decide) 1 (by decide) (hw wd_40) (fun _ h9 => h9) (q := (0, 0)) rfl (v := .int (ah_I h0 0 a4)) rfl d_SU_addRow_9 ?_
  refine lv_topi (fun v8 ev8 => ?_)
  have w := w v8 ev8
  refine lv_istore (lv' := [(6, .int v8), (5, .ref q6), (0, .ref a1), (1, .int a2), (2, .long a3), (4, .ref a4)]) hx hb d_SU_addRow_12 hl (by decide) rfl (fun ls hl => ?_)
  refine lv_lconst (v := 0) hx hb d_SU_addRow_14 (by decide) ?_
  refine lv_lstore (lv' := [(7, .long (0 : Int64)), (6, .int v8), (5, .ref q6), (0, .ref a1), (1, .int a2), (2, .long a3), (4, .ref a4)]) hx hb d_SU_addRow_15 hl (by decide) rfl (fun ls hl => ?_)
  refine lv_iconst (v := 0) hx hb d_SU_addRow_17 (by decide) ?_
  refine lv_istore (lv' := [(9, .int (0 : Int32)), (7, .long (0 : Int64)), (6, .int v8), (5, .ref q6), (0, .ref a1), (1, .int a2), (2, .long a3), (4, .ref a4)]) hx hb d_SU_addRow_18 hl (by decide) rfl (fun ls hl => ?_)
  obtain ⟨k41, w⟩ := w
  refine tl_SU_addRow_20 C (by omega) (by omega) (fun x31 x32 x33 x34 h35 H locs ls w hm hW hl => ?_) k41 a1 a2 a3 q6 v8 (0 : Int64) (0 : Int32) h0 _ _ _ w hm hW (lv_sub hl [4, 5, 6, 3, 2, 1, 0] rfl)
  · refine lv_aload_n hx hb d_SU_addRow_71 rfl (lv_at hl 0 rfl) ?_
    refine lv_iload_n hx hb d_SU_addRow_72 rfl (lv_at hl 1 rfl) ?_
    refine lv_iload hx hb d_SU_addRow_73 (lv_at hl 2 rfl) ?_
    refine lv_iadd hx hb d_SU_addRow_75 ?_
    refine lv_lload hx hb d_SU_addRow_76 (lv_at hl 3 rfl) ?_
    obtain ⟨t36, w⟩ := w
    obtain ⟨i37, w⟩ := w
    refine hb_last hx hb hK hW t36 (by decide) (by decide) 2 rfl i37 d_SU_addRow_78 (fun H locs h38 eh38 hW => ?_)
    have w := w h38 eh38
    have mm39 : ah_m h35 h38 := ah_m.rf.st (by rw [eh38]; rfl) (by rw [eh38]; rfl)
    have hm := hm.tr mm39
    have t40 := mm39.tg t36 (by decide)
    exact hb_vret (K := fun h9 => K h9 ∧ ah_m h0 h9) hx hb hr hlk hK hX hW ⟨w, hm⟩ (by omega) (by omega) d_SU_addRow_79
set_option maxHeartbeats 4000000 in
set_option maxRecDepth 100000 in
theorem tl_SU_product_22 {p : Program} {l : Launch} {e : Env} {s : State} {m : MethodId} {args : Array Value} {below : List Frame} {meth : Method} {c : Code} {G : zG} (C : cx_C p l s m args meth c G y_SU_product b_SU_product 5 (some .boolean) "BigDesk$Sums" (Cond.code y_SU_product b_SU_product 5 (some .boolean) :: zx_T) []) {K : Int32 → ah_H → Prop} {h0 : ah_H} {cells slots : Nat} (hcl : cells + 0 ≤ 0) (hsl : slots + 0 ≤ 0) {xt_42 : Nat → Nat → Nat → Int32 → ah_H → Prop} (hc_xt_42 : ∀ (z0 : Nat) (z1 : Nat) (z2 : Nat) (z3 : Int32) (hz : ah_H) (H : Heap) (locs : List Loc) (ls : Array Slot), xt_42 z0 z1 z2 z3 hz → ah_m h0 hz → ah_W G s.heap hz H locs → lv_has ls 5 [(0, .ref z0), (1, .ref z1), (2, .ref z2), (3, .int z3)] → W p l e rm_SU_product s m args below meth c H locs cells slots (MQ below (va_Qi (fun r9 h9 => K r9 h9 ∧ ah_m h0 h9) (ah_B G) (fun q => G.2.2 ≤ q)) args s 0 0 (fun q => G.2.2 ≤ q)) (F0 m 42 ls [])) : ∀ (n : Nat) (x8 : Nat) (x9 : Nat) (x10 : Nat) (x11 : Int32) (x12 : Int32) (h13 : ah_H) (H : Heap) (locs : List Loc) (ls : Array Slot), lp_SU_product_22 xt_42 K n x8 x9 x10 x11 x12 h13 → ah_m h0 h13 → ah_W G s.heap h13 H locs → lv_has ls 5 [(0, .ref x8), (1, .ref x9), (2, .ref x10), (3, .int x11), (4, .int x12)] → W p l e rm_SU_product s m args below meth c H locs cells slots (MQ below (va_Qi (fun r9 h9 => K r9 h9 ∧ ah_m h0 h9) (ah_B G) (fun q => G.2.2 ≤ q)) args s 0 0 (fun q => G.2.2 ≤ q)) (F0 m 22 ls []) := by
  obtain ⟨hx, hb, hr, hml, hown, hts, hT, hlk, hK, hX, htb, hin, hst⟩ := id C
  have hw : ∀ {w9 : Cond}, w9 ∈ zx_T → w9.before _ s = true := fun h9 => hts _ (hT _ h9)
  intro n
  induction n with
  | zero =>
    intro x8 x9 x10 x11 x12 h13 H locs ls w
    exact absurd w (by intro z9; exact z9)
  | succ n ih =>
    intro x8 x9 x10 x11 x12 h13 H locs ls w hm hW hl
    unfold lp_SU_product_22 at w
    refine lv_iload hx hb d_SU_product_22 (lv_at hl 4 rfl) ?_
    refine lv_iload_n hx hb d_SU_product_24 rfl (lv_at hl 3 rfl) ?_
    refine lv_icmp_ge (tgt := 42) hx hb d_SU_product_25 (by decide) (fun c14 => ?_) (fun c14 => ?_)
    · have w := w.1 c14
      exact hc_xt_42 x8 x9 x10 x11 h13 _ _ _ w hm hW (lv_sub hl [0, 1, 2, 3] rfl)
    · have w := w.2 c14
      refine lv_aload_n hx hb d_SU_product_28 rfl (lv_at hl 0 rfl) ?_
      obtain ⟨t15, w⟩ := w
      obtain ⟨q16, e17, w⟩ := w
      refine hb_get (ci := 2) (C := "BigDesk$Whole") (T := T_WH) (N := 3) hx hb hts (fun w9 h9 => hT w9 (u_WH w9 h9)) hown hK hW t15 rfl (by decide) 0 (by decide) (hw wd_35) (fun _ h9 => h9) (q := (2, 5)) rfl (v := .ref q16) (ah_f_R e17) d_SU_product_29 ?_
      refine lv_iload hx hb d_SU_product_32 (lv_at hl 4 rfl) ?_
      refine lv_lconst (v := 0) hx hb d_SU_product_34 (by decide) ?_
      obtain ⟨t18, w⟩ := w
      obtain ⟨i19, w⟩ := w
      refine hb_last hx hb hK hW t18 (by decide) (by decide) 2 rfl i19 d_SU_product_35 (fun H locs h20 eh20 hW => ?_)
      have w := w h20 eh20
      have mm21 : ah_m h13 h20 := ah_m.rf.st (by rw [eh20]; rfl) (by rw [eh20]; rfl)
      have hm := hm.tr mm21
      have t22 := mm21.tg t15 (by decide)
      have t23 := mm21.tg t18 (by decide)
      obtain ⟨v24, ev24⟩ : ∃ y9 : Int32, y9 = x12 + 1 := ⟨_, rfl⟩
      have w := w v24 ev24
      refine lv_iinc (v := v24) (lv' := [(4, .int v24), (0, .ref x8), (1, .ref x9), (2, .ref x10), (3, .int x11)]) hx hb d_SU_product_36 hl (k := 4) rfl (by rw [ev24]; rfl) (by decide) rfl (fun ls hl => ?_)
      refine lv_goto (tgt := 22) hx hb d_SU_product_39 (by decide) ?_
      exact ih x8 x9 x10 x11 v24 h20 _ _ _ w hm hW (lv_sub hl [1, 2, 3, 4, 0] rfl)
set_option maxHeartbeats 4000000 in
set_option maxRecDepth 100000 in
theorem tl_SU_product_45 {p : Program} {l : Launch} {e : Env} {s : State} {m : MethodId} {args : Array Value} {below : List Frame} {meth : Method} {c : Code} {G : zG} (C : cx_C p l s m args meth c G y_SU_product b_SU_product 5 (some .boolean) "BigDesk$Sums" (Cond.code y_SU_product b_SU_product 5 (some .boolean) :: zx_T) []) {K : Int32 → ah_H → Prop} {h0 : ah_H} {cells slots : Nat} (hcl : cells + 0 ≤ 0) (hsl : slots + 0 ≤ 0) {xt_77 : Nat → Nat → Nat → Int32 → ah_H → Prop} (hc_xt_77 : ∀ (z0 : Nat) (z1 : Nat) (z2 : Nat) (z3 : Int32) (hz : ah_H) (H : Heap) (locs : List Loc) (ls : Array Slot), xt_77 z0 z1 z2 z3 hz → ah_m h0 hz → ah_W G s.heap hz H locs → lv_has ls 5 [(0, .ref z0), (1, .ref z1), (2, .ref z2), (3, .int z3)] → W p l e rm_SU_product s m args below meth c H locs cells slots (MQ below (va_Qi (fun r9 h9 => K r9 h9 ∧ ah_m h0 h9) (ah_B G) (fun q => G.2.2 ≤ q)) args s 0 0 (fun q => G.2.2 ≤ q)) (F0 m 77 ls [])) : ∀ (n : Nat) (x30 : Nat) (x31 : Nat) (x32 : Nat) (x33 : Int32) (x34 : Int32) (h35 : ah_H) (H : Heap) (locs : List Loc) (ls : Array Slot), lp_SU_product_45 xt_77 K n x30 x31 x32 x33 x34 h35 → ah_m h0 h35 → ah_W G s.heap h35 H locs → lv_has ls 5 [(0, .ref x30), (1, .ref x31), (2, .ref x32), (3, .int x33), (4, .int x34)] → W p l e rm_SU_product s m args below meth c H locs cells slots (MQ below (va_Qi (fun r9 h9 => K r9 h9 ∧ ah_m h0 h9) (ah_B G) (fun q => G.2.2 ≤ q)) args s 0 0 (fun q => G.2.2 ≤ q)) (F0 m 45 ls []) := by
  obtain ⟨hx, hb, hr, hml, hown, hts, hT, hlk, hK, hX, htb, hin, hst⟩ := id C
  have hw : ∀ {w9 : Cond}, w9 ∈ zx_T → w9.before _ s = true := fun h9 => hts _ (hT _ h9)
  intro n
  induction n with
  | zero =>
    intro x30 x31 x32 x33 x34 h35 H locs ls w
    exact absurd w (by intro z9; exact z9)
  | succ n ih =>
    intro x30 x31 x32 x33 x34 h35 H locs ls w hm hW hl
    unfold lp_SU_product_45 at w
    refine lv_iload hx hb d_SU_product_45 (lv_at hl 4 rfl) ?_
    refine lv_aload_n hx hb d_SU_product_47 rfl (lv_at hl 1 rfl) ?_
    obtain ⟨t36, w⟩ := w
    refine hb_get (ci := 2) (C := "BigDesk$Whole") (T := T_WH) (N := 3) hx hb hts (fun w9 h9 => hT w9 (u_WH w9 h9)) hown hK hW t36 rfl (by decide) 1 (by decide) (hw wd_40) (fun _ h9 => h9) (q := (0, 0)) rfl (v := .int (ah_I h35 0 x31)) rfl d_SU_product_48 ?_
    refine lv_icmp_ge (tgt := 77) hx hb d_SU_product_51 (by decide) (fun c37 => ?_) (fun c37 => ?_)
    · have w := w.1 c37
      exact hc_xt_77 x30 x31 x32 x33 h35 _ _ _ w hm hW (lv_sub hl [0, 1, 2, 3] rfl)
    · have w := w.2 c37
      refine lv_aload_n hx hb d_SU_product_54 rfl (lv_at hl 0 rfl) ?_
      obtain ⟨t38, w⟩ := w
      obtain ⟨q39, e40, w⟩ := w
      refine hb_get (ci := 2) (C := "BigDesk$Whole") (T := T_WH) (N := 3) hx hb hts (fun w9 h9 => hT w9 (u_WH w9 h9)) hown hK hW t38 rfl (by decide) 0 (by decide) (hw wd_35) (fun _ h9 => h9) (q := (2, 5)) rfl (v := .ref q39) (ah_f_R e40) d_SU_product_55 ?_
      refine lv_iload hx hb d_SU_product_58 (lv_at hl 4 rfl) ?_
      refine lv_aload_n hx hb d_SU_product_60 rfl (lv_at hl 1 rfl) ?_
      obtain ⟨q41, e42, w⟩ := w
      refine hb_get (ci := 2) (C := "BigDesk$Whole") (T := T_WH) (N := 3) hx hb hts (fun w9 h9 => hT w9 (u_WH w9 h9)) hown hK hW t36 rfl (by decide) 0 (by decide) (hw wd_35) (fun _ h9 => h9) (q := (2, 5)) rfl (v := .ref q41) (ah_f_R e42) d_SU_product_61 ?_
      refine lv_iload hx hb d_SU_product_64 (lv_at hl 4 rfl) ?_
      obtain ⟨t43, w⟩ := w
      obtain ⟨i44, w⟩ := w
      refine hb_lald hx hb hK hW t43 (by decide) (by decide) 2 rfl i44 d_SU_product_66 ?_
      refine lv_aload_n hx hb d_SU_product_67 rfl (lv_at hl 2 rfl) ?_
      refine hb_callv (va_runS (As := [.ref q39, .int x34, .long (ah_bL h35 q41 x34.toNatClampNeg), .ref x32]) (rest := []) ⟨hx, hb, hml, hown, hts⟩ (m_SU_addRow G q39 x34 (ah_bL h35 q41 x34.toNatClampNeg) x32 h35 hst w) (va_cwS 4 hts (zx_gS hT wd_317 wd_318 wd_11 wd_319) rfl rfl rfl (by decide +kernel) ⟨Nat.le_of_ble_eq_true rfl, Nat.le_of_ble_eq_true rfl⟩) (hb_preS hK hX hW) rfl rfl hl.1 rfl (lv_room (Nat.le_of_ble_eq_true rfl)) d_SU_product_68 ⟨(by show _ ≤ 0; omega), (by show _ ≤ 0; omega)⟩) hW (fun h45 H locs hk hW => ?_)
      obtain ⟨w, mm46⟩ := hk
      have w := w mm46
      have hm := hm.tr mm46
      have t47 := mm46.tg t36 (by decide)
      have t48 := mm46.tg t38 (by decide)
      have t49 := mm46.tg t43 (by decide)
      obtain ⟨v50, ev50⟩ : ∃ y9 : Int32, y9 = x34 + 1 := ⟨_, rfl⟩
      have w := w v50 ev50
      refine lv_iinc (v := v50) (lv' := [(4, .int v50), (0, .ref x30), (1, .ref x31), (2, .ref x32), (3, .int x33)]) hx hb d_SU_product_71 hl (k := 4) rfl (by rw [ev50]; rfl) (by decide) rfl (fun ls hl => ?_)
      refine lv_goto (tgt := 45) hx hb d_SU_product_74 (by decide) ?_
      exact ih x30 x31 x32 x33 v50 h45 _ _ _ w hm hW (lv_sub hl [1, 2, 3, 4, 0] rfl)
set_option maxHeartbeats 4000000 in
set_option maxRecDepth 100000 in
theorem tb_SU_product_99 {p : Program} {l : Launch} {e : Env} {s : State} {m : MethodId} {args : Array Value} {below : List Frame} {meth : Method} {c : Code} {G : zG} (C : cx_C p l s m args meth c G y_SU_product b_SU_product 5 (some .boolean) "BigDesk$Sums" (Cond.code y_SU_product b_SU_product 5 (some .boolean) :: zx_T) []) {K : Int32 → ah_H → Prop} {h0 : ah_H} {cells slots : Nat} (hcl : cells + 0 ≤ 0) (hsl : slots + 0 ≤ 0)  (s63 : Int32) (s64 : Nat) (h65 : ah_H) (H : Heap) (locs : List Loc) (ls : Array Slot) (w : bk_SU_product_99 K s63 s64 h65) (hm : ah_m h0 h65) (hW : ah_W G s.heap h65 H locs) (hl : lv_has ls 5 []) : W p l e rm_SU_product s m args below meth c H locs cells slots (MQ below (va_Qi (fun r9 h9 => K r9 h9 ∧ ah_m h0 h9) (ah_B G) (fun q => G.2.2 ≤ q)) args s 0 0 (fun q => G.2.2 ≤ q)) (F0 m 99 ls [.int s63, .ref s64]) := by
  unfold bk_SU_product_99 at w
  obtain ⟨hx, hb, hr, hml, hown, hts, hT, hlk, hK, hX, htb, hin, hst⟩ := id C
  have hw : ∀ {w9 : Cond}, w9 ∈ zx_T → w9.before _ s = true := fun h9 => hts _ (hT _ h9)
  obtain ⟨t66, w⟩ := w
  refine hb_callv (va_runV (As := [.int s63]) (rest := []) ⟨hx, hb, hml, hown, hts⟩ (m_WH_markSign G s64 s63 h65 hst w) (cwV 1 hts (zx_gV hT wd_262 wd_223 wd_224 wd_2 wd_225) rfl rfl rfl (by decide +kernel) ⟨Nat.le_of_ble_eq_true rfl, Nat.le_of_ble_eq_true rfl⟩) (hb_preV hK hX hW t66 (by decide) rfl) rfl rfl hl.1 rfl (lv_room (Nat.le_of_ble_eq_true rfl)) d_SU_product_99 ⟨(by show _ ≤ 0; omega), (by show _ ≤ 0; omega)⟩) hW (fun h67 H locs hk hW => ?_)
  obtain ⟨w, mm68⟩ := hk
  have w := w mm68
  have hm := hm.tr mm68
  have t69 := mm68.tg t66 (by decide)
  refine lv_iconst (v := 1) hx hb d_SU_product_102 (by decide) ?_
  exact hb_zret (K := fun r9 h9 => K r9 h9 ∧ ah_m h0 h9) hx hb hr hlk (by decide) hK hX hW ⟨w, hm⟩ (by omega) (by omega) d_SU_product_103
set_option maxHeartbeats 4000000 in
set_option maxRecDepth 100000 in
theorem m_SU_product {l : Launch} (G : zG) (a1 : Nat) (a2 : Nat) (a3 : Nat) (h0 : ah_H) {K : Int32 → ah_H → Prop} (hst : l.stackTraces = false) (w : w_SU_product a1 a2 a3 h0 K) : Met l y_SU_product (Cond.code y_SU_product b_SU_product 5 (some .boolean) :: zx_T) rm_SU_product (va_Pc [.ref a1, .ref a2, .ref a3] (ah_B G h0)) (va_Qi (fun r9 h9 => K r9 h9 ∧ ah_m h0 h9) (ah_B G) (fun q => G.2.2 ≤ q)) 0 0 (fun q => G.2.2 ≤ q) := by
  refine Met.ofW (cc := b_SU_product) (maxL := 5) (ret := (some .boolean)) (by decide) rfl ?_
  intro p e s m args below meth c s₁ B hml hv
  have htb := cx_out B (atoms_spec B.pre _ List.mem_cons_self)
  obtain ⟨rfl, hB⟩ := hv
  have C : cx_C p l s m _ meth c G y_SU_product b_SU_product 5 (some .boolean) "BigDesk$Sums" (Cond.code y_SU_product b_SU_product 5 (some .boolean) :: zx_T) [] := ⟨B.exec, B.bytes, B.returns, hml, findClass_of_methodNamed B.named, atoms_spec B.pre, cx_hd, B.notSynchronized, hB.2.2.1, hB.2.2.2, htb, fun z9 => (name_of_methodNamed B.named B.method).1.trans z9, hst⟩
  obtain ⟨hx, hb, hr, hml, hown, hts, hT, hlk, hK, hX, htb, hin, hst⟩ := id C
  have hw : ∀ {w9 : Cond}, w9 ∈ zx_T → w9.before _ s = true := fun h9 => hts _ (hT _ h9)
  have hW : ah_W G s.heap h0 s.heap [] := ⟨hB.1, hB.2.1, va_S.rf⟩
  have hm : ah_m h0 h0 := ah_m.rf
  have hcl : 0 + 0 ≤ 0 := by decide
  have hsl : 0 + 0 ≤ 0 := by decide
  have hl := lv_entry ([.ref a1, .ref a2, .ref a3]) (n := 5) (Nat.le_of_ble_eq_true rfl)
  rw [lg_entry_eq]
  generalize (lg_sl ([.ref a1, .ref a2, .ref a3]) ++ List.replicate (5 - (lg_sl ([.ref a1, .ref a2, .ref a3])).length) Slot.unset).toArray = ls at hl ⊢
  have hl : lv_has ls 5 [(0, .ref a1), (1, .ref a2), (2, .ref a3)] := hl
  unfold w_SU_product at w
  refine lv_aload_n hx hb d_SU_product_0 rfl (lv_at hl 1 rfl) ?_
  obtain ⟨t4, w⟩ := w
  refine hb_get (ci := 2) (C := "BigDesk$Whole") (T := T_WH) (N := 3) hx hb hts (fun w9 h9 => hT w9 (u_WH w9 h9)) hown hK hW t4 rfl (by decide) 1 (by decide) (hw wd_40) (fun _ h9 => h9) (q := (0, 0)) rfl (v := .int (ah_I h0 0 a2)) rfl d_SU_product_1 ?_
  refine lv_aload_n hx hb d_SU_product_4 rfl (lv_at hl 2 rfl) ?_
  obtain ⟨t5, w⟩ := w
  refine hb_get (ci := 2) (C := "BigDesk$Whole") (T := T_WH) (N := 3) hx hb hts (fun w9 h9 => hT w9 (u_WH w9 h9)) hown hK hW t5 rfl (by decide) 1 (by decide) (hw wd_40) (fun _ h9 => h9) (q := (0, 0)) rfl (v := .int (ah_I h0 0 a3)) rfl d_SU_product_5 ?_
  refine lv_iadd hx hb d_SU_product_8 ?_
  refine lv_topi (fun v6 ev6 => ?_)
  have w := w v6 ev6
  refine lv_istore_n (lv' := [(3, .int v6), (0, .ref a1), (1, .ref a2), (2, .ref a3)]) hx hb d_SU_product_9 rfl hl (by decide) rfl (fun ls hl => ?_)
  refine lv_iload_n hx hb d_SU_product_10 rfl (lv_at hl 0 rfl) ?_
  refine lv_sipush (v := 258) hx hb d_SU_product_11 (by decide) ?_
  refine lv_icmp_le (tgt := 19) hx hb d_SU_product_14 (by decide) (fun c7 => ?_) (fun c7 => ?_)
  · have w := w.1 c7
    refine lv_iconst (v := 0) hx hb d_SU_product_19 (by decide) ?_
    refine lv_istore (lv' := [(4, .int (0 : Int32)), (3, .int v6), (0, .ref a1), (1, .ref a2), (2, .ref a3)]) hx hb d_SU_product_20 hl (by decide) rfl (fun ls hl => ?_)
    obtain ⟨k71, w⟩ := w
    refine tl_SU_product_22 C (by omega) (by omega) (fun x25 x26 x27 x28 h29 H locs ls w hm hW hl => ?_) k71 a1 a2 a3 v6 (0 : Int32) h0 _ _ _ w hm hW (lv_sub hl [2, 3, 4, 1, 0] rfl)
    · refine lv_iconst (v := 0) hx hb d_SU_product_42 (by decide) ?_
      refine lv_istore (lv' := [(4, .int (0 : Int32)), (0, .ref x25), (1, .ref x26), (2, .ref x27), (3, .int x28)]) hx hb d_SU_product_43 hl (by decide) rfl (fun ls hl => ?_)
      obtain ⟨k70, w⟩ := w
      refine tl_SU_product_45 C (by omega) (by omega) (fun x51 x52 x53 x54 h55 H locs ls w hm hW hl => ?_) k70 x25 x26 x27 x28 (0 : Int32) h29 _ _ _ w hm hW (lv_sub hl [1, 2, 3, 4, 0] rfl)
      · refine lv_aload_n hx hb d_SU_product_77 rfl (lv_at hl 0 rfl) ?_
        refine lv_iload_n hx hb d_SU_product_78 rfl (lv_at hl 3 rfl) ?_
        obtain ⟨t56, w⟩ := w
        refine hb_callv (va_runV (As := [.int x54]) (rest := []) ⟨hx, hb, hml, hown, hts⟩ (m_WH_settle G x51 x54 h55 hst w) (cwV 1 hts (zx_gV hT wd_261 wd_219 wd_220 wd_2 wd_221) rfl rfl rfl (by decide +kernel) ⟨Nat.le_of_ble_eq_true rfl, Nat.le_of_ble_eq_true rfl⟩) (hb_preV hK hX hW t56 (by decide) rfl) rfl rfl hl.1 rfl (lv_room (Nat.le_of_ble_eq_true rfl)) d_SU_product_79 ⟨(by show _ ≤ 0; omega), (by show _ ≤ 0; omega)⟩) hW (fun h57 H locs hk hW => ?_)
        obtain ⟨w, mm58⟩ := hk
        have w := w mm58
        have hm := hm.tr mm58
        have t59 := mm58.tg t56 (by decide)
        refine lv_aload_n hx hb d_SU_product_82 rfl (lv_at hl 0 rfl) ?_
        refine lv_aload_n hx hb d_SU_product_83 rfl (lv_at hl 1 rfl) ?_
        obtain ⟨t60, w⟩ := w
        refine hb_get (ci := 2) (C := "BigDesk$Whole") (T := T_WH) (N := 3) hx hb hts (fun w9 h9 => hT w9 (u_WH w9 h9)) hown hK hW t60 rfl (by decide) 2 (by decide) (hw wd_44) (fun _ h9 => h9) (q := (0, 1)) rfl (v := .int (ah_I h57 1 x52)) rfl d_SU_product_84 ?_
        refine lv_aload_n hx hb d_SU_product_87 rfl (lv_at hl 2 rfl) ?_
        obtain ⟨t61, w⟩ := w
        refine hb_get (ci := 2) (C := "BigDesk$Whole") (T := T_WH) (N := 3) hx hb hts (fun w9 h9 => hT w9 (u_WH w9 h9)) hown hK hW t61 rfl (by decide) 2 (by decide) (hw wd_44) (fun _ h9 => h9) (q := (0, 1)) rfl (v := .int (ah_I h57 1 x53)) rfl d_SU_product_88 ?_
        refine lv_icmp_eq (tgt := 98) hx hb d_SU_product_91 (by decide) (fun c62 => ?_) (fun c62 => ?_)
        · have w := w.1 c62
          refine lv_iconst (v := 0) hx hb d_SU_product_98 (by decide) ?_
          exact tb_SU_product_99 C (by omega) (by omega)  (0 : Int32) x51 h57 _ _ _ w hm hW (lv_sub hl [] rfl)
        · have w := w.2 c62
          refine lv_iconst (v := 1) hx hb d_SU_product_94 (by decide) ?_
          refine lv_goto (tgt := 99) hx hb d_SU_product_95 (by decide) ?_
          exact tb_SU_product_99 C (by omega) (by omega)  (1 : Int32) x51 h57 _ _ _ w hm hW (lv_sub hl [] rfl)
  · have w := w.2 c7
    refine lv_iconst (v := 0) hx hb d_SU_product_17 (by decide) ?_
    exact hb_zret (K := fun r9 h9 => K r9 h9 ∧ ah_m h0 h9) hx hb hr hlk (by decide) hK hX hW ⟨w, hm⟩ (by omega) (by omega) d_SU_product_18
