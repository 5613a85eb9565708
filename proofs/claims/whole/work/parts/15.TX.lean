theorem d_TX_isText_0 : decode b_TX_isText 0 = .ok (.iload_n 1, 1) := by decide +kernel
theorem d_TX_isText_1 : decode b_TX_isText 1 = .ok (.iconst 1, 1) := by decide +kernel
theorem d_TX_isText_2 : decode b_TX_isText 2 = .ok (.if_icmp .lt 9, 3) := by decide +kernel
theorem d_TX_isText_5 : decode b_TX_isText 5 = .ok (.iload_n 1, 1) := by decide +kernel
theorem d_TX_isText_6 : decode b_TX_isText 6 = .ok (.aload_n 0, 1) := by decide +kernel
theorem d_TX_isText_7 : decode b_TX_isText 7 = .ok (.arraylength, 1) := by decide +kernel
theorem d_TX_isText_8 : decode b_TX_isText 8 = .ok (.if_icmp .le 5, 3) := by decide +kernel
theorem d_TX_isText_11 : decode b_TX_isText 11 = .ok (.iconst 0, 1) := by decide +kernel
theorem d_TX_isText_12 : decode b_TX_isText 12 = .ok (.ireturn, 1) := by decide +kernel
theorem d_TX_isText_13 : decode b_TX_isText 13 = .ok (.aload_n 0, 1) := by decide +kernel
theorem d_TX_isText_14 : decode b_TX_isText 14 = .ok (.iconst 0, 1) := by decide +kernel
theorem d_TX_isText_15 : decode b_TX_isText 15 = .ok (.baload, 1) := by decide +kernel
theorem d_TX_isText_16 : decode b_TX_isText 16 = .ok (.bipush 45, 2) := by decide +kernel
theorem d_TX_isText_18 : decode b_TX_isText 18 = .ok (.if_icmp .ne 7, 3) := by decide +kernel
theorem d_TX_isText_21 : decode b_TX_isText 21 = .ok (.iconst 1, 1) := by decide +kernel
theorem d_TX_isText_22 : decode b_TX_isText 22 = .ok (.goto 4, 3) := by decide +kernel
theorem d_TX_isText_25 : decode b_TX_isText 25 = .ok (.iconst 0, 1) := by decide +kernel
theorem d_TX_isText_26 : decode b_TX_isText 26 = .ok (.istore_n 2, 1) := by decide +kernel
theorem d_TX_isText_27 : decode b_TX_isText 27 = .ok (.iload_n 1, 1) := by decide +kernel
theorem d_TX_isText_28 : decode b_TX_isText 28 = .ok (.iload_n 2, 1) := by decide +kernel
theorem d_TX_isText_29 : decode b_TX_isText 29 = .ok (.if_icmp .eq 16, 3) := by decide +kernel
theorem d_TX_isText_32 : decode b_TX_isText 32 = .ok (.aload_n 0, 1) := by decide +kernel
theorem d_TX_isText_33 : decode b_TX_isText 33 = .ok (.iload_n 2, 1) := by decide +kernel
theorem d_TX_isText_34 : decode b_TX_isText 34 = .ok (.baload, 1) := by decide +kernel
theorem d_TX_isText_35 : decode b_TX_isText 35 = .ok (.bipush 48, 2) := by decide +kernel
theorem d_TX_isText_37 : decode b_TX_isText 37 = .ok (.if_icmp .ne 10, 3) := by decide +kernel
theorem d_TX_isText_40 : decode b_TX_isText 40 = .ok (.iload_n 1, 1) := by decide +kernel
theorem d_TX_isText_41 : decode b_TX_isText 41 = .ok (.iconst 1, 1) := by decide +kernel
theorem d_TX_isText_42 : decode b_TX_isText 42 = .ok (.if_icmp .le 5, 3) := by decide +kernel
theorem d_TX_isText_45 : decode b_TX_isText 45 = .ok (.iconst 0, 1) := by decide +kernel
theorem d_TX_isText_46 : decode b_TX_isText 46 = .ok (.ireturn, 1) := by decide +kernel
theorem d_TX_isText_47 : decode b_TX_isText 47 = .ok (.iload_n 2, 1) := by decide +kernel
theorem d_TX_isText_48 : decode b_TX_isText 48 = .ok (.istore_n 3, 1) := by decide +kernel
theorem d_TX_isText_49 : decode b_TX_isText 49 = .ok (.iload_n 3, 1) := by decide +kernel
theorem d_TX_isText_50 : decode b_TX_isText 50 = .ok (.iload_n 1, 1) := by decide +kernel
theorem d_TX_isText_51 : decode b_TX_isText 51 = .ok (.if_icmp .ge 27, 3) := by decide +kernel
theorem d_TX_isText_54 : decode b_TX_isText 54 = .ok (.aload_n 0, 1) := by decide +kernel
theorem d_TX_isText_55 : decode b_TX_isText 55 = .ok (.iload_n 3, 1) := by decide +kernel
theorem d_TX_isText_56 : decode b_TX_isText 56 = .ok (.baload, 1) := by decide +kernel
theorem d_TX_isText_57 : decode b_TX_isText 57 = .ok (.bipush 48, 2) := by decide +kernel
theorem d_TX_isText_59 : decode b_TX_isText 59 = .ok (.if_icmp .lt 11, 3) := by decide +kernel
theorem d_TX_isText_62 : decode b_TX_isText 62 = .ok (.aload_n 0, 1) := by decide +kernel
theorem d_TX_isText_63 : decode b_TX_isText 63 = .ok (.iload_n 3, 1) := by decide +kernel
theorem d_TX_isText_64 : decode b_TX_isText 64 = .ok (.baload, 1) := by decide +kernel
theorem d_TX_isText_65 : decode b_TX_isText 65 = .ok (.bipush 57, 2) := by decide +kernel
theorem d_TX_isText_67 : decode b_TX_isText 67 = .ok (.if_icmp .le 5, 3) := by decide +kernel
theorem d_TX_isText_70 : decode b_TX_isText 70 = .ok (.iconst 0, 1) := by decide +kernel
theorem d_TX_isText_71 : decode b_TX_isText 71 = .ok (.ireturn, 1) := by decide +kernel
theorem d_TX_isText_72 : decode b_TX_isText 72 = .ok (.iinc 3 1, 3) := by decide +kernel
theorem d_TX_isText_75 : decode b_TX_isText 75 = .ok (.goto (-26), 3) := by decide +kernel
theorem d_TX_isText_78 : decode b_TX_isText 78 = .ok (.iconst 1, 1) := by decide +kernel
theorem d_TX_isText_79 : decode b_TX_isText 79 = .ok (.ireturn, 1) := by decide +kernel
theorem d_TX_numberOf_0 : decode b_TX_numberOf 0 = .ok (.aload_n 1, 1) := by decide +kernel
theorem d_TX_numberOf_1 : decode b_TX_numberOf 1 = .ok (.iload_n 2, 1) := by decide +kernel
theorem d_TX_numberOf_2 : decode b_TX_numberOf 2 = .ok (.invokestatic 9, 3) := by decide +kernel
theorem d_TX_numberOf_5 : decode b_TX_numberOf 5 = .ok (.ifCond .ne 5, 3) := by decide +kernel
theorem d_TX_numberOf_8 : decode b_TX_numberOf 8 = .ok (.iconst 0, 1) := by decide +kernel
theorem d_TX_numberOf_9 : decode b_TX_numberOf 9 = .ok (.ireturn, 1) := by decide +kernel
theorem d_TX_numberOf_10 : decode b_TX_numberOf 10 = .ok (.aload_n 1, 1) := by decide +kernel
theorem d_TX_numberOf_11 : decode b_TX_numberOf 11 = .ok (.iconst 0, 1) := by decide +kernel
theorem d_TX_numberOf_12 : decode b_TX_numberOf 12 = .ok (.baload, 1) := by decide +kernel
theorem d_TX_numberOf_13 : decode b_TX_numberOf 13 = .ok (.bipush 45, 2) := by decide +kernel
theorem d_TX_numberOf_15 : decode b_TX_numberOf 15 = .ok (.if_icmp .ne 7, 3) := by decide +kernel
theorem d_TX_numberOf_18 : decode b_TX_numberOf 18 = .ok (.iconst 1, 1) := by decide +kernel
theorem d_TX_numberOf_19 : decode b_TX_numberOf 19 = .ok (.goto 4, 3) := by decide +kernel
theorem d_TX_numberOf_22 : decode b_TX_numberOf 22 = .ok (.iconst 0, 1) := by decide +kernel
theorem d_TX_numberOf_23 : decode b_TX_numberOf 23 = .ok (.istore_n 3, 1) := by decide +kernel
theorem d_TX_numberOf_24 : decode b_TX_numberOf 24 = .ok (.iload_n 2, 1) := by decide +kernel
theorem d_TX_numberOf_25 : decode b_TX_numberOf 25 = .ok (.iload_n 3, 1) := by decide +kernel
theorem d_TX_numberOf_26 : decode b_TX_numberOf 26 = .ok (.isub, 1) := by decide +kernel
theorem d_TX_numberOf_27 : decode b_TX_numberOf 27 = .ok (.sipush 2467, 3) := by decide +kernel
theorem d_TX_numberOf_30 : decode b_TX_numberOf 30 = .ok (.if_icmp .le 5, 3) := by decide +kernel
theorem d_TX_numberOf_33 : decode b_TX_numberOf 33 = .ok (.iconst 0, 1) := by decide +kernel
theorem d_TX_numberOf_34 : decode b_TX_numberOf 34 = .ok (.ireturn, 1) := by decide +kernel
theorem d_TX_numberOf_35 : decode b_TX_numberOf 35 = .ok (.lconst 0, 1) := by decide +kernel
theorem d_TX_numberOf_36 : decode b_TX_numberOf 36 = .ok (.lstore 4, 2) := by decide +kernel
theorem d_TX_numberOf_38 : decode b_TX_numberOf 38 = .ok (.aload_n 0, 1) := by decide +kernel
theorem d_TX_numberOf_39 : decode b_TX_numberOf 39 = .ok (.invokevirtual 15, 3) := by decide +kernel
theorem d_TX_numberOf_42 : decode b_TX_numberOf 42 = .ok (.iload_n 3, 1) := by decide +kernel
theorem d_TX_numberOf_43 : decode b_TX_numberOf 43 = .ok (.istore 6, 2) := by decide +kernel
theorem d_TX_numberOf_45 : decode b_TX_numberOf 45 = .ok (.iload 6, 2) := by decide +kernel
theorem d_TX_numberOf_47 : decode b_TX_numberOf 47 = .ok (.iload_n 2, 1) := by decide +kernel
theorem d_TX_numberOf_48 : decode b_TX_numberOf 48 = .ok (.if_icmp .ge 48, 3) := by decide +kernel
theorem d_TX_numberOf_51 : decode b_TX_numberOf 51 = .ok (.lload 4, 2) := by decide +kernel
theorem d_TX_numberOf_53 : decode b_TX_numberOf 53 = .ok (.ldc2_w 20, 3) := by decide +kernel
theorem d_TX_numberOf_56 : decode b_TX_numberOf 56 = .ok (.lmul, 1) := by decide +kernel
theorem d_TX_numberOf_57 : decode b_TX_numberOf 57 = .ok (.aload_n 1, 1) := by decide +kernel
theorem d_TX_numberOf_58 : decode b_TX_numberOf 58 = .ok (.iload 6, 2) := by decide +kernel
theorem d_TX_numberOf_60 : decode b_TX_numberOf 60 = .ok (.baload, 1) := by decide +kernel
theorem d_TX_numberOf_61 : decode b_TX_numberOf 61 = .ok (.i2l, 1) := by decide +kernel
theorem d_TX_numberOf_62 : decode b_TX_numberOf 62 = .ok (.ladd, 1) := by decide +kernel
theorem d_TX_numberOf_63 : decode b_TX_numberOf 63 = .ok (.ldc2_w 22, 3) := by decide +kernel
theorem d_TX_numberOf_66 : decode b_TX_numberOf 66 = .ok (.lsub, 1) := by decide +kernel
theorem d_TX_numberOf_67 : decode b_TX_numberOf 67 = .ok (.lstore 4, 2) := by decide +kernel
theorem d_TX_numberOf_69 : decode b_TX_numberOf 69 = .ok (.iload_n 2, 1) := by decide +kernel
theorem d_TX_numberOf_70 : decode b_TX_numberOf 70 = .ok (.iconst 1, 1) := by decide +kernel
theorem d_TX_numberOf_71 : decode b_TX_numberOf 71 = .ok (.isub, 1) := by decide +kernel
theorem d_TX_numberOf_72 : decode b_TX_numberOf 72 = .ok (.iload 6, 2) := by decide +kernel
theorem d_TX_numberOf_74 : decode b_TX_numberOf 74 = .ok (.isub, 1) := by decide +kernel
theorem d_TX_numberOf_75 : decode b_TX_numberOf 75 = .ok (.bipush 9, 2) := by decide +kernel
theorem d_TX_numberOf_77 : decode b_TX_numberOf 77 = .ok (.irem, 1) := by decide +kernel
theorem d_TX_numberOf_78 : decode b_TX_numberOf 78 = .ok (.ifCond .ne 12, 3) := by decide +kernel
theorem d_TX_numberOf_81 : decode b_TX_numberOf 81 = .ok (.aload_n 0, 1) := by decide +kernel
theorem d_TX_numberOf_82 : decode b_TX_numberOf 82 = .ok (.lload 4, 2) := by decide +kernel
theorem d_TX_numberOf_84 : decode b_TX_numberOf 84 = .ok (.invokevirtual 24, 3) := by decide +kernel
theorem d_TX_numberOf_87 : decode b_TX_numberOf 87 = .ok (.lconst 0, 1) := by decide +kernel
theorem d_TX_numberOf_88 : decode b_TX_numberOf 88 = .ok (.lstore 4, 2) := by decide +kernel
theorem d_TX_numberOf_90 : decode b_TX_numberOf 90 = .ok (.iinc 6 1, 3) := by decide +kernel
theorem d_TX_numberOf_93 : decode b_TX_numberOf 93 = .ok (.goto (-48), 3) := by decide +kernel
theorem d_TX_numberOf_96 : decode b_TX_numberOf 96 = .ok (.aload_n 0, 1) := by decide +kernel
theorem d_TX_numberOf_97 : decode b_TX_numberOf 97 = .ok (.iload_n 3, 1) := by decide +kernel
theorem d_TX_numberOf_98 : decode b_TX_numberOf 98 = .ok (.iconst 1, 1) := by decide +kernel
theorem d_TX_numberOf_99 : decode b_TX_numberOf 99 = .ok (.if_icmp .ne 7, 3) := by decide +kernel
theorem d_TX_numberOf_102 : decode b_TX_numberOf 102 = .ok (.iconst 1, 1) := by decide +kernel
theorem d_TX_numberOf_103 : decode b_TX_numberOf 103 = .ok (.goto 4, 3) := by decide +kernel
theorem d_TX_numberOf_106 : decode b_TX_numberOf 106 = .ok (.iconst 0, 1) := by decide +kernel
theorem d_TX_numberOf_107 : decode b_TX_numberOf 107 = .ok (.invokevirtual 28, 3) := by decide +kernel
theorem d_TX_numberOf_110 : decode b_TX_numberOf 110 = .ok (.iconst 1, 1) := by decide +kernel
theorem d_TX_numberOf_111 : decode b_TX_numberOf 111 = .ok (.ireturn, 1) := by decide +kernel
theorem d_TX_layByte_0 : decode b_TX_layByte 0 = .ok (.iload_n 2, 1) := by decide +kernel
theorem d_TX_layByte_1 : decode b_TX_layByte 1 = .ok (.iconst 1, 1) := by decide +kernel
theorem d_TX_layByte_2 : decode b_TX_layByte 2 = .ok (.if_icmp .lt 9, 3) := by decide +kernel
theorem d_TX_layByte_5 : decode b_TX_layByte 5 = .ok (.iload_n 2, 1) := by decide +kernel
theorem d_TX_layByte_6 : decode b_TX_layByte 6 = .ok (.aload_n 1, 1) := by decide +kernel
theorem d_TX_layByte_7 : decode b_TX_layByte 7 = .ok (.arraylength, 1) := by decide +kernel
theorem d_TX_layByte_8 : decode b_TX_layByte 8 = .ok (.if_icmp .le 5, 3) := by decide +kernel
theorem d_TX_layByte_11 : decode b_TX_layByte 11 = .ok (.iload_n 2, 1) := by decide +kernel
theorem d_TX_layByte_12 : decode b_TX_layByte 12 = .ok (.ireturn, 1) := by decide +kernel
theorem d_TX_layByte_13 : decode b_TX_layByte 13 = .ok (.aload_n 1, 1) := by decide +kernel
theorem d_TX_layByte_14 : decode b_TX_layByte 14 = .ok (.iload_n 2, 1) := by decide +kernel
theorem d_TX_layByte_15 : decode b_TX_layByte 15 = .ok (.iconst 1, 1) := by decide +kernel
theorem d_TX_layByte_16 : decode b_TX_layByte 16 = .ok (.isub, 1) := by decide +kernel
theorem d_TX_layByte_17 : decode b_TX_layByte 17 = .ok (.iload_n 0, 1) := by decide +kernel
theorem d_TX_layByte_18 : decode b_TX_layByte 18 = .ok (.i2b, 1) := by decide +kernel
theorem d_TX_layByte_19 : decode b_TX_layByte 19 = .ok (.bastore, 1) := by decide +kernel
theorem d_TX_layByte_20 : decode b_TX_layByte 20 = .ok (.iload_n 2, 1) := by decide +kernel
theorem d_TX_layByte_21 : decode b_TX_layByte 21 = .ok (.iconst 1, 1) := by decide +kernel
theorem d_TX_layByte_22 : decode b_TX_layByte 22 = .ok (.isub, 1) := by decide +kernel
theorem d_TX_layByte_23 : decode b_TX_layByte 23 = .ok (.ireturn, 1) := by decide +kernel
theorem d_TX_layChunk_0 : decode b_TX_layChunk 0 = .ok (.iload_n 2, 1) := by decide +kernel
theorem d_TX_layChunk_1 : decode b_TX_layChunk 1 = .ok (.istore_n 3, 1) := by decide +kernel
theorem d_TX_layChunk_2 : decode b_TX_layChunk 2 = .ok (.aload_n 0, 1) := by decide +kernel
theorem d_TX_layChunk_3 : decode b_TX_layChunk 3 = .ok (.invokevirtual 54, 3) := by decide +kernel
theorem d_TX_layChunk_6 : decode b_TX_layChunk 6 = .ok (.lstore 4, 2) := by decide +kernel
theorem d_TX_layChunk_8 : decode b_TX_layChunk 8 = .ok (.iconst 0, 1) := by decide +kernel
theorem d_TX_layChunk_9 : decode b_TX_layChunk 9 = .ok (.istore 6, 2) := by decide +kernel
theorem d_TX_layChunk_11 : decode b_TX_layChunk 11 = .ok (.iload 6, 2) := by decide +kernel
theorem d_TX_layChunk_13 : decode b_TX_layChunk 13 = .ok (.bipush 9, 2) := by decide +kernel
theorem d_TX_layChunk_15 : decode b_TX_layChunk 15 = .ok (.if_icmp .ge 48, 3) := by decide +kernel
theorem d_TX_layChunk_18 : decode b_TX_layChunk 18 = .ok (.aload_n 0, 1) := by decide +kernel
theorem d_TX_layChunk_19 : decode b_TX_layChunk 19 = .ok (.getfield 36, 3) := by decide +kernel
theorem d_TX_layChunk_22 : decode b_TX_layChunk 22 = .ok (.ifCond .gt 10, 3) := by decide +kernel
theorem d_TX_layChunk_25 : decode b_TX_layChunk 25 = .ok (.lload 4, 2) := by decide +kernel
theorem d_TX_layChunk_27 : decode b_TX_layChunk 27 = .ok (.lconst 0, 1) := by decide +kernel
theorem d_TX_layChunk_28 : decode b_TX_layChunk 28 = .ok (.lcmp, 1) := by decide +kernel
theorem d_TX_layChunk_29 : decode b_TX_layChunk 29 = .ok (.ifCond .le 34, 3) := by decide +kernel
theorem d_TX_layChunk_32 : decode b_TX_layChunk 32 = .ok (.ldc2_w 22, 3) := by decide +kernel
theorem d_TX_layChunk_35 : decode b_TX_layChunk 35 = .ok (.lload 4, 2) := by decide +kernel
theorem d_TX_layChunk_37 : decode b_TX_layChunk 37 = .ok (.ldc2_w 20, 3) := by decide +kernel
theorem d_TX_layChunk_40 : decode b_TX_layChunk 40 = .ok (.lrem, 1) := by decide +kernel
theorem d_TX_layChunk_41 : decode b_TX_layChunk 41 = .ok (.ladd, 1) := by decide +kernel
theorem d_TX_layChunk_42 : decode b_TX_layChunk 42 = .ok (.l2i, 1) := by decide +kernel
theorem d_TX_layChunk_43 : decode b_TX_layChunk 43 = .ok (.aload_n 1, 1) := by decide +kernel
theorem d_TX_layChunk_44 : decode b_TX_layChunk 44 = .ok (.iload_n 3, 1) := by decide +kernel
theorem d_TX_layChunk_45 : decode b_TX_layChunk 45 = .ok (.invokestatic 44, 3) := by decide +kernel
theorem d_TX_layChunk_48 : decode b_TX_layChunk 48 = .ok (.istore_n 3, 1) := by decide +kernel
theorem d_TX_layChunk_49 : decode b_TX_layChunk 49 = .ok (.lload 4, 2) := by decide +kernel
theorem d_TX_layChunk_51 : decode b_TX_layChunk 51 = .ok (.ldc2_w 20, 3) := by decide +kernel
theorem d_TX_layChunk_54 : decode b_TX_layChunk 54 = .ok (.ldiv, 1) := by decide +kernel
theorem d_TX_layChunk_55 : decode b_TX_layChunk 55 = .ok (.lstore 4, 2) := by decide +kernel
theorem d_TX_layChunk_57 : decode b_TX_layChunk 57 = .ok (.iinc 6 1, 3) := by decide +kernel
theorem d_TX_layChunk_60 : decode b_TX_layChunk 60 = .ok (.goto (-49), 3) := by decide +kernel
theorem d_TX_layChunk_63 : decode b_TX_layChunk 63 = .ok (.iload_n 3, 1) := by decide +kernel
theorem d_TX_layChunk_64 : decode b_TX_layChunk 64 = .ok (.ireturn, 1) := by decide +kernel
theorem d_TX_textOf_0 : decode b_TX_textOf 0 = .ok (.aload_n 0, 1) := by decide +kernel
theorem d_TX_textOf_1 : decode b_TX_textOf 1 = .ok (.getfield 32, 3) := by decide +kernel
theorem d_TX_textOf_4 : decode b_TX_textOf 4 = .ok (.istore_n 2, 1) := by decide +kernel
theorem d_TX_textOf_5 : decode b_TX_textOf 5 = .ok (.aload_n 0, 1) := by decide +kernel
theorem d_TX_textOf_6 : decode b_TX_textOf 6 = .ok (.iconst 0, 1) := by decide +kernel
theorem d_TX_textOf_7 : decode b_TX_textOf 7 = .ok (.invokevirtual 28, 3) := by decide +kernel
theorem d_TX_textOf_10 : decode b_TX_textOf 10 = .ok (.aload_n 1, 1) := by decide +kernel
theorem d_TX_textOf_11 : decode b_TX_textOf 11 = .ok (.arraylength, 1) := by decide +kernel
theorem d_TX_textOf_12 : decode b_TX_textOf 12 = .ok (.istore_n 3, 1) := by decide +kernel
theorem d_TX_textOf_13 : decode b_TX_textOf 13 = .ok (.iconst 0, 1) := by decide +kernel
theorem d_TX_textOf_14 : decode b_TX_textOf 14 = .ok (.istore 4, 2) := by decide +kernel
theorem d_TX_textOf_16 : decode b_TX_textOf 16 = .ok (.iload 4, 2) := by decide +kernel
theorem d_TX_textOf_18 : decode b_TX_textOf 18 = .ok (.sipush 2467, 3) := by decide +kernel
theorem d_TX_textOf_21 : decode b_TX_textOf 21 = .ok (.if_icmp .ge 23, 3) := by decide +kernel
theorem d_TX_textOf_24 : decode b_TX_textOf 24 = .ok (.aload_n 0, 1) := by decide +kernel
theorem d_TX_textOf_25 : decode b_TX_textOf 25 = .ok (.getfield 36, 3) := by decide +kernel
theorem d_TX_textOf_28 : decode b_TX_textOf 28 = .ok (.ifCond .le 16, 3) := by decide +kernel
theorem d_TX_textOf_31 : decode b_TX_textOf 31 = .ok (.aload_n 0, 1) := by decide +kernel
theorem d_TX_textOf_32 : decode b_TX_textOf 32 = .ok (.aload_n 1, 1) := by decide +kernel
theorem d_TX_textOf_33 : decode b_TX_textOf 33 = .ok (.iload_n 3, 1) := by decide +kernel
theorem d_TX_textOf_34 : decode b_TX_textOf 34 = .ok (.invokestatic 40, 3) := by decide +kernel
theorem d_TX_textOf_37 : decode b_TX_textOf 37 = .ok (.istore_n 3, 1) := by decide +kernel
theorem d_TX_textOf_38 : decode b_TX_textOf 38 = .ok (.iinc 4 9, 3) := by decide +kernel
theorem d_TX_textOf_41 : decode b_TX_textOf 41 = .ok (.goto (-25), 3) := by decide +kernel
theorem d_TX_textOf_44 : decode b_TX_textOf 44 = .ok (.iload_n 3, 1) := by decide +kernel
theorem d_TX_textOf_45 : decode b_TX_textOf 45 = .ok (.aload_n 1, 1) := by decide +kernel
theorem d_TX_textOf_46 : decode b_TX_textOf 46 = .ok (.arraylength, 1) := by decide +kernel
theorem d_TX_textOf_47 : decode b_TX_textOf 47 = .ok (.if_icmp .ne 11, 3) := by decide +kernel
theorem d_TX_textOf_50 : decode b_TX_textOf 50 = .ok (.bipush 48, 2) := by decide +kernel
theorem d_TX_textOf_52 : decode b_TX_textOf 52 = .ok (.aload_n 1, 1) := by decide +kernel
theorem d_TX_textOf_53 : decode b_TX_textOf 53 = .ok (.iload_n 3, 1) := by decide +kernel
theorem d_TX_textOf_54 : decode b_TX_textOf 54 = .ok (.invokestatic 44, 3) := by decide +kernel
theorem d_TX_textOf_57 : decode b_TX_textOf 57 = .ok (.istore_n 3, 1) := by decide +kernel
theorem d_TX_textOf_58 : decode b_TX_textOf 58 = .ok (.iload_n 2, 1) := by decide +kernel
theorem d_TX_textOf_59 : decode b_TX_textOf 59 = .ok (.ifCond .eq 11, 3) := by decide +kernel
theorem d_TX_textOf_62 : decode b_TX_textOf 62 = .ok (.bipush 45, 2) := by decide +kernel
theorem d_TX_textOf_64 : decode b_TX_textOf 64 = .ok (.aload_n 1, 1) := by decide +kernel
theorem d_TX_textOf_65 : decode b_TX_textOf 65 = .ok (.iload_n 3, 1) := by decide +kernel
theorem d_TX_textOf_66 : decode b_TX_textOf 66 = .ok (.invokestatic 44, 3) := by decide +kernel
theorem d_TX_textOf_69 : decode b_TX_textOf 69 = .ok (.istore_n 3, 1) := by decide +kernel
theorem d_TX_textOf_70 : decode b_TX_textOf 70 = .ok (.aload_n 1, 1) := by decide +kernel
theorem d_TX_textOf_71 : decode b_TX_textOf 71 = .ok (.arraylength, 1) := by decide +kernel
theorem d_TX_textOf_72 : decode b_TX_textOf 72 = .ok (.iload_n 3, 1) := by decide +kernel
theorem d_TX_textOf_73 : decode b_TX_textOf 73 = .ok (.isub, 1) := by decide +kernel
theorem d_TX_textOf_74 : decode b_TX_textOf 74 = .ok (.istore 4, 2) := by decide +kernel
theorem d_TX_textOf_76 : decode b_TX_textOf 76 = .ok (.aload_n 1, 1) := by decide +kernel
theorem d_TX_textOf_77 : decode b_TX_textOf 77 = .ok (.iload_n 3, 1) := by decide +kernel
theorem d_TX_textOf_78 : decode b_TX_textOf 78 = .ok (.aload_n 1, 1) := by decide +kernel
theorem d_TX_textOf_79 : decode b_TX_textOf 79 = .ok (.iconst 0, 1) := by decide +kernel
theorem d_TX_textOf_80 : decode b_TX_textOf 80 = .ok (.iload 4, 2) := by decide +kernel
theorem d_TX_textOf_82 : decode b_TX_textOf 82 = .ok (.invokestatic 48, 3) := by decide +kernel
theorem d_TX_textOf_85 : decode b_TX_textOf 85 = .ok (.iload 4, 2) := by decide +kernel
theorem d_TX_textOf_87 : decode b_TX_textOf 87 = .ok (.ireturn, 1) := by decide +kernel
abbrev rm_TX_isText : Room := { frames := 0, cells := 0, slots := 0, locals := 0 }
def bk_TX_isText_11  (K : Int32 → ah_H → Prop)  (h4 : ah_H) : Prop :=
  K (0 : Int32) h4
def bk_TX_isText_45  (K : Int32 → ah_H → Prop)  (h14 : ah_H) : Prop :=
  K (0 : Int32) h14
def lp_TX_isText_49 (xt_70 : ah_H → Prop) (xt_78 : ah_H → Prop) (K : Int32 → ah_H → Prop) : Nat → Nat → Int32 → Int32 → ah_H → Prop
  | 0, _, _, _, _ => False
  | n + 1, x22, x23, x24, h25 =>
    (x23 ≤ x24 → (xt_78 h25)) ∧ (¬ x23 ≤ x24 → (ah_T h25 x22 = 101 ∧ vp_in x24 (ah_N h25 x22) ∧ ((ah_bI h25 x22 x24.toNatClampNeg) < (48 : Int32) → (xt_70 h25)) ∧ (¬ (ah_bI h25 x22 x24.toNatClampNeg) < (48 : Int32) → (vp_in x24 (ah_N h25 x22) ∧ ((ah_bI h25 x22 x24.toNatClampNeg) ≤ (57 : Int32) → (∀ v32 : Int32, v32 = x24 + 1 → (lp_TX_isText_49 xt_70 xt_78 K n) x22 x23 v32 h25)) ∧ (¬ (ah_bI h25 x22 x24.toNatClampNeg) ≤ (57 : Int32) → (xt_70 h25))))))
def bk_TX_isText_70  (K : Int32 → ah_H → Prop)  (h34 : ah_H) : Prop :=
  K (0 : Int32) h34
def bk_TX_isText_47  (K : Int32 → ah_H → Prop) (x18 : Nat) (x19 : Int32) (x20 : Int32) (h21 : ah_H) : Prop :=
  ∃ k36, lp_TX_isText_49 (fun  h33 => bk_TX_isText_70 K h33) (fun  h35 => K (1 : Int32) h35) K k36 x18 x19 x20 h21
def bk_TX_isText_26  (K : Int32 → ah_H → Prop) (x9 : Nat) (x10 : Int32) (s11 : Int32) (h12 : ah_H) : Prop :=
  (x10 = s11 → (bk_TX_isText_45 K h12)) ∧ (¬ x10 = s11 → (ah_T h12 x9 = 101 ∧ vp_in s11 (ah_N h12 x9) ∧ (¬ (ah_bI h12 x9 s11.toNatClampNeg) = (48 : Int32) → (bk_TX_isText_47 K x9 x10 s11 h12)) ∧ ((ah_bI h12 x9 s11.toNatClampNeg) = (48 : Int32) → ((x10 ≤ (1 : Int32) → (bk_TX_isText_47 K x9 x10 s11 h12)) ∧ (¬ x10 ≤ (1 : Int32) → (bk_TX_isText_45 K h12))))))
def w_TX_isText (a1 : Nat) (a2 : Int32) (h0 : ah_H) (K : Int32 → ah_H → Prop) : Prop :=
  (a2 < (1 : Int32) → (bk_TX_isText_11 K h0)) ∧ (¬ a2 < (1 : Int32) → (ah_T h0 a1 = 101 ∧ (a2 ≤ (nI (ah_N h0 a1)) → (vp_in (0 : Int32) (ah_N h0 a1) ∧ (¬ (ah_bI h0 a1 (0 : Int32).toNatClampNeg) = (45 : Int32) → (bk_TX_isText_26 K a1 a2 (0 : Int32) h0)) ∧ ((ah_bI h0 a1 (0 : Int32).toNatClampNeg) = (45 : Int32) → (bk_TX_isText_26 K a1 a2 (1 : Int32) h0)))) ∧ (¬ a2 ≤ (nI (ah_N h0 a1)) → (bk_TX_isText_11 K h0))))
abbrev rm_TX_numberOf : Room := { frames := 2, cells := 0, slots := 0, locals := 42 }
def bk_TX_numberOf_90 (rc_45 : Nat → Nat → Int32 → Int32 → Int64 → Int32 → ah_H → Prop) (K : Int32 → ah_H → Prop) (x33 : Nat) (x34 : Nat) (x35 : Int32) (x36 : Int32) (x37 : Int64) (x38 : Int32) (h39 : ah_H) : Prop :=
  ∀ v40 : Int32, v40 = x38 + 1 → rc_45 x33 x34 x35 x36 x37 v40 h39
def lp_TX_numberOf_45 (xt_96 : Nat → Int32 → ah_H → Prop) (K : Int32 → ah_H → Prop) : Nat → Nat → Nat → Int32 → Int32 → Int64 → Int32 → ah_H → Prop
  | 0, _, _, _, _, _, _, _ => False
  | n + 1, x21, x22, x23, x24, x25, x26, h27 =>
    (x23 ≤ x26 → (xt_96 x21 x24 h27)) ∧ (¬ x23 ≤ x26 → (ah_T h27 x22 = 101 ∧ vp_in x26 (ah_N h27 x22) ∧ ∀ v31 : Int64, v31 = ((x25 * (10 : Int64)) + ((ah_bI h27 x22 x26.toNatClampNeg).toInt64)) - (48 : Int64) → (¬ (((x23 - (1 : Int32)) - x26) - ((x23 - (1 : Int32)) - x26) / (9 : Int32) * (9 : Int32)) = 0 → (bk_TX_numberOf_90 (lp_TX_numberOf_45 xt_96 K n) K x21 x22 x23 x24 v31 x26 h27)) ∧ ((((x23 - (1 : Int32)) - x26) - ((x23 - (1 : Int32)) - x26) / (9 : Int32) * (9 : Int32)) = 0 → (ah_T h27 x21 = 3 ∧ w_WH_appendChunk x21 v31 h27 (fun h42 => ah_m h27 h42 → bk_TX_numberOf_90 (lp_TX_numberOf_45 xt_96 K n) K x21 x22 x23 x24 (0 : Int64) x26 h42)))))
def bk_TX_numberOf_107  (K : Int32 → ah_H → Prop) (s50 : Int32) (s51 : Nat) (h52 : ah_H) : Prop :=
  ah_T h52 s51 = 3 ∧ w_WH_markSign s51 s50 h52 (fun h54 => ah_m h52 h54 → K (1 : Int32) h54)
def bk_TX_numberOf_23  (K : Int32 → ah_H → Prop) (x11 : Nat) (x12 : Nat) (x13 : Int32) (s14 : Int32) (h15 : ah_H) : Prop :=
  ((x13 - s14) ≤ (2467 : Int32) → (ah_T h15 x11 = 3 ∧ w_WH_clear x11 h15 (fun h18 => ah_m h15 h18 → ∃ k57, lp_TX_numberOf_45 (fun (x46 : Nat) (x47 : Int32) h48 => (¬ x47 = (1 : Int32) → (bk_TX_numberOf_107 K (0 : Int32) x46 h48)) ∧ (x47 = (1 : Int32) → (bk_TX_numberOf_107 K (1 : Int32) x46 h48))) K k57 x11 x12 x13 s14 (0 : Int64) s14 h18))) ∧ (¬ (x13 - s14) ≤ (2467 : Int32) → (K (0 : Int32) h15))
def w_TX_numberOf (a1 : Nat) (a2 : Nat) (a3 : Int32) (h0 : ah_H) (K : Int32 → ah_H → Prop) : Prop :=
  w_TX_isText a2 a3 h0 (fun r5 h4 => ah_m h0 h4 → (¬ r5 = 0 → (ah_T h4 a2 = 101 ∧ vp_in (0 : Int32) (ah_N h4 a2) ∧ (¬ (ah_bI h4 a2 (0 : Int32).toNatClampNeg) = (45 : Int32) → (bk_TX_numberOf_23 K a1 a2 a3 (0 : Int32) h4)) ∧ ((ah_bI h4 a2 (0 : Int32).toNatClampNeg) = (45 : Int32) → (bk_TX_numberOf_23 K a1 a2 a3 (1 : Int32) h4)))) ∧ (r5 = 0 → (K (0 : Int32) h4)))
abbrev rm_TX_layByte : Room := { frames := 0, cells := 0, slots := 0, locals := 0 }
def bk_TX_layByte_11  (K : Int32 → ah_H → Prop) (x5 : Int32) (h6 : ah_H) : Prop :=
  K x5 h6
def w_TX_layByte (a1 : Int32) (a2 : Nat) (a3 : Int32) (h0 : ah_H) (K : Int32 → ah_H → Prop) : Prop :=
  (a3 < (1 : Int32) → (bk_TX_layByte_11 K a3 h0)) ∧ (¬ a3 < (1 : Int32) → (ah_T h0 a2 = 101 ∧ (a3 ≤ (nI (ah_N h0 a2)) → (∀ v9 : Int32, v9 = a1.toInt8.toInt32 → vp_in (a3 - (1 : Int32)) (ah_N h0 a2) ∧ ∀ h11 : ah_H, h11 = ah_cI h0 a2 (upd (ah_bI h0 a2) (a3 - (1 : Int32)).toNatClampNeg (vp_nar .byte v9)) → K (a3 - (1 : Int32)) h11)) ∧ (¬ a3 ≤ (nI (ah_N h0 a2)) → (bk_TX_layByte_11 K a3 h0))))
abbrev rm_TX_layChunk : Room := { frames := 2, cells := 0, slots := 0, locals := 47 }
def bk_TX_layChunk_32 (rc_11 : Nat → Nat → Int32 → Int64 → Int32 → ah_H → Prop) (K : Int32 → ah_H → Prop) (x18 : Nat) (x19 : Nat) (x20 : Int32) (x21 : Int64) (x22 : Int32) (h23 : ah_H) : Prop :=
  w_TX_layByte (((48 : Int64) + (x21 - x21 / (10 : Int64) * (10 : Int64))).toInt32) x19 x20 h23 (fun r25 h24 => ah_m h23 h24 → ∀ v27 : Int64, v27 = x21 / (10 : Int64) → ∀ v28 : Int32, v28 = x22 + 1 → rc_11 x18 x19 r25 v27 v28 h24)
def lp_TX_layChunk_11 (xt_63 : Int32 → ah_H → Prop) (K : Int32 → ah_H → Prop) : Nat → Nat → Nat → Int32 → Int64 → Int32 → ah_H → Prop
  | 0, _, _, _, _, _, _ => False
  | n + 1, x9, x10, x11, x12, x13, h14 =>
    ((9 : Int32) ≤ x13 → (xt_63 x11 h14)) ∧ (¬ (9 : Int32) ≤ x13 → (ah_T h14 x9 = 3 ∧ (0 < (ah_I h14 0 x9) → (bk_TX_layChunk_32 (lp_TX_layChunk_11 xt_63 K n) K x9 x10 x11 x12 x13 h14)) ∧ (¬ 0 < (ah_I h14 0 x9) → ((x12 ≤ (0 : Int64) → (xt_63 x11 h14)) ∧ (¬ x12 ≤ (0 : Int64) → (bk_TX_layChunk_32 (lp_TX_layChunk_11 xt_63 K n) K x9 x10 x11 x12 x13 h14))))))
def bk_TX_layChunk_63  (K : Int32 → ah_H → Prop) (x32 : Int32) (h33 : ah_H) : Prop :=
  K x32 h33
def w_TX_layChunk (a1 : Nat) (a2 : Nat) (a3 : Int32) (h0 : ah_H) (K : Int32 → ah_H → Prop) : Prop :=
  ah_T h0 a1 = 3 ∧ w_WH_takeChunk a1 h0 (fun r6 h5 => ah_m h0 h5 → ∃ k34, lp_TX_layChunk_11 (fun (x30 : Int32) h31 => bk_TX_layChunk_63 K x30 h31) K k34 a1 a2 a3 r6 (0 : Int32) h5)
abbrev rm_TX_textOf : Room := { frames := 3, cells := 0, slots := 0, locals := 73 }
def lp_TX_textOf_16 (xt_44 : Nat → Int32 → Int32 → ah_H → Prop) (K : Int32 → ah_H → Prop) : Nat → Nat → Nat → Int32 → Int32 → Int32 → ah_H → Prop
  | 0, _, _, _, _, _, _ => False
  | n + 1, x10, x11, x12, x13, x14, h15 =>
    ((2467 : Int32) ≤ x14 → (xt_44 x11 x12 x13 h15)) ∧ (¬ (2467 : Int32) ≤ x14 → (ah_T h15 x10 = 3 ∧ ((ah_I h15 0 x10) ≤ 0 → (xt_44 x11 x12 x13 h15)) ∧ (¬ (ah_I h15 0 x10) ≤ 0 → (w_TX_layChunk x10 x11 x13 h15 (fun r20 h19 => ah_m h15 h19 → ∀ v23 : Int32, v23 = x14 + 9 → (lp_TX_textOf_16 xt_44 K n) x10 x11 x12 r20 v23 h19)))))
def bk_TX_textOf_70  (K : Int32 → ah_H → Prop) (x39 : Nat) (x40 : Int32) (h41 : ah_H) : Prop :=
  ah_T h41 x39 = 101 ∧ ∀ v43 : Int32, v43 = (nI (ah_N h41 x39)) - x40 → (¬ x40 < 0) ∧ (¬ (0 : Int32) < 0) ∧ (¬ v43 < 0) ∧ (x40.toNatClampNeg + v43.toNatClampNeg ≤ ah_N h41 x39) ∧ ((0 : Int32).toNatClampNeg + v43.toNatClampNeg ≤ ah_N h41 x39) ∧ (∀ i9, i9 < v43.toNatClampNeg → ah_by (ah_bI h41 x39 (x40.toNatClampNeg + i9))) ∧ ∀ h50 : ah_H, h50 = ah_cI h41 x39 (va_cpy (ah_bI h41 x39) (ah_bI h41 x39) x40.toNatClampNeg (0 : Int32).toNatClampNeg v43.toNatClampNeg) → K v43 h50
def bk_TX_textOf_58  (K : Int32 → ah_H → Prop) (x34 : Nat) (x35 : Int32) (x36 : Int32) (h37 : ah_H) : Prop :=
  (x35 = 0 → (bk_TX_textOf_70 K x34 x36 h37)) ∧ (¬ x35 = 0 → (w_TX_layByte (45 : Int32) x34 x36 h37 (fun r54 h53 => ah_m h37 h53 → bk_TX_textOf_70 K x34 r54 h53)))
def bk_TX_textOf_44  (K : Int32 → ah_H → Prop) (x28 : Nat) (x29 : Int32) (x30 : Int32) (h31 : ah_H) : Prop :=
  ah_T h31 x28 = 101 ∧ (¬ x30 = (nI (ah_N h31 x28)) → (bk_TX_textOf_58 K x28 x29 x30 h31)) ∧ (x30 = (nI (ah_N h31 x28)) → (w_TX_layByte (48 : Int32) x28 x30 h31 (fun r57 h56 => ah_m h31 h56 → bk_TX_textOf_58 K x28 x29 r57 h56)))
def w_TX_textOf (a1 : Nat) (a2 : Nat) (h0 : ah_H) (K : Int32 → ah_H → Prop) : Prop :=
  ah_T h0 a1 = 3 ∧ ∀ v4 : Int32, v4 = ah_I h0 1 a1 → w_WH_markSign a1 (0 : Int32) h0 (fun h5 => ah_m h0 h5 → ah_T h5 a2 = 101 ∧ ∀ v9 : Int32, v9 = nI (ah_N h5 a2) → ∃ k60, lp_TX_textOf_16 (fun (x24 : Nat) (x25 : Int32) (x26 : Int32) h27 => bk_TX_textOf_44 K x24 x25 x26 h27) K k60 a1 a2 v4 v9 (0 : Int32) h5)
set_option maxHeartbeats 4000000 in
set_option maxRecDepth 100000 in
theorem tb_TX_isText_11 {p : Program} {l : Launch} {e : Env} {s : State} {m : MethodId} {args : Array Value} {below : List Frame} {meth : Method} {c : Code} {G : zG} (C : cx_C p l s m args meth c G y_TX_isText b_TX_isText 4 (some .boolean) "BigDesk$Texts" (Cond.code y_TX_isText b_TX_isText 4 (some .boolean) :: zx_T) []) {K : Int32 → ah_H → Prop} {h0 : ah_H} {cells slots : Nat} (hcl : cells + 0 ≤ 0) (hsl : slots + 0 ≤ 0)   (h4 : ah_H) (H : Heap) (locs : List Loc) (ls : Array Slot) (w : bk_TX_isText_11 K h4) (hm : ah_m h0 h4) (hW : ah_W G s.heap h4 H locs) (hl : lv_has ls 4 []) : W p l e rm_TX_isText s m args below meth c H locs cells slots (MQ below (va_Qi (fun r9 h9 => K r9 h9 ∧ ah_m h0 h9) (ah_B G) (fun q => G.2.2 ≤ q)) args s 0 0 (fun q => G.2.2 ≤ q)) (F0 m 11 ls []) := by
  unfold bk_TX_isText_11 at w
  obtain ⟨hx, hb, hr, hml, hown, hts, hT, hlk, hK, hX, htb, hin, hst⟩ := id C
  have hw : ∀ {w9 : Cond}, w9 ∈ zx_T → w9.before _ s = true := fun h9 => hts _ (hT _ h9)
  refine lv_iconst (v := 0) hx hb d_TX_isText_11 (by decide) ?_
  exact hb_zret (K := fun r9 h9 => K r9 h9 ∧ ah_m h0 h9) hx hb hr hlk (by decide) hK hX hW ⟨w, hm⟩ (by omega) (by omega) d_TX_isText_12
set_option maxHeartbeats 4000000 in
set_option maxRecDepth 100000 in
theorem tb_TX_isText_45 {p : Program} {l : Launch} {e : Env} {s : State} {m : MethodId} {args : Array Value} {below : List Frame} {meth : Method} {c : Code} {G : zG} (C : cx_C p l s m args meth c G y_TX_isText b_TX_isText 4 (some .boolean) "BigDesk$Texts" (Cond.code y_TX_isText b_TX_isText 4 (some .boolean) :: zx_T) []) {K : Int32 → ah_H → Prop} {h0 : ah_H} {cells slots : Nat} (hcl : cells + 0 ≤ 0) (hsl : slots + 0 ≤ 0)   (h14 : ah_H) (H : Heap) (locs : List Loc) (ls : Array Slot) (w : bk_TX_isText_45 K h14) (hm : ah_m h0 h14) (hW : ah_W G s.heap h14 H locs) (hl : lv_has ls 4 []) : W p l e rm_TX_isText s m args below meth c H locs cells slots (MQ below (va_Qi (fun r9 h9 => K r9 h9 ∧ ah_m h0 h9) (ah_B G) (fun q => G.2.2 ≤ q)) args s 0 0 (fun q => G.2.2 ≤ q)) (F0 m 45 ls []) := by
  unfold bk_TX_isText_45 at w
  obtain ⟨hx, hb, hr, hml, hown, hts, hT, hlk, hK, hX, htb, hin, hst⟩ := id C
  have hw : ∀ {w9 : Cond}, w9 ∈ zx_T → w9.before _ s = true := fun h9 => hts _ (hT _ h9)
  refine lv_iconst (v := 0) hx hb d_TX_isText_45 (by decide) ?_
  exact hb_zret (K := fun r9 h9 => K r9 h9 ∧ ah_m h0 h9) hx hb hr hlk (by decide) hK hX hW ⟨w, hm⟩ (by omega) (by omega) d_TX_isText_46
set_option maxHeartbeats 4000000 in
set_option maxRecDepth 100000 in
theorem tl_TX_isText_49 {p : Program} {l : Launch} {e : Env} {s : State} {m : MethodId} {args : Array Value} {below : List Frame} {meth : Method} {c : Code} {G : zG} (C : cx_C p l s m args meth c G y_TX_isText b_TX_isText 4 (some .boolean) "BigDesk$Texts" (Cond.code y_TX_isText b_TX_isText 4 (some .boolean) :: zx_T) []) {K : Int32 → ah_H → Prop} {h0 : ah_H} {cells slots : Nat} (hcl : cells + 0 ≤ 0) (hsl : slots + 0 ≤ 0) {xt_70 : ah_H → Prop} {xt_78 : ah_H → Prop} (hc_xt_70 : ∀ (hz : ah_H) (H : Heap) (locs : List Loc) (ls : Array Slot), xt_70 hz → ah_m h0 hz → ah_W G s.heap hz H locs → lv_has ls 4 [] → W p l e rm_TX_isText s m args below meth c H locs cells slots (MQ below (va_Qi (fun r9 h9 => K r9 h9 ∧ ah_m h0 h9) (ah_B G) (fun q => G.2.2 ≤ q)) args s 0 0 (fun q => G.2.2 ≤ q)) (F0 m 70 ls [])) (hc_xt_78 : ∀ (hz : ah_H) (H : Heap) (locs : List Loc) (ls : Array Slot), xt_78 hz → ah_m h0 hz → ah_W G s.heap hz H locs → lv_has ls 4 [] → W p l e rm_TX_isText s m args below meth c H locs cells slots (MQ below (va_Qi (fun r9 h9 => K r9 h9 ∧ ah_m h0 h9) (ah_B G) (fun q => G.2.2 ≤ q)) args s 0 0 (fun q => G.2.2 ≤ q)) (F0 m 78 ls [])) : ∀ (n : Nat) (x22 : Nat) (x23 : Int32) (x24 : Int32) (h25 : ah_H) (H : Heap) (locs : List Loc) (ls : Array Slot), lp_TX_isText_49 xt_70 xt_78 K n x22 x23 x24 h25 → ah_m h0 h25 → ah_W G s.heap h25 H locs → lv_has ls 4 [(0, .ref x22), (1, .int x23), (3, .int x24)] → W p l e rm_TX_isText s m args below meth c H locs cells slots (MQ below (va_Qi (fun r9 h9 => K r9 h9 ∧ ah_m h0 h9) (ah_B G) (fun q => G.2.2 ≤ q)) args s 0 0 (fun q => G.2.2 ≤ q)) (F0 m 49 ls []) := by
  obtain ⟨hx, hb, hr, hml, hown, hts, hT, hlk, hK, hX, htb, hin, hst⟩ := id C
  have hw : ∀ {w9 : Cond}, w9 ∈ zx_T → w9.before _ s = true := fun h9 => hts _ (hT _ h9)
  intro n
  induction n with
  | zero =>
    intro x22 x23 x24 h25 H locs ls w
    exact absurd w (by intro z9; exact z9)
  | succ n ih =>
    intro x22 x23 x24 h25 H locs ls w hm hW hl
    unfold lp_TX_isText_49 at w
    refine lv_iload_n hx hb d_TX_isText_49 rfl (lv_at hl 2 rfl) ?_
    refine lv_iload_n hx hb d_TX_isText_50 rfl (lv_at hl 1 rfl) ?_
    refine lv_icmp_ge (tgt := 78) hx hb d_TX_isText_51 (by decide) (fun c26 => ?_) (fun c26 => ?_)
    · have w := w.1 c26
      exact hc_xt_78  h25 _ _ _ w hm hW (lv_sub hl [] rfl)
    · have w := w.2 c26
      refine lv_aload_n hx hb d_TX_isText_54 rfl (lv_at hl 0 rfl) ?_
      refine lv_iload_n hx hb d_TX_isText_55 rfl (lv_at hl 2 rfl) ?_
      obtain ⟨t27, w⟩ := w
      obtain ⟨i28, w⟩ := w
      refine hb_bald hx hb hK hW t27 (by decide) (by decide) 1 rfl i28 d_TX_isText_56 ?_
      refine lv_bipush (v := 48) hx hb d_TX_isText_57 (by decide) ?_
      refine lv_icmp_lt (tgt := 70) hx hb d_TX_isText_59 (by decide) (fun c29 => ?_) (fun c29 => ?_)
      · have w := w.1 c29
        exact hc_xt_70  h25 _ _ _ w hm hW (lv_sub hl [] rfl)
      · have w := w.2 c29
        refine lv_aload_n hx hb d_TX_isText_62 rfl (lv_at hl 0 rfl) ?_
        refine lv_iload_n hx hb d_TX_isText_63 rfl (lv_at hl 2 rfl) ?_
        obtain ⟨i30, w⟩ := w
        refine hb_bald hx hb hK hW t27 (by decide) (by decide) 1 rfl i30 d_TX_isText_64 ?_
        refine lv_bipush (v := 57) hx hb d_TX_isText_65 (by decide) ?_
        refine lv_icmp_le (tgt := 72) hx hb d_TX_isText_67 (by decide) (fun c31 => ?_) (fun c31 => ?_)
        · have w := w.1 c31
          obtain ⟨v32, ev32⟩ : ∃ y9 : Int32, y9 = x24 + 1 := ⟨_, rfl⟩
          have w := w v32 ev32
          refine lv_iinc (v := v32) (lv' := [(3, .int v32), (0, .ref x22), (1, .int x23)]) hx hb d_TX_isText_72 hl (k := 2) rfl (by rw [ev32]; rfl) (by decide) rfl (fun ls hl => ?_)
          refine lv_goto (tgt := 49) hx hb d_TX_isText_75 (by decide) ?_
          exact ih x22 x23 v32 h25 _ _ _ w hm hW (lv_sub hl [1, 2, 0] rfl)
        · have w := w.2 c31
          exact hc_xt_70  h25 _ _ _ w hm hW (lv_sub hl [] rfl)
set_option maxHeartbeats 4000000 in
set_option maxRecDepth 100000 in
theorem tb_TX_isText_70 {p : Program} {l : Launch} {e : Env} {s : State} {m : MethodId} {args : Array Value} {below : List Frame} {meth : Method} {c : Code} {G : zG} (C : cx_C p l s m args meth c G y_TX_isText b_TX_isText 4 (some .boolean) "BigDesk$Texts" (Cond.code y_TX_isText b_TX_isText 4 (some .boolean) :: zx_T) []) {K : Int32 → ah_H → Prop} {h0 : ah_H} {cells slots : Nat} (hcl : cells + 0 ≤ 0) (hsl : slots + 0 ≤ 0)   (h34 : ah_H) (H : Heap) (locs : List Loc) (ls : Array Slot) (w : bk_TX_isText_70 K h34) (hm : ah_m h0 h34) (hW : ah_W G s.heap h34 H locs) (hl : lv_has ls 4 []) : W p l e rm_TX_isText s m args below meth c H locs cells slots (MQ below (va_Qi (fun r9 h9 => K r9 h9 ∧ ah_m h0 h9) (ah_B G) (fun q => G.2.2 ≤ q)) args s 0 0 (fun q => G.2.2 ≤ q)) (F0 m 70 ls []) := by
  unfold bk_TX_isText_70 at w
  obtain ⟨hx, hb, hr, hml, hown, hts, hT, hlk, hK, hX, htb, hin, hst⟩ := id C
  have hw : ∀ {w9 : Cond}, w9 ∈ zx_T → w9.before _ s = true := fun h9 => hts _ (hT _ h9)
  refine lv_iconst (v := 0) hx hb d_TX_isText_70 (by decide) ?_
  exact hb_zret (K := fun r9 h9 => K r9 h9 ∧ ah_m h0 h9) hx hb hr hlk (by decide) hK hX hW ⟨w, hm⟩ (by omega) (by omega) d_TX_isText_71
set_option maxHeartbeats 4000000 in
set_option maxRecDepth 100000 in
theorem tb_TX_isText_47 {p : Program} {l : Launch} {e : Env} {s : State} {m : MethodId} {args : Array Value} {below : List Frame} {meth : Method} {c : Code} {G : zG} (C : cx_C p l s m args meth c G y_TX_isText b_TX_isText 4 (some .boolean) "BigDesk$Texts" (Cond.code y_TX_isText b_TX_isText 4 (some .boolean) :: zx_T) []) {K : Int32 → ah_H → Prop} {h0 : ah_H} {cells slots : Nat} (hcl : cells + 0 ≤ 0) (hsl : slots + 0 ≤ 0)  (x18 : Nat) (x19 : Int32) (x20 : Int32) (h21 : ah_H) (H : Heap) (locs : List Loc) (ls : Array Slot) (w : bk_TX_isText_47 K x18 x19 x20 h21) (hm : ah_m h0 h21) (hW : ah_W G s.heap h21 H locs) (hl : lv_has ls 4 [(0, .ref x18), (1, .int x19), (2, .int x20)]) : W p l e rm_TX_isText s m args below meth c H locs cells slots (MQ below (va_Qi (fun r9 h9 => K r9 h9 ∧ ah_m h0 h9) (ah_B G) (fun q => G.2.2 ≤ q)) args s 0 0 (fun q => G.2.2 ≤ q)) (F0 m 47 ls []) := by
  unfold bk_TX_isText_47 at w
  obtain ⟨hx, hb, hr, hml, hown, hts, hT, hlk, hK, hX, htb, hin, hst⟩ := id C
  have hw : ∀ {w9 : Cond}, w9 ∈ zx_T → w9.before _ s = true := fun h9 => hts _ (hT _ h9)
  refine lv_iload_n hx hb d_TX_isText_47 rfl (lv_at hl 2 rfl) ?_
  refine lv_istore_n (lv' := [(3, .int x20), (0, .ref x18), (1, .int x19), (2, .int x20)]) hx hb d_TX_isText_48 rfl hl (by decide) rfl (fun ls hl => ?_)
  obtain ⟨k36, w⟩ := w
  refine tl_TX_isText_49 C (by omega) (by omega) (fun  h33 H locs ls w hm hW hl => ?_) (fun  h35 H locs ls w hm hW hl => ?_) k36 x18 x19 x20 h21 _ _ _ w hm hW (lv_sub hl [1, 2, 0] rfl)
  · exact tb_TX_isText_70 C (by omega) (by omega)   h33 _ _ _ w hm hW (lv_sub hl [] rfl)
  · refine lv_iconst (v := 1) hx hb d_TX_isText_78 (by decide) ?_
    exact hb_zret (K := fun r9 h9 => K r9 h9 ∧ ah_m h0 h9) hx hb hr hlk (by decide) hK hX hW ⟨w, hm⟩ (by omega) (by omega) d_TX_isText_79
set_option maxHeartbeats 4000000 in
set_option maxRecDepth 100000 in
theorem tb_TX_isText_26 {p : Program} {l : Launch} {e : Env} {s : State} {m : MethodId} {args : Array Value} {below : List Frame} {meth : Method} {c : Code} {G : zG} (C : cx_C p l s m args meth c G y_TX_isText b_TX_isText 4 (some .boolean) "BigDesk$Texts" (Cond.code y_TX_isText b_TX_isText 4 (some .boolean) :: zx_T) []) {K : Int32 → ah_H → Prop} {h0 : ah_H} {cells slots : Nat} (hcl : cells + 0 ≤ 0) (hsl : slots + 0 ≤ 0)  (x9 : Nat) (x10 : Int32) (s11 : Int32) (h12 : ah_H) (H : Heap) (locs : List Loc) (ls : Array Slot) (w : bk_TX_isText_26 K x9 x10 s11 h12) (hm : ah_m h0 h12) (hW : ah_W G s.heap h12 H locs) (hl : lv_has ls 4 [(0, .ref x9), (1, .int x10)]) : W p l e rm_TX_isText s m args below meth c H locs cells slots (MQ below (va_Qi (fun r9 h9 => K r9 h9 ∧ ah_m h0 h9) (ah_B G) (fun q => G.2.2 ≤ q)) args s 0 0 (fun q => G.2.2 ≤ q)) (F0 m 26 ls [.int s11]) := by
  unfold bk_TX_isText_26 at w
  obtain ⟨hx, hb, hr, hml, hown, hts, hT, hlk, hK, hX, htb, hin, hst⟩ := id C
  have hw : ∀ {w9 : Cond}, w9 ∈ zx_T → w9.before _ s = true := fun h9 => hts _ (hT _ h9)
  refine lv_istore_n (lv' := [(2, .int s11), (0, .ref x9), (1, .int x10)]) hx hb d_TX_isText_26 rfl hl (by decide) rfl (fun ls hl => ?_)
  refine lv_iload_n hx hb d_TX_isText_27 rfl (lv_at hl 2 rfl) ?_
  refine lv_iload_n hx hb d_TX_isText_28 rfl (lv_at hl 0 rfl) ?_
  refine lv_icmp_eq (tgt := 45) hx hb d_TX_isText_29 (by decide) (fun c13 => ?_) (fun c13 => ?_)
  · have w := w.1 c13
    exact tb_TX_isText_45 C (by omega) (by omega)   h12 _ _ _ w hm hW (lv_sub hl [] rfl)
  · have w := w.2 c13
    refine lv_aload_n hx hb d_TX_isText_32 rfl (lv_at hl 1 rfl) ?_
    refine lv_iload_n hx hb d_TX_isText_33 rfl (lv_at hl 0 rfl) ?_
    obtain ⟨t15, w⟩ := w
    obtain ⟨i16, w⟩ := w
    refine hb_bald hx hb hK hW t15 (by decide) (by decide) 1 rfl i16 d_TX_isText_34 ?_
    refine lv_bipush (v := 48) hx hb d_TX_isText_35 (by decide) ?_
    refine lv_icmp_ne (tgt := 47) hx hb d_TX_isText_37 (by decide) (fun c17 => ?_) (fun c17 => ?_)
    · have w := w.1 c17
      exact tb_TX_isText_47 C (by omega) (by omega)  x9 x10 s11 h12 _ _ _ w hm hW (lv_sub hl [1, 2, 0] rfl)
    · have w := w.2 c17
      refine lv_iload_n hx hb d_TX_isText_40 rfl (lv_at hl 2 rfl) ?_
      refine lv_iconst (v := 1) hx hb d_TX_isText_41 (by decide) ?_
      refine lv_icmp_le (tgt := 47) hx hb d_TX_isText_42 (by decide) (fun c37 => ?_) (fun c37 => ?_)
      · have w := w.1 c37
        exact tb_TX_isText_47 C (by omega) (by omega)  x9 x10 s11 h12 _ _ _ w hm hW (lv_sub hl [1, 2, 0] rfl)
      · have w := w.2 c37
        exact tb_TX_isText_45 C (by omega) (by omega)   h12 _ _ _ w hm hW (lv_sub hl [] rfl)
set_option maxHeartbeats 4000000 in
set_option maxRecDepth 100000 in
theorem m_TX_isText {l : Launch} (G : zG) (a1 : Nat) (a2 : Int32) (h0 : ah_H) {K : Int32 → ah_H → Prop} (hst : l.stackTraces = false) (w : w_TX_isText a1 a2 h0 K) : Met l y_TX_isText (Cond.code y_TX_isText b_TX_isText 4 (some .boolean) :: zx_T) rm_TX_isText (va_Pc [.ref a1, .int a2] (ah_B G h0)) (va_Qi (fun r9 h9 => K r9 h9 ∧ ah_m h0 h9) (ah_B G) (fun q => G.2.2 ≤ q)) 0 0 (fun q => G.2.2 ≤ q) := by
  refine Met.ofW (cc := b_TX_isText) (maxL := 4) (ret := (some .boolean)) (by decide) rfl ?_
  intro p e s m args below meth c s₁ B hml hv
  have htb := cx_out B (atoms_spec B.pre _ List.mem_cons_self)
  obtain ⟨rfl, hB⟩ := hv
  have C : cx_C p l s m _ meth c G y_TX_isText b_TX_isText 4 (some .boolean) "BigDesk$Texts" (Cond.code y_TX_isText b_TX_isText 4 (some .boolean) :: zx_T) [] := ⟨B.exec, B.bytes, B.returns, hml, findClass_of_methodNamed B.named, atoms_spec B.pre, cx_hd, B.notSynchronized, hB.2.2.1, hB.2.2.2, htb, fun z9 => (name_of_methodNamed B.named B.method).1.trans z9, hst⟩
  obtain ⟨hx, hb, hr, hml, hown, hts, hT, hlk, hK, hX, htb, hin, hst⟩ := id C
  have hw : ∀ {w9 : Cond}, w9 ∈ zx_T → w9.before _ s = true := fun h9 => hts _ (hT _ h9)
  have hW : ah_W G s.heap h0 s.heap [] := ⟨hB.1, hB.2.1, va_S.rf⟩
  have hm : ah_m h0 h0 := ah_m.rf
  have hcl : 0 + 0 ≤ 0 := by decide
  have hsl : 0 + 0 ≤ 0 := by decide
  have hl := lv_entry ([.ref a1, .int a2]) (n := 4) (Nat.le_of_ble_eq_true rfl)
  rw [lg_entry_eq]
  generalize (lg_sl ([.ref a1, .int a2]) ++ List.replicate (4 - (lg_sl ([.ref a1, .int a2])).length) Slot.unset).toArray = ls at hl ⊢
  have hl : lv_has ls 4 [(0, .ref a1), (1, .int a2)] := hl
  unfold w_TX_isText at w
  refine lv_iload_n hx hb d_TX_isText_0 rfl (lv_at hl 1 rfl) ?_
  refine lv_iconst (v := 1) hx hb d_TX_isText_1 (by decide) ?_
  refine lv_icmp_lt (tgt := 11) hx hb d_TX_isText_2 (by decide) (fun c3 => ?_) (fun c3 => ?_)
  · have w := w.1 c3
    exact tb_TX_isText_11 C (by omega) (by omega)   h0 _ _ _ w hm hW (lv_sub hl [] rfl)
  · have w := w.2 c3
    refine lv_iload_n hx hb d_TX_isText_5 rfl (lv_at hl 1 rfl) ?_
    refine lv_aload_n hx hb d_TX_isText_6 rfl (lv_at hl 0 rfl) ?_
    obtain ⟨t5, w⟩ := w
    refine hb_alenI hx hb hK hW t5 (by decide) 1 rfl d_TX_isText_7 ?_
    refine lv_icmp_le (tgt := 13) hx hb d_TX_isText_8 (by decide) (fun c6 => ?_) (fun c6 => ?_)
    · have w := w.1 c6
      refine lv_aload_n hx hb d_TX_isText_13 rfl (lv_at hl 0 rfl) ?_
      refine lv_iconst (v := 0) hx hb d_TX_isText_14 (by decide) ?_
      obtain ⟨i7, w⟩ := w
      refine hb_bald hx hb hK hW t5 (by decide) (by decide) 1 rfl i7 d_TX_isText_15 ?_
      refine lv_bipush (v := 45) hx hb d_TX_isText_16 (by decide) ?_
      refine lv_icmp_ne (tgt := 25) hx hb d_TX_isText_18 (by decide) (fun c8 => ?_) (fun c8 => ?_)
      · have w := w.1 c8
        refine lv_iconst (v := 0) hx hb d_TX_isText_25 (by decide) ?_
        exact tb_TX_isText_26 C (by omega) (by omega)  a1 a2 (0 : Int32) h0 _ _ _ w hm hW (lv_sub hl [0, 1] rfl)
      · have w := w.2 c8
        refine lv_iconst (v := 1) hx hb d_TX_isText_21 (by decide) ?_
        refine lv_goto (tgt := 26) hx hb d_TX_isText_22 (by decide) ?_
        exact tb_TX_isText_26 C (by omega) (by omega)  a1 a2 (1 : Int32) h0 _ _ _ w hm hW (lv_sub hl [0, 1] rfl)
    · have w := w.2 c6
      exact tb_TX_isText_11 C (by omega) (by omega)   h0 _ _ _ w hm hW (lv_sub hl [] rfl)
set_option maxHeartbeats 4000000 in
set_option maxRecDepth 100000 in
theorem tb_TX_numberOf_90 {p : Program} {l : Launch} {e : Env} {s : State} {m : MethodId} {args : Array Value} {below : List Frame} {meth : Method} {c : Code} {G : zG} (C : cx_C p l s m args meth c G y_TX_numberOf b_TX_numberOf 7 (some .boolean) "BigDesk$Texts" (Cond.code y_TX_numberOf b_TX_numberOf 7 (some .boolean) :: zx_T) []) {K : Int32 → ah_H → Prop} {h0 : ah_H} {cells slots : Nat} (hcl : cells + 0 ≤ 0) (hsl : slots + 0 ≤ 0) {rc_45 : Nat → Nat → Int32 → Int32 → Int64 → Int32 → ah_H → Prop} (hc_rc_45 : ∀ (z0 : Nat) (z1 : Nat) (z2 : Int32) (z3 : Int32) (z4 : Int64) (z5 : Int32) (hz : ah_H) (H : Heap) (locs : List Loc) (ls : Array Slot), rc_45 z0 z1 z2 z3 z4 z5 hz → ah_m h0 hz → ah_W G s.heap hz H locs → lv_has ls 7 [(0, .ref z0), (1, .ref z1), (2, .int z2), (3, .int z3), (4, .long z4), (6, .int z5)] → W p l e rm_TX_numberOf s m args below meth c H locs cells slots (MQ below (va_Qi (fun r9 h9 => K r9 h9 ∧ ah_m h0 h9) (ah_B G) (fun q => G.2.2 ≤ q)) args s 0 0 (fun q => G.2.2 ≤ q)) (F0 m 45 ls [])) (x33 : Nat) (x34 : Nat) (x35 : Int32) (x36 : Int32) (x37 : Int64) (x38 : Int32) (h39 : ah_H) (H : Heap) (locs : List Loc) (ls : Array Slot) (w : bk_TX_numberOf_90 rc_45 K x33 x34 x35 x36 x37 x38 h39) (hm : ah_m h0 h39) (hW : ah_W G s.heap h39 H locs) (hl : lv_has ls 7 [(0, .ref x33), (1, .ref x34), (2, .int x35), (3, .int x36), (4, .long x37), (6, .int x38)]) : W p l e rm_TX_numberOf s m args below meth c H locs cells slots (MQ below (va_Qi (fun r9 h9 => K r9 h9 ∧ ah_m h0 h9) (ah_B G) (fun q => G.2.2 ≤ q)) args s 0 0 (fun q => G.2.2 ≤ q)) (F0 m 90 ls []) := by
  unfold bk_TX_numberOf_90 at w
  obtain ⟨hx, hb, hr, hml, hown, hts, hT, hlk, hK, hX, htb, hin, hst⟩ := id C
  have hw : ∀ {w9 : Cond}, w9 ∈ zx_T → w9.before _ s = true := fun h9 => hts _ (hT _ h9)
  obtain ⟨v40, ev40⟩ : ∃ y9 : Int32, y9 = x38 + 1 := ⟨_, rfl⟩
  have w := w v40 ev40
  refine lv_iinc (v := v40) (lv' := [(6, .int v40), (0, .ref x33), (1, .ref x34), (2, .int x35), (3, .int x36), (4, .long x37)]) hx hb d_TX_numberOf_90 hl (k := 5) rfl (by rw [ev40]; rfl) (by decide) rfl (fun ls hl => ?_)
  refine lv_goto (tgt := 45) hx hb d_TX_numberOf_93 (by decide) ?_
  exact hc_rc_45 x33 x34 x35 x36 x37 v40 h39 _ _ _ w hm hW (lv_sub hl [1, 2, 3, 4, 5, 0] rfl)
set_option maxHeartbeats 4000000 in
set_option maxRecDepth 100000 in
theorem tl_TX_numberOf_45 {p : Program} {l : Launch} {e : Env} {s : State} {m : MethodId} {args : Array Value} {below : List Frame} {meth : Method} {c : Code} {G : zG} (C : cx_C p l s m args meth c G y_TX_numberOf b_TX_numberOf 7 (some .boolean) "BigDesk$Texts" (Cond.code y_TX_numberOf b_TX_numberOf 7 (some .boolean) :: zx_T) []) {K : Int32 → ah_H → Prop} {h0 : ah_H} {cells slots : Nat} (hcl : cells + 0 ≤ 0) (hsl : slots + 0 ≤ 0) {xt_96 : Nat → Int32 → ah_H → Prop} (hc_xt_96 : ∀ (z0 : Nat) (z1 : Int32) (hz : ah_H) (H : Heap) (locs : List Loc) (ls : Array Slot), xt_96 z0 z1 hz → ah_m h0 hz → ah_W G s.heap hz H locs → lv_has ls 7 [(0, .ref z0), (3, .int z1)] → W p l e rm_TX_numberOf s m args below meth c H locs cells slots (MQ below (va_Qi (fun r9 h9 => K r9 h9 ∧ ah_m h0 h9) (ah_B G) (fun q => G.2.2 ≤ q)) args s 0 0 (fun q => G.2.2 ≤ q)) (F0 m 96 ls [])) : ∀ (n : Nat) (x21 : Nat) (x22 : Nat) (x23 : Int32) (x24 : Int32) (x25 : Int64) (x26 : Int32) (h27 : ah_H) (H : Heap) (locs : List Loc) (ls : Array Slot), lp_TX_numberOf_45 xt_96 K n x21 x22 x23 x24 x25 x26 h27 → ah_m h0 h27 → ah_W G s.heap h27 H locs → lv_has ls 7 [(0, .ref x21), (1, .ref x22), (2, .int x23), (3, .int x24), (4, .long x25), (6, .int x26)] → W p l e rm_TX_numberOf s m args below meth c H locs cells slots (MQ below (va_Qi (fun r9 h9 => K r9 h9 ∧ ah_m h0 h9) (ah_B G) (fun q => G.2.2 ≤ q)) args s 0 0 (fun q => G.2.2 ≤ q)) (F0 m 45 ls []) := by
  obtain ⟨hx, hb, hr, hml, hown, hts, hT, hlk, hK, hX, htb, hin, hst⟩ := id C
  have hw : ∀ {w9 : Cond}, w9 ∈ zx_T → w9.before _ s = true := fun h9 => hts _ (hT _ h9)
  intro n
  induction n with
  | zero =>
    intro x21 x22 x23 x24 x25 x26 h27 H locs ls w
    exact absurd w (by intro z9; exact z9)
  | succ n ih =>
    intro x21 x22 x23 x24 x25 x26 h27 H locs ls w hm hW hl
    unfold lp_TX_numberOf_45 at w
    refine lv_iload hx hb d_TX_numberOf_45 (lv_at hl 5 rfl) ?_
    refine lv_iload_n hx hb d_TX_numberOf_47 rfl (lv_at hl 2 rfl) ?_
    refine lv_icmp_ge (tgt := 96) hx hb d_TX_numberOf_48 (by decide) (fun c28 => ?_) (fun c28 => ?_)
    · have w := w.1 c28
      exact hc_xt_96 x21 x24 h27 _ _ _ w hm hW (lv_sub hl [0, 3] rfl)
    · have w := w.2 c28
      refine lv_lload hx hb d_TX_numberOf_51 (lv_at hl 4 rfl) ?_
      refine lv_ldc2 (v := 10) hx hb hown (hw wd_565) d_TX_numberOf_53 ?_
      refine lv_lmul hx hb d_TX_numberOf_56 ?_
      refine lv_aload_n hx hb d_TX_numberOf_57 rfl (lv_at hl 1 rfl) ?_
      refine lv_iload hx hb d_TX_numberOf_58 (lv_at hl 5 rfl) ?_
      obtain ⟨t29, w⟩ := w
      obtain ⟨i30, w⟩ := w
      refine hb_bald hx hb hK hW t29 (by decide) (by decide) 1 rfl i30 d_TX_numberOf_60 ?_
      refine lv_i2l hx hb d_TX_numberOf_61 rfl ?_
      refine lv_ladd hx hb d_TX_numberOf_62 ?_
      refine lv_ldc2 (v := 48) hx hb hown (hw wd_566) d_TX_numberOf_63 ?_
      refine lv_lsub hx hb d_TX_numberOf_66 ?_
      refine lv_topl (fun v31 ev31 => ?_)
      have w := w v31 ev31
      refine lv_lstore (lv' := [(4, .long v31), (0, .ref x21), (1, .ref x22), (2, .int x23), (3, .int x24), (6, .int x26)]) hx hb d_TX_numberOf_67 hl (by decide) rfl (fun ls hl => ?_)
      refine lv_iload_n hx hb d_TX_numberOf_69 rfl (lv_at hl 3 rfl) ?_
      refine lv_iconst (v := 1) hx hb d_TX_numberOf_70 (by decide) ?_
      refine lv_isub hx hb d_TX_numberOf_71 ?_
      refine lv_iload hx hb d_TX_numberOf_72 (lv_at hl 5 rfl) ?_
      refine lv_isub hx hb d_TX_numberOf_74 ?_
      refine lv_bipush (v := 9) hx hb d_TX_numberOf_75 (by decide) ?_
      refine lv_irem hx hb d_TX_numberOf_77 (by decide) ?_
      refine lv_if_ne (tgt := 90) hx hb d_TX_numberOf_78 (by decide) (fun c32 => ?_) (fun c32 => ?_)
      · have w := w.1 c32
        exact tb_TX_numberOf_90 C (by omega) (by omega) ih x21 x22 x23 x24 v31 x26 h27 _ _ _ w hm hW (lv_sub hl [1, 2, 3, 4, 0, 5] rfl)
      · have w := w.2 c32
        refine lv_aload_n hx hb d_TX_numberOf_81 rfl (lv_at hl 1 rfl) ?_
        refine lv_lload hx hb d_TX_numberOf_82 (lv_at hl 0 rfl) ?_
        obtain ⟨t41, w⟩ := w
        refine hb_callv (va_runV (As := [.long v31]) (rest := []) ⟨hx, hb, hml, hown, hts⟩ (m_WH_appendChunk G x21 v31 h27 hst w) (cwV 1 hts (zx_gV hT wd_567 wd_568 wd_569 wd_2 wd_570) rfl rfl rfl (by decide +kernel) ⟨Nat.le_of_ble_eq_true rfl, Nat.le_of_ble_eq_true rfl⟩) (hb_preV hK hX hW t41 (by decide) rfl) rfl rfl hl.1 rfl (lv_room (Nat.le_of_ble_eq_true rfl)) d_TX_numberOf_84 ⟨(by show _ ≤ 0; omega), (by show _ ≤ 0; omega)⟩) hW (fun h42 H locs hk hW => ?_)
        obtain ⟨w, mm43⟩ := hk
        have w := w mm43
        have hm := hm.tr mm43
        have t44 := mm43.tg t29 (by decide)
        have t45 := mm43.tg t41 (by decide)
        refine lv_lconst (v := 0) hx hb d_TX_numberOf_87 (by decide) ?_
        refine lv_lstore (lv' := [(4, .long (0 : Int64)), (0, .ref x21), (1, .ref x22), (2, .int x23), (3, .int x24), (6, .int x26)]) hx hb d_TX_numberOf_88 hl (by decide) rfl (fun ls hl => ?_)
        exact tb_TX_numberOf_90 C (by omega) (by omega) ih x21 x22 x23 x24 (0 : Int64) x26 h42 _ _ _ w hm hW (lv_sub hl [1, 2, 3, 4, 0, 5] rfl)
set_option maxHeartbeats 4000000 in
set_option maxRecDepth 100000 in
theorem tb_TX_numberOf_107 {p : Program} {l : Launch} {e : Env} {s : State} {m : MethodId} {args : Array Value} {below : List Frame} {meth : Method} {c : Code} {G : zG} (C : cx_C p l s m args meth c G y_TX_numberOf b_TX_numberOf 7 (some .boolean) "BigDesk$Texts" (Cond.code y_TX_numberOf b_TX_numberOf 7 (some .boolean) :: zx_T) []) {K : Int32 → ah_H → Prop} {h0 : ah_H} {cells slots : Nat} (hcl : cells + 0 ≤ 0) (hsl : slots + 0 ≤ 0)  (s50 : Int32) (s51 : Nat) (h52 : ah_H) (H : Heap) (locs : List Loc) (ls : Array Slot) (w : bk_TX_numberOf_107 K s50 s51 h52) (hm : ah_m h0 h52) (hW : ah_W G s.heap h52 H locs) (hl : lv_has ls 7 []) : W p l e rm_TX_numberOf s m args below meth c H locs cells slots (MQ below (va_Qi (fun r9 h9 => K r9 h9 ∧ ah_m h0 h9) (ah_B G) (fun q => G.2.2 ≤ q)) args s 0 0 (fun q => G.2.2 ≤ q)) (F0 m 107 ls [.int s50, .ref s51]) := by
  unfold bk_TX_numberOf_107 at w
  obtain ⟨hx, hb, hr, hml, hown, hts, hT, hlk, hK, hX, htb, hin, hst⟩ := id C
  have hw : ∀ {w9 : Cond}, w9 ∈ zx_T → w9.before _ s = true := fun h9 => hts _ (hT _ h9)
  obtain ⟨t53, w⟩ := w
  refine hb_callv (va_runV (As := [.int s50]) (rest := []) ⟨hx, hb, hml, hown, hts⟩ (m_WH_markSign G s51 s50 h52 hst w) (cwV 1 hts (zx_gV hT wd_572 wd_223 wd_224 wd_2 wd_225) rfl rfl rfl (by decide +kernel) ⟨Nat.le_of_ble_eq_true rfl, Nat.le_of_ble_eq_true rfl⟩) (hb_preV hK hX hW t53 (by decide) rfl) rfl rfl hl.1 rfl (lv_room (Nat.le_of_ble_eq_true rfl)) d_TX_numberOf_107 ⟨(by show _ ≤ 0; omega), (by show _ ≤ 0; omega)⟩) hW (fun h54 H locs hk hW => ?_)
  obtain ⟨w, mm55⟩ := hk
  have w := w mm55
  have hm := hm.tr mm55
  have t56 := mm55.tg t53 (by decide)
  refine lv_iconst (v := 1) hx hb d_TX_numberOf_110 (by decide) ?_
  exact hb_zret (K := fun r9 h9 => K r9 h9 ∧ ah_m h0 h9) hx hb hr hlk (by decide) hK hX hW ⟨w, hm⟩ (by omega) (by omega) d_TX_numberOf_111
set_option maxHeartbeats 4000000 in
set_option maxRecDepth 100000 in
theorem tb_TX_numberOf_23 {p : Program} {l : Launch} {e : Env} {s : State} {m : MethodId} {args : Array Value} {below : List Frame} {meth : Method} {c : Code} {G : zG} (C : cx_C p l s m args meth c G y_TX_numberOf b_TX_numberOf 7 (some .boolean) "BigDesk$Texts" (Cond.code y_TX_numberOf b_TX_numberOf 7 (some .boolean) :: zx_T) []) {K : Int32 → ah_H → Prop} {h0 : ah_H} {cells slots : Nat} (hcl : cells + 0 ≤ 0) (hsl : slots + 0 ≤ 0)  (x11 : Nat) (x12 : Nat) (x13 : Int32) (s14 : Int32) (h15 : ah_H) (H : Heap) (locs : List Loc) (ls : Array Slot) (w : bk_TX_numberOf_23 K x11 x12 x13 s14 h15) (hm : ah_m h0 h15) (hW : ah_W G s.heap h15 H locs) (hl : lv_has ls 7 [(0, .ref x11), (1, .ref x12), (2, .int x13)]) : W p l e rm_TX_numberOf s m args below meth c H locs cells slots (MQ below (va_Qi (fun r9 h9 => K r9 h9 ∧ ah_m h0 h9) (ah_B G) (fun q => G.2.2 ≤ q)) args s 0 0 (fun q => G.2.2 ≤ q)) (F0 m 23 ls [.int s14]) := by
  unfold bk_TX_numberOf_23 at w
  obtain ⟨hx, hb, hr, hml, hown, hts, hT, hlk, hK, hX, htb, hin, hst⟩ := id C
  have hw : ∀ {w9 : Cond}, w9 ∈ zx_T → w9.before _ s = true := fun h9 => hts _ (hT _ h9)
  refine lv_istore_n (lv' := [(3, .int s14), (0, .ref x11), (1, .ref x12), (2, .int x13)]) hx hb d_TX_numberOf_23 rfl hl (by decide) rfl (fun ls hl => ?_)
  refine lv_iload_n hx hb d_TX_numberOf_24 rfl (lv_at hl 3 rfl) ?_
  refine lv_iload_n hx hb d_TX_numberOf_25 rfl (lv_at hl 0 rfl) ?_
  refine lv_isub hx hb d_TX_numberOf_26 ?_
  refine lv_sipush (v := 2467) hx hb d_TX_numberOf_27 (by decide) ?_
  refine lv_icmp_le (tgt := 35) hx hb d_TX_numberOf_30 (by decide) (fun c16 => ?_) (fun c16 => ?_)
  · have w := w.1 c16
    refine lv_lconst (v := 0) hx hb d_TX_numberOf_35 (by decide) ?_
    refine lv_lstore (lv' := [(4, .long (0 : Int64)), (3, .int s14), (0, .ref x11), (1, .ref x12), (2, .int x13)]) hx hb d_TX_numberOf_36 hl (by decide) rfl (fun ls hl => ?_)
    refine lv_aload_n hx hb d_TX_numberOf_38 rfl (lv_at hl 2 rfl) ?_
    obtain ⟨t17, w⟩ := w
    refine hb_callv (va_runV (As := []) (rest := []) ⟨hx, hb, hml, hown, hts⟩ (m_WH_clear G x11 h15 hst w) (cwV 0 hts (zx_gV hT wd_564 wd_409 wd_410 wd_2 wd_411) rfl rfl rfl (by decide +kernel) ⟨Nat.le_of_ble_eq_true rfl, Nat.le_of_ble_eq_true rfl⟩) (hb_preV hK hX hW t17 (by decide) rfl) rfl rfl hl.1 rfl (lv_room (Nat.le_of_ble_eq_true rfl)) d_TX_numberOf_39 ⟨(by show _ ≤ 0; omega), (by show _ ≤ 0; omega)⟩) hW (fun h18 H locs hk hW => ?_)
    obtain ⟨w, mm19⟩ := hk
    have w := w mm19
    have hm := hm.tr mm19
    have t20 := mm19.tg t17 (by decide)
    refine lv_iload_n hx hb d_TX_numberOf_42 rfl (lv_at hl 1 rfl) ?_
    refine lv_istore (lv' := [(6, .int s14), (4, .long (0 : Int64)), (3, .int s14), (0, .ref x11), (1, .ref x12), (2, .int x13)]) hx hb d_TX_numberOf_43 hl (by decide) rfl (fun ls hl => ?_)
    obtain ⟨k57, w⟩ := w
    refine tl_TX_numberOf_45 C (by omega) (by omega) (fun x46 x47 h48 H locs ls w hm hW hl => ?_) k57 x11 x12 x13 s14 (0 : Int64) s14 h18 _ _ _ w hm hW (lv_sub hl [3, 4, 5, 2, 1, 0] rfl)
    · refine lv_aload_n hx hb d_TX_numberOf_96 rfl (lv_at hl 0 rfl) ?_
      refine lv_iload_n hx hb d_TX_numberOf_97 rfl (lv_at hl 1 rfl) ?_
      refine lv_iconst (v := 1) hx hb d_TX_numberOf_98 (by decide) ?_
      refine lv_icmp_ne (tgt := 106) hx hb d_TX_numberOf_99 (by decide) (fun c49 => ?_) (fun c49 => ?_)
      · have w := w.1 c49
        refine lv_iconst (v := 0) hx hb d_TX_numberOf_106 (by decide) ?_
        exact tb_TX_numberOf_107 C (by omega) (by omega)  (0 : Int32) x46 h48 _ _ _ w hm hW (lv_sub hl [] rfl)
      · have w := w.2 c49
        refine lv_iconst (v := 1) hx hb d_TX_numberOf_102 (by decide) ?_
        refine lv_goto (tgt := 107) hx hb d_TX_numberOf_103 (by decide) ?_
        exact tb_TX_numberOf_107 C (by omega) (by omega)  (1 : Int32) x46 h48 _ _ _ w hm hW (lv_sub hl [] rfl)
  · have w := w.2 c16
    refine lv_iconst (v := 0) hx hb d_TX_numberOf_33 (by decide) ?_
    exact hb_zret (K := fun r9 h9 => K r9 h9 ∧ ah_m h0 h9) hx hb hr hlk (by decide) hK hX hW ⟨w, hm⟩ (by omega) (by omega) d_TX_numberOf_34
set_option maxHeartbeats 4000000 in
set_option maxRecDepth 100000 in
theorem m_TX_numberOf {l : Launch} (G : zG) (a1 : Nat) (a2 : Nat) (a3 : Int32) (h0 : ah_H) {K : Int32 → ah_H → Prop} (hst : l.stackTraces = false) (w : w_TX_numberOf a1 a2 a3 h0 K) : Met l y_TX_numberOf (Cond.code y_TX_numberOf b_TX_numberOf 7 (some .boolean) :: zx_T) rm_TX_numberOf (va_Pc [.ref a1, .ref a2, .int a3] (ah_B G h0)) (va_Qi (fun r9 h9 => K r9 h9 ∧ ah_m h0 h9) (ah_B G) (fun q => G.2.2 ≤ q)) 0 0 (fun q => G.2.2 ≤ q) := by
  refine Met.ofW (cc := b_TX_numberOf) (maxL := 7) (ret := (some .boolean)) (by decide) rfl ?_
  intro p e s m args below meth c s₁ B hml hv
  have htb := cx_out B (atoms_spec B.pre _ List.mem_cons_self)
  obtain ⟨rfl, hB⟩ := hv
  have C : cx_C p l s m _ meth c G y_TX_numberOf b_TX_numberOf 7 (some .boolean) "BigDesk$Texts" (Cond.code y_TX_numberOf b_TX_numberOf 7 (some .boolean) :: zx_T) [] := ⟨B.exec, B.bytes, B.returns, hml, findClass_of_methodNamed B.named, atoms_spec B.pre, cx_hd, B.notSynchronized, hB.2.2.1, hB.2.2.2, htb, fun z9 => (name_of_methodNamed B.named B.method).1.trans z9, hst⟩
  obtain ⟨hx, hb, hr, hml, hown, hts, hT, hlk, hK, hX, htb, hin, hst⟩ := id C
  have hw : ∀ {w9 : Cond}, w9 ∈ zx_T → w9.before _ s = true := fun h9 => hts _ (hT _ h9)
  have hW : ah_W G s.heap h0 s.heap [] := ⟨hB.1, hB.2.1, va_S.rf⟩
  have hm : ah_m h0 h0 := ah_m.rf
  have hcl : 0 + 0 ≤ 0 := by decide
  have hsl : 0 + 0 ≤ 0 := by decide
  have hl := lv_entry ([.ref a1, .ref a2, .int a3]) (n := 7) (Nat.le_of_ble_eq_true rfl)
  rw [lg_entry_eq]
  generalize (lg_sl ([.ref a1, .ref a2, .int a3]) ++ List.replicate (7 - (lg_sl ([.ref a1, .ref a2, .int a3])).length) Slot.unset).toArray = ls at hl ⊢
  have hl : lv_has ls 7 [(0, .ref a1), (1, .ref a2), (2, .int a3)] := hl
  unfold w_TX_numberOf at w
  refine lv_aload_n hx hb d_TX_numberOf_0 rfl (lv_at hl 1 rfl) ?_
  refine lv_iload_n hx hb d_TX_numberOf_1 rfl (lv_at hl 2 rfl) ?_
  refine hb_calli (va_runS (As := [.ref a2, .int a3]) (rest := []) ⟨hx, hb, hml, hown, hts⟩ (m_TX_isText G a2 a3 h0 hst w) (va_cwS 2 hts (zx_gS hT wd_561 wd_562 wd_16 wd_563) rfl rfl rfl (by decide +kernel) ⟨Nat.le_of_ble_eq_true rfl, Nat.le_of_ble_eq_true rfl⟩) (hb_preS hK hX hW) rfl rfl hl.1 rfl (lv_room (Nat.le_of_ble_eq_true rfl)) d_TX_numberOf_2 ⟨(by show _ ≤ 0; omega), (by show _ ≤ 0; omega)⟩) hW (fun r5 h4 H locs hk hW => ?_)
  obtain ⟨w, mm6⟩ := hk
  have w := w mm6
  have hm := hm.tr mm6
  refine lv_if_ne (tgt := 10) hx hb d_TX_numberOf_5 (by decide) (fun c7 => ?_) (fun c7 => ?_)
  · have w := w.1 c7
    refine lv_aload_n hx hb d_TX_numberOf_10 rfl (lv_at hl 1 rfl) ?_
    refine lv_iconst (v := 0) hx hb d_TX_numberOf_11 (by decide) ?_
    obtain ⟨t8, w⟩ := w
    obtain ⟨i9, w⟩ := w
    refine hb_bald hx hb hK hW t8 (by decide) (by decide) 1 rfl i9 d_TX_numberOf_12 ?_
    refine lv_bipush (v := 45) hx hb d_TX_numberOf_13 (by decide) ?_
    refine lv_icmp_ne (tgt := 22) hx hb d_TX_numberOf_15 (by decide) (fun c10 => ?_) (fun c10 => ?_)
    · have w := w.1 c10
      refine lv_iconst (v := 0) hx hb d_TX_numberOf_22 (by decide) ?_
      exact tb_TX_numberOf_23 C (by omega) (by omega)  a1 a2 a3 (0 : Int32) h4 _ _ _ w hm hW (lv_sub hl [0, 1, 2] rfl)
    · have w := w.2 c10
      refine lv_iconst (v := 1) hx hb d_TX_numberOf_18 (by decide) ?_
      refine lv_goto (tgt := 23) hx hb d_TX_numberOf_19 (by decide) ?_
      exact tb_TX_numberOf_23 C (by omega) (by omega)  a1 a2 a3 (1 : Int32) h4 _ _ _ w hm hW (lv_sub hl [0, 1, 2] rfl)
  · have w := w.2 c7
    refine lv_iconst (v := 0) hx hb d_TX_numberOf_8 (by decide) ?_
    exact hb_zret (K := fun r9 h9 => K r9 h9 ∧ ah_m h0 h9) hx hb hr hlk (by decide) hK hX hW ⟨w, hm⟩ (by omega) (by omega) d_TX_numberOf_9
set_option maxHeartbeats 4000000 in
set_option maxRecDepth 100000 in
theorem tb_TX_layByte_11 {p : Program} {l : Launch} {e : Env} {s : State} {m : MethodId} {args : Array Value} {below : List Frame} {meth : Method} {c : Code} {G : zG} (C : cx_C p l s m args meth c G y_TX_layByte b_TX_layByte 3 (some .int) "BigDesk$Texts" (Cond.code y_TX_layByte b_TX_layByte 3 (some .int) :: zx_T) []) {K : Int32 → ah_H → Prop} {h0 : ah_H} {cells slots : Nat} (hcl : cells + 0 ≤ 0) (hsl : slots + 0 ≤ 0)  (x5 : Int32) (h6 : ah_H) (H : Heap) (locs : List Loc) (ls : Array Slot) (w : bk_TX_layByte_11 K x5 h6) (hm : ah_m h0 h6) (hW : ah_W G s.heap h6 H locs) (hl : lv_has ls 3 [(2, .int x5)]) : W p l e rm_TX_layByte s m args below meth c H locs cells slots (MQ below (va_Qi (fun r9 h9 => K r9 h9 ∧ ah_m h0 h9) (ah_B G) (fun q => G.2.2 ≤ q)) args s 0 0 (fun q => G.2.2 ≤ q)) (F0 m 11 ls []) := by
  unfold bk_TX_layByte_11 at w
  obtain ⟨hx, hb, hr, hml, hown, hts, hT, hlk, hK, hX, htb, hin, hst⟩ := id C
  have hw : ∀ {w9 : Cond}, w9 ∈ zx_T → w9.before _ s = true := fun h9 => hts _ (hT _ h9)
  refine lv_iload_n hx hb d_TX_layByte_11 rfl (lv_at hl 0 rfl) ?_
  exact hb_iret (K := fun r9 h9 => K r9 h9 ∧ ah_m h0 h9) hx hb hr hlk hK hX hW ⟨w, hm⟩ (by omega) (by omega) d_TX_layByte_12
set_option maxHeartbeats 4000000 in
set_option maxRecDepth 100000 in
theorem m_TX_layByte {l : Launch} (G : zG) (a1 : Int32) (a2 : Nat) (a3 : Int32) (h0 : ah_H) {K : Int32 → ah_H → Prop} (hst : l.stackTraces = false) (w : w_TX_layByte a1 a2 a3 h0 K) : Met l y_TX_layByte (Cond.code y_TX_layByte b_TX_layByte 3 (some .int) :: zx_T) rm_TX_layByte (va_Pc [.int a1, .ref a2, .int a3] (ah_B G h0)) (va_Qi (fun r9 h9 => K r9 h9 ∧ ah_m h0 h9) (ah_B G) (fun q => G.2.2 ≤ q)) 0 0 (fun q => G.2.2 ≤ q) := by
  refine Met.ofW (cc := b_TX_layByte) (maxL := 3) (ret := (some .int)) (by decide) rfl ?_
  intro p e s m args below meth c s₁ B hml hv
  have htb := cx_out B (atoms_spec B.pre _ List.mem_cons_self)
  obtain ⟨rfl, hB⟩ := hv
  have C : cx_C p l s m _ meth c G y_TX_layByte b_TX_layByte 3 (some .int) "BigDesk$Texts" (Cond.code y_TX_layByte b_TX_layByte 3 (some .int) :: zx_T) [] := ⟨B.exec, B.bytes, B.returns, hml, findClass_of_methodNamed B.named, atoms_spec B.pre, cx_hd, B.notSynchronized, hB.2.2.1, hB.2.2.2, htb, fun z9 => (name_of_methodNamed B.named B.method).1.trans z9, hst⟩
  obtain ⟨hx, hb, hr, hml, hown, hts, hT, hlk, hK, hX, htb, hin, hst⟩ := id C
  have hw : ∀ {w9 : Cond}, w9 ∈ zx_T → w9.before _ s = true := fun h9 => hts _ (hT _ h9)
  have hW : ah_W G s.heap h0 s.heap [] := ⟨hB.1, hB.2.1, va_S.rf⟩
  have hm : ah_m h0 h0 := ah_m.rf
  have hcl : 0 + 0 ≤ 0 := by decide
  have hsl : 0 + 0 ≤ 0 := by decide
  have hl := lv_entry ([.int a1, .ref a2, .int a3]) (n := 3) (Nat.le_of_ble_eq_true rfl)
  rw [lg_entry_eq]
  generalize (lg_sl ([.int a1, .ref a2, .int a3]) ++ List.replicate (3 - (lg_sl ([.int a1, .ref a2, .int a3])).length) Slot.unset).toArray = ls at hl ⊢
  have hl : lv_has ls 3 [(0, .int a1), (1, .ref a2), (2, .int a3)] := hl
  unfold w_TX_layByte at w
  refine lv_iload_n hx hb d_TX_layByte_0 rfl (lv_at hl 2 rfl) ?_
  refine lv_iconst (v := 1) hx hb d_TX_layByte_1 (by decide) ?_
  refine lv_icmp_lt (tgt := 11) hx hb d_TX_layByte_2 (by decide) (fun c4 => ?_) (fun c4 => ?_)
  · have w := w.1 c4
    exact tb_TX_layByte_11 C (by omega) (by omega)  a3 h0 _ _ _ w hm hW (lv_sub hl [2] rfl)
  · have w := w.2 c4
    refine lv_iload_n hx hb d_TX_layByte_5 rfl (lv_at hl 2 rfl) ?_
    refine lv_aload_n hx hb d_TX_layByte_6 rfl (lv_at hl 1 rfl) ?_
    obtain ⟨t7, w⟩ := w
    refine hb_alenI hx hb hK hW t7 (by decide) 1 rfl d_TX_layByte_7 ?_
    refine lv_icmp_le (tgt := 13) hx hb d_TX_layByte_8 (by decide) (fun c8 => ?_) (fun c8 => ?_)
    · have w := w.1 c8
      refine lv_aload_n hx hb d_TX_layByte_13 rfl (lv_at hl 1 rfl) ?_
      refine lv_iload_n hx hb d_TX_layByte_14 rfl (lv_at hl 2 rfl) ?_
      refine lv_iconst (v := 1) hx hb d_TX_layByte_15 (by decide) ?_
      refine lv_isub hx hb d_TX_layByte_16 ?_
      refine lv_iload_n hx hb d_TX_layByte_17 rfl (lv_at hl 0 rfl) ?_
      refine lv_i2b hx hb d_TX_layByte_18 rfl ?_
      refine lv_topi (fun v9 ev9 => ?_)
      have w := w v9 ev9
      obtain ⟨i10, w⟩ := w
      refine hb_bast hx hb hK hW t7 (by decide) (by decide) 1 rfl i10 d_TX_layByte_19 (fun H locs h11 eh11 hW => ?_)
      have w := w h11 eh11
      have mm12 : ah_m h0 h11 := ah_m.rf.st (by rw [eh11]; rfl) (by rw [eh11]; rfl)
      have hm := hm.tr mm12
      have t13 := mm12.tg t7 (by decide)
      refine lv_iload_n hx hb d_TX_layByte_20 rfl (lv_at hl 2 rfl) ?_
      refine lv_iconst (v := 1) hx hb d_TX_layByte_21 (by decide) ?_
      refine lv_isub hx hb d_TX_layByte_22 ?_
      exact hb_iret (K := fun r9 h9 => K r9 h9 ∧ ah_m h0 h9) hx hb hr hlk hK hX hW ⟨w, hm⟩ (by omega) (by omega) d_TX_layByte_23
    · have w := w.2 c8
      exact tb_TX_layByte_11 C (by omega) (by omega)  a3 h0 _ _ _ w hm hW (lv_sub hl [2] rfl)
set_option maxHeartbeats 4000000 in
set_option maxRecDepth 100000 in
theorem tb_TX_layChunk_32 {p : Program} {l : Launch} {e : Env} {s : State} {m : MethodId} {args : Array Value} {below : List Frame} {meth : Method} {c : Code} {G : zG} (C : cx_C p l s m args meth c G y_TX_layChunk b_TX_layChunk 7 (some .int) "BigDesk$Texts" (Cond.code y_TX_layChunk b_TX_layChunk 7 (some .int) :: zx_T) []) {K : Int32 → ah_H → Prop} {h0 : ah_H} {cells slots : Nat} (hcl : cells + 0 ≤ 0) (hsl : slots + 0 ≤ 0) {rc_11 : Nat → Nat → Int32 → Int64 → Int32 → ah_H → Prop} (hc_rc_11 : ∀ (z0 : Nat) (z1 : Nat) (z2 : Int32) (z3 : Int64) (z4 : Int32) (hz : ah_H) (H : Heap) (locs : List Loc) (ls : Array Slot), rc_11 z0 z1 z2 z3 z4 hz → ah_m h0 hz → ah_W G s.heap hz H locs → lv_has ls 7 [(0, .ref z0), (1, .ref z1), (3, .int z2), (4, .long z3), (6, .int z4)] → W p l e rm_TX_layChunk s m args below meth c H locs cells slots (MQ below (va_Qi (fun r9 h9 => K r9 h9 ∧ ah_m h0 h9) (ah_B G) (fun q => G.2.2 ≤ q)) args s 0 0 (fun q => G.2.2 ≤ q)) (F0 m 11 ls [])) (x18 : Nat) (x19 : Nat) (x20 : Int32) (x21 : Int64) (x22 : Int32) (h23 : ah_H) (H : Heap) (locs : List Loc) (ls : Array Slot) (w : bk_TX_layChunk_32 rc_11 K x18 x19 x20 x21 x22 h23) (hm : ah_m h0 h23) (hW : ah_W G s.heap h23 H locs) (hl : lv_has ls 7 [(0, .ref x18), (1, .ref x19), (3, .int x20), (4, .long x21), (6, .int x22)]) : W p l e rm_TX_layChunk s m args below meth c H locs cells slots (MQ below (va_Qi (fun r9 h9 => K r9 h9 ∧ ah_m h0 h9) (ah_B G) (fun q => G.2.2 ≤ q)) args s 0 0 (fun q => G.2.2 ≤ q)) (F0 m 32 ls []) := by
  unfold bk_TX_layChunk_32 at w
  obtain ⟨hx, hb, hr, hml, hown, hts, hT, hlk, hK, hX, htb, hin, hst⟩ := id C
  have hw : ∀ {w9 : Cond}, w9 ∈ zx_T → w9.before _ s = true := fun h9 => hts _ (hT _ h9)
  refine lv_ldc2 (v := 48) hx hb hown (hw wd_566) d_TX_layChunk_32 ?_
  refine lv_lload hx hb d_TX_layChunk_35 (lv_at hl 3 rfl) ?_
  refine lv_ldc2 (v := 10) hx hb hown (hw wd_565) d_TX_layChunk_37 ?_
  refine lv_lrem hx hb d_TX_layChunk_40 (by decide) ?_
  refine lv_ladd hx hb d_TX_layChunk_41 ?_
  refine lv_l2i hx hb d_TX_layChunk_42 rfl ?_
  refine lv_aload_n hx hb d_TX_layChunk_43 rfl (lv_at hl 1 rfl) ?_
  refine lv_iload_n hx hb d_TX_layChunk_44 rfl (lv_at hl 2 rfl) ?_
  refine hb_calli (va_runS (As := [.int (((48 : Int64) + (x21 - x21 / (10 : Int64) * (10 : Int64))).toInt32), .ref x19, .int x20]) (rest := []) ⟨hx, hb, hml, hown, hts⟩ (m_TX_layByte G (((48 : Int64) + (x21 - x21 / (10 : Int64) * (10 : Int64))).toInt32) x19 x20 h23 hst w) (va_cwS 3 hts (zx_gS hT wd_590 wd_591 wd_16 wd_592) rfl rfl rfl (by decide +kernel) ⟨Nat.le_of_ble_eq_true rfl, Nat.le_of_ble_eq_true rfl⟩) (hb_preS hK hX hW) rfl rfl hl.1 rfl (lv_room (Nat.le_of_ble_eq_true rfl)) d_TX_layChunk_45 ⟨(by show _ ≤ 0; omega), (by show _ ≤ 0; omega)⟩) hW (fun r25 h24 H locs hk hW => ?_)
  obtain ⟨w, mm26⟩ := hk
  have w := w mm26
  have hm := hm.tr mm26
  refine lv_istore_n (lv' := [(3, .int r25), (0, .ref x18), (1, .ref x19), (4, .long x21), (6, .int x22)]) hx hb d_TX_layChunk_48 rfl hl (by decide) rfl (fun ls hl => ?_)
  refine lv_lload hx hb d_TX_layChunk_49 (lv_at hl 3 rfl) ?_
  refine lv_ldc2 (v := 10) hx hb hown (hw wd_565) d_TX_layChunk_51 ?_
  refine lv_ldiv hx hb d_TX_layChunk_54 (by decide) ?_
  refine lv_topl (fun v27 ev27 => ?_)
  have w := w v27 ev27
  refine lv_lstore (lv' := [(4, .long v27), (3, .int r25), (0, .ref x18), (1, .ref x19), (6, .int x22)]) hx hb d_TX_layChunk_55 hl (by decide) rfl (fun ls hl => ?_)
  obtain ⟨v28, ev28⟩ : ∃ y9 : Int32, y9 = x22 + 1 := ⟨_, rfl⟩
  have w := w v28 ev28
  refine lv_iinc (v := v28) (lv' := [(6, .int v28), (4, .long v27), (3, .int r25), (0, .ref x18), (1, .ref x19)]) hx hb d_TX_layChunk_57 hl (k := 4) rfl (by rw [ev28]; rfl) (by decide) rfl (fun ls hl => ?_)
  refine lv_goto (tgt := 11) hx hb d_TX_layChunk_60 (by decide) ?_
  exact hc_rc_11 x18 x19 r25 v27 v28 h24 _ _ _ w hm hW (lv_sub hl [3, 4, 2, 1, 0] rfl)
set_option maxHeartbeats 4000000 in
set_option maxRecDepth 100000 in
theorem tl_TX_layChunk_11 {p : Program} {l : Launch} {e : Env} {s : State} {m : MethodId} {args : Array Value} {below : List Frame} {meth : Method} {c : Code} {G : zG} (C : cx_C p l s m args meth c G y_TX_layChunk b_TX_layChunk 7 (some .int) "BigDesk$Texts" (Cond.code y_TX_layChunk b_TX_layChunk 7 (some .int) :: zx_T) []) {K : Int32 → ah_H → Prop} {h0 : ah_H} {cells slots : Nat} (hcl : cells + 0 ≤ 0) (hsl : slots + 0 ≤ 0) {xt_63 : Int32 → ah_H → Prop} (hc_xt_63 : ∀ (z0 : Int32) (hz : ah_H) (H : Heap) (locs : List Loc) (ls : Array Slot), xt_63 z0 hz → ah_m h0 hz → ah_W G s.heap hz H locs → lv_has ls 7 [(3, .int z0)] → W p l e rm_TX_layChunk s m args below meth c H locs cells slots (MQ below (va_Qi (fun r9 h9 => K r9 h9 ∧ ah_m h0 h9) (ah_B G) (fun q => G.2.2 ≤ q)) args s 0 0 (fun q => G.2.2 ≤ q)) (F0 m 63 ls [])) : ∀ (n : Nat) (x9 : Nat) (x10 : Nat) (x11 : Int32) (x12 : Int64) (x13 : Int32) (h14 : ah_H) (H : Heap) (locs : List Loc) (ls : Array Slot), lp_TX_layChunk_11 xt_63 K n x9 x10 x11 x12 x13 h14 → ah_m h0 h14 → ah_W G s.heap h14 H locs → lv_has ls 7 [(0, .ref x9), (1, .ref x10), (3, .int x11), (4, .long x12), (6, .int x13)] → W p l e rm_TX_layChunk s m args below meth c H locs cells slots (MQ below (va_Qi (fun r9 h9 => K r9 h9 ∧ ah_m h0 h9) (ah_B G) (fun q => G.2.2 ≤ q)) args s 0 0 (fun q => G.2.2 ≤ q)) (F0 m 11 ls []) := by
  obtain ⟨hx, hb, hr, hml, hown, hts, hT, hlk, hK, hX, htb, hin, hst⟩ := id C
  have hw : ∀ {w9 : Cond}, w9 ∈ zx_T → w9.before _ s = true := fun h9 => hts _ (hT _ h9)
  intro n
  induction n with
  | zero =>
    intro x9 x10 x11 x12 x13 h14 H locs ls w
    exact absurd w (by intro z9; exact z9)
  | succ n ih =>
    intro x9 x10 x11 x12 x13 h14 H locs ls w hm hW hl
    unfold lp_TX_layChunk_11 at w
    refine lv_iload hx hb d_TX_layChunk_11 (lv_at hl 4 rfl) ?_
    refine lv_bipush (v := 9) hx hb d_TX_layChunk_13 (by decide) ?_
    refine lv_icmp_ge (tgt := 63) hx hb d_TX_layChunk_15 (by decide) (fun c15 => ?_) (fun c15 => ?_)
    · have w := w.1 c15
      exact hc_xt_63 x11 h14 _ _ _ w hm hW (lv_sub hl [2] rfl)
    · have w := w.2 c15
      refine lv_aload_n hx hb d_TX_layChunk_18 rfl (lv_at hl 0 rfl) ?_
      obtain ⟨t16, w⟩ := w
      refine hb_get (ci := 2) (C := "BigDesk$Whole") (T := T_WH) (N := 3) hx hb hts (fun w9 h9 => hT w9 (u_WH w9 h9)) hown hK hW t16 rfl (by decide) 1 (by decide) (hw wd_41) (fun _ h9 => h9) (q := (0, 0)) rfl (v := .int (ah_I h14 0 x9)) rfl d_TX_layChunk_19 ?_
      refine lv_if_gt (tgt := 32) hx hb d_TX_layChunk_22 (by decide) (fun c17 => ?_) (fun c17 => ?_)
      · have w := w.1 c17
        exact tb_TX_layChunk_32 C (by omega) (by omega) ih x9 x10 x11 x12 x13 h14 _ _ _ w hm hW (lv_sub hl [0, 1, 2, 3, 4] rfl)
      · have w := w.2 c17
        refine lv_lload hx hb d_TX_layChunk_25 (lv_at hl 3 rfl) ?_
        refine lv_lconst (v := 0) hx hb d_TX_layChunk_27 (by decide) ?_
        refine hb_lcmp_le (tgt := 63) hx hb d_TX_layChunk_28 d_TX_layChunk_29 (by decide) (fun c29 => ?_) (fun c29 => ?_)
        · have w := w.1 c29
          exact hc_xt_63 x11 h14 _ _ _ w hm hW (lv_sub hl [2] rfl)
        · have w := w.2 c29
          exact tb_TX_layChunk_32 C (by omega) (by omega) ih x9 x10 x11 x12 x13 h14 _ _ _ w hm hW (lv_sub hl [0, 1, 2, 3, 4] rfl)
set_option maxHeartbeats 4000000 in
set_option maxRecDepth 100000 in
theorem tb_TX_layChunk_63 {p : Program} {l : Launch} {e : Env} {s : State} {m : MethodId} {args : Array Value} {below : List Frame} {meth : Method} {c : Code} {G : zG} (C : cx_C p l s m args meth c G y_TX_layChunk b_TX_layChunk 7 (some .int) "BigDesk$Texts" (Cond.code y_TX_layChunk b_TX_layChunk 7 (some .int) :: zx_T) []) {K : Int32 → ah_H → Prop} {h0 : ah_H} {cells slots : Nat} (hcl : cells + 0 ≤ 0) (hsl : slots + 0 ≤ 0)  (x32 : Int32) (h33 : ah_H) (H : Heap) (locs : List Loc) (ls : Array Slot) (w : bk_TX_layChunk_63 K x32 h33) (hm : ah_m h0 h33) (hW : ah_W G s.heap h33 H locs) (hl : lv_has ls 7 [(3, .int x32)]) : W p l e rm_TX_layChunk s m args below meth c H locs cells slots (MQ below (va_Qi (fun r9 h9 => K r9 h9 ∧ ah_m h0 h9) (ah_B G) (fun q => G.2.2 ≤ q)) args s 0 0 (fun q => G.2.2 ≤ q)) (F0 m 63 ls []) := by
  unfold bk_TX_layChunk_63 at w
  obtain ⟨hx, hb, hr, hml, hown, hts, hT, hlk, hK, hX, htb, hin, hst⟩ := id C
  have hw : ∀ {w9 : Cond}, w9 ∈ zx_T → w9.before _ s = true := fun h9 => hts _ (hT _ h9)
  refine lv_iload_n hx hb d_TX_layChunk_63 rfl (lv_at hl 0 rfl) ?_
  exact hb_iret (K := fun r9 h9 => K r9 h9 ∧ ah_m h0 h9) hx hb hr hlk hK hX hW ⟨w, hm⟩ (by omega) (by omega) d_TX_layChunk_64
set_option maxHeartbeats 4000000 in
set_option maxRecDepth 100000 in
theorem m_TX_layChunk {l : Launch} (G : zG) (a1 : Nat) (a2 : Nat) (a3 : Int32) (h0 : ah_H) {K : Int32 → ah_H → Prop} (hst : l.stackTraces = false) (w : w_TX_layChunk a1 a2 a3 h0 K) : Met l y_TX_layChunk (Cond.code y_TX_layChunk b_TX_layChunk 7 (some .int) :: zx_T) rm_TX_layChunk (va_Pc [.ref a1, .ref a2, .int a3] (ah_B G h0)) (va_Qi (fun r9 h9 => K r9 h9 ∧ ah_m h0 h9) (ah_B G) (fun q => G.2.2 ≤ q)) 0 0 (fun q => G.2.2 ≤ q) := by
  refine Met.ofW (cc := b_TX_layChunk) (maxL := 7) (ret := (some .int)) (by decide) rfl ?_
  intro p e s m args below meth c s₁ B hml hv
  have htb := cx_out B (atoms_spec B.pre _ List.mem_cons_self)
  obtain ⟨rfl, hB⟩ := hv
  have C : cx_C p l s m _ meth c G y_TX_layChunk b_TX_layChunk 7 (some .int) "BigDesk$Texts" (Cond.code y_TX_layChunk b_TX_layChunk 7 (some .int) :: zx_T) [] := ⟨B.exec, B.bytes, B.returns, hml, findClass_of_methodNamed B.named, atoms_spec B.pre, cx_hd, B.notSynchronized, hB.2.2.1, hB.2.2.2, htb, fun z9 => (name_of_methodNamed B.named B.method).1.trans z9, hst⟩
  obtain ⟨hx, hb, hr, hml, hown, hts, hT, hlk, hK, hX, htb, hin, hst⟩ := id C
  have hw : ∀ {w9 : Cond}, w9 ∈ zx_T → w9.before _ s = true := fun h9 => hts _ (hT _ h9)
  have hW : ah_W G s.heap h0 s.heap [] := ⟨hB.1, hB.2.1, va_S.rf⟩
  have hm : ah_m h0 h0 := ah_m.rf
  have hcl : 0 + 0 ≤ 0 := by decide
  have hsl : 0 + 0 ≤ 0 := by decide
  have hl := lv_entry ([.ref a1, .ref a2, .int a3]) (n := 7) (Nat.le_of_ble_eq_true rfl)
  rw [lg_entry_eq]
  generalize (lg_sl ([.ref a1, .ref a2, .int a3]) ++ List.replicate (7 - (lg_sl ([.ref a1, .ref a2, .int a3])).length) Slot.unset).toArray = ls at hl ⊢
  have hl : lv_has ls 7 [(0, .ref a1), (1, .ref a2), (2, .int a3)] := hl
  unfold w_TX_layChunk at w
  refine lv_iload_n hx hb d_TX_layChunk_0 rfl (lv_at hl 2 rfl) ?_
  refine lv_istore_n (lv' := [(3, .int a3), (0, .ref a1), (1, .ref a2), (2, .int a3)]) hx hb d_TX_layChunk_1 rfl hl (by decide) rfl (fun ls hl => ?_)
  refine lv_aload_n hx hb d_TX_layChunk_2 rfl (lv_at hl 1 rfl) ?_
  obtain ⟨t4, w⟩ := w
  refine hb_calll (va_runV (As := []) (rest := []) ⟨hx, hb, hml, hown, hts⟩ (m_WH_takeChunk G a1 h0 hst w) (cwV 0 hts (zx_gV hT wd_586 wd_587 wd_588 wd_2 wd_589) rfl rfl rfl (by decide +kernel) ⟨Nat.le_of_ble_eq_true rfl, Nat.le_of_ble_eq_true rfl⟩) (hb_preV hK hX hW t4 (by decide) rfl) rfl rfl hl.1 rfl (lv_room (Nat.le_of_ble_eq_true rfl)) d_TX_layChunk_3 ⟨(by show _ ≤ 0; omega), (by show _ ≤ 0; omega)⟩) hW (fun r6 h5 H locs hk hW => ?_)
  obtain ⟨w, mm7⟩ := hk
  have w := w mm7
  have hm := hm.tr mm7
  have t8 := mm7.tg t4 (by decide)
  refine lv_lstore (lv' := [(4, .long r6), (3, .int a3), (0, .ref a1), (1, .ref a2), (2, .int a3)]) hx hb d_TX_layChunk_6 hl (by decide) rfl (fun ls hl => ?_)
  refine lv_iconst (v := 0) hx hb d_TX_layChunk_8 (by decide) ?_
  refine lv_istore (lv' := [(6, .int (0 : Int32)), (4, .long r6), (3, .int a3), (0, .ref a1), (1, .ref a2), (2, .int a3)]) hx hb d_TX_layChunk_9 hl (by decide) rfl (fun ls hl => ?_)
  obtain ⟨k34, w⟩ := w
  refine tl_TX_layChunk_11 C (by omega) (by omega) (fun x30 h31 H locs ls w hm hW hl => ?_) k34 a1 a2 a3 r6 (0 : Int32) h5 _ _ _ w hm hW (lv_sub hl [3, 4, 2, 1, 0] rfl)
  · exact tb_TX_layChunk_63 C (by omega) (by omega)  x30 h31 _ _ _ w hm hW (lv_sub hl [0] rfl)
set_option maxHeartbeats 4000000 in
set_option maxRecDepth 100000 in
theorem tl_TX_textOf_16 {p : Program} {l : Launch} {e : Env} {s : State} {m : MethodId} {args : Array Value} {below : List Frame} {meth : Method} {c : Code} {G : zG} (C : cx_C p l s m args meth c G y_TX_textOf b_TX_textOf 5 (some .int) "BigDesk$Texts" (Cond.code y_TX_textOf b_TX_textOf 5 (some .int) :: zx_T) []) {K : Int32 → ah_H → Prop} {h0 : ah_H} {cells slots : Nat} (hcl : cells + 0 ≤ 0) (hsl : slots + 0 ≤ 0) {xt_44 : Nat → Int32 → Int32 → ah_H → Prop} (hc_xt_44 : ∀ (z0 : Nat) (z1 : Int32) (z2 : Int32) (hz : ah_H) (H : Heap) (locs : List Loc) (ls : Array Slot), xt_44 z0 z1 z2 hz → ah_m h0 hz → ah_W G s.heap hz H locs → lv_has ls 5 [(1, .ref z0), (2, .int z1), (3, .int z2)] → W p l e rm_TX_textOf s m args below meth c H locs cells slots (MQ below (va_Qi (fun r9 h9 => K r9 h9 ∧ ah_m h0 h9) (ah_B G) (fun q => G.2.2 ≤ q)) args s 0 0 (fun q => G.2.2 ≤ q)) (F0 m 44 ls [])) : ∀ (n : Nat) (x10 : Nat) (x11 : Nat) (x12 : Int32) (x13 : Int32) (x14 : Int32) (h15 : ah_H) (H : Heap) (locs : List Loc) (ls : Array Slot), lp_TX_textOf_16 xt_44 K n x10 x11 x12 x13 x14 h15 → ah_m h0 h15 → ah_W G s.heap h15 H locs → lv_has ls 5 [(0, .ref x10), (1, .ref x11), (2, .int x12), (3, .int x13), (4, .int x14)] → W p l e rm_TX_textOf s m args below meth c H locs cells slots (MQ below (va_Qi (fun r9 h9 => K r9 h9 ∧ ah_m h0 h9) (ah_B G) (fun q => G.2.2 ≤ q)) args s 0 0 (fun q => G.2.2 ≤ q)) (F0 m 16 ls []) := by
  obtain ⟨hx, hb, hr, hml, hown, hts, hT, hlk, hK, hX, htb, hin, hst⟩ := id C
  have hw : ∀ {w9 : Cond}, w9 ∈ zx_T → w9.before _ s = true := fun h9 => hts _ (hT _ h9)
  intro n
  induction n with
  | zero =>
    intro x10 x11 x12 x13 x14 h15 H locs ls w
    exact absurd w (by intro z9; exact z9)
  | succ n ih =>
    intro x10 x11 x12 x13 x14 h15 H locs ls w hm hW hl
    unfold lp_TX_textOf_16 at w
    refine lv_iload hx hb d_TX_textOf_16 (lv_at hl 4 rfl) ?_
    refine lv_sipush (v := 2467) hx hb d_TX_textOf_18 (by decide) ?_
    refine lv_icmp_ge (tgt := 44) hx hb d_TX_textOf_21 (by decide) (fun c16 => ?_) (fun c16 => ?_)
    · have w := w.1 c16
      exact hc_xt_44 x11 x12 x13 h15 _ _ _ w hm hW (lv_sub hl [1, 2, 3] rfl)
    · have w := w.2 c16
      refine lv_aload_n hx hb d_TX_textOf_24 rfl (lv_at hl 0 rfl) ?_
      obtain ⟨t17, w⟩ := w
      refine hb_get (ci := 2) (C := "BigDesk$Whole") (T := T_WH) (N := 3) hx hb hts (fun w9 h9 => hT w9 (u_WH w9 h9)) hown hK hW t17 rfl (by decide) 1 (by decide) (hw wd_41) (fun _ h9 => h9) (q := (0, 0)) rfl (v := .int (ah_I h15 0 x10)) rfl d_TX_textOf_25 ?_
      refine lv_if_le (tgt := 44) hx hb d_TX_textOf_28 (by decide) (fun c18 => ?_) (fun c18 => ?_)
      · have w := w.1 c18
        exact hc_xt_44 x11 x12 x13 h15 _ _ _ w hm hW (lv_sub hl [1, 2, 3] rfl)
      · have w := w.2 c18
        refine lv_aload_n hx hb d_TX_textOf_31 rfl (lv_at hl 0 rfl) ?_
        refine lv_aload_n hx hb d_TX_textOf_32 rfl (lv_at hl 1 rfl) ?_
        refine lv_iload_n hx hb d_TX_textOf_33 rfl (lv_at hl 3 rfl) ?_
        refine hb_calli (va_runS (As := [.ref x10, .ref x11, .int x13]) (rest := []) ⟨hx, hb, hml, hown, hts⟩ (m_TX_layChunk G x10 x11 x13 h15 hst w) (va_cwS 3 hts (zx_gS hT wd_583 wd_584 wd_16 wd_585) rfl rfl rfl (by decide +kernel) ⟨Nat.le_of_ble_eq_true rfl, Nat.le_of_ble_eq_true rfl⟩) (hb_preS hK hX hW) rfl rfl hl.1 rfl (lv_room (Nat.le_of_ble_eq_true rfl)) d_TX_textOf_34 ⟨(by show _ ≤ 0; omega), (by show _ ≤ 0; omega)⟩) hW (fun r20 h19 H locs hk hW => ?_)
        obtain ⟨w, mm21⟩ := hk
        have w := w mm21
        have hm := hm.tr mm21
        have t22 := mm21.tg t17 (by decide)
        refine lv_istore_n (lv' := [(3, .int r20), (0, .ref x10), (1, .ref x11), (2, .int x12), (4, .int x14)]) hx hb d_TX_textOf_37 rfl hl (by decide) rfl (fun ls hl => ?_)
        obtain ⟨v23, ev23⟩ : ∃ y9 : Int32, y9 = x14 + 9 := ⟨_, rfl⟩
        have w := w v23 ev23
        refine lv_iinc (v := v23) (lv' := [(4, .int v23), (3, .int r20), (0, .ref x10), (1, .ref x11), (2, .int x12)]) hx hb d_TX_textOf_38 hl (k := 4) rfl (by rw [ev23]; rfl) (by decide) rfl (fun ls hl => ?_)
        refine lv_goto (tgt := 16) hx hb d_TX_textOf_41 (by decide) ?_
        exact ih x10 x11 x12 r20 v23 h19 _ _ _ w hm hW (lv_sub hl [2, 3, 4, 1, 0] rfl)
set_option maxHeartbeats 4000000 in
set_option maxRecDepth 100000 in
theorem tb_TX_textOf_70 {p : Program} {l : Launch} {e : Env} {s : State} {m : MethodId} {args : Array Value} {below : List Frame} {meth : Method} {c : Code} {G : zG} (C : cx_C p l s m args meth c G y_TX_textOf b_TX_textOf 5 (some .int) "BigDesk$Texts" (Cond.code y_TX_textOf b_TX_textOf 5 (some .int) :: zx_T) []) {K : Int32 → ah_H → Prop} {h0 : ah_H} {cells slots : Nat} (hcl : cells + 0 ≤ 0) (hsl : slots + 0 ≤ 0)  (x39 : Nat) (x40 : Int32) (h41 : ah_H) (H : Heap) (locs : List Loc) (ls : Array Slot) (w : bk_TX_textOf_70 K x39 x40 h41) (hm : ah_m h0 h41) (hW : ah_W G s.heap h41 H locs) (hl : lv_has ls 5 [(1, .ref x39), (3, .int x40)]) : W p l e rm_TX_textOf s m args below meth c H locs cells slots (MQ below (va_Qi (fun r9 h9 => K r9 h9 ∧ ah_m h0 h9) (ah_B G) (fun q => G.2.2 ≤ q)) args s 0 0 (fun q => G.2.2 ≤ q)) (F0 m 70 ls []) := by
  unfold bk_TX_textOf_70 at w
  obtain ⟨hx, hb, hr, hml, hown, hts, hT, hlk, hK, hX, htb, hin, hst⟩ := id C
  have hw : ∀ {w9 : Cond}, w9 ∈ zx_T → w9.before _ s = true := fun h9 => hts _ (hT _ h9)
  refine lv_aload_n hx hb d_TX_textOf_70 rfl (lv_at hl 0 rfl) ?_
  obtain ⟨t42, w⟩ := w
  refine hb_alenI hx hb hK hW t42 (by decide) 1 rfl d_TX_textOf_71 ?_
  refine lv_iload_n hx hb d_TX_textOf_72 rfl (lv_at hl 1 rfl) ?_
  refine lv_isub hx hb d_TX_textOf_73 ?_
  refine lv_topi (fun v43 ev43 => ?_)
  have w := w v43 ev43
  refine lv_istore (lv' := [(4, .int v43), (1, .ref x39), (3, .int x40)]) hx hb d_TX_textOf_74 hl (by decide) rfl (fun ls hl => ?_)
  refine lv_aload_n hx hb d_TX_textOf_76 rfl (lv_at hl 1 rfl) ?_
  refine lv_iload_n hx hb d_TX_textOf_77 rfl (lv_at hl 2 rfl) ?_
  refine lv_aload_n hx hb d_TX_textOf_78 rfl (lv_at hl 1 rfl) ?_
  refine lv_iconst (v := 0) hx hb d_TX_textOf_79 (by decide) ?_
  refine lv_iload hx hb d_TX_textOf_80 (lv_at hl 0 rfl) ?_
  obtain ⟨y44, w⟩ := w
  obtain ⟨y45, w⟩ := w
  obtain ⟨y46, w⟩ := w
  obtain ⟨y47, w⟩ := w
  obtain ⟨y48, w⟩ := w
  obtain ⟨y49, w⟩ := w
  refine hb_copyb hx hb (by rw [hml]; exact hl.1.symm) hown (hw wd_593) (hw wd_239) (hw wd_238) (hw wd_10) hK hW t42 t42 y44 y45 y46 y47 y48 y49 (Nat.le_of_ble_eq_true rfl) (Nat.le_of_ble_eq_true (by decide +kernel)) d_TX_textOf_82 (fun H locs h50 eh50 hW => ?_)
  have w := w h50 eh50
  have mm51 : ah_m h41 h50 := ah_m.rf.st (by rw [eh50]; rfl) (by rw [eh50]; rfl)
  have hm := hm.tr mm51
  have t52 := mm51.tg t42 (by decide)
  refine lv_iload hx hb d_TX_textOf_85 (lv_at hl 0 rfl) ?_
  exact hb_iret (K := fun r9 h9 => K r9 h9 ∧ ah_m h0 h9) hx hb hr hlk hK hX hW ⟨w, hm⟩ (by omega) (by omega) d_TX_textOf_87
set_option maxHeartbeats 4000000 in
set_option maxRecDepth 100000 in
theorem tb_TX_textOf_58 {p : Program} {l : Launch} {e : Env} {s : State} {m : MethodId} {args : Array Value} {below : List Frame} {meth : Method} {c : Code} {G : zG} (C : cx_C p l s m args meth c G y_TX_textOf b_TX_textOf 5 (some .int) "BigDesk$Texts" (Cond.code y_TX_textOf b_TX_textOf 5 (some .int) :: zx_T) []) {K : Int32 → ah_H → Prop} {h0 : ah_H} {cells slots : Nat} (hcl : cells + 0 ≤ 0) (hsl : slots + 0 ≤ 0)  (x34 : Nat) (x35 : Int32) (x36 : Int32) (h37 : ah_H) (H : Heap) (locs : List Loc) (ls : Array Slot) (w : bk_TX_textOf_58 K x34 x35 x36 h37) (hm : ah_m h0 h37) (hW : ah_W G s.heap h37 H locs) (hl : lv_has ls 5 [(1, .ref x34), (2, .int x35), (3, .int x36)]) : W p l e rm_TX_textOf s m args below meth c H locs cells slots (MQ below (va_Qi (fun r9 h9 => K r9 h9 ∧ ah_m h0 h9) (ah_B G) (fun q => G.2.2 ≤ q)) args s 0 0 (fun q => G.2.2 ≤ q)) (F0 m 58 ls []) := by
  unfold bk_TX_textOf_58 at w
  obtain ⟨hx, hb, hr, hml, hown, hts, hT, hlk, hK, hX, htb, hin, hst⟩ := id C
  have hw : ∀ {w9 : Cond}, w9 ∈ zx_T → w9.before _ s = true := fun h9 => hts _ (hT _ h9)
  refine lv_iload_n hx hb d_TX_textOf_58 rfl (lv_at hl 1 rfl) ?_
  refine lv_if_eq (tgt := 70) hx hb d_TX_textOf_59 (by decide) (fun c38 => ?_) (fun c38 => ?_)
  · have w := w.1 c38
    exact tb_TX_textOf_70 C (by omega) (by omega)  x34 x36 h37 _ _ _ w hm hW (lv_sub hl [0, 2] rfl)
  · have w := w.2 c38
    refine lv_bipush (v := 45) hx hb d_TX_textOf_62 (by decide) ?_
    refine lv_aload_n hx hb d_TX_textOf_64 rfl (lv_at hl 0 rfl) ?_
    refine lv_iload_n hx hb d_TX_textOf_65 rfl (lv_at hl 2 rfl) ?_
    refine hb_calli (va_runS (As := [.int (45 : Int32), .ref x34, .int x36]) (rest := []) ⟨hx, hb, hml, hown, hts⟩ (m_TX_layByte G (45 : Int32) x34 x36 h37 hst w) (va_cwS 3 hts (zx_gS hT wd_590 wd_591 wd_16 wd_592) rfl rfl rfl (by decide +kernel) ⟨Nat.le_of_ble_eq_true rfl, Nat.le_of_ble_eq_true rfl⟩) (hb_preS hK hX hW) rfl rfl hl.1 rfl (lv_room (Nat.le_of_ble_eq_true rfl)) d_TX_textOf_66 ⟨(by show _ ≤ 0; omega), (by show _ ≤ 0; omega)⟩) hW (fun r54 h53 H locs hk hW => ?_)
    obtain ⟨w, mm55⟩ := hk
    have w := w mm55
    have hm := hm.tr mm55
    refine lv_istore_n (lv' := [(3, .int r54), (1, .ref x34), (2, .int x35)]) hx hb d_TX_textOf_69 rfl hl (by decide) rfl (fun ls hl => ?_)
    exact tb_TX_textOf_70 C (by omega) (by omega)  x34 r54 h53 _ _ _ w hm hW (lv_sub hl [1, 0] rfl)
set_option maxHeartbeats 4000000 in
set_option maxRecDepth 100000 in
theorem tb_TX_textOf_44 {p : Program} {l : Launch} {e : Env} {s : State} {m : MethodId} {args : Array Value} {below : List Frame} {meth : Method} {c : Code} {G : zG} (C : cx_C p l s m args meth c G y_TX_textOf b_TX_textOf 5 (some .int) "BigDesk$Texts" (Cond.code y_TX_textOf b_TX_textOf 5 (some .int) :: zx_T) []) {K : Int32 → ah_H → Prop} {h0 : ah_H} {cells slots : Nat} (hcl : cells + 0 ≤ 0) (hsl : slots + 0 ≤ 0)  (x28 : Nat) (x29 : Int32) (x30 : Int32) (h31 : ah_H) (H : Heap) (locs : List Loc) (ls : Array Slot) (w : bk_TX_textOf_44 K x28 x29 x30 h31) (hm : ah_m h0 h31) (hW : ah_W G s.heap h31 H locs) (hl : lv_has ls 5 [(1, .ref x28), (2, .int x29), (3, .int x30)]) : W p l e rm_TX_textOf s m args below meth c H locs cells slots (MQ below (va_Qi (fun r9 h9 => K r9 h9 ∧ ah_m h0 h9) (ah_B G) (fun q => G.2.2 ≤ q)) args s 0 0 (fun q => G.2.2 ≤ q)) (F0 m 44 ls []) := by
  unfold bk_TX_textOf_44 at w
  obtain ⟨hx, hb, hr, hml, hown, hts, hT, hlk, hK, hX, htb, hin, hst⟩ := id C
  have hw : ∀ {w9 : Cond}, w9 ∈ zx_T → w9.before _ s = true := fun h9 => hts _ (hT _ h9)
  refine lv_iload_n hx hb d_TX_textOf_44 rfl (lv_at hl 2 rfl) ?_
  refine lv_aload_n hx hb d_TX_textOf_45 rfl (lv_at hl 0 rfl) ?_
  obtain ⟨t32, w⟩ := w
  refine hb_alenI hx hb hK hW t32 (by decide) 1 rfl d_TX_textOf_46 ?_
  refine lv_icmp_ne (tgt := 58) hx hb d_TX_textOf_47 (by decide) (fun c33 => ?_) (fun c33 => ?_)
  · have w := w.1 c33
    exact tb_TX_textOf_58 C (by omega) (by omega)  x28 x29 x30 h31 _ _ _ w hm hW (lv_sub hl [0, 1, 2] rfl)
  · have w := w.2 c33
    refine lv_bipush (v := 48) hx hb d_TX_textOf_50 (by decide) ?_
    refine lv_aload_n hx hb d_TX_textOf_52 rfl (lv_at hl 0 rfl) ?_
    refine lv_iload_n hx hb d_TX_textOf_53 rfl (lv_at hl 2 rfl) ?_
    refine hb_calli (va_runS (As := [.int (48 : Int32), .ref x28, .int x30]) (rest := []) ⟨hx, hb, hml, hown, hts⟩ (m_TX_layByte G (48 : Int32) x28 x30 h31 hst w) (va_cwS 3 hts (zx_gS hT wd_590 wd_591 wd_16 wd_592) rfl rfl rfl (by decide +kernel) ⟨Nat.le_of_ble_eq_true rfl, Nat.le_of_ble_eq_true rfl⟩) (hb_preS hK hX hW) rfl rfl hl.1 rfl (lv_room (Nat.le_of_ble_eq_true rfl)) d_TX_textOf_54 ⟨(by show _ ≤ 0; omega), (by show _ ≤ 0; omega)⟩) hW (fun r57 h56 H locs hk hW => ?_)
    obtain ⟨w, mm58⟩ := hk
    have w := w mm58
    have hm := hm.tr mm58
    have t59 := mm58.tg t32 (by decide)
    refine lv_istore_n (lv' := [(3, .int r57), (1, .ref x28), (2, .int x29)]) hx hb d_TX_textOf_57 rfl hl (by decide) rfl (fun ls hl => ?_)
    exact tb_TX_textOf_58 C (by omega) (by omega)  x28 x29 r57 h56 _ _ _ w hm hW (lv_sub hl [1, 2, 0] rfl)
set_option maxHeartbeats 4000000 in
set_option maxRecDepth 100000 in
theorem m_TX_textOf {l : Launch} (G : zG) (a1 : Nat) (a2 : Nat) (h0 : ah_H) {K : Int32 → ah_H → Prop} (hst : l.stackTraces = false) (w : w_TX_textOf a1 a2 h0 K) : Met l y_TX_textOf (Cond.code y_TX_textOf b_TX_textOf 5 (some .int) :: zx_T) rm_TX_textOf (va_Pc [.ref a1, .ref a2] (ah_B G h0)) (va_Qi (fun r9 h9 => K r9 h9 ∧ ah_m h0 h9) (ah_B G) (fun q => G.2.2 ≤ q)) 0 0 (fun q => G.2.2 ≤ q) := by
  refine Met.ofW (cc := b_TX_textOf) (maxL := 5) (ret := (some .int)) (by decide) rfl ?_
  intro p e s m args below meth c s₁ B hml hv
  have htb := cx_out B (atoms_spec B.pre _ List.mem_cons_self)
  obtain ⟨rfl, hB⟩ := hv
  have C : cx_C p l s m _ meth c G y_TX_textOf b_TX_textOf 5 (some .int) "BigDesk$Texts" (Cond.code y_TX_textOf b_TX_textOf 5 (some .int) :: zx_T) [] := ⟨B.exec, B.bytes, B.returns, hml, findClass_of_methodNamed B.named, atoms_spec B.pre, cx_hd, B.notSynchronized, hB.2.2.1, hB.2.2.2, htb, fun z9 => (name_of_methodNamed B.named B.method).1.trans z9, hst⟩
  obtain ⟨hx, hb, hr, hml, hown, hts, hT, hlk, hK, hX, htb, hin, hst⟩ := id C
  have hw : ∀ {w9 : Cond}, w9 ∈ zx_T → w9.before _ s = true := fun h9 => hts _ (hT _ h9)
  have hW : ah_W G s.heap h0 s.heap [] := ⟨hB.1, hB.2.1, va_S.rf⟩
  have hm : ah_m h0 h0 := ah_m.rf
  have hcl : 0 + 0 ≤ 0 := by decide
  have hsl : 0 + 0 ≤ 0 := by decide
  have hl := lv_entry ([.ref a1, .ref a2]) (n := 5) (Nat.le_of_ble_eq_true rfl)
  rw [lg_entry_eq]
  generalize (lg_sl ([.ref a1, .ref a2]) ++ List.replicate (5 - (lg_sl ([.ref a1, .ref a2])).length) Slot.unset).toArray = ls at hl ⊢
  have hl : lv_has ls 5 [(0, .ref a1), (1, .ref a2)] := hl
  unfold w_TX_textOf at w
  refine lv_aload_n hx hb d_TX_textOf_0 rfl (lv_at hl 0 rfl) ?_
  obtain ⟨t3, w⟩ := w
  refine hb_get (ci := 2) (C := "BigDesk$Whole") (T := T_WH) (N := 3) hx hb hts (fun w9 h9 => hT w9 (u_WH w9 h9)) hown hK hW t3 rfl (by decide) 2 (by decide) (hw wd_46) (fun _ h9 => h9) (q := (0, 1)) rfl (v := .int (ah_I h0 1 a1)) rfl d_TX_textOf_1 ?_
  refine lv_topi (fun v4 ev4 => ?_)
  have w := w v4 ev4
  refine lv_istore_n (lv' := [(2, .int v4), (0, .ref a1), (1, .ref a2)]) hx hb d_TX_textOf_4 rfl hl (by decide) rfl (fun ls hl => ?_)
  refine lv_aload_n hx hb d_TX_textOf_5 rfl (lv_at hl 1 rfl) ?_
  refine lv_iconst (v := 0) hx hb d_TX_textOf_6 (by decide) ?_
  refine hb_callv (va_runV (As := [.int (0 : Int32)]) (rest := []) ⟨hx, hb, hml, hown, hts⟩ (m_WH_markSign G a1 (0 : Int32) h0 hst w) (cwV 1 hts (zx_gV hT wd_572 wd_223 wd_224 wd_2 wd_225) rfl rfl rfl (by decide +kernel) ⟨Nat.le_of_ble_eq_true rfl, Nat.le_of_ble_eq_true rfl⟩) (hb_preV hK hX hW t3 (by decide) rfl) rfl rfl hl.1 rfl (lv_room (Nat.le_of_ble_eq_true rfl)) d_TX_textOf_7 ⟨(by show _ ≤ 0; omega), (by show _ ≤ 0; omega)⟩) hW (fun h5 H locs hk hW => ?_)
  obtain ⟨w, mm6⟩ := hk
  have w := w mm6
  have hm := hm.tr mm6
  have t7 := mm6.tg t3 (by decide)
  refine lv_aload_n hx hb d_TX_textOf_10 rfl (lv_at hl 2 rfl) ?_
  obtain ⟨t8, w⟩ := w
  refine hb_alenI hx hb hK hW t8 (by decide) 1 rfl d_TX_textOf_11 ?_
  refine lv_topi (fun v9 ev9 => ?_)
  have w := w v9 ev9
  refine lv_istore_n (lv' := [(3, .int v9), (2, .int v4), (0, .ref a1), (1, .ref a2)]) hx hb d_TX_textOf_12 rfl hl (by decide) rfl (fun ls hl => ?_)
  refine lv_iconst (v := 0) hx hb d_TX_textOf_13 (by decide) ?_
  refine lv_istore (lv' := [(4, .int (0 : Int32)), (3, .int v9), (2, .int v4), (0, .ref a1), (1, .ref a2)]) hx hb d_TX_textOf_14 hl (by decide) rfl (fun ls hl => ?_)
  obtain ⟨k60, w⟩ := w
  refine tl_TX_textOf_16 C (by omega) (by omega) (fun x24 x25 x26 h27 H locs ls w hm hW hl => ?_) k60 a1 a2 v4 v9 (0 : Int32) h5 _ _ _ w hm hW (lv_sub hl [3, 4, 2, 1, 0] rfl)
  · exact tb_TX_textOf_44 C (by omega) (by omega)  x24 x25 x26 h27 _ _ _ w hm hW (lv_sub hl [0, 1, 2] rfl)
