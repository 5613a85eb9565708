theorem d_WH_init_0 : decode b_WH_init 0 = .ok (.aload_n 0, 1) := by decide +kernel
theorem d_WH_init_1 : decode b_WH_init 1 = .ok (.invokespecial 3, 3) := by decide +kernel
theorem d_WH_init_4 : decode b_WH_init 4 = .ok (.aload_n 0, 1) := by decide +kernel
theorem d_WH_init_5 : decode b_WH_init 5 = .ok (.sipush 258, 3) := by decide +kernel
theorem d_WH_init_8 : decode b_WH_init 8 = .ok (.newarray .long, 2) := by decide +kernel
theorem d_WH_init_10 : decode b_WH_init 10 = .ok (.putfield 9, 3) := by decide +kernel
theorem d_WH_init_13 : decode b_WH_init 13 = .ok (.aload_n 0, 1) := by decide +kernel
theorem d_WH_init_14 : decode b_WH_init 14 = .ok (.iconst 0, 1) := by decide +kernel
theorem d_WH_init_15 : decode b_WH_init 15 = .ok (.putfield 15, 3) := by decide +kernel
theorem d_WH_init_18 : decode b_WH_init 18 = .ok (.aload_n 0, 1) := by decide +kernel
theorem d_WH_init_19 : decode b_WH_init 19 = .ok (.iconst 0, 1) := by decide +kernel
theorem d_WH_init_20 : decode b_WH_init 20 = .ok (.putfield 19, 3) := by decide +kernel
theorem d_WH_init_23 : decode b_WH_init 23 = .ok (.return_, 1) := by decide +kernel
theorem d_WH_settle_0 : decode b_WH_settle 0 = .ok (.iload_n 1, 1) := by decide +kernel
theorem d_WH_settle_1 : decode b_WH_settle 1 = .ok (.istore_n 2, 1) := by decide +kernel
theorem d_WH_settle_2 : decode b_WH_settle 2 = .ok (.iload_n 2, 1) := by decide +kernel
theorem d_WH_settle_3 : decode b_WH_settle 3 = .ok (.aload_n 0, 1) := by decide +kernel
theorem d_WH_settle_4 : decode b_WH_settle 4 = .ok (.getfield 15, 3) := by decide +kernel
theorem d_WH_settle_7 : decode b_WH_settle 7 = .ok (.if_icmp .ge 16, 3) := by decide +kernel
theorem d_WH_settle_10 : decode b_WH_settle 10 = .ok (.aload_n 0, 1) := by decide +kernel
theorem d_WH_settle_11 : decode b_WH_settle 11 = .ok (.getfield 9, 3) := by decide +kernel
theorem d_WH_settle_14 : decode b_WH_settle 14 = .ok (.iload_n 2, 1) := by decide +kernel
theorem d_WH_settle_15 : decode b_WH_settle 15 = .ok (.lconst 0, 1) := by decide +kernel
theorem d_WH_settle_16 : decode b_WH_settle 16 = .ok (.lastore, 1) := by decide +kernel
theorem d_WH_settle_17 : decode b_WH_settle 17 = .ok (.iinc 2 1, 3) := by decide +kernel
theorem d_WH_settle_20 : decode b_WH_settle 20 = .ok (.goto (-18), 3) := by decide +kernel
theorem d_WH_settle_23 : decode b_WH_settle 23 = .ok (.aload_n 0, 1) := by decide +kernel
theorem d_WH_settle_24 : decode b_WH_settle 24 = .ok (.iload_n 1, 1) := by decide +kernel
theorem d_WH_settle_25 : decode b_WH_settle 25 = .ok (.putfield 15, 3) := by decide +kernel
theorem d_WH_settle_28 : decode b_WH_settle 28 = .ok (.aload_n 0, 1) := by decide +kernel
theorem d_WH_settle_29 : decode b_WH_settle 29 = .ok (.getfield 15, 3) := by decide +kernel
theorem d_WH_settle_32 : decode b_WH_settle 32 = .ok (.ifCond .le 32, 3) := by decide +kernel
theorem d_WH_settle_35 : decode b_WH_settle 35 = .ok (.aload_n 0, 1) := by decide +kernel
theorem d_WH_settle_36 : decode b_WH_settle 36 = .ok (.getfield 9, 3) := by decide +kernel
theorem d_WH_settle_39 : decode b_WH_settle 39 = .ok (.aload_n 0, 1) := by decide +kernel
theorem d_WH_settle_40 : decode b_WH_settle 40 = .ok (.getfield 15, 3) := by decide +kernel
theorem d_WH_settle_43 : decode b_WH_settle 43 = .ok (.iconst 1, 1) := by decide +kernel
theorem d_WH_settle_44 : decode b_WH_settle 44 = .ok (.isub, 1) := by decide +kernel
theorem d_WH_settle_45 : decode b_WH_settle 45 = .ok (.laload, 1) := by decide +kernel
theorem d_WH_settle_46 : decode b_WH_settle 46 = .ok (.lconst 0, 1) := by decide +kernel
theorem d_WH_settle_47 : decode b_WH_settle 47 = .ok (.lcmp, 1) := by decide +kernel
theorem d_WH_settle_48 : decode b_WH_settle 48 = .ok (.ifCond .ne 16, 3) := by decide +kernel
theorem d_WH_settle_51 : decode b_WH_settle 51 = .ok (.aload_n 0, 1) := by decide +kernel
theorem d_WH_settle_52 : decode b_WH_settle 52 = .ok (.dup, 1) := by decide +kernel
theorem d_WH_settle_53 : decode b_WH_settle 53 = .ok (.getfield 15, 3) := by decide +kernel
theorem d_WH_settle_56 : decode b_WH_settle 56 = .ok (.iconst 1, 1) := by decide +kernel
theorem d_WH_settle_57 : decode b_WH_settle 57 = .ok (.isub, 1) := by decide +kernel
theorem d_WH_settle_58 : decode b_WH_settle 58 = .ok (.putfield 15, 3) := by decide +kernel
theorem d_WH_settle_61 : decode b_WH_settle 61 = .ok (.goto (-33), 3) := by decide +kernel
theorem d_WH_settle_64 : decode b_WH_settle 64 = .ok (.return_, 1) := by decide +kernel
theorem d_WH_markSign_0 : decode b_WH_markSign 0 = .ok (.aload_n 0, 1) := by decide +kernel
theorem d_WH_markSign_1 : decode b_WH_markSign 1 = .ok (.iload_n 1, 1) := by decide +kernel
theorem d_WH_markSign_2 : decode b_WH_markSign 2 = .ok (.ifCond .eq 14, 3) := by decide +kernel
theorem d_WH_markSign_5 : decode b_WH_markSign 5 = .ok (.aload_n 0, 1) := by decide +kernel
theorem d_WH_markSign_6 : decode b_WH_markSign 6 = .ok (.getfield 15, 3) := by decide +kernel
theorem d_WH_markSign_9 : decode b_WH_markSign 9 = .ok (.ifCond .le 7, 3) := by decide +kernel
theorem d_WH_markSign_12 : decode b_WH_markSign 12 = .ok (.iconst 1, 1) := by decide +kernel
theorem d_WH_markSign_13 : decode b_WH_markSign 13 = .ok (.goto 4, 3) := by decide +kernel
theorem d_WH_markSign_16 : decode b_WH_markSign 16 = .ok (.iconst 0, 1) := by decide +kernel
theorem d_WH_markSign_17 : decode b_WH_markSign 17 = .ok (.putfield 19, 3) := by decide +kernel
theorem d_WH_markSign_20 : decode b_WH_markSign 20 = .ok (.return_, 1) := by decide +kernel
theorem d_WH_becomeLong_0 : decode b_WH_becomeLong 0 = .ok (.lload_n 1, 1) := by decide +kernel
theorem d_WH_becomeLong_1 : decode b_WH_becomeLong 1 = .ok (.lconst 0, 1) := by decide +kernel
theorem d_WH_becomeLong_2 : decode b_WH_becomeLong 2 = .ok (.lcmp, 1) := by decide +kernel
theorem d_WH_becomeLong_3 : decode b_WH_becomeLong 3 = .ok (.ifCond .ge 8, 3) := by decide +kernel
theorem d_WH_becomeLong_6 : decode b_WH_becomeLong 6 = .ok (.lload_n 1, 1) := by decide +kernel
theorem d_WH_becomeLong_7 : decode b_WH_becomeLong 7 = .ok (.lneg, 1) := by decide +kernel
theorem d_WH_becomeLong_8 : decode b_WH_becomeLong 8 = .ok (.goto 4, 3) := by decide +kernel
theorem d_WH_becomeLong_11 : decode b_WH_becomeLong 11 = .ok (.lload_n 1, 1) := by decide +kernel
theorem d_WH_becomeLong_12 : decode b_WH_becomeLong 12 = .ok (.lstore_n 3, 1) := by decide +kernel
theorem d_WH_becomeLong_13 : decode b_WH_becomeLong 13 = .ok (.aload_n 0, 1) := by decide +kernel
theorem d_WH_becomeLong_14 : decode b_WH_becomeLong 14 = .ok (.getfield 9, 3) := by decide +kernel
theorem d_WH_becomeLong_17 : decode b_WH_becomeLong 17 = .ok (.iconst 0, 1) := by decide +kernel
theorem d_WH_becomeLong_18 : decode b_WH_becomeLong 18 = .ok (.lload_n 3, 1) := by decide +kernel
theorem d_WH_becomeLong_19 : decode b_WH_becomeLong 19 = .ok (.ldc2_w 33, 3) := by decide +kernel
theorem d_WH_becomeLong_22 : decode b_WH_becomeLong 22 = .ok (.land, 1) := by decide +kernel
theorem d_WH_becomeLong_23 : decode b_WH_becomeLong 23 = .ok (.lastore, 1) := by decide +kernel
theorem d_WH_becomeLong_24 : decode b_WH_becomeLong 24 = .ok (.aload_n 0, 1) := by decide +kernel
theorem d_WH_becomeLong_25 : decode b_WH_becomeLong 25 = .ok (.getfield 9, 3) := by decide +kernel
theorem d_WH_becomeLong_28 : decode b_WH_becomeLong 28 = .ok (.iconst 1, 1) := by decide +kernel
theorem d_WH_becomeLong_29 : decode b_WH_becomeLong 29 = .ok (.lload_n 3, 1) := by decide +kernel
theorem d_WH_becomeLong_30 : decode b_WH_becomeLong 30 = .ok (.bipush 32, 2) := by decide +kernel
theorem d_WH_becomeLong_32 : decode b_WH_becomeLong 32 = .ok (.lushr, 1) := by decide +kernel
theorem d_WH_becomeLong_33 : decode b_WH_becomeLong 33 = .ok (.lastore, 1) := by decide +kernel
theorem d_WH_becomeLong_34 : decode b_WH_becomeLong 34 = .ok (.aload_n 0, 1) := by decide +kernel
theorem d_WH_becomeLong_35 : decode b_WH_becomeLong 35 = .ok (.iconst 2, 1) := by decide +kernel
theorem d_WH_becomeLong_36 : decode b_WH_becomeLong 36 = .ok (.invokevirtual 23, 3) := by decide +kernel
theorem d_WH_becomeLong_39 : decode b_WH_becomeLong 39 = .ok (.aload_n 0, 1) := by decide +kernel
theorem d_WH_becomeLong_40 : decode b_WH_becomeLong 40 = .ok (.lload_n 1, 1) := by decide +kernel
theorem d_WH_becomeLong_41 : decode b_WH_becomeLong 41 = .ok (.lconst 0, 1) := by decide +kernel
theorem d_WH_becomeLong_42 : decode b_WH_becomeLong 42 = .ok (.lcmp, 1) := by decide +kernel
theorem d_WH_becomeLong_43 : decode b_WH_becomeLong 43 = .ok (.ifCond .ge 7, 3) := by decide +kernel
theorem d_WH_becomeLong_46 : decode b_WH_becomeLong 46 = .ok (.iconst 1, 1) := by decide +kernel
theorem d_WH_becomeLong_47 : decode b_WH_becomeLong 47 = .ok (.goto 4, 3) := by decide +kernel
theorem d_WH_becomeLong_50 : decode b_WH_becomeLong 50 = .ok (.iconst 0, 1) := by decide +kernel
theorem d_WH_becomeLong_51 : decode b_WH_becomeLong 51 = .ok (.invokevirtual 35, 3) := by decide +kernel
theorem d_WH_becomeLong_54 : decode b_WH_becomeLong 54 = .ok (.return_, 1) := by decide +kernel
theorem d_WH_become_0 : decode b_WH_become 0 = .ok (.aload_n 1, 1) := by decide +kernel
theorem d_WH_become_1 : decode b_WH_become 1 = .ok (.getfield 9, 3) := by decide +kernel
theorem d_WH_become_4 : decode b_WH_become 4 = .ok (.iconst 0, 1) := by decide +kernel
theorem d_WH_become_5 : decode b_WH_become 5 = .ok (.aload_n 0, 1) := by decide +kernel
theorem d_WH_become_6 : decode b_WH_become 6 = .ok (.getfield 9, 3) := by decide +kernel
theorem d_WH_become_9 : decode b_WH_become 9 = .ok (.iconst 0, 1) := by decide +kernel
theorem d_WH_become_10 : decode b_WH_become 10 = .ok (.sipush 258, 3) := by decide +kernel
theorem d_WH_become_13 : decode b_WH_become 13 = .ok (.invokestatic 27, 3) := by decide +kernel
theorem d_WH_become_16 : decode b_WH_become 16 = .ok (.aload_n 0, 1) := by decide +kernel
theorem d_WH_become_17 : decode b_WH_become 17 = .ok (.aload_n 1, 1) := by decide +kernel
theorem d_WH_become_18 : decode b_WH_become 18 = .ok (.getfield 15, 3) := by decide +kernel
theorem d_WH_become_21 : decode b_WH_become 21 = .ok (.putfield 15, 3) := by decide +kernel
theorem d_WH_become_24 : decode b_WH_become 24 = .ok (.aload_n 0, 1) := by decide +kernel
theorem d_WH_become_25 : decode b_WH_become 25 = .ok (.aload_n 1, 1) := by decide +kernel
theorem d_WH_become_26 : decode b_WH_become 26 = .ok (.getfield 19, 3) := by decide +kernel
theorem d_WH_become_29 : decode b_WH_become 29 = .ok (.putfield 19, 3) := by decide +kernel
theorem d_WH_become_32 : decode b_WH_become 32 = .ok (.return_, 1) := by decide +kernel
theorem d_WH_bitsOf_0 : decode b_WH_bitsOf 0 = .ok (.iconst 0, 1) := by decide +kernel
theorem d_WH_bitsOf_1 : decode b_WH_bitsOf 1 = .ok (.istore_n 2, 1) := by decide +kernel
theorem d_WH_bitsOf_2 : decode b_WH_bitsOf 2 = .ok (.iload_n 2, 1) := by decide +kernel
theorem d_WH_bitsOf_3 : decode b_WH_bitsOf 3 = .ok (.bipush 32, 2) := by decide +kernel
theorem d_WH_bitsOf_5 : decode b_WH_bitsOf 5 = .ok (.if_icmp .ge 17, 3) := by decide +kernel
theorem d_WH_bitsOf_8 : decode b_WH_bitsOf 8 = .ok (.lload_n 0, 1) := by decide +kernel
theorem d_WH_bitsOf_9 : decode b_WH_bitsOf 9 = .ok (.iload_n 2, 1) := by decide +kernel
theorem d_WH_bitsOf_10 : decode b_WH_bitsOf 10 = .ok (.lushr, 1) := by decide +kernel
theorem d_WH_bitsOf_11 : decode b_WH_bitsOf 11 = .ok (.lconst 0, 1) := by decide +kernel
theorem d_WH_bitsOf_12 : decode b_WH_bitsOf 12 = .ok (.lcmp, 1) := by decide +kernel
theorem d_WH_bitsOf_13 : decode b_WH_bitsOf 13 = .ok (.ifCond .eq 9, 3) := by decide +kernel
theorem d_WH_bitsOf_16 : decode b_WH_bitsOf 16 = .ok (.iinc 2 1, 3) := by decide +kernel
theorem d_WH_bitsOf_19 : decode b_WH_bitsOf 19 = .ok (.goto (-17), 3) := by decide +kernel
theorem d_WH_bitsOf_22 : decode b_WH_bitsOf 22 = .ok (.iload_n 2, 1) := by decide +kernel
theorem d_WH_bitsOf_23 : decode b_WH_bitsOf 23 = .ok (.ireturn, 1) := by decide +kernel
theorem d_WH_bits_0 : decode b_WH_bits 0 = .ok (.aload_n 0, 1) := by decide +kernel
theorem d_WH_bits_1 : decode b_WH_bits 1 = .ok (.getfield 15, 3) := by decide +kernel
theorem d_WH_bits_4 : decode b_WH_bits 4 = .ok (.ifCond .le 30, 3) := by decide +kernel
theorem d_WH_bits_7 : decode b_WH_bits 7 = .ok (.bipush 32, 2) := by decide +kernel
theorem d_WH_bits_9 : decode b_WH_bits 9 = .ok (.aload_n 0, 1) := by decide +kernel
theorem d_WH_bits_10 : decode b_WH_bits 10 = .ok (.getfield 15, 3) := by decide +kernel
theorem d_WH_bits_13 : decode b_WH_bits 13 = .ok (.iconst 1, 1) := by decide +kernel
theorem d_WH_bits_14 : decode b_WH_bits 14 = .ok (.isub, 1) := by decide +kernel
theorem d_WH_bits_15 : decode b_WH_bits 15 = .ok (.imul, 1) := by decide +kernel
theorem d_WH_bits_16 : decode b_WH_bits 16 = .ok (.aload_n 0, 1) := by decide +kernel
theorem d_WH_bits_17 : decode b_WH_bits 17 = .ok (.getfield 9, 3) := by decide +kernel
theorem d_WH_bits_20 : decode b_WH_bits 20 = .ok (.aload_n 0, 1) := by decide +kernel
theorem d_WH_bits_21 : decode b_WH_bits 21 = .ok (.getfield 15, 3) := by decide +kernel
theorem d_WH_bits_24 : decode b_WH_bits 24 = .ok (.iconst 1, 1) := by decide +kernel
theorem d_WH_bits_25 : decode b_WH_bits 25 = .ok (.isub, 1) := by decide +kernel
theorem d_WH_bits_26 : decode b_WH_bits 26 = .ok (.laload, 1) := by decide +kernel
theorem d_WH_bits_27 : decode b_WH_bits 27 = .ok (.invokestatic 52, 3) := by decide +kernel
theorem d_WH_bits_30 : decode b_WH_bits 30 = .ok (.iadd, 1) := by decide +kernel
theorem d_WH_bits_31 : decode b_WH_bits 31 = .ok (.goto 4, 3) := by decide +kernel
theorem d_WH_bits_34 : decode b_WH_bits 34 = .ok (.iconst 0, 1) := by decide +kernel
theorem d_WH_bits_35 : decode b_WH_bits 35 = .ok (.ireturn, 1) := by decide +kernel
theorem d_WH_at_0 : decode b_WH_at 0 = .ok (.iload_n 1, 1) := by decide +kernel
theorem d_WH_at_1 : decode b_WH_at 1 = .ok (.ifCond .lt 19, 3) := by decide +kernel
theorem d_WH_at_4 : decode b_WH_at 4 = .ok (.iload_n 1, 1) := by decide +kernel
theorem d_WH_at_5 : decode b_WH_at 5 = .ok (.sipush 258, 3) := by decide +kernel
theorem d_WH_at_8 : decode b_WH_at 8 = .ok (.if_icmp .ge 12, 3) := by decide +kernel
theorem d_WH_at_11 : decode b_WH_at 11 = .ok (.aload_n 0, 1) := by decide +kernel
theorem d_WH_at_12 : decode b_WH_at 12 = .ok (.getfield 9, 3) := by decide +kernel
theorem d_WH_at_15 : decode b_WH_at 15 = .ok (.iload_n 1, 1) := by decide +kernel
theorem d_WH_at_16 : decode b_WH_at 16 = .ok (.laload, 1) := by decide +kernel
theorem d_WH_at_17 : decode b_WH_at 17 = .ok (.goto 4, 3) := by decide +kernel
theorem d_WH_at_20 : decode b_WH_at 20 = .ok (.lconst 0, 1) := by decide +kernel
theorem d_WH_at_21 : decode b_WH_at 21 = .ok (.lreturn, 1) := by decide +kernel
theorem d_WH_becomeShiftedUp_0 : decode b_WH_becomeShiftedUp 0 = .ok (.iload_n 2, 1) := by decide +kernel
theorem d_WH_becomeShiftedUp_1 : decode b_WH_becomeShiftedUp 1 = .ok (.bipush 32, 2) := by decide +kernel
theorem d_WH_becomeShiftedUp_3 : decode b_WH_becomeShiftedUp 3 = .ok (.idiv, 1) := by decide +kernel
theorem d_WH_becomeShiftedUp_4 : decode b_WH_becomeShiftedUp 4 = .ok (.istore_n 3, 1) := by decide +kernel
theorem d_WH_becomeShiftedUp_5 : decode b_WH_becomeShiftedUp 5 = .ok (.iload_n 2, 1) := by decide +kernel
theorem d_WH_becomeShiftedUp_6 : decode b_WH_becomeShiftedUp 6 = .ok (.bipush 32, 2) := by decide +kernel
theorem d_WH_becomeShiftedUp_8 : decode b_WH_becomeShiftedUp 8 = .ok (.irem, 1) := by decide +kernel
theorem d_WH_becomeShiftedUp_9 : decode b_WH_becomeShiftedUp 9 = .ok (.istore 4, 2) := by decide +kernel
theorem d_WH_becomeShiftedUp_11 : decode b_WH_becomeShiftedUp 11 = .ok (.aload_n 1, 1) := by decide +kernel
theorem d_WH_becomeShiftedUp_12 : decode b_WH_becomeShiftedUp 12 = .ok (.getfield 15, 3) := by decide +kernel
theorem d_WH_becomeShiftedUp_15 : decode b_WH_becomeShiftedUp 15 = .ok (.iload_n 3, 1) := by decide +kernel
theorem d_WH_becomeShiftedUp_16 : decode b_WH_becomeShiftedUp 16 = .ok (.iadd, 1) := by decide +kernel
theorem d_WH_becomeShiftedUp_17 : decode b_WH_becomeShiftedUp 17 = .ok (.iconst 1, 1) := by decide +kernel
theorem d_WH_becomeShiftedUp_18 : decode b_WH_becomeShiftedUp 18 = .ok (.iadd, 1) := by decide +kernel
theorem d_WH_becomeShiftedUp_19 : decode b_WH_becomeShiftedUp 19 = .ok (.sipush 258, 3) := by decide +kernel
theorem d_WH_becomeShiftedUp_22 : decode b_WH_becomeShiftedUp 22 = .ok (.invokestatic 39, 3) := by decide +kernel
theorem d_WH_becomeShiftedUp_25 : decode b_WH_becomeShiftedUp 25 = .ok (.istore 5, 2) := by decide +kernel
theorem d_WH_becomeShiftedUp_27 : decode b_WH_becomeShiftedUp 27 = .ok (.iload 5, 2) := by decide +kernel
theorem d_WH_becomeShiftedUp_29 : decode b_WH_becomeShiftedUp 29 = .ok (.iconst 1, 1) := by decide +kernel
theorem d_WH_becomeShiftedUp_30 : decode b_WH_becomeShiftedUp 30 = .ok (.isub, 1) := by decide +kernel
theorem d_WH_becomeShiftedUp_31 : decode b_WH_becomeShiftedUp 31 = .ok (.istore 6, 2) := by decide +kernel
theorem d_WH_becomeShiftedUp_33 : decode b_WH_becomeShiftedUp 33 = .ok (.iload 6, 2) := by decide +kernel
theorem d_WH_becomeShiftedUp_35 : decode b_WH_becomeShiftedUp 35 = .ok (.ifCond .lt 52, 3) := by decide +kernel
theorem d_WH_becomeShiftedUp_38 : decode b_WH_becomeShiftedUp 38 = .ok (.aload_n 1, 1) := by decide +kernel
theorem d_WH_becomeShiftedUp_39 : decode b_WH_becomeShiftedUp 39 = .ok (.iload 6, 2) := by decide +kernel
theorem d_WH_becomeShiftedUp_41 : decode b_WH_becomeShiftedUp 41 = .ok (.iload_n 3, 1) := by decide +kernel
theorem d_WH_becomeShiftedUp_42 : decode b_WH_becomeShiftedUp 42 = .ok (.isub, 1) := by decide +kernel
theorem d_WH_becomeShiftedUp_43 : decode b_WH_becomeShiftedUp 43 = .ok (.iconst 1, 1) := by decide +kernel
theorem d_WH_becomeShiftedUp_44 : decode b_WH_becomeShiftedUp 44 = .ok (.isub, 1) := by decide +kernel
theorem d_WH_becomeShiftedUp_45 : decode b_WH_becomeShiftedUp 45 = .ok (.invokevirtual 45, 3) := by decide +kernel
theorem d_WH_becomeShiftedUp_48 : decode b_WH_becomeShiftedUp 48 = .ok (.bipush 32, 2) := by decide +kernel
theorem d_WH_becomeShiftedUp_50 : decode b_WH_becomeShiftedUp 50 = .ok (.iload 4, 2) := by decide +kernel
theorem d_WH_becomeShiftedUp_52 : decode b_WH_becomeShiftedUp 52 = .ok (.isub, 1) := by decide +kernel
theorem d_WH_becomeShiftedUp_53 : decode b_WH_becomeShiftedUp 53 = .ok (.lushr, 1) := by decide +kernel
theorem d_WH_becomeShiftedUp_54 : decode b_WH_becomeShiftedUp 54 = .ok (.lstore 7, 2) := by decide +kernel
theorem d_WH_becomeShiftedUp_56 : decode b_WH_becomeShiftedUp 56 = .ok (.aload_n 0, 1) := by decide +kernel
theorem d_WH_becomeShiftedUp_57 : decode b_WH_becomeShiftedUp 57 = .ok (.getfield 9, 3) := by decide +kernel
theorem d_WH_becomeShiftedUp_60 : decode b_WH_becomeShiftedUp 60 = .ok (.iload 6, 2) := by decide +kernel
theorem d_WH_becomeShiftedUp_62 : decode b_WH_becomeShiftedUp 62 = .ok (.aload_n 1, 1) := by decide +kernel
theorem d_WH_becomeShiftedUp_63 : decode b_WH_becomeShiftedUp 63 = .ok (.iload 6, 2) := by decide +kernel
theorem d_WH_becomeShiftedUp_65 : decode b_WH_becomeShiftedUp 65 = .ok (.iload_n 3, 1) := by decide +kernel
theorem d_WH_becomeShiftedUp_66 : decode b_WH_becomeShiftedUp 66 = .ok (.isub, 1) := by decide +kernel
theorem d_WH_becomeShiftedUp_67 : decode b_WH_becomeShiftedUp 67 = .ok (.invokevirtual 45, 3) := by decide +kernel
theorem d_WH_becomeShiftedUp_70 : decode b_WH_becomeShiftedUp 70 = .ok (.iload 4, 2) := by decide +kernel
theorem d_WH_becomeShiftedUp_72 : decode b_WH_becomeShiftedUp 72 = .ok (.lshl, 1) := by decide +kernel
theorem d_WH_becomeShiftedUp_73 : decode b_WH_becomeShiftedUp 73 = .ok (.lload 7, 2) := by decide +kernel
theorem d_WH_becomeShiftedUp_75 : decode b_WH_becomeShiftedUp 75 = .ok (.lor, 1) := by decide +kernel
theorem d_WH_becomeShiftedUp_76 : decode b_WH_becomeShiftedUp 76 = .ok (.ldc2_w 33, 3) := by decide +kernel
theorem d_WH_becomeShiftedUp_79 : decode b_WH_becomeShiftedUp 79 = .ok (.land, 1) := by decide +kernel
theorem d_WH_becomeShiftedUp_80 : decode b_WH_becomeShiftedUp 80 = .ok (.lastore, 1) := by decide +kernel
theorem d_WH_becomeShiftedUp_81 : decode b_WH_becomeShiftedUp 81 = .ok (.iinc 6 (-1), 3) := by decide +kernel
theorem d_WH_becomeShiftedUp_84 : decode b_WH_becomeShiftedUp 84 = .ok (.goto (-51), 3) := by decide +kernel
theorem d_WH_becomeShiftedUp_87 : decode b_WH_becomeShiftedUp 87 = .ok (.aload_n 0, 1) := by decide +kernel
theorem d_WH_becomeShiftedUp_88 : decode b_WH_becomeShiftedUp 88 = .ok (.iload 5, 2) := by decide +kernel
theorem d_WH_becomeShiftedUp_90 : decode b_WH_becomeShiftedUp 90 = .ok (.invokevirtual 23, 3) := by decide +kernel
theorem d_WH_becomeShiftedUp_93 : decode b_WH_becomeShiftedUp 93 = .ok (.return_, 1) := by decide +kernel
theorem d_WH_becomeShiftedDown_0 : decode b_WH_becomeShiftedDown 0 = .ok (.iload_n 2, 1) := by decide +kernel
theorem d_WH_becomeShiftedDown_1 : decode b_WH_becomeShiftedDown 1 = .ok (.bipush 32, 2) := by decide +kernel
theorem d_WH_becomeShiftedDown_3 : decode b_WH_becomeShiftedDown 3 = .ok (.idiv, 1) := by decide +kernel
theorem d_WH_becomeShiftedDown_4 : decode b_WH_becomeShiftedDown 4 = .ok (.istore_n 3, 1) := by decide +kernel
theorem d_WH_becomeShiftedDown_5 : decode b_WH_becomeShiftedDown 5 = .ok (.iload_n 2, 1) := by decide +kernel
theorem d_WH_becomeShiftedDown_6 : decode b_WH_becomeShiftedDown 6 = .ok (.bipush 32, 2) := by decide +kernel
theorem d_WH_becomeShiftedDown_8 : decode b_WH_becomeShiftedDown 8 = .ok (.irem, 1) := by decide +kernel
theorem d_WH_becomeShiftedDown_9 : decode b_WH_becomeShiftedDown 9 = .ok (.istore 4, 2) := by decide +kernel
theorem d_WH_becomeShiftedDown_11 : decode b_WH_becomeShiftedDown 11 = .ok (.aload_n 1, 1) := by decide +kernel
theorem d_WH_becomeShiftedDown_12 : decode b_WH_becomeShiftedDown 12 = .ok (.getfield 15, 3) := by decide +kernel
theorem d_WH_becomeShiftedDown_15 : decode b_WH_becomeShiftedDown 15 = .ok (.iload_n 3, 1) := by decide +kernel
theorem d_WH_becomeShiftedDown_16 : decode b_WH_becomeShiftedDown 16 = .ok (.isub, 1) := by decide +kernel
theorem d_WH_becomeShiftedDown_17 : decode b_WH_becomeShiftedDown 17 = .ok (.iconst 0, 1) := by decide +kernel
theorem d_WH_becomeShiftedDown_18 : decode b_WH_becomeShiftedDown 18 = .ok (.invokestatic 49, 3) := by decide +kernel
theorem d_WH_becomeShiftedDown_21 : decode b_WH_becomeShiftedDown 21 = .ok (.istore 5, 2) := by decide +kernel
theorem d_WH_becomeShiftedDown_23 : decode b_WH_becomeShiftedDown 23 = .ok (.iconst 0, 1) := by decide +kernel
theorem d_WH_becomeShiftedDown_24 : decode b_WH_becomeShiftedDown 24 = .ok (.istore 6, 2) := by decide +kernel
theorem d_WH_becomeShiftedDown_26 : decode b_WH_becomeShiftedDown 26 = .ok (.iload 6, 2) := by decide +kernel
theorem d_WH_becomeShiftedDown_28 : decode b_WH_becomeShiftedDown 28 = .ok (.iload 5, 2) := by decide +kernel
theorem d_WH_becomeShiftedDown_30 : decode b_WH_becomeShiftedDown 30 = .ok (.if_icmp .ge 52, 3) := by decide +kernel
theorem d_WH_becomeShiftedDown_33 : decode b_WH_becomeShiftedDown 33 = .ok (.aload_n 1, 1) := by decide +kernel
theorem d_WH_becomeShiftedDown_34 : decode b_WH_becomeShiftedDown 34 = .ok (.iload 6, 2) := by decide +kernel
theorem d_WH_becomeShiftedDown_36 : decode b_WH_becomeShiftedDown 36 = .ok (.iload_n 3, 1) := by decide +kernel
theorem d_WH_becomeShiftedDown_37 : decode b_WH_becomeShiftedDown 37 = .ok (.iadd, 1) := by decide +kernel
theorem d_WH_becomeShiftedDown_38 : decode b_WH_becomeShiftedDown 38 = .ok (.iconst 1, 1) := by decide +kernel
theorem d_WH_becomeShiftedDown_39 : decode b_WH_becomeShiftedDown 39 = .ok (.iadd, 1) := by decide +kernel
theorem d_WH_becomeShiftedDown_40 : decode b_WH_becomeShiftedDown 40 = .ok (.invokevirtual 45, 3) := by decide +kernel
theorem d_WH_becomeShiftedDown_43 : decode b_WH_becomeShiftedDown 43 = .ok (.bipush 32, 2) := by decide +kernel
theorem d_WH_becomeShiftedDown_45 : decode b_WH_becomeShiftedDown 45 = .ok (.iload 4, 2) := by decide +kernel
theorem d_WH_becomeShiftedDown_47 : decode b_WH_becomeShiftedDown 47 = .ok (.isub, 1) := by decide +kernel
theorem d_WH_becomeShiftedDown_48 : decode b_WH_becomeShiftedDown 48 = .ok (.lshl, 1) := by decide +kernel
theorem d_WH_becomeShiftedDown_49 : decode b_WH_becomeShiftedDown 49 = .ok (.lstore 7, 2) := by decide +kernel
theorem d_WH_becomeShiftedDown_51 : decode b_WH_becomeShiftedDown 51 = .ok (.aload_n 0, 1) := by decide +kernel
theorem d_WH_becomeShiftedDown_52 : decode b_WH_becomeShiftedDown 52 = .ok (.getfield 9, 3) := by decide +kernel
theorem d_WH_becomeShiftedDown_55 : decode b_WH_becomeShiftedDown 55 = .ok (.iload 6, 2) := by decide +kernel
theorem d_WH_becomeShiftedDown_57 : decode b_WH_becomeShiftedDown 57 = .ok (.aload_n 1, 1) := by decide +kernel
theorem d_WH_becomeShiftedDown_58 : decode b_WH_becomeShiftedDown 58 = .ok (.iload 6, 2) := by decide +kernel
theorem d_WH_becomeShiftedDown_60 : decode b_WH_becomeShiftedDown 60 = .ok (.iload_n 3, 1) := by decide +kernel
theorem d_WH_becomeShiftedDown_61 : decode b_WH_becomeShiftedDown 61 = .ok (.iadd, 1) := by decide +kernel
theorem d_WH_becomeShiftedDown_62 : decode b_WH_becomeShiftedDown 62 = .ok (.invokevirtual 45, 3) := by decide +kernel
theorem d_WH_becomeShiftedDown_65 : decode b_WH_becomeShiftedDown 65 = .ok (.iload 4, 2) := by decide +kernel
theorem d_WH_becomeShiftedDown_67 : decode b_WH_becomeShiftedDown 67 = .ok (.lushr, 1) := by decide +kernel
theorem d_WH_becomeShiftedDown_68 : decode b_WH_becomeShiftedDown 68 = .ok (.lload 7, 2) := by decide +kernel
theorem d_WH_becomeShiftedDown_70 : decode b_WH_becomeShiftedDown 70 = .ok (.lor, 1) := by decide +kernel
theorem d_WH_becomeShiftedDown_71 : decode b_WH_becomeShiftedDown 71 = .ok (.ldc2_w 33, 3) := by decide +kernel
theorem d_WH_becomeShiftedDown_74 : decode b_WH_becomeShiftedDown 74 = .ok (.land, 1) := by decide +kernel
theorem d_WH_becomeShiftedDown_75 : decode b_WH_becomeShiftedDown 75 = .ok (.lastore, 1) := by decide +kernel
theorem d_WH_becomeShiftedDown_76 : decode b_WH_becomeShiftedDown 76 = .ok (.iinc 6 1, 3) := by decide +kernel
theorem d_WH_becomeShiftedDown_79 : decode b_WH_becomeShiftedDown 79 = .ok (.goto (-53), 3) := by decide +kernel
theorem d_WH_becomeShiftedDown_82 : decode b_WH_becomeShiftedDown 82 = .ok (.aload_n 0, 1) := by decide +kernel
theorem d_WH_becomeShiftedDown_83 : decode b_WH_becomeShiftedDown 83 = .ok (.iload 5, 2) := by decide +kernel
theorem d_WH_becomeShiftedDown_85 : decode b_WH_becomeShiftedDown 85 = .ok (.invokevirtual 23, 3) := by decide +kernel
theorem d_WH_becomeShiftedDown_88 : decode b_WH_becomeShiftedDown 88 = .ok (.return_, 1) := by decide +kernel
theorem d_WH_endingZeros_0 : decode b_WH_endingZeros 0 = .ok (.iconst 0, 1) := by decide +kernel
theorem d_WH_endingZeros_1 : decode b_WH_endingZeros 1 = .ok (.istore_n 1, 1) := by decide +kernel
theorem d_WH_endingZeros_2 : decode b_WH_endingZeros 2 = .ok (.iload_n 1, 1) := by decide +kernel
theorem d_WH_endingZeros_3 : decode b_WH_endingZeros 3 = .ok (.aload_n 0, 1) := by decide +kernel
theorem d_WH_endingZeros_4 : decode b_WH_endingZeros 4 = .ok (.getfield 15, 3) := by decide +kernel
theorem d_WH_endingZeros_7 : decode b_WH_endingZeros 7 = .ok (.if_icmp .ge 40, 3) := by decide +kernel
theorem d_WH_endingZeros_10 : decode b_WH_endingZeros 10 = .ok (.aload_n 0, 1) := by decide +kernel
theorem d_WH_endingZeros_11 : decode b_WH_endingZeros 11 = .ok (.getfield 9, 3) := by decide +kernel
theorem d_WH_endingZeros_14 : decode b_WH_endingZeros 14 = .ok (.iload_n 1, 1) := by decide +kernel
theorem d_WH_endingZeros_15 : decode b_WH_endingZeros 15 = .ok (.laload, 1) := by decide +kernel
theorem d_WH_endingZeros_16 : decode b_WH_endingZeros 16 = .ok (.lstore_n 2, 1) := by decide +kernel
theorem d_WH_endingZeros_17 : decode b_WH_endingZeros 17 = .ok (.lload_n 2, 1) := by decide +kernel
theorem d_WH_endingZeros_18 : decode b_WH_endingZeros 18 = .ok (.lconst 0, 1) := by decide +kernel
theorem d_WH_endingZeros_19 : decode b_WH_endingZeros 19 = .ok (.lcmp, 1) := by decide +kernel
theorem d_WH_endingZeros_20 : decode b_WH_endingZeros 20 = .ok (.ifCond .eq 21, 3) := by decide +kernel
theorem d_WH_endingZeros_23 : decode b_WH_endingZeros 23 = .ok (.bipush 32, 2) := by decide +kernel
theorem d_WH_endingZeros_25 : decode b_WH_endingZeros 25 = .ok (.iload_n 1, 1) := by decide +kernel
theorem d_WH_endingZeros_26 : decode b_WH_endingZeros 26 = .ok (.imul, 1) := by decide +kernel
theorem d_WH_endingZeros_27 : decode b_WH_endingZeros 27 = .ok (.lload_n 2, 1) := by decide +kernel
theorem d_WH_endingZeros_28 : decode b_WH_endingZeros 28 = .ok (.ldc2_w 56, 3) := by decide +kernel
theorem d_WH_endingZeros_31 : decode b_WH_endingZeros 31 = .ok (.lxor, 1) := by decide +kernel
theorem d_WH_endingZeros_32 : decode b_WH_endingZeros 32 = .ok (.lload_n 2, 1) := by decide +kernel
theorem d_WH_endingZeros_33 : decode b_WH_endingZeros 33 = .ok (.lconst 1, 1) := by decide +kernel
theorem d_WH_endingZeros_34 : decode b_WH_endingZeros 34 = .ok (.lsub, 1) := by decide +kernel
theorem d_WH_endingZeros_35 : decode b_WH_endingZeros 35 = .ok (.land, 1) := by decide +kernel
theorem d_WH_endingZeros_36 : decode b_WH_endingZeros 36 = .ok (.invokestatic 58, 3) := by decide +kernel
theorem d_WH_endingZeros_39 : decode b_WH_endingZeros 39 = .ok (.iadd, 1) := by decide +kernel
theorem d_WH_endingZeros_40 : decode b_WH_endingZeros 40 = .ok (.ireturn, 1) := by decide +kernel
theorem d_WH_endingZeros_41 : decode b_WH_endingZeros 41 = .ok (.iinc 1 1, 3) := by decide +kernel
theorem d_WH_endingZeros_44 : decode b_WH_endingZeros 44 = .ok (.goto (-42), 3) := by decide +kernel
theorem d_WH_endingZeros_47 : decode b_WH_endingZeros 47 = .ok (.iconst 0, 1) := by decide +kernel
theorem d_WH_endingZeros_48 : decode b_WH_endingZeros 48 = .ok (.ireturn, 1) := by decide +kernel
theorem d_WH_addOne_0 : decode b_WH_addOne 0 = .ok (.iconst 0, 1) := by decide +kernel
theorem d_WH_addOne_1 : decode b_WH_addOne 1 = .ok (.istore_n 1, 1) := by decide +kernel
theorem d_WH_addOne_2 : decode b_WH_addOne 2 = .ok (.iload_n 1, 1) := by decide +kernel
theorem d_WH_addOne_3 : decode b_WH_addOne 3 = .ok (.aload_n 0, 1) := by decide +kernel
theorem d_WH_addOne_4 : decode b_WH_addOne 4 = .ok (.getfield 15, 3) := by decide +kernel
theorem d_WH_addOne_7 : decode b_WH_addOne 7 = .ok (.if_icmp .ge 29, 3) := by decide +kernel
theorem d_WH_addOne_10 : decode b_WH_addOne 10 = .ok (.aload_n 0, 1) := by decide +kernel
theorem d_WH_addOne_11 : decode b_WH_addOne 11 = .ok (.getfield 9, 3) := by decide +kernel
theorem d_WH_addOne_14 : decode b_WH_addOne 14 = .ok (.iload_n 1, 1) := by decide +kernel
theorem d_WH_addOne_15 : decode b_WH_addOne 15 = .ok (.laload, 1) := by decide +kernel
theorem d_WH_addOne_16 : decode b_WH_addOne 16 = .ok (.ldc2_w 33, 3) := by decide +kernel
theorem d_WH_addOne_19 : decode b_WH_addOne 19 = .ok (.lcmp, 1) := by decide +kernel
theorem d_WH_addOne_20 : decode b_WH_addOne 20 = .ok (.ifCond .ne 16, 3) := by decide +kernel
theorem d_WH_addOne_23 : decode b_WH_addOne 23 = .ok (.aload_n 0, 1) := by decide +kernel
theorem d_WH_addOne_24 : decode b_WH_addOne 24 = .ok (.getfield 9, 3) := by decide +kernel
theorem d_WH_addOne_27 : decode b_WH_addOne 27 = .ok (.iload_n 1, 1) := by decide +kernel
theorem d_WH_addOne_28 : decode b_WH_addOne 28 = .ok (.lconst 0, 1) := by decide +kernel
theorem d_WH_addOne_29 : decode b_WH_addOne 29 = .ok (.lastore, 1) := by decide +kernel
theorem d_WH_addOne_30 : decode b_WH_addOne 30 = .ok (.iinc 1 1, 3) := by decide +kernel
theorem d_WH_addOne_33 : decode b_WH_addOne 33 = .ok (.goto (-31), 3) := by decide +kernel
theorem d_WH_addOne_36 : decode b_WH_addOne 36 = .ok (.iload_n 1, 1) := by decide +kernel
theorem d_WH_addOne_37 : decode b_WH_addOne 37 = .ok (.sipush 258, 3) := by decide +kernel
theorem d_WH_addOne_40 : decode b_WH_addOne 40 = .ok (.if_icmp .ge 27, 3) := by decide +kernel
theorem d_WH_addOne_43 : decode b_WH_addOne 43 = .ok (.aload_n 0, 1) := by decide +kernel
theorem d_WH_addOne_44 : decode b_WH_addOne 44 = .ok (.getfield 9, 3) := by decide +kernel
theorem d_WH_addOne_47 : decode b_WH_addOne 47 = .ok (.iload_n 1, 1) := by decide +kernel
theorem d_WH_addOne_48 : decode b_WH_addOne 48 = .ok (.dup2, 1) := by decide +kernel
theorem d_WH_addOne_49 : decode b_WH_addOne 49 = .ok (.laload, 1) := by decide +kernel
theorem d_WH_addOne_50 : decode b_WH_addOne 50 = .ok (.lconst 1, 1) := by decide +kernel
theorem d_WH_addOne_51 : decode b_WH_addOne 51 = .ok (.ladd, 1) := by decide +kernel
theorem d_WH_addOne_52 : decode b_WH_addOne 52 = .ok (.lastore, 1) := by decide +kernel
theorem d_WH_addOne_53 : decode b_WH_addOne 53 = .ok (.aload_n 0, 1) := by decide +kernel
theorem d_WH_addOne_54 : decode b_WH_addOne 54 = .ok (.aload_n 0, 1) := by decide +kernel
theorem d_WH_addOne_55 : decode b_WH_addOne 55 = .ok (.getfield 15, 3) := by decide +kernel
theorem d_WH_addOne_58 : decode b_WH_addOne 58 = .ok (.iload_n 1, 1) := by decide +kernel
theorem d_WH_addOne_59 : decode b_WH_addOne 59 = .ok (.iconst 1, 1) := by decide +kernel
theorem d_WH_addOne_60 : decode b_WH_addOne 60 = .ok (.iadd, 1) := by decide +kernel
theorem d_WH_addOne_61 : decode b_WH_addOne 61 = .ok (.invokestatic 49, 3) := by decide +kernel
theorem d_WH_addOne_64 : decode b_WH_addOne 64 = .ok (.putfield 15, 3) := by decide +kernel
theorem d_WH_addOne_67 : decode b_WH_addOne 67 = .ok (.return_, 1) := by decide +kernel
theorem d_WH_clear_0 : decode b_WH_clear 0 = .ok (.aload_n 0, 1) := by decide +kernel
theorem d_WH_clear_1 : decode b_WH_clear 1 = .ok (.iconst 0, 1) := by decide +kernel
theorem d_WH_clear_2 : decode b_WH_clear 2 = .ok (.invokevirtual 23, 3) := by decide +kernel
theorem d_WH_clear_5 : decode b_WH_clear 5 = .ok (.aload_n 0, 1) := by decide +kernel
theorem d_WH_clear_6 : decode b_WH_clear 6 = .ok (.iconst 0, 1) := by decide +kernel
theorem d_WH_clear_7 : decode b_WH_clear 7 = .ok (.putfield 19, 3) := by decide +kernel
theorem d_WH_clear_10 : decode b_WH_clear 10 = .ok (.return_, 1) := by decide +kernel
theorem d_WH_longFrom_0 : decode b_WH_longFrom 0 = .ok (.iload_n 1, 1) := by decide +kernel
theorem d_WH_longFrom_1 : decode b_WH_longFrom 1 = .ok (.bipush 32, 2) := by decide +kernel
theorem d_WH_longFrom_3 : decode b_WH_longFrom 3 = .ok (.idiv, 1) := by decide +kernel
theorem d_WH_longFrom_4 : decode b_WH_longFrom 4 = .ok (.istore_n 2, 1) := by decide +kernel
theorem d_WH_longFrom_5 : decode b_WH_longFrom 5 = .ok (.iload_n 1, 1) := by decide +kernel
theorem d_WH_longFrom_6 : decode b_WH_longFrom 6 = .ok (.bipush 32, 2) := by decide +kernel
theorem d_WH_longFrom_8 : decode b_WH_longFrom 8 = .ok (.irem, 1) := by decide +kernel
theorem d_WH_longFrom_9 : decode b_WH_longFrom 9 = .ok (.istore_n 3, 1) := by decide +kernel
theorem d_WH_longFrom_10 : decode b_WH_longFrom 10 = .ok (.aload_n 0, 1) := by decide +kernel
theorem d_WH_longFrom_11 : decode b_WH_longFrom 11 = .ok (.iload_n 2, 1) := by decide +kernel
theorem d_WH_longFrom_12 : decode b_WH_longFrom 12 = .ok (.iconst 1, 1) := by decide +kernel
theorem d_WH_longFrom_13 : decode b_WH_longFrom 13 = .ok (.iadd, 1) := by decide +kernel
theorem d_WH_longFrom_14 : decode b_WH_longFrom 14 = .ok (.invokevirtual 45, 3) := by decide +kernel
theorem d_WH_longFrom_17 : decode b_WH_longFrom 17 = .ok (.bipush 32, 2) := by decide +kernel
theorem d_WH_longFrom_19 : decode b_WH_longFrom 19 = .ok (.lshl, 1) := by decide +kernel
theorem d_WH_longFrom_20 : decode b_WH_longFrom 20 = .ok (.aload_n 0, 1) := by decide +kernel
theorem d_WH_longFrom_21 : decode b_WH_longFrom 21 = .ok (.iload_n 2, 1) := by decide +kernel
theorem d_WH_longFrom_22 : decode b_WH_longFrom 22 = .ok (.invokevirtual 45, 3) := by decide +kernel
theorem d_WH_longFrom_25 : decode b_WH_longFrom 25 = .ok (.lor, 1) := by decide +kernel
theorem d_WH_longFrom_26 : decode b_WH_longFrom 26 = .ok (.lstore 4, 2) := by decide +kernel
theorem d_WH_longFrom_28 : decode b_WH_longFrom 28 = .ok (.iload_n 3, 1) := by decide +kernel
theorem d_WH_longFrom_29 : decode b_WH_longFrom 29 = .ok (.ifCond .ne 8, 3) := by decide +kernel
theorem d_WH_longFrom_32 : decode b_WH_longFrom 32 = .ok (.lload 4, 2) := by decide +kernel
theorem d_WH_longFrom_34 : decode b_WH_longFrom 34 = .ok (.goto 20, 3) := by decide +kernel
theorem d_WH_longFrom_37 : decode b_WH_longFrom 37 = .ok (.lload 4, 2) := by decide +kernel
theorem d_WH_longFrom_39 : decode b_WH_longFrom 39 = .ok (.iload_n 3, 1) := by decide +kernel
theorem d_WH_longFrom_40 : decode b_WH_longFrom 40 = .ok (.lushr, 1) := by decide +kernel
theorem d_WH_longFrom_41 : decode b_WH_longFrom 41 = .ok (.aload_n 0, 1) := by decide +kernel
theorem d_WH_longFrom_42 : decode b_WH_longFrom 42 = .ok (.iload_n 2, 1) := by decide +kernel
theorem d_WH_longFrom_43 : decode b_WH_longFrom 43 = .ok (.iconst 2, 1) := by decide +kernel
theorem d_WH_longFrom_44 : decode b_WH_longFrom 44 = .ok (.iadd, 1) := by decide +kernel
theorem d_WH_longFrom_45 : decode b_WH_longFrom 45 = .ok (.invokevirtual 45, 3) := by decide +kernel
theorem d_WH_longFrom_48 : decode b_WH_longFrom 48 = .ok (.bipush 64, 2) := by decide +kernel
theorem d_WH_longFrom_50 : decode b_WH_longFrom 50 = .ok (.iload_n 3, 1) := by decide +kernel
theorem d_WH_longFrom_51 : decode b_WH_longFrom 51 = .ok (.isub, 1) := by decide +kernel
theorem d_WH_longFrom_52 : decode b_WH_longFrom 52 = .ok (.lshl, 1) := by decide +kernel
theorem d_WH_longFrom_53 : decode b_WH_longFrom 53 = .ok (.lor, 1) := by decide +kernel
theorem d_WH_longFrom_54 : decode b_WH_longFrom 54 = .ok (.lreturn, 1) := by decide +kernel
theorem d_WH_lowestLong_0 : decode b_WH_lowestLong 0 = .ok (.aload_n 0, 1) := by decide +kernel
theorem d_WH_lowestLong_1 : decode b_WH_lowestLong 1 = .ok (.getfield 9, 3) := by decide +kernel
theorem d_WH_lowestLong_4 : decode b_WH_lowestLong 4 = .ok (.iconst 1, 1) := by decide +kernel
theorem d_WH_lowestLong_5 : decode b_WH_lowestLong 5 = .ok (.laload, 1) := by decide +kernel
theorem d_WH_lowestLong_6 : decode b_WH_lowestLong 6 = .ok (.bipush 32, 2) := by decide +kernel
theorem d_WH_lowestLong_8 : decode b_WH_lowestLong 8 = .ok (.lshl, 1) := by decide +kernel
theorem d_WH_lowestLong_9 : decode b_WH_lowestLong 9 = .ok (.aload_n 0, 1) := by decide +kernel
theorem d_WH_lowestLong_10 : decode b_WH_lowestLong 10 = .ok (.getfield 9, 3) := by decide +kernel
theorem d_WH_lowestLong_13 : decode b_WH_lowestLong 13 = .ok (.iconst 0, 1) := by decide +kernel
theorem d_WH_lowestLong_14 : decode b_WH_lowestLong 14 = .ok (.laload, 1) := by decide +kernel
theorem d_WH_lowestLong_15 : decode b_WH_lowestLong 15 = .ok (.lor, 1) := by decide +kernel
theorem d_WH_lowestLong_16 : decode b_WH_lowestLong 16 = .ok (.lreturn, 1) := by decide +kernel
theorem d_WH_asLong_0 : decode b_WH_asLong 0 = .ok (.aload_n 0, 1) := by decide +kernel
theorem d_WH_asLong_1 : decode b_WH_asLong 1 = .ok (.getfield 19, 3) := by decide +kernel
theorem d_WH_asLong_4 : decode b_WH_asLong 4 = .ok (.ifCond .eq 11, 3) := by decide +kernel
theorem d_WH_asLong_7 : decode b_WH_asLong 7 = .ok (.aload_n 0, 1) := by decide +kernel
theorem d_WH_asLong_8 : decode b_WH_asLong 8 = .ok (.invokevirtual 63, 3) := by decide +kernel
theorem d_WH_asLong_11 : decode b_WH_asLong 11 = .ok (.lneg, 1) := by decide +kernel
theorem d_WH_asLong_12 : decode b_WH_asLong 12 = .ok (.goto 7, 3) := by decide +kernel
theorem d_WH_asLong_15 : decode b_WH_asLong 15 = .ok (.aload_n 0, 1) := by decide +kernel
theorem d_WH_asLong_16 : decode b_WH_asLong 16 = .ok (.invokevirtual 63, 3) := by decide +kernel
theorem d_WH_asLong_19 : decode b_WH_asLong 19 = .ok (.lreturn, 1) := by decide +kernel
theorem d_WH_isLong_0 : decode b_WH_isLong 0 = .ok (.aload_n 0, 1) := by decide +kernel
theorem d_WH_isLong_1 : decode b_WH_isLong 1 = .ok (.invokevirtual 63, 3) := by decide +kernel
theorem d_WH_isLong_4 : decode b_WH_isLong 4 = .ok (.lstore_n 1, 1) := by decide +kernel
theorem d_WH_isLong_5 : decode b_WH_isLong 5 = .ok (.aload_n 0, 1) := by decide +kernel
theorem d_WH_isLong_6 : decode b_WH_isLong 6 = .ok (.getfield 15, 3) := by decide +kernel
theorem d_WH_isLong_9 : decode b_WH_isLong 9 = .ok (.iconst 2, 1) := by decide +kernel
theorem d_WH_isLong_10 : decode b_WH_isLong 10 = .ok (.if_icmp .gt 28, 3) := by decide +kernel
theorem d_WH_isLong_13 : decode b_WH_isLong 13 = .ok (.lload_n 1, 1) := by decide +kernel
theorem d_WH_isLong_14 : decode b_WH_isLong 14 = .ok (.lconst 0, 1) := by decide +kernel
theorem d_WH_isLong_15 : decode b_WH_isLong 15 = .ok (.lcmp, 1) := by decide +kernel
theorem d_WH_isLong_16 : decode b_WH_isLong 16 = .ok (.ifCond .ge 18, 3) := by decide +kernel
theorem d_WH_isLong_19 : decode b_WH_isLong 19 = .ok (.aload_n 0, 1) := by decide +kernel
theorem d_WH_isLong_20 : decode b_WH_isLong 20 = .ok (.getfield 19, 3) := by decide +kernel
theorem d_WH_isLong_23 : decode b_WH_isLong 23 = .ok (.ifCond .eq 15, 3) := by decide +kernel
theorem d_WH_isLong_26 : decode b_WH_isLong 26 = .ok (.lload_n 1, 1) := by decide +kernel
theorem d_WH_isLong_27 : decode b_WH_isLong 27 = .ok (.ldc2_w 67, 3) := by decide +kernel
theorem d_WH_isLong_30 : decode b_WH_isLong 30 = .ok (.lcmp, 1) := by decide +kernel
theorem d_WH_isLong_31 : decode b_WH_isLong 31 = .ok (.ifCond .ne 7, 3) := by decide +kernel
theorem d_WH_isLong_34 : decode b_WH_isLong 34 = .ok (.iconst 1, 1) := by decide +kernel
theorem d_WH_isLong_35 : decode b_WH_isLong 35 = .ok (.goto 4, 3) := by decide +kernel
theorem d_WH_isLong_38 : decode b_WH_isLong 38 = .ok (.iconst 0, 1) := by decide +kernel
theorem d_WH_isLong_39 : decode b_WH_isLong 39 = .ok (.ireturn, 1) := by decide +kernel
theorem d_WH_appendChunk_0 : decode b_WH_appendChunk 0 = .ok (.lload_n 1, 1) := by decide +kernel
theorem d_WH_appendChunk_1 : decode b_WH_appendChunk 1 = .ok (.lstore_n 3, 1) := by decide +kernel
theorem d_WH_appendChunk_2 : decode b_WH_appendChunk 2 = .ok (.iconst 0, 1) := by decide +kernel
theorem d_WH_appendChunk_3 : decode b_WH_appendChunk 3 = .ok (.istore 5, 2) := by decide +kernel
theorem d_WH_appendChunk_5 : decode b_WH_appendChunk 5 = .ok (.iload 5, 2) := by decide +kernel
theorem d_WH_appendChunk_7 : decode b_WH_appendChunk 7 = .ok (.aload_n 0, 1) := by decide +kernel
theorem d_WH_appendChunk_8 : decode b_WH_appendChunk 8 = .ok (.getfield 15, 3) := by decide +kernel
theorem d_WH_appendChunk_11 : decode b_WH_appendChunk 11 = .ok (.if_icmp .ge 43, 3) := by decide +kernel
theorem d_WH_appendChunk_14 : decode b_WH_appendChunk 14 = .ok (.aload_n 0, 1) := by decide +kernel
theorem d_WH_appendChunk_15 : decode b_WH_appendChunk 15 = .ok (.getfield 9, 3) := by decide +kernel
theorem d_WH_appendChunk_18 : decode b_WH_appendChunk 18 = .ok (.iload 5, 2) := by decide +kernel
theorem d_WH_appendChunk_20 : decode b_WH_appendChunk 20 = .ok (.laload, 1) := by decide +kernel
theorem d_WH_appendChunk_21 : decode b_WH_appendChunk 21 = .ok (.ldc2_w 69, 3) := by decide +kernel
theorem d_WH_appendChunk_24 : decode b_WH_appendChunk 24 = .ok (.lmul, 1) := by decide +kernel
theorem d_WH_appendChunk_25 : decode b_WH_appendChunk 25 = .ok (.lload_n 3, 1) := by decide +kernel
theorem d_WH_appendChunk_26 : decode b_WH_appendChunk 26 = .ok (.ladd, 1) := by decide +kernel
theorem d_WH_appendChunk_27 : decode b_WH_appendChunk 27 = .ok (.lstore 6, 2) := by decide +kernel
theorem d_WH_appendChunk_29 : decode b_WH_appendChunk 29 = .ok (.aload_n 0, 1) := by decide +kernel
theorem d_WH_appendChunk_30 : decode b_WH_appendChunk 30 = .ok (.getfield 9, 3) := by decide +kernel
theorem d_WH_appendChunk_33 : decode b_WH_appendChunk 33 = .ok (.iload 5, 2) := by decide +kernel
theorem d_WH_appendChunk_35 : decode b_WH_appendChunk 35 = .ok (.lload 6, 2) := by decide +kernel
theorem d_WH_appendChunk_37 : decode b_WH_appendChunk 37 = .ok (.ldc2_w 33, 3) := by decide +kernel
theorem d_WH_appendChunk_40 : decode b_WH_appendChunk 40 = .ok (.land, 1) := by decide +kernel
theorem d_WH_appendChunk_41 : decode b_WH_appendChunk 41 = .ok (.lastore, 1) := by decide +kernel
theorem d_WH_appendChunk_42 : decode b_WH_appendChunk 42 = .ok (.lload 6, 2) := by decide +kernel
theorem d_WH_appendChunk_44 : decode b_WH_appendChunk 44 = .ok (.bipush 32, 2) := by decide +kernel
theorem d_WH_appendChunk_46 : decode b_WH_appendChunk 46 = .ok (.lushr, 1) := by decide +kernel
theorem d_WH_appendChunk_47 : decode b_WH_appendChunk 47 = .ok (.lstore_n 3, 1) := by decide +kernel
theorem d_WH_appendChunk_48 : decode b_WH_appendChunk 48 = .ok (.iinc 5 1, 3) := by decide +kernel
theorem d_WH_appendChunk_51 : decode b_WH_appendChunk 51 = .ok (.goto (-46), 3) := by decide +kernel
theorem d_WH_appendChunk_54 : decode b_WH_appendChunk 54 = .ok (.lload_n 3, 1) := by decide +kernel
theorem d_WH_appendChunk_55 : decode b_WH_appendChunk 55 = .ok (.lconst 0, 1) := by decide +kernel
theorem d_WH_appendChunk_56 : decode b_WH_appendChunk 56 = .ok (.lcmp, 1) := by decide +kernel
theorem d_WH_appendChunk_57 : decode b_WH_appendChunk 57 = .ok (.ifCond .le 33, 3) := by decide +kernel
theorem d_WH_appendChunk_60 : decode b_WH_appendChunk 60 = .ok (.aload_n 0, 1) := by decide +kernel
theorem d_WH_appendChunk_61 : decode b_WH_appendChunk 61 = .ok (.getfield 15, 3) := by decide +kernel
theorem d_WH_appendChunk_64 : decode b_WH_appendChunk 64 = .ok (.sipush 258, 3) := by decide +kernel
theorem d_WH_appendChunk_67 : decode b_WH_appendChunk 67 = .ok (.if_icmp .ge 23, 3) := by decide +kernel
theorem d_WH_appendChunk_70 : decode b_WH_appendChunk 70 = .ok (.aload_n 0, 1) := by decide +kernel
theorem d_WH_appendChunk_71 : decode b_WH_appendChunk 71 = .ok (.getfield 9, 3) := by decide +kernel
theorem d_WH_appendChunk_74 : decode b_WH_appendChunk 74 = .ok (.aload_n 0, 1) := by decide +kernel
theorem d_WH_appendChunk_75 : decode b_WH_appendChunk 75 = .ok (.getfield 15, 3) := by decide +kernel
theorem d_WH_appendChunk_78 : decode b_WH_appendChunk 78 = .ok (.lload_n 3, 1) := by decide +kernel
theorem d_WH_appendChunk_79 : decode b_WH_appendChunk 79 = .ok (.lastore, 1) := by decide +kernel
theorem d_WH_appendChunk_80 : decode b_WH_appendChunk 80 = .ok (.aload_n 0, 1) := by decide +kernel
theorem d_WH_appendChunk_81 : decode b_WH_appendChunk 81 = .ok (.dup, 1) := by decide +kernel
theorem d_WH_appendChunk_82 : decode b_WH_appendChunk 82 = .ok (.getfield 15, 3) := by decide +kernel
theorem d_WH_appendChunk_85 : decode b_WH_appendChunk 85 = .ok (.iconst 1, 1) := by decide +kernel
theorem d_WH_appendChunk_86 : decode b_WH_appendChunk 86 = .ok (.iadd, 1) := by decide +kernel
theorem d_WH_appendChunk_87 : decode b_WH_appendChunk 87 = .ok (.putfield 15, 3) := by decide +kernel
theorem d_WH_appendChunk_90 : decode b_WH_appendChunk 90 = .ok (.return_, 1) := by decide +kernel
theorem d_WH_takeChunk_0 : decode b_WH_takeChunk 0 = .ok (.lconst 0, 1) := by decide +kernel
theorem d_WH_takeChunk_1 : decode b_WH_takeChunk 1 = .ok (.lstore_n 1, 1) := by decide +kernel
theorem d_WH_takeChunk_2 : decode b_WH_takeChunk 2 = .ok (.aload_n 0, 1) := by decide +kernel
theorem d_WH_takeChunk_3 : decode b_WH_takeChunk 3 = .ok (.getfield 15, 3) := by decide +kernel
theorem d_WH_takeChunk_6 : decode b_WH_takeChunk 6 = .ok (.iconst 1, 1) := by decide +kernel
theorem d_WH_takeChunk_7 : decode b_WH_takeChunk 7 = .ok (.isub, 1) := by decide +kernel
theorem d_WH_takeChunk_8 : decode b_WH_takeChunk 8 = .ok (.istore_n 3, 1) := by decide +kernel
theorem d_WH_takeChunk_9 : decode b_WH_takeChunk 9 = .ok (.iload_n 3, 1) := by decide +kernel
theorem d_WH_takeChunk_10 : decode b_WH_takeChunk 10 = .ok (.ifCond .lt 41, 3) := by decide +kernel
theorem d_WH_takeChunk_13 : decode b_WH_takeChunk 13 = .ok (.lload_n 1, 1) := by decide +kernel
theorem d_WH_takeChunk_14 : decode b_WH_takeChunk 14 = .ok (.bipush 32, 2) := by decide +kernel
theorem d_WH_takeChunk_16 : decode b_WH_takeChunk 16 = .ok (.lshl, 1) := by decide +kernel
theorem d_WH_takeChunk_17 : decode b_WH_takeChunk 17 = .ok (.aload_n 0, 1) := by decide +kernel
theorem d_WH_takeChunk_18 : decode b_WH_takeChunk 18 = .ok (.getfield 9, 3) := by decide +kernel
theorem d_WH_takeChunk_21 : decode b_WH_takeChunk 21 = .ok (.iload_n 3, 1) := by decide +kernel
theorem d_WH_takeChunk_22 : decode b_WH_takeChunk 22 = .ok (.laload, 1) := by decide +kernel
theorem d_WH_takeChunk_23 : decode b_WH_takeChunk 23 = .ok (.lor, 1) := by decide +kernel
theorem d_WH_takeChunk_24 : decode b_WH_takeChunk 24 = .ok (.lstore 4, 2) := by decide +kernel
theorem d_WH_takeChunk_26 : decode b_WH_takeChunk 26 = .ok (.aload_n 0, 1) := by decide +kernel
theorem d_WH_takeChunk_27 : decode b_WH_takeChunk 27 = .ok (.getfield 9, 3) := by decide +kernel
theorem d_WH_takeChunk_30 : decode b_WH_takeChunk 30 = .ok (.iload_n 3, 1) := by decide +kernel
theorem d_WH_takeChunk_31 : decode b_WH_takeChunk 31 = .ok (.lload 4, 2) := by decide +kernel
theorem d_WH_takeChunk_33 : decode b_WH_takeChunk 33 = .ok (.ldc2_w 69, 3) := by decide +kernel
theorem d_WH_takeChunk_36 : decode b_WH_takeChunk 36 = .ok (.ldiv, 1) := by decide +kernel
theorem d_WH_takeChunk_37 : decode b_WH_takeChunk 37 = .ok (.lastore, 1) := by decide +kernel
theorem d_WH_takeChunk_38 : decode b_WH_takeChunk 38 = .ok (.lload 4, 2) := by decide +kernel
theorem d_WH_takeChunk_40 : decode b_WH_takeChunk 40 = .ok (.ldc2_w 69, 3) := by decide +kernel
theorem d_WH_takeChunk_43 : decode b_WH_takeChunk 43 = .ok (.lrem, 1) := by decide +kernel
theorem d_WH_takeChunk_44 : decode b_WH_takeChunk 44 = .ok (.lstore_n 1, 1) := by decide +kernel
theorem d_WH_takeChunk_45 : decode b_WH_takeChunk 45 = .ok (.iinc 3 (-1), 3) := by decide +kernel
theorem d_WH_takeChunk_48 : decode b_WH_takeChunk 48 = .ok (.goto (-39), 3) := by decide +kernel
theorem d_WH_takeChunk_51 : decode b_WH_takeChunk 51 = .ok (.aload_n 0, 1) := by decide +kernel
theorem d_WH_takeChunk_52 : decode b_WH_takeChunk 52 = .ok (.aload_n 0, 1) := by decide +kernel
theorem d_WH_takeChunk_53 : decode b_WH_takeChunk 53 = .ok (.getfield 15, 3) := by decide +kernel
theorem d_WH_takeChunk_56 : decode b_WH_takeChunk 56 = .ok (.invokevirtual 23, 3) := by decide +kernel
theorem d_WH_takeChunk_59 : decode b_WH_takeChunk 59 = .ok (.lload_n 1, 1) := by decide +kernel
theorem d_WH_takeChunk_60 : decode b_WH_takeChunk 60 = .ok (.lreturn, 1) := by decide +kernel
abbrev rm_WH_init : Room := { frames := 1, cells := 1, slots := 258, locals := 20 }
def w_WH_init (a1 : Nat) (h0 : ah_H) (K : ah_H → Prop) : Prop :=
  ∀ q2 : Nat, ah_T h0 q2 = 0 → ∀ h4 : ah_H, h4 = ah_new h0 q2 110 258 → ah_T h4 a1 = 3 ∧ ∀ h8 : ah_H, h8 = ah_sR h4 5 a1 (some q2) → ∀ h12 : ah_H, h12 = ah_sI h8 0 a1 (0 : Int32) → ∀ h16 : ah_H, h16 = ah_sI h12 1 a1 (0 : Int32) → K h16
abbrev rm_WH_settle : Room := { frames := 0, cells := 0, slots := 0, locals := 0 }
def lp_WH_settle_2 (xt_23 : Nat → Int32 → ah_H → Prop) (K : ah_H → Prop) : Nat → Nat → Int32 → Int32 → ah_H → Prop
  | 0, _, _, _, _ => False
  | n + 1, x3, x4, x5, h6 =>
    ah_T h6 x3 = 3 ∧ ((ah_I h6 0 x3) ≤ x5 → (xt_23 x3 x4 h6)) ∧ (¬ (ah_I h6 0 x3) ≤ x5 → (∃ q9, ah_R h6 5 x3 = some q9 ∧ ah_T h6 q9 = 110 ∧ vp_in x5 (ah_N h6 q9) ∧ ∀ h13 : ah_H, h13 = ah_cL h6 q9 (vp_updL (ah_bL h6 q9) x5.toNatClampNeg (0 : Int64)) → ∀ v17 : Int32, v17 = x5 + 1 → (lp_WH_settle_2 xt_23 K n) x3 x4 v17 h13))
def lp_WH_settle_28 (xt_64 : ah_H → Prop) (K : ah_H → Prop) : Nat → Nat → ah_H → Prop
  | 0, _, _ => False
  | n + 1, x25, h26 =>
    ah_T h26 x25 = 3 ∧ ((ah_I h26 0 x25) ≤ 0 → (xt_64 h26)) ∧ (¬ (ah_I h26 0 x25) ≤ 0 → (∃ q29, ah_R h26 5 x25 = some q29 ∧ ah_T h26 q29 = 110 ∧ vp_in ((ah_I h26 0 x25) - (1 : Int32)) (ah_N h26 q29) ∧ (¬ (ah_bL h26 q29 ((ah_I h26 0 x25) - (1 : Int32)).toNatClampNeg) = (0 : Int64) → (xt_64 h26)) ∧ ((ah_bL h26 q29 ((ah_I h26 0 x25) - (1 : Int32)).toNatClampNeg) = (0 : Int64) → (∀ v34 : Int32, v34 = (ah_I h26 0 x25) - (1 : Int32) → ∀ h35 : ah_H, h35 = ah_sI h26 0 x25 v34 → (lp_WH_settle_28 xt_64 K n) x25 h35))))
def bk_WH_settle_64  (K : ah_H → Prop)  (h40 : ah_H) : Prop :=
  K h40
def w_WH_settle (a1 : Nat) (a2 : Int32) (h0 : ah_H) (K : ah_H → Prop) : Prop :=
  ∃ k42, lp_WH_settle_2 (fun (x18 : Nat) (x19 : Int32) h20 => ah_T h20 x18 = 3 ∧ ∀ h22 : ah_H, h22 = ah_sI h20 0 x18 x19 → ∃ k41, lp_WH_settle_28 (fun  h39 => bk_WH_settle_64 K h39) K k41 x18 h22) K k42 a1 a2 a2 h0
abbrev rm_WH_markSign : Room := { frames := 0, cells := 0, slots := 0, locals := 0 }
def bk_WH_markSign_17  (K : ah_H → Prop) (s6 : Int32) (s7 : Nat) (h8 : ah_H) : Prop :=
  ah_T h8 s7 = 3 ∧ (s6 = 0 ∨ s6 = 1) ∧ ∀ h11 : ah_H, h11 = ah_sI h8 1 s7 s6 → K h11
def bk_WH_markSign_16  (K : ah_H → Prop) (s4 : Nat) (h5 : ah_H) : Prop :=
  bk_WH_markSign_17 K (0 : Int32) s4 h5
def w_WH_markSign (a1 : Nat) (a2 : Int32) (h0 : ah_H) (K : ah_H → Prop) : Prop :=
  (a2 = 0 → (bk_WH_markSign_16 K a1 h0)) ∧ (¬ a2 = 0 → (ah_T h0 a1 = 3 ∧ ((ah_I h0 0 a1) ≤ 0 → (bk_WH_markSign_16 K a1 h0)) ∧ (¬ (ah_I h0 0 a1) ≤ 0 → (bk_WH_markSign_17 K (1 : Int32) a1 h0))))
abbrev rm_WH_becomeLong : Room := { frames := 1, cells := 0, slots := 0, locals := 22 }
def bk_WH_becomeLong_51  (K : ah_H → Prop) (s34 : Int32) (s35 : Nat) (h36 : ah_H) : Prop :=
  ah_T h36 s35 = 3 ∧ w_WH_markSign s35 s34 h36 (fun h38 => ah_m h36 h38 → K h38)
def bk_WH_becomeLong_12  (K : ah_H → Prop) (x4 : Nat) (x5 : Int64) (s6 : Int64) (h7 : ah_H) : Prop :=
  ah_T h7 x4 = 3 ∧ ∃ q9, ah_R h7 5 x4 = some q9 ∧ ∀ v11 : Int64, v11 = s6 &&& (4294967295 : Int64) → ah_T h7 q9 = 110 ∧ vp_in (0 : Int32) (ah_N h7 q9) ∧ ∀ h14 : ah_H, h14 = ah_cL h7 q9 (vp_updL (ah_bL h7 q9) (0 : Int32).toNatClampNeg v11) → ∃ q18, ah_R h14 5 x4 = some q18 ∧ ∀ v20 : Int64, v20 = (s6.toUInt64 >>> ((32 : Int32).toInt64.toUInt64 &&& Int64.toUInt64 63)).toInt64 → ah_T h14 q18 = 110 ∧ vp_in (1 : Int32) (ah_N h14 q18) ∧ ∀ h23 : ah_H, h23 = ah_cL h14 q18 (vp_updL (ah_bL h14 q18) (1 : Int32).toNatClampNeg v20) → w_WH_settle x4 (2 : Int32) h23 (fun h28 => ah_m h23 h28 → ((0 : Int64) ≤ x5 → (bk_WH_becomeLong_51 K (0 : Int32) x4 h28)) ∧ (¬ (0 : Int64) ≤ x5 → (bk_WH_becomeLong_51 K (1 : Int32) x4 h28)))
def w_WH_becomeLong (a1 : Nat) (a2 : Int64) (h0 : ah_H) (K : ah_H → Prop) : Prop :=
  ((0 : Int64) ≤ a2 → (bk_WH_becomeLong_12 K a1 a2 a2 h0)) ∧ (¬ (0 : Int64) ≤ a2 → (bk_WH_becomeLong_12 K a1 a2 (-a2) h0))
abbrev rm_WH_become : Room := { frames := 1, cells := 0, slots := 0, locals := 40 }
def w_WH_become (a1 : Nat) (a2 : Nat) (h0 : ah_H) (K : ah_H → Prop) : Prop :=
  ah_T h0 a2 = 3 ∧ ∃ q4, ah_R h0 5 a2 = some q4 ∧ ah_T h0 a1 = 3 ∧ ∃ q7, ah_R h0 5 a1 = some q7 ∧ ah_T h0 q7 = 110 ∧ ah_T h0 q4 = 110 ∧ (¬ (0 : Int32) < 0) ∧ (¬ (0 : Int32) < 0) ∧ (¬ (258 : Int32) < 0) ∧ ((0 : Int32).toNatClampNeg + (258 : Int32).toNatClampNeg ≤ ah_N h0 q4) ∧ ((0 : Int32).toNatClampNeg + (258 : Int32).toNatClampNeg ≤ ah_N h0 q7) ∧ ∀ h16 : ah_H, h16 = ah_cL h0 q7 (va_cpy (ah_bL h0 q4) (ah_bL h0 q7) (0 : Int32).toNatClampNeg (0 : Int32).toNatClampNeg (258 : Int32).toNatClampNeg) → ∀ v22 : Int32, v22 = ah_I h16 0 a2 → ∀ h23 : ah_H, h23 = ah_sI h16 0 a1 v22 → ∀ v29 : Int32, v29 = ah_I h23 1 a2 → (v29 = 0 ∨ v29 = 1) ∧ ∀ h31 : ah_H, h31 = ah_sI h23 1 a1 v29 → K h31
abbrev rm_WH_bitsOf : Room := { frames := 0, cells := 0, slots := 0, locals := 0 }
def lp_WH_bitsOf_2 (xt_22 : Int32 → ah_H → Prop) (K : Int32 → ah_H → Prop) : Nat → Int64 → Int32 → ah_H → Prop
  | 0, _, _, _ => False
  | n + 1, x2, x3, h4 =>
    ((32 : Int32) ≤ x3 → (xt_22 x3 h4)) ∧ (¬ (32 : Int32) ≤ x3 → ((((x2.toUInt64 >>> (x3.toInt64.toUInt64 &&& Int64.toUInt64 63)).toInt64) = (0 : Int64) → (xt_22 x3 h4)) ∧ (¬ ((x2.toUInt64 >>> (x3.toInt64.toUInt64 &&& Int64.toUInt64 63)).toInt64) = (0 : Int64) → (∀ v7 : Int32, v7 = x3 + 1 → (lp_WH_bitsOf_2 xt_22 K n) x2 v7 h4))))
def bk_WH_bitsOf_22  (K : Int32 → ah_H → Prop) (x10 : Int32) (h11 : ah_H) : Prop :=
  K x10 h11
def w_WH_bitsOf (a1 : Int64) (h0 : ah_H) (K : Int32 → ah_H → Prop) : Prop :=
  ∃ k12, lp_WH_bitsOf_2 (fun (x8 : Int32) h9 => bk_WH_bitsOf_22 K x8 h9) K k12 a1 (0 : Int32) h0
abbrev rm_WH_bits : Room := { frames := 1, cells := 0, slots := 0, locals := 22 }
def bk_WH_bits_35  (K : Int32 → ah_H → Prop) (s4 : Int32) (h5 : ah_H) : Prop :=
  K s4 h5
def w_WH_bits (a1 : Nat) (h0 : ah_H) (K : Int32 → ah_H → Prop) : Prop :=
  ah_T h0 a1 = 3 ∧ ((ah_I h0 0 a1) ≤ 0 → (bk_WH_bits_35 K (0 : Int32) h0)) ∧ (¬ (ah_I h0 0 a1) ≤ 0 → (∃ q6, ah_R h0 5 a1 = some q6 ∧ ah_T h0 q6 = 110 ∧ vp_in ((ah_I h0 0 a1) - (1 : Int32)) (ah_N h0 q6) ∧ w_WH_bitsOf (ah_bL h0 q6 ((ah_I h0 0 a1) - (1 : Int32)).toNatClampNeg) h0 (fun r11 h10 => ah_m h0 h10 → bk_WH_bits_35 K (((32 : Int32) * ((ah_I h0 0 a1) - (1 : Int32))) + r11) h10)))
abbrev rm_WH_at : Room := { frames := 0, cells := 0, slots := 0, locals := 0 }
def bk_WH_at_21  (K : Int64 → ah_H → Prop) (s5 : Int64) (h6 : ah_H) : Prop :=
  K s5 h6
def bk_WH_at_20  (K : Int64 → ah_H → Prop)  (h4 : ah_H) : Prop :=
  bk_WH_at_21 K (0 : Int64) h4
def w_WH_at (a1 : Nat) (a2 : Int32) (h0 : ah_H) (K : Int64 → ah_H → Prop) : Prop :=
  (a2 < 0 → (bk_WH_at_20 K h0)) ∧ (¬ a2 < 0 → (((258 : Int32) ≤ a2 → (bk_WH_at_20 K h0)) ∧ (¬ (258 : Int32) ≤ a2 → (ah_T h0 a1 = 3 ∧ ∃ q9, ah_R h0 5 a1 = some q9 ∧ ah_T h0 q9 = 110 ∧ vp_in a2 (ah_N h0 q9) ∧ bk_WH_at_21 K (ah_bL h0 q9 a2.toNatClampNeg) h0))))
abbrev rm_WH_becomeShiftedUp : Room := { frames := 1, cells := 0, slots := 0, locals := 24 }
def lp_WH_becomeShiftedUp_33 (xt_87 : Nat → Int32 → ah_H → Prop) (K : ah_H → Prop) : Nat → Nat → Nat → Int32 → Int32 → Int32 → Int32 → ah_H → Prop
  | 0, _, _, _, _, _, _, _ => False
  | n + 1, x9, x10, x11, x12, x13, x14, h15 =>
    (x14 < 0 → (xt_87 x9 x13 h15)) ∧ (¬ x14 < 0 → (ah_T h15 x10 = 3 ∧ w_WH_at x10 ((x14 - x11) - (1 : Int32)) h15 (fun r19 h18 => ah_m h15 h18 → ∀ v22 : Int64, v22 = (r19.toUInt64 >>> (((32 : Int32) - x12).toInt64.toUInt64 &&& Int64.toUInt64 63)).toInt64 → ah_T h18 x9 = 3 ∧ ∃ q24, ah_R h18 5 x9 = some q24 ∧ w_WH_at x10 (x14 - x11) h18 (fun r27 h26 => ah_m h18 h26 → ∀ v31 : Int64, v31 = ((r27 <<< (x12.toInt64 &&& 63)) ||| v22) &&& (4294967295 : Int64) → ah_T h26 q24 = 110 ∧ vp_in x14 (ah_N h26 q24) ∧ ∀ h34 : ah_H, h34 = ah_cL h26 q24 (vp_updL (ah_bL h26 q24) x14.toNatClampNeg v31) → ∀ v39 : Int32, v39 = x14 + (-1) → (lp_WH_becomeShiftedUp_33 xt_87 K n) x9 x10 x11 x12 x13 v39 h34))))
def w_WH_becomeShiftedUp (a1 : Nat) (a2 : Nat) (a3 : Int32) (h0 : ah_H) (K : ah_H → Prop) : Prop :=
  ∀ v4 : Int32, v4 = a3 / (32 : Int32) → ∀ v5 : Int32, v5 = a3 - a3 / (32 : Int32) * (32 : Int32) → ah_T h0 a2 = 3 ∧ ∀ v7 : Int32, v7 = (if (258 : Int32) < (((ah_I h0 0 a2) + v4) + (1 : Int32)) then (258 : Int32) else (((ah_I h0 0 a2) + v4) + (1 : Int32))) → ∀ v8 : Int32, v8 = v7 - (1 : Int32) → ∃ k47, lp_WH_becomeShiftedUp_33 (fun (x40 : Nat) (x41 : Int32) h42 => ah_T h42 x40 = 3 ∧ w_WH_settle x40 x41 h42 (fun h44 => ah_m h42 h44 → K h44)) K k47 a1 a2 v4 v5 v7 v8 h0
abbrev rm_WH_becomeShiftedDown : Room := { frames := 1, cells := 0, slots := 0, locals := 24 }
def lp_WH_becomeShiftedDown_26 (xt_82 : Nat → Int32 → ah_H → Prop) (K : ah_H → Prop) : Nat → Nat → Nat → Int32 → Int32 → Int32 → Int32 → ah_H → Prop
  | 0, _, _, _, _, _, _, _ => False
  | n + 1, x8, x9, x10, x11, x12, x13, h14 =>
    (x12 ≤ x13 → (xt_82 x8 x12 h14)) ∧ (¬ x12 ≤ x13 → (ah_T h14 x9 = 3 ∧ w_WH_at x9 ((x13 + x10) + (1 : Int32)) h14 (fun r18 h17 => ah_m h14 h17 → ∀ v21 : Int64, v21 = r18 <<< (((32 : Int32) - x11).toInt64 &&& 63) → ah_T h17 x8 = 3 ∧ ∃ q23, ah_R h17 5 x8 = some q23 ∧ w_WH_at x9 (x13 + x10) h17 (fun r26 h25 => ah_m h17 h25 → ∀ v30 : Int64, v30 = (((r26.toUInt64 >>> (x11.toInt64.toUInt64 &&& Int64.toUInt64 63)).toInt64) ||| v21) &&& (4294967295 : Int64) → ah_T h25 q23 = 110 ∧ vp_in x13 (ah_N h25 q23) ∧ ∀ h33 : ah_H, h33 = ah_cL h25 q23 (vp_updL (ah_bL h25 q23) x13.toNatClampNeg v30) → ∀ v38 : Int32, v38 = x13 + 1 → (lp_WH_becomeShiftedDown_26 xt_82 K n) x8 x9 x10 x11 x12 v38 h33))))
def w_WH_becomeShiftedDown (a1 : Nat) (a2 : Nat) (a3 : Int32) (h0 : ah_H) (K : ah_H → Prop) : Prop :=
  ∀ v4 : Int32, v4 = a3 / (32 : Int32) → ∀ v5 : Int32, v5 = a3 - a3 / (32 : Int32) * (32 : Int32) → ah_T h0 a2 = 3 ∧ ∀ v7 : Int32, v7 = (if ((ah_I h0 0 a2) - v4) < (0 : Int32) then (0 : Int32) else ((ah_I h0 0 a2) - v4)) → ∃ k46, lp_WH_becomeShiftedDown_26 (fun (x39 : Nat) (x40 : Int32) h41 => ah_T h41 x39 = 3 ∧ w_WH_settle x39 x40 h41 (fun h43 => ah_m h41 h43 → K h43)) K k46 a1 a2 v4 v5 v7 (0 : Int32) h0
abbrev rm_WH_endingZeros : Room := { frames := 1, cells := 0, slots := 0, locals := 21 }
def lp_WH_endingZeros_2 (xt_23 : Int32 → Int64 → ah_H → Prop) (xt_47 : ah_H → Prop) (K : Int32 → ah_H → Prop) : Nat → Nat → Int32 → ah_H → Prop
  | 0, _, _, _ => False
  | n + 1, x2, x3, h4 =>
    ah_T h4 x2 = 3 ∧ ((ah_I h4 0 x2) ≤ x3 → (xt_47 h4)) ∧ (¬ (ah_I h4 0 x2) ≤ x3 → (∃ q7, ah_R h4 5 x2 = some q7 ∧ ah_T h4 q7 = 110 ∧ vp_in x3 (ah_N h4 q7) ∧ ∀ v11 : Int64, v11 = ah_bL h4 q7 x3.toNatClampNeg → (v11 = (0 : Int64) → (∀ v13 : Int32, v13 = x3 + 1 → (lp_WH_endingZeros_2 xt_23 xt_47 K n) x2 v13 h4)) ∧ (¬ v11 = (0 : Int64) → (xt_23 x3 v11 h4))))
def w_WH_endingZeros (a1 : Nat) (h0 : ah_H) (K : Int32 → ah_H → Prop) : Prop :=
  ∃ k21, lp_WH_endingZeros_2 (fun (x14 : Int32) (x15 : Int64) h16 => w_JL_bitCount ((x15 ^^^ (-1 : Int64)) &&& (x15 - (1 : Int64))) h16 (fun r18 h17 => ah_m h16 h17 → K (((32 : Int32) * x14) + r18) h17)) (fun  h20 => K (0 : Int32) h20) K k21 a1 (0 : Int32) h0
abbrev rm_WH_addOne : Room := { frames := 1, cells := 0, slots := 0, locals := 24 }
def lp_WH_addOne_2 (xt_36 : Nat → Int32 → ah_H → Prop) (K : ah_H → Prop) : Nat → Nat → Int32 → ah_H → Prop
  | 0, _, _, _ => False
  | n + 1, x2, x3, h4 =>
    ah_T h4 x2 = 3 ∧ ((ah_I h4 0 x2) ≤ x3 → (xt_36 x2 x3 h4)) ∧ (¬ (ah_I h4 0 x2) ≤ x3 → (∃ q7, ah_R h4 5 x2 = some q7 ∧ ah_T h4 q7 = 110 ∧ vp_in x3 (ah_N h4 q7) ∧ (¬ (ah_bL h4 q7 x3.toNatClampNeg) = (4294967295 : Int64) → (xt_36 x2 x3 h4)) ∧ ((ah_bL h4 q7 x3.toNatClampNeg) = (4294967295 : Int64) → (∃ q12, ah_R h4 5 x2 = some q12 ∧ ah_T h4 q12 = 110 ∧ vp_in x3 (ah_N h4 q12) ∧ ∀ h16 : ah_H, h16 = ah_cL h4 q12 (vp_updL (ah_bL h4 q12) x3.toNatClampNeg (0 : Int64)) → ∀ v21 : Int32, v21 = x3 + 1 → (lp_WH_addOne_2 xt_36 K n) x2 v21 h16))))
def bk_WH_addOne_67  (K : ah_H → Prop)  (h29 : ah_H) : Prop :=
  K h29
def bk_WH_addOne_36  (K : ah_H → Prop) (x25 : Nat) (x26 : Int32) (h27 : ah_H) : Prop :=
  ((258 : Int32) ≤ x26 → (bk_WH_addOne_67 K h27)) ∧ (¬ (258 : Int32) ≤ x26 → (ah_T h27 x25 = 3 ∧ ∃ q31, ah_R h27 5 x25 = some q31 ∧ ah_T h27 q31 = 110 ∧ vp_in x26 (ah_N h27 q31) ∧ ∀ v35 : Int64, v35 = (ah_bL h27 q31 x26.toNatClampNeg) + (1 : Int64) → vp_in x26 (ah_N h27 q31) ∧ ∀ h37 : ah_H, h37 = ah_cL h27 q31 (vp_updL (ah_bL h27 q31) x26.toNatClampNeg v35) → ∀ v41 : Int32, v41 = (if (ah_I h37 0 x25) < (x26 + (1 : Int32)) then (x26 + (1 : Int32)) else (ah_I h37 0 x25)) → ∀ h42 : ah_H, h42 = ah_sI h37 0 x25 v41 → bk_WH_addOne_67 K h42))
def w_WH_addOne (a1 : Nat) (h0 : ah_H) (K : ah_H → Prop) : Prop :=
  ∃ k46, lp_WH_addOne_2 (fun (x22 : Nat) (x23 : Int32) h24 => bk_WH_addOne_36 K x22 x23 h24) K k46 a1 (0 : Int32) h0
abbrev rm_WH_clear : Room := { frames := 1, cells := 0, slots := 0, locals := 22 }
def w_WH_clear (a1 : Nat) (h0 : ah_H) (K : ah_H → Prop) : Prop :=
  ah_T h0 a1 = 3 ∧ w_WH_settle a1 (0 : Int32) h0 (fun h3 => ah_m h0 h3 → ∀ h6 : ah_H, h6 = ah_sI h3 1 a1 (0 : Int32) → K h6)
abbrev rm_WH_longFrom : Room := { frames := 1, cells := 0, slots := 0, locals := 21 }
def bk_WH_longFrom_54  (K : Int64 → ah_H → Prop) (s20 : Int64) (h21 : ah_H) : Prop :=
  K s20 h21
def w_WH_longFrom (a1 : Nat) (a2 : Int32) (h0 : ah_H) (K : Int64 → ah_H → Prop) : Prop :=
  ∀ v3 : Int32, v3 = a2 / (32 : Int32) → ∀ v4 : Int32, v4 = a2 - a2 / (32 : Int32) * (32 : Int32) → ah_T h0 a1 = 3 ∧ w_WH_at a1 (v3 + (1 : Int32)) h0 (fun r7 h6 => ah_m h0 h6 → w_WH_at a1 v3 h6 (fun r11 h10 => ah_m h6 h10 → ∀ v14 : Int64, v14 = (r7 <<< ((32 : Int32).toInt64 &&& 63)) ||| r11 → (¬ v4 = 0 → (w_WH_at a1 (v3 + (2 : Int32)) h10 (fun r17 h16 => ah_m h10 h16 → bk_WH_longFrom_54 K (((v14.toUInt64 >>> (v4.toInt64.toUInt64 &&& Int64.toUInt64 63)).toInt64) ||| (r17 <<< (((64 : Int32) - v4).toInt64 &&& 63))) h16))) ∧ (v4 = 0 → (bk_WH_longFrom_54 K v14 h10))))
abbrev rm_WH_lowestLong : Room := { frames := 0, cells := 0, slots := 0, locals := 0 }
def w_WH_lowestLong (a1 : Nat) (h0 : ah_H) (K : Int64 → ah_H → Prop) : Prop :=
  ah_T h0 a1 = 3 ∧ ∃ q3, ah_R h0 5 a1 = some q3 ∧ ah_T h0 q3 = 110 ∧ vp_in (1 : Int32) (ah_N h0 q3) ∧ ∃ q7, ah_R h0 5 a1 = some q7 ∧ ah_T h0 q7 = 110 ∧ vp_in (0 : Int32) (ah_N h0 q7) ∧ K (((ah_bL h0 q3 (1 : Int32).toNatClampNeg) <<< ((32 : Int32).toInt64 &&& 63)) ||| (ah_bL h0 q7 (0 : Int32).toNatClampNeg)) h0
abbrev rm_WH_asLong : Room := { frames := 1, cells := 0, slots := 0, locals := 20 }
def bk_WH_asLong_19  (K : Int64 → ah_H → Prop) (s8 : Int64) (h9 : ah_H) : Prop :=
  K s8 h9
def w_WH_asLong (a1 : Nat) (h0 : ah_H) (K : Int64 → ah_H → Prop) : Prop :=
  ah_T h0 a1 = 3 ∧ ((ah_I h0 1 a1) = 0 → (w_WH_lowestLong a1 h0 (fun r5 h4 => ah_m h0 h4 → bk_WH_asLong_19 K r5 h4))) ∧ (¬ (ah_I h0 1 a1) = 0 → (w_WH_lowestLong a1 h0 (fun r11 h10 => ah_m h0 h10 → bk_WH_asLong_19 K (-r11) h10)))
abbrev rm_WH_isLong : Room := { frames := 1, cells := 0, slots := 0, locals := 20 }
def bk_WH_isLong_39  (K : Int32 → ah_H → Prop) (s9 : Int32) (h10 : ah_H) : Prop :=
  (s9 = 0 ∨ s9 = 1) ∧ K s9 h10
def bk_WH_isLong_38  (K : Int32 → ah_H → Prop)  (h8 : ah_H) : Prop :=
  bk_WH_isLong_39 K (0 : Int32) h8
def bk_WH_isLong_34  (K : Int32 → ah_H → Prop)  (h13 : ah_H) : Prop :=
  bk_WH_isLong_39 K (1 : Int32) h13
def w_WH_isLong (a1 : Nat) (h0 : ah_H) (K : Int32 → ah_H → Prop) : Prop :=
  ah_T h0 a1 = 3 ∧ w_WH_lowestLong a1 h0 (fun r4 h3 => ah_m h0 h3 → ((2 : Int32) < (ah_I h3 0 a1) → (bk_WH_isLong_38 K h3)) ∧ (¬ (2 : Int32) < (ah_I h3 0 a1) → (((0 : Int64) ≤ r4 → (bk_WH_isLong_34 K h3)) ∧ (¬ (0 : Int64) ≤ r4 → (((ah_I h3 1 a1) = 0 → (bk_WH_isLong_38 K h3)) ∧ (¬ (ah_I h3 1 a1) = 0 → ((¬ r4 = (-9223372036854775808 : Int64) → (bk_WH_isLong_38 K h3)) ∧ (r4 = (-9223372036854775808 : Int64) → (bk_WH_isLong_34 K h3)))))))))
abbrev rm_WH_appendChunk : Room := { frames := 0, cells := 0, slots := 0, locals := 0 }
def lp_WH_appendChunk_5 (xt_54 : Nat → Int64 → ah_H → Prop) (K : ah_H → Prop) : Nat → Nat → Int64 → Int32 → ah_H → Prop
  | 0, _, _, _, _ => False
  | n + 1, x3, x4, x5, h6 =>
    ah_T h6 x3 = 3 ∧ ((ah_I h6 0 x3) ≤ x5 → (xt_54 x3 x4 h6)) ∧ (¬ (ah_I h6 0 x3) ≤ x5 → (∃ q9, ah_R h6 5 x3 = some q9 ∧ ah_T h6 q9 = 110 ∧ vp_in x5 (ah_N h6 q9) ∧ ∀ v13 : Int64, v13 = ((ah_bL h6 q9 x5.toNatClampNeg) * (1000000000 : Int64)) + x4 → ∃ q14, ah_R h6 5 x3 = some q14 ∧ ∀ v16 : Int64, v16 = v13 &&& (4294967295 : Int64) → ah_T h6 q14 = 110 ∧ vp_in x5 (ah_N h6 q14) ∧ ∀ h19 : ah_H, h19 = ah_cL h6 q14 (vp_updL (ah_bL h6 q14) x5.toNatClampNeg v16) → ∀ v24 : Int64, v24 = (v13.toUInt64 >>> ((32 : Int32).toInt64.toUInt64 &&& Int64.toUInt64 63)).toInt64 → ∀ v25 : Int32, v25 = x5 + 1 → (lp_WH_appendChunk_5 xt_54 K n) x3 v24 v25 h19))
def bk_WH_appendChunk_90  (K : ah_H → Prop)  (h30 : ah_H) : Prop :=
  K h30
def w_WH_appendChunk (a1 : Nat) (a2 : Int64) (h0 : ah_H) (K : ah_H → Prop) : Prop :=
  ∃ k46, lp_WH_appendChunk_5 (fun (x26 : Nat) (x27 : Int64) h28 => (x27 ≤ (0 : Int64) → (bk_WH_appendChunk_90 K h28)) ∧ (¬ x27 ≤ (0 : Int64) → (ah_T h28 x26 = 3 ∧ ((258 : Int32) ≤ (ah_I h28 0 x26) → (bk_WH_appendChunk_90 K h28)) ∧ (¬ (258 : Int32) ≤ (ah_I h28 0 x26) → (∃ q33, ah_R h28 5 x26 = some q33 ∧ ah_T h28 q33 = 110 ∧ vp_in (ah_I h28 0 x26) (ah_N h28 q33) ∧ ∀ h37 : ah_H, h37 = ah_cL h28 q33 (vp_updL (ah_bL h28 q33) (ah_I h28 0 x26).toNatClampNeg x27) → ∀ v41 : Int32, v41 = (ah_I h37 0 x26) + (1 : Int32) → ∀ h42 : ah_H, h42 = ah_sI h37 0 x26 v41 → bk_WH_appendChunk_90 K h42))))) K k46 a1 a2 (0 : Int32) h0
abbrev rm_WH_takeChunk : Room := { frames := 1, cells := 0, slots := 0, locals := 22 }
def lp_WH_takeChunk_9 (xt_51 : Nat → Int64 → ah_H → Prop) (K : Int64 → ah_H → Prop) : Nat → Nat → Int64 → Int32 → ah_H → Prop
  | 0, _, _, _, _ => False
  | n + 1, x4, x5, x6, h7 =>
    (x6 < 0 → (xt_51 x4 x5 h7)) ∧ (¬ x6 < 0 → (ah_T h7 x4 = 3 ∧ ∃ q10, ah_R h7 5 x4 = some q10 ∧ ah_T h7 q10 = 110 ∧ vp_in x6 (ah_N h7 q10) ∧ ∀ v14 : Int64, v14 = (x5 <<< ((32 : Int32).toInt64 &&& 63)) ||| (ah_bL h7 q10 x6.toNatClampNeg) → ∃ q15, ah_R h7 5 x4 = some q15 ∧ ∀ v17 : Int64, v17 = v14 / (1000000000 : Int64) → ah_T h7 q15 = 110 ∧ vp_in x6 (ah_N h7 q15) ∧ ∀ h20 : ah_H, h20 = ah_cL h7 q15 (vp_updL (ah_bL h7 q15) x6.toNatClampNeg v17) → ∀ v25 : Int64, v25 = v14 - v14 / (1000000000 : Int64) * (1000000000 : Int64) → ∀ v26 : Int32, v26 = x6 + (-1) → (lp_WH_takeChunk_9 xt_51 K n) x4 v25 v26 h20))
def w_WH_takeChunk (a1 : Nat) (h0 : ah_H) (K : Int64 → ah_H → Prop) : Prop :=
  ah_T h0 a1 = 3 ∧ ∀ v3 : Int32, v3 = (ah_I h0 0 a1) - (1 : Int32) → ∃ k34, lp_WH_takeChunk_9 (fun (x27 : Nat) (x28 : Int64) h29 => ah_T h29 x27 = 3 ∧ w_WH_settle x27 (ah_I h29 0 x27) h29 (fun h31 => ah_m h29 h31 → K x28 h31)) K k34 a1 (0 : Int64) v3 h0
set_option maxHeartbeats 4000000 in
set_option maxRecDepth 100000 in
theorem m_WH_init {l : Launch} (G : zG) (a1 : Nat) (h0 : ah_H) {K : ah_H → Prop} (hst : l.stackTraces = false) (w : w_WH_init a1 h0 K) : Met l y_WH_init (Cond.code y_WH_init b_WH_init 1 none :: zx_T) rm_WH_init (va_Pc [.ref a1] (ah_B G h0)) (va_Qv (fun h9 => K h9 ∧ ah_m h0 h9) (ah_B G) (fun q => G.2.2 ≤ q)) 1 258 (fun q => G.2.2 ≤ q) := by
  refine Met.ofW (cc := b_WH_init) (maxL := 1) (ret := none) (by decide) rfl ?_
  intro p e s m args below meth c s₁ B hml hv
  have htb := cx_out B (atoms_spec B.pre _ List.mem_cons_self)
  obtain ⟨rfl, hB⟩ := hv
  have C : cx_C p l s m _ meth c G y_WH_init b_WH_init 1 none "BigDesk$Whole" (Cond.code y_WH_init b_WH_init 1 none :: zx_T) [] := ⟨B.exec, B.bytes, B.returns, hml, findClass_of_methodNamed B.named, atoms_spec B.pre, cx_hd, B.notSynchronized, hB.2.2.1, hB.2.2.2, htb, fun z9 => (name_of_methodNamed B.named B.method).1.trans z9, hst⟩
  obtain ⟨hx, hb, hr, hml, hown, hts, hT, hlk, hK, hX, htb, hin, hst⟩ := id C
  have hw : ∀ {w9 : Cond}, w9 ∈ zx_T → w9.before _ s = true := fun h9 => hts _ (hT _ h9)
  have hW : ah_W G s.heap h0 s.heap [] := ⟨hB.1, hB.2.1, va_S.rf⟩
  have hm : ah_m h0 h0 := ah_m.rf
  have hcl : 0 + 1 ≤ 1 := by decide
  have hsl : 0 + 258 ≤ 258 := by decide
  have hl := lv_entry ([.ref a1]) (n := 1) (Nat.le_of_ble_eq_true rfl)
  rw [lg_entry_eq]
  generalize (lg_sl ([.ref a1]) ++ List.replicate (1 - (lg_sl ([.ref a1])).length) Slot.unset).toArray = ls at hl ⊢
  have hl : lv_has ls 1 [(0, .ref a1)] := hl
  unfold w_WH_init at w
  refine lv_aload_n hx hb d_WH_init_0 rfl (lv_at hl 0 rfl) ?_
  refine W.objInit hx hb hown (hw wd_32) (hw wd_24) (hw wd_25) rfl (by rw [hml]; exact hl.1) rfl d_WH_init_1 (Nat.le_of_ble_eq_true rfl) (Nat.le_of_ble_eq_true rfl) ?_
  refine W.eq (g2 := F0 m 4 ls []) rfl ?_
  refine lv_aload_n hx hb d_WH_init_4 rfl (lv_at hl 0 rfl) ?_
  refine lv_sipush (v := 258) hx hb d_WH_init_5 (by decide) ?_
  refine hb_newa (atype := .long) (t := 110) (N := 258) hx hb (hw wd_55) hK hW 2 rfl (by decide) (by decide) (by decide) (ah_nwJ _ _) (by show _ ≤ 1; omega) (by show _ ≤ 258; omega) d_WH_init_8 (fun q2 H z3 hW => ?_)
  obtain ⟨h4, eh4⟩ : ∃ z9, z9 = ah_new h0 q2 110 258 := ⟨_, rfl⟩
  rw [← eh4] at hW
  have w := w q2 z3 h4 eh4
  have mm5 : ah_m h0 h4 := (ah_m.rf.nw z3).eq eh4
  have hm := hm.tr mm5
  have t6 : ah_T h4 q2 = 110 := by rw [eh4]; exact va_up_self _ _ _
  obtain ⟨t7, w⟩ := w
  refine hb_putF (ci := 2) (C := "BigDesk$Whole") (T := T_WH) (N := 3) hx hb hts (fun w9 h9 => hT w9 (u_WH w9 h9)) t_WH o_WH n_WH hown hK hW t7 rfl (by decide) 0 (by decide) (hw wd_33) (fun _ h9 => h9) rfl (hin rfl) rfl (ty := t_WH 0) (by decide +kernel) (q := (2, 5)) rfl (by decide) (v := .ref q2) rfl rfl (ah_one_R h4 5 a1 (some q2)) d_WH_init_10 (fun H locs h8 eh8 hW => ?_)
  have w := w h8 eh8
  have mm9 : ah_m h4 h8 := ah_m.rf.st (by rw [eh8]; rfl) (by rw [eh8]; rfl)
  have hm := hm.tr mm9
  have t10 := mm9.tg t6 (by decide)
  have t11 := mm9.tg t7 (by decide)
  refine lv_aload_n hx hb d_WH_init_13 rfl (lv_at hl 0 rfl) ?_
  refine lv_iconst (v := 0) hx hb d_WH_init_14 (by decide) ?_
  refine hb_put (ci := 2) (C := "BigDesk$Whole") (T := T_WH) (N := 3) hx hb hts (fun w9 h9 => hT w9 (u_WH w9 h9)) t_WH o_WH n_WH hown hK hW t11 rfl (by decide) 1 (by decide) (hw wd_37) (fun _ h9 => h9) rfl (ty := t_WH 1) (by decide +kernel) (q := (0, 0)) rfl (by decide) (v := .int (0 : Int32)) rfl rfl (ah_one_I h8 0 a1 (0 : Int32)) d_WH_init_15 (fun H locs h12 eh12 hW => ?_)
  have w := w h12 eh12
  have mm13 : ah_m h8 h12 := ah_m.rf.st (by rw [eh12]; rfl) (by rw [eh12]; rfl)
  have hm := hm.tr mm13
  have t14 := mm13.tg t10 (by decide)
  have t15 := mm13.tg t11 (by decide)
  refine lv_aload_n hx hb d_WH_init_18 rfl (lv_at hl 0 rfl) ?_
  refine lv_iconst (v := 0) hx hb d_WH_init_19 (by decide) ?_
  refine hb_put (ci := 2) (C := "BigDesk$Whole") (T := T_WH) (N := 3) hx hb hts (fun w9 h9 => hT w9 (u_WH w9 h9)) t_WH o_WH n_WH hown hK hW t15 rfl (by decide) 2 (by decide) (hw wd_43) (fun _ h9 => h9) rfl (ty := t_WH 2) (by decide +kernel) (q := (0, 1)) rfl (by decide) (v := .int (0 : Int32)) rfl rfl (ah_one_I h12 1 a1 (0 : Int32)) d_WH_init_20 (fun H locs h16 eh16 hW => ?_)
  have w := w h16 eh16
  have mm17 : ah_m h12 h16 := ah_m.rf.st (by rw [eh16]; rfl) (by rw [eh16]; rfl)
  have hm := hm.tr mm17
  have t18 := mm17.tg t14 (by decide)
  have t19 := mm17.tg t15 (by decide)
  exact hb_vret (K := fun h9 => K h9 ∧ ah_m h0 h9) hx hb hr hlk hK hX hW ⟨w, hm⟩ (by omega) (by omega) d_WH_init_23
set_option maxHeartbeats 4000000 in
set_option maxRecDepth 100000 in
theorem tl_WH_settle_2 {p : Program} {l : Launch} {e : Env} {s : State} {m : MethodId} {args : Array Value} {below : List Frame} {meth : Method} {c : Code} {G : zG} (C : cx_C p l s m args meth c G y_WH_settle b_WH_settle 3 none "BigDesk$Whole" (Cond.code y_WH_settle b_WH_settle 3 none :: zx_T) []) {K : ah_H → Prop} {h0 : ah_H} {cells slots : Nat} (hcl : cells + 0 ≤ 0) (hsl : slots + 0 ≤ 0) {xt_23 : Nat → Int32 → ah_H → Prop} (hc_xt_23 : ∀ (z0 : Nat) (z1 : Int32) (hz : ah_H) (H : Heap) (locs : List Loc) (ls : Array Slot), xt_23 z0 z1 hz → ah_m h0 hz → ah_W G s.heap hz H locs → lv_has ls 3 [(0, .ref z0), (1, .int z1)] → W p l e rm_WH_settle s m args below meth c H locs cells slots (MQ below (va_Qv (fun h9 => K h9 ∧ ah_m h0 h9) (ah_B G) (fun q => G.2.2 ≤ q)) args s 0 0 (fun q => G.2.2 ≤ q)) (F0 m 23 ls [])) : ∀ (n : Nat) (x3 : Nat) (x4 : Int32) (x5 : Int32) (h6 : ah_H) (H : Heap) (locs : List Loc) (ls : Array Slot), lp_WH_settle_2 xt_23 K n x3 x4 x5 h6 → ah_m h0 h6 → ah_W G s.heap h6 H locs → lv_has ls 3 [(0, .ref x3), (1, .int x4), (2, .int x5)] → W p l e rm_WH_settle s m args below meth c H locs cells slots (MQ below (va_Qv (fun h9 => K h9 ∧ ah_m h0 h9) (ah_B G) (fun q => G.2.2 ≤ q)) args s 0 0 (fun q => G.2.2 ≤ q)) (F0 m 2 ls []) := by
  obtain ⟨hx, hb, hr, hml, hown, hts, hT, hlk, hK, hX, htb, hin, hst⟩ := id C
  have hw : ∀ {w9 : Cond}, w9 ∈ zx_T → w9.before _ s = true := fun h9 => hts _ (hT _ h9)
  intro n
  induction n with
  | zero =>
    intro x3 x4 x5 h6 H locs ls w
    exact absurd w (by intro z9; exact z9)
  | succ n ih =>
    intro x3 x4 x5 h6 H locs ls w hm hW hl
    unfold lp_WH_settle_2 at w
    refine lv_iload_n hx hb d_WH_settle_2 rfl (lv_at hl 2 rfl) ?_
    refine lv_aload_n hx hb d_WH_settle_3 rfl (lv_at hl 0 rfl) ?_
    obtain ⟨t7, w⟩ := w
    refine hb_get (ci := 2) (C := "BigDesk$Whole") (T := T_WH) (N := 3) hx hb hts (fun w9 h9 => hT w9 (u_WH w9 h9)) hown hK hW t7 rfl (by decide) 1 (by decide) (hw wd_37) (fun _ h9 => h9) (q := (0, 0)) rfl (v := .int (ah_I h6 0 x3)) rfl d_WH_settle_4 ?_
    refine lv_icmp_ge (tgt := 23) hx hb d_WH_settle_7 (by decide) (fun c8 => ?_) (fun c8 => ?_)
    · have w := w.1 c8
      exact hc_xt_23 x3 x4 h6 _ _ _ w hm hW (lv_sub hl [0, 1] rfl)
    · have w := w.2 c8
      refine lv_aload_n hx hb d_WH_settle_10 rfl (lv_at hl 0 rfl) ?_
      obtain ⟨q9, e10, w⟩ := w
      refine hb_get (ci := 2) (C := "BigDesk$Whole") (T := T_WH) (N := 3) hx hb hts (fun w9 h9 => hT w9 (u_WH w9 h9)) hown hK hW t7 rfl (by decide) 0 (by decide) (hw wd_33) (fun _ h9 => h9) (q := (2, 5)) rfl (v := .ref q9) (ah_f_R e10) d_WH_settle_11 ?_
      refine lv_iload_n hx hb d_WH_settle_14 rfl (lv_at hl 2 rfl) ?_
      refine lv_lconst (v := 0) hx hb d_WH_settle_15 (by decide) ?_
      obtain ⟨t11, w⟩ := w
      obtain ⟨i12, w⟩ := w
      refine hb_last hx hb hK hW t11 (by decide) (by decide) 2 rfl i12 d_WH_settle_16 (fun H locs h13 eh13 hW => ?_)
      have w := w h13 eh13
      have mm14 : ah_m h6 h13 := ah_m.rf.st (by rw [eh13]; rfl) (by rw [eh13]; rfl)
      have hm := hm.tr mm14
      have t15 := mm14.tg t7 (by decide)
      have t16 := mm14.tg t11 (by decide)
      obtain ⟨v17, ev17⟩ : ∃ y9 : Int32, y9 = x5 + 1 := ⟨_, rfl⟩
      have w := w v17 ev17
      refine lv_iinc (v := v17) (lv' := [(2, .int v17), (0, .ref x3), (1, .int x4)]) hx hb d_WH_settle_17 hl (k := 2) rfl (by rw [ev17]; rfl) (by decide) rfl (fun ls hl => ?_)
      refine lv_goto (tgt := 2) hx hb d_WH_settle_20 (by decide) ?_
      exact ih x3 x4 v17 h13 _ _ _ w hm hW (lv_sub hl [1, 2, 0] rfl)
set_option maxHeartbeats 4000000 in
set_option maxRecDepth 100000 in
theorem tl_WH_settle_28 {p : Program} {l : Launch} {e : Env} {s : State} {m : MethodId} {args : Array Value} {below : List Frame} {meth : Method} {c : Code} {G : zG} (C : cx_C p l s m args meth c G y_WH_settle b_WH_settle 3 none "BigDesk$Whole" (Cond.code y_WH_settle b_WH_settle 3 none :: zx_T) []) {K : ah_H → Prop} {h0 : ah_H} {cells slots : Nat} (hcl : cells + 0 ≤ 0) (hsl : slots + 0 ≤ 0) {xt_64 : ah_H → Prop} (hc_xt_64 : ∀ (hz : ah_H) (H : Heap) (locs : List Loc) (ls : Array Slot), xt_64 hz → ah_m h0 hz → ah_W G s.heap hz H locs → lv_has ls 3 [] → W p l e rm_WH_settle s m args below meth c H locs cells slots (MQ below (va_Qv (fun h9 => K h9 ∧ ah_m h0 h9) (ah_B G) (fun q => G.2.2 ≤ q)) args s 0 0 (fun q => G.2.2 ≤ q)) (F0 m 64 ls [])) : ∀ (n : Nat) (x25 : Nat) (h26 : ah_H) (H : Heap) (locs : List Loc) (ls : Array Slot), lp_WH_settle_28 xt_64 K n x25 h26 → ah_m h0 h26 → ah_W G s.heap h26 H locs → lv_has ls 3 [(0, .ref x25)] → W p l e rm_WH_settle s m args below meth c H locs cells slots (MQ below (va_Qv (fun h9 => K h9 ∧ ah_m h0 h9) (ah_B G) (fun q => G.2.2 ≤ q)) args s 0 0 (fun q => G.2.2 ≤ q)) (F0 m 28 ls []) := by
  obtain ⟨hx, hb, hr, hml, hown, hts, hT, hlk, hK, hX, htb, hin, hst⟩ := id C
  have hw : ∀ {w9 : Cond}, w9 ∈ zx_T → w9.before _ s = true := fun h9 => hts _ (hT _ h9)
  intro n
  induction n with
  | zero =>
    intro x25 h26 H locs ls w
    exact absurd w (by intro z9; exact z9)
  | succ n ih =>
    intro x25 h26 H locs ls w hm hW hl
    unfold lp_WH_settle_28 at w
    refine lv_aload_n hx hb d_WH_settle_28 rfl (lv_at hl 0 rfl) ?_
    obtain ⟨t27, w⟩ := w
    refine hb_get (ci := 2) (C := "BigDesk$Whole") (T := T_WH) (N := 3) hx hb hts (fun w9 h9 => hT w9 (u_WH w9 h9)) hown hK hW t27 rfl (by decide) 1 (by decide) (hw wd_37) (fun _ h9 => h9) (q := (0, 0)) rfl (v := .int (ah_I h26 0 x25)) rfl d_WH_settle_29 ?_
    refine lv_if_le (tgt := 64) hx hb d_WH_settle_32 (by decide) (fun c28 => ?_) (fun c28 => ?_)
    · have w := w.1 c28
      exact hc_xt_64  h26 _ _ _ w hm hW (lv_sub hl [] rfl)
    · have w := w.2 c28
      refine lv_aload_n hx hb d_WH_settle_35 rfl (lv_at hl 0 rfl) ?_
      obtain ⟨q29, e30, w⟩ := w
      refine hb_get (ci := 2) (C := "BigDesk$Whole") (T := T_WH) (N := 3) hx hb hts (fun w9 h9 => hT w9 (u_WH w9 h9)) hown hK hW t27 rfl (by decide) 0 (by decide) (hw wd_33) (fun _ h9 => h9) (q := (2, 5)) rfl (v := .ref q29) (ah_f_R e30) d_WH_settle_36 ?_
      refine lv_aload_n hx hb d_WH_settle_39 rfl (lv_at hl 0 rfl) ?_
      refine hb_get (ci := 2) (C := "BigDesk$Whole") (T := T_WH) (N := 3) hx hb hts (fun w9 h9 => hT w9 (u_WH w9 h9)) hown hK hW t27 rfl (by decide) 1 (by decide) (hw wd_37) (fun _ h9 => h9) (q := (0, 0)) rfl (v := .int (ah_I h26 0 x25)) rfl d_WH_settle_40 ?_
      refine lv_iconst (v := 1) hx hb d_WH_settle_43 (by decide) ?_
      refine lv_isub hx hb d_WH_settle_44 ?_
      obtain ⟨t31, w⟩ := w
      obtain ⟨i32, w⟩ := w
      refine hb_lald hx hb hK hW t31 (by decide) (by decide) 2 rfl i32 d_WH_settle_45 ?_
      refine lv_lconst (v := 0) hx hb d_WH_settle_46 (by decide) ?_
      refine hb_lcmp_ne (tgt := 64) hx hb d_WH_settle_47 d_WH_settle_48 (by decide) (fun c33 => ?_) (fun c33 => ?_)
      · have w := w.1 c33
        exact hc_xt_64  h26 _ _ _ w hm hW (lv_sub hl [] rfl)
      · have w := w.2 c33
        refine lv_aload_n hx hb d_WH_settle_51 rfl (lv_at hl 0 rfl) ?_
        refine lv_dup hx hb d_WH_settle_52 rfl ?_
        refine hb_get (ci := 2) (C := "BigDesk$Whole") (T := T_WH) (N := 3) hx hb hts (fun w9 h9 => hT w9 (u_WH w9 h9)) hown hK hW t27 rfl (by decide) 1 (by decide) (hw wd_37) (fun _ h9 => h9) (q := (0, 0)) rfl (v := .int (ah_I h26 0 x25)) rfl d_WH_settle_53 ?_
        refine lv_iconst (v := 1) hx hb d_WH_settle_56 (by decide) ?_
        refine lv_isub hx hb d_WH_settle_57 ?_
        refine lv_topi (fun v34 ev34 => ?_)
        have w := w v34 ev34
        refine hb_put (ci := 2) (C := "BigDesk$Whole") (T := T_WH) (N := 3) hx hb hts (fun w9 h9 => hT w9 (u_WH w9 h9)) t_WH o_WH n_WH hown hK hW t27 rfl (by decide) 1 (by decide) (hw wd_37) (fun _ h9 => h9) rfl (ty := t_WH 1) (by decide +kernel) (q := (0, 0)) rfl (by decide) (v := .int v34) rfl rfl (ah_one_I h26 0 x25 v34) d_WH_settle_58 (fun H locs h35 eh35 hW => ?_)
        have w := w h35 eh35
        have mm36 : ah_m h26 h35 := ah_m.rf.st (by rw [eh35]; rfl) (by rw [eh35]; rfl)
        have hm := hm.tr mm36
        have t37 := mm36.tg t27 (by decide)
        have t38 := mm36.tg t31 (by decide)
        refine lv_goto (tgt := 28) hx hb d_WH_settle_61 (by decide) ?_
        exact ih x25 h35 _ _ _ w hm hW (lv_sub hl [0] rfl)
set_option maxHeartbeats 4000000 in
set_option maxRecDepth 100000 in
theorem tb_WH_settle_64 {p : Program} {l : Launch} {e : Env} {s : State} {m : MethodId} {args : Array Value} {below : List Frame} {meth : Method} {c : Code} {G : zG} (C : cx_C p l s m args meth c G y_WH_settle b_WH_settle 3 none "BigDesk$Whole" (Cond.code y_WH_settle b_WH_settle 3 none :: zx_T) []) {K : ah_H → Prop} {h0 : ah_H} {cells slots : Nat} (hcl : cells + 0 ≤ 0) (hsl : slots + 0 ≤ 0)   (h40 : ah_H) (H : Heap) (locs : List Loc) (ls : Array Slot) (w : bk_WH_settle_64 K h40) (hm : ah_m h0 h40) (hW : ah_W G s.heap h40 H locs) (hl : lv_has ls 3 []) : W p l e rm_WH_settle s m args below meth c H locs cells slots (MQ below (va_Qv (fun h9 => K h9 ∧ ah_m h0 h9) (ah_B G) (fun q => G.2.2 ≤ q)) args s 0 0 (fun q => G.2.2 ≤ q)) (F0 m 64 ls []) := by
  unfold bk_WH_settle_64 at w
  obtain ⟨hx, hb, hr, hml, hown, hts, hT, hlk, hK, hX, htb, hin, hst⟩ := id C
  have hw : ∀ {w9 : Cond}, w9 ∈ zx_T → w9.before _ s = true := fun h9 => hts _ (hT _ h9)
  exact hb_vret (K := fun h9 => K h9 ∧ ah_m h0 h9) hx hb hr hlk hK hX hW ⟨w, hm⟩ (by omega) (by omega) d_WH_settle_64
set_option maxHeartbeats 4000000 in
set_option maxRecDepth 100000 in
theorem m_WH_settle {l : Launch} (G : zG) (a1 : Nat) (a2 : Int32) (h0 : ah_H) {K : ah_H → Prop} (hst : l.stackTraces = false) (w : w_WH_settle a1 a2 h0 K) : Met l y_WH_settle (Cond.code y_WH_settle b_WH_settle 3 none :: zx_T) rm_WH_settle (va_Pc [.ref a1, .int a2] (ah_B G h0)) (va_Qv (fun h9 => K h9 ∧ ah_m h0 h9) (ah_B G) (fun q => G.2.2 ≤ q)) 0 0 (fun q => G.2.2 ≤ q) := by
  refine Met.ofW (cc := b_WH_settle) (maxL := 3) (ret := none) (by decide) rfl ?_
  intro p e s m args below meth c s₁ B hml hv
  have htb := cx_out B (atoms_spec B.pre _ List.mem_cons_self)
  obtain ⟨rfl, hB⟩ := hv
  have C : cx_C p l s m _ meth c G y_WH_settle b_WH_settle 3 none "BigDesk$Whole" (Cond.code y_WH_settle b_WH_settle 3 none :: zx_T) [] := ⟨B.exec, B.bytes, B.returns, hml, findClass_of_methodNamed B.named, atoms_spec B.pre, cx_hd, B.notSynchronized, hB.2.2.1, hB.2.2.2, htb, fun z9 => (name_of_methodNamed B.named B.method).1.trans z9, hst⟩
  obtain ⟨hx, hb, hr, hml, hown, hts, hT, hlk, hK, hX, htb, hin, hst⟩ := id C
  have hw : ∀ {w9 : Cond}, w9 ∈ zx_T → w9.before _ s = true := fun h9 => hts _ (hT _ h9)
  have hW : ah_W G s.heap h0 s.heap [] := ⟨hB.1, hB.2.1, va_S.rf⟩
  have hm : ah_m h0 h0 := ah_m.rf
  have hcl : 0 + 0 ≤ 0 := by decide
  have hsl : 0 + 0 ≤ 0 := by decide
  have hl := lv_entry ([.ref a1, .int a2]) (n := 3) (Nat.le_of_ble_eq_true rfl)
  rw [lg_entry_eq]
  generalize (lg_sl ([.ref a1, .int a2]) ++ List.replicate (3 - (lg_sl ([.ref a1, .int a2])).length) Slot.unset).toArray = ls at hl ⊢
  have hl : lv_has ls 3 [(0, .ref a1), (1, .int a2)] := hl
  unfold w_WH_settle at w
  refine lv_iload_n hx hb d_WH_settle_0 rfl (lv_at hl 1 rfl) ?_
  refine lv_istore_n (lv' := [(2, .int a2), (0, .ref a1), (1, .int a2)]) hx hb d_WH_settle_1 rfl hl (by decide) rfl (fun ls hl => ?_)
  obtain ⟨k42, w⟩ := w
  refine tl_WH_settle_2 C (by omega) (by omega) (fun x18 x19 h20 H locs ls w hm hW hl => ?_) k42 a1 a2 a2 h0 _ _ _ w hm hW (lv_sub hl [1, 2, 0] rfl)
  · refine lv_aload_n hx hb d_WH_settle_23 rfl (lv_at hl 0 rfl) ?_
    refine lv_iload_n hx hb d_WH_settle_24 rfl (lv_at hl 1 rfl) ?_
    obtain ⟨t21, w⟩ := w
    refine hb_put (ci := 2) (C := "BigDesk$Whole") (T := T_WH) (N := 3) hx hb hts (fun w9 h9 => hT w9 (u_WH w9 h9)) t_WH o_WH n_WH hown hK hW t21 rfl (by decide) 1 (by decide) (hw wd_37) (fun _ h9 => h9) rfl (ty := t_WH 1) (by decide +kernel) (q := (0, 0)) rfl (by decide) (v := .int x19) rfl rfl (ah_one_I h20 0 x18 x19) d_WH_settle_25 (fun H locs h22 eh22 hW => ?_)
    have w := w h22 eh22
    have mm23 : ah_m h20 h22 := ah_m.rf.st (by rw [eh22]; rfl) (by rw [eh22]; rfl)
    have hm := hm.tr mm23
    have t24 := mm23.tg t21 (by decide)
    obtain ⟨k41, w⟩ := w
    refine tl_WH_settle_28 C (by omega) (by omega) (fun  h39 H locs ls w hm hW hl => ?_) k41 x18 h22 _ _ _ w hm hW (lv_sub hl [0] rfl)
    · exact tb_WH_settle_64 C (by omega) (by omega)   h39 _ _ _ w hm hW (lv_sub hl [] rfl)
set_option maxHeartbeats 4000000 in
set_option maxRecDepth 100000 in
theorem tb_WH_markSign_17 {p : Program} {l : Launch} {e : Env} {s : State} {m : MethodId} {args : Array Value} {below : List Frame} {meth : Method} {c : Code} {G : zG} (C : cx_C p l s m args meth c G y_WH_markSign b_WH_markSign 2 none "BigDesk$Whole" (Cond.code y_WH_markSign b_WH_markSign 2 none :: zx_T) []) {K : ah_H → Prop} {h0 : ah_H} {cells slots : Nat} (hcl : cells + 0 ≤ 0) (hsl : slots + 0 ≤ 0)  (s6 : Int32) (s7 : Nat) (h8 : ah_H) (H : Heap) (locs : List Loc) (ls : Array Slot) (w : bk_WH_markSign_17 K s6 s7 h8) (hm : ah_m h0 h8) (hW : ah_W G s.heap h8 H locs) (hl : lv_has ls 2 []) : W p l e rm_WH_markSign s m args below meth c H locs cells slots (MQ below (va_Qv (fun h9 => K h9 ∧ ah_m h0 h9) (ah_B G) (fun q => G.2.2 ≤ q)) args s 0 0 (fun q => G.2.2 ≤ q)) (F0 m 17 ls [.int s6, .ref s7]) := by
  unfold bk_WH_markSign_17 at w
  obtain ⟨hx, hb, hr, hml, hown, hts, hT, hlk, hK, hX, htb, hin, hst⟩ := id C
  have hw : ∀ {w9 : Cond}, w9 ∈ zx_T → w9.before _ s = true := fun h9 => hts _ (hT _ h9)
  obtain ⟨t9, w⟩ := w
  obtain ⟨z10, w⟩ := w
  refine hb_put (ci := 2) (C := "BigDesk$Whole") (T := T_WH) (N := 3) hx hb hts (fun w9 h9 => hT w9 (u_WH w9 h9)) t_WH o_WH n_WH hown hK hW t9 rfl (by decide) 2 (by decide) (hw wd_43) (fun _ h9 => h9) rfl (ty := t_WH 2) (by decide +kernel) (q := (0, 1)) rfl (by decide) (v := .int s6) (zb_n z10) (zb_f z10) (ah_one_I h8 1 s7 s6) d_WH_markSign_17 (fun H locs h11 eh11 hW => ?_)
  have w := w h11 eh11
  have mm12 : ah_m h8 h11 := ah_m.rf.st (by rw [eh11]; rfl) (by rw [eh11]; rfl)
  have hm := hm.tr mm12
  have t13 := mm12.tg t9 (by decide)
  exact hb_vret (K := fun h9 => K h9 ∧ ah_m h0 h9) hx hb hr hlk hK hX hW ⟨w, hm⟩ (by omega) (by omega) d_WH_markSign_20
set_option maxHeartbeats 4000000 in
set_option maxRecDepth 100000 in
theorem tb_WH_markSign_16 {p : Program} {l : Launch} {e : Env} {s : State} {m : MethodId} {args : Array Value} {below : List Frame} {meth : Method} {c : Code} {G : zG} (C : cx_C p l s m args meth c G y_WH_markSign b_WH_markSign 2 none "BigDesk$Whole" (Cond.code y_WH_markSign b_WH_markSign 2 none :: zx_T) []) {K : ah_H → Prop} {h0 : ah_H} {cells slots : Nat} (hcl : cells + 0 ≤ 0) (hsl : slots + 0 ≤ 0)  (s4 : Nat) (h5 : ah_H) (H : Heap) (locs : List Loc) (ls : Array Slot) (w : bk_WH_markSign_16 K s4 h5) (hm : ah_m h0 h5) (hW : ah_W G s.heap h5 H locs) (hl : lv_has ls 2 []) : W p l e rm_WH_markSign s m args below meth c H locs cells slots (MQ below (va_Qv (fun h9 => K h9 ∧ ah_m h0 h9) (ah_B G) (fun q => G.2.2 ≤ q)) args s 0 0 (fun q => G.2.2 ≤ q)) (F0 m 16 ls [.ref s4]) := by
  unfold bk_WH_markSign_16 at w
  obtain ⟨hx, hb, hr, hml, hown, hts, hT, hlk, hK, hX, htb, hin, hst⟩ := id C
  have hw : ∀ {w9 : Cond}, w9 ∈ zx_T → w9.before _ s = true := fun h9 => hts _ (hT _ h9)
  refine lv_iconst (v := 0) hx hb d_WH_markSign_16 (by decide) ?_
  exact tb_WH_markSign_17 C (by omega) (by omega)  (0 : Int32) s4 h5 _ _ _ w hm hW (lv_sub hl [] rfl)
set_option maxHeartbeats 4000000 in
set_option maxRecDepth 100000 in
theorem m_WH_markSign {l : Launch} (G : zG) (a1 : Nat) (a2 : Int32) (h0 : ah_H) {K : ah_H → Prop} (hst : l.stackTraces = false) (w : w_WH_markSign a1 a2 h0 K) : Met l y_WH_markSign (Cond.code y_WH_markSign b_WH_markSign 2 none :: zx_T) rm_WH_markSign (va_Pc [.ref a1, .int a2] (ah_B G h0)) (va_Qv (fun h9 => K h9 ∧ ah_m h0 h9) (ah_B G) (fun q => G.2.2 ≤ q)) 0 0 (fun q => G.2.2 ≤ q) := by
  refine Met.ofW (cc := b_WH_markSign) (maxL := 2) (ret := none) (by decide) rfl ?_
  intro p e s m args below meth c s₁ B hml hv
  have htb := cx_out B (atoms_spec B.pre _ List.mem_cons_self)
  obtain ⟨rfl, hB⟩ := hv
  have C : cx_C p l s m _ meth c G y_WH_markSign b_WH_markSign 2 none "BigDesk$Whole" (Cond.code y_WH_markSign b_WH_markSign 2 none :: zx_T) [] := ⟨B.exec, B.bytes, B.returns, hml, findClass_of_methodNamed B.named, atoms_spec B.pre, cx_hd, B.notSynchronized, hB.2.2.1, hB.2.2.2, htb, fun z9 => (name_of_methodNamed B.named B.method).1.trans z9, hst⟩
  obtain ⟨hx, hb, hr, hml, hown, hts, hT, hlk, hK, hX, htb, hin, hst⟩ := id C
  have hw : ∀ {w9 : Cond}, w9 ∈ zx_T → w9.before _ s = true := fun h9 => hts _ (hT _ h9)
  have hW : ah_W G s.heap h0 s.heap [] := ⟨hB.1, hB.2.1, va_S.rf⟩
  have hm : ah_m h0 h0 := ah_m.rf
  have hcl : 0 + 0 ≤ 0 := by decide
  have hsl : 0 + 0 ≤ 0 := by decide
  have hl := lv_entry ([.ref a1, .int a2]) (n := 2) (Nat.le_of_ble_eq_true rfl)
  rw [lg_entry_eq]
  generalize (lg_sl ([.ref a1, .int a2]) ++ List.replicate (2 - (lg_sl ([.ref a1, .int a2])).length) Slot.unset).toArray = ls at hl ⊢
  have hl : lv_has ls 2 [(0, .ref a1), (1, .int a2)] := hl
  unfold w_WH_markSign at w
  refine lv_aload_n hx hb d_WH_markSign_0 rfl (lv_at hl 0 rfl) ?_
  refine lv_iload_n hx hb d_WH_markSign_1 rfl (lv_at hl 1 rfl) ?_
  refine lv_if_eq (tgt := 16) hx hb d_WH_markSign_2 (by decide) (fun c3 => ?_) (fun c3 => ?_)
  · have w := w.1 c3
    exact tb_WH_markSign_16 C (by omega) (by omega)  a1 h0 _ _ _ w hm hW (lv_sub hl [] rfl)
  · have w := w.2 c3
    refine lv_aload_n hx hb d_WH_markSign_5 rfl (lv_at hl 0 rfl) ?_
    obtain ⟨t14, w⟩ := w
    refine hb_get (ci := 2) (C := "BigDesk$Whole") (T := T_WH) (N := 3) hx hb hts (fun w9 h9 => hT w9 (u_WH w9 h9)) hown hK hW t14 rfl (by decide) 1 (by decide) (hw wd_37) (fun _ h9 => h9) (q := (0, 0)) rfl (v := .int (ah_I h0 0 a1)) rfl d_WH_markSign_6 ?_
    refine lv_if_le (tgt := 16) hx hb d_WH_markSign_9 (by decide) (fun c15 => ?_) (fun c15 => ?_)
    · have w := w.1 c15
      exact tb_WH_markSign_16 C (by omega) (by omega)  a1 h0 _ _ _ w hm hW (lv_sub hl [] rfl)
    · have w := w.2 c15
      refine lv_iconst (v := 1) hx hb d_WH_markSign_12 (by decide) ?_
      refine lv_goto (tgt := 17) hx hb d_WH_markSign_13 (by decide) ?_
      exact tb_WH_markSign_17 C (by omega) (by omega)  (1 : Int32) a1 h0 _ _ _ w hm hW (lv_sub hl [] rfl)
set_option maxHeartbeats 4000000 in
set_option maxRecDepth 100000 in
theorem tb_WH_becomeLong_51 {p : Program} {l : Launch} {e : Env} {s : State} {m : MethodId} {args : Array Value} {below : List Frame} {meth : Method} {c : Code} {G : zG} (C : cx_C p l s m args meth c G y_WH_becomeLong b_WH_becomeLong 5 none "BigDesk$Whole" (Cond.code y_WH_becomeLong b_WH_becomeLong 5 none :: zx_T) []) {K : ah_H → Prop} {h0 : ah_H} {cells slots : Nat} (hcl : cells + 0 ≤ 0) (hsl : slots + 0 ≤ 0)  (s34 : Int32) (s35 : Nat) (h36 : ah_H) (H : Heap) (locs : List Loc) (ls : Array Slot) (w : bk_WH_becomeLong_51 K s34 s35 h36) (hm : ah_m h0 h36) (hW : ah_W G s.heap h36 H locs) (hl : lv_has ls 5 []) : W p l e rm_WH_becomeLong s m args below meth c H locs cells slots (MQ below (va_Qv (fun h9 => K h9 ∧ ah_m h0 h9) (ah_B G) (fun q => G.2.2 ≤ q)) args s 0 0 (fun q => G.2.2 ≤ q)) (F0 m 51 ls [.int s34, .ref s35]) := by
  unfold bk_WH_becomeLong_51 at w
  obtain ⟨hx, hb, hr, hml, hown, hts, hT, hlk, hK, hX, htb, hin, hst⟩ := id C
  have hw : ∀ {w9 : Cond}, w9 ∈ zx_T → w9.before _ s = true := fun h9 => hts _ (hT _ h9)
  obtain ⟨t37, w⟩ := w
  refine hb_callv (va_runV (As := [.int s34]) (rest := []) ⟨hx, hb, hml, hown, hts⟩ (m_WH_markSign G s35 s34 h36 hst w) (cwV 1 hts (zx_gV hT wd_222 wd_223 wd_224 wd_2 wd_225) rfl rfl rfl (by decide +kernel) ⟨Nat.le_of_ble_eq_true rfl, Nat.le_of_ble_eq_true rfl⟩) (hb_preV hK hX hW t37 (by decide) rfl) rfl rfl hl.1 rfl (lv_room (Nat.le_of_ble_eq_true rfl)) d_WH_becomeLong_51 ⟨(by show _ ≤ 0; omega), (by show _ ≤ 0; omega)⟩) hW (fun h38 H locs hk hW => ?_)
  obtain ⟨w, mm39⟩ := hk
  have w := w mm39
  have hm := hm.tr mm39
  have t40 := mm39.tg t37 (by decide)
  exact hb_vret (K := fun h9 => K h9 ∧ ah_m h0 h9) hx hb hr hlk hK hX hW ⟨w, hm⟩ (by omega) (by omega) d_WH_becomeLong_54
set_option maxHeartbeats 4000000 in
set_option maxRecDepth 100000 in
theorem tb_WH_becomeLong_12 {p : Program} {l : Launch} {e : Env} {s : State} {m : MethodId} {args : Array Value} {below : List Frame} {meth : Method} {c : Code} {G : zG} (C : cx_C p l s m args meth c G y_WH_becomeLong b_WH_becomeLong 5 none "BigDesk$Whole" (Cond.code y_WH_becomeLong b_WH_becomeLong 5 none :: zx_T) []) {K : ah_H → Prop} {h0 : ah_H} {cells slots : Nat} (hcl : cells + 0 ≤ 0) (hsl : slots + 0 ≤ 0)  (x4 : Nat) (x5 : Int64) (s6 : Int64) (h7 : ah_H) (H : Heap) (locs : List Loc) (ls : Array Slot) (w : bk_WH_becomeLong_12 K x4 x5 s6 h7) (hm : ah_m h0 h7) (hW : ah_W G s.heap h7 H locs) (hl : lv_has ls 5 [(0, .ref x4), (1, .long x5)]) : W p l e rm_WH_becomeLong s m args below meth c H locs cells slots (MQ below (va_Qv (fun h9 => K h9 ∧ ah_m h0 h9) (ah_B G) (fun q => G.2.2 ≤ q)) args s 0 0 (fun q => G.2.2 ≤ q)) (F0 m 12 ls [.long s6]) := by
  unfold bk_WH_becomeLong_12 at w
  obtain ⟨hx, hb, hr, hml, hown, hts, hT, hlk, hK, hX, htb, hin, hst⟩ := id C
  have hw : ∀ {w9 : Cond}, w9 ∈ zx_T → w9.before _ s = true := fun h9 => hts _ (hT _ h9)
  refine lv_lstore_n (lv' := [(3, .long s6), (0, .ref x4), (1, .long x5)]) hx hb d_WH_becomeLong_12 rfl hl (by decide) rfl (fun ls hl => ?_)
  refine lv_aload_n hx hb d_WH_becomeLong_13 rfl (lv_at hl 1 rfl) ?_
  obtain ⟨t8, w⟩ := w
  obtain ⟨q9, e10, w⟩ := w
  refine hb_get (ci := 2) (C := "BigDesk$Whole") (T := T_WH) (N := 3) hx hb hts (fun w9 h9 => hT w9 (u_WH w9 h9)) hown hK hW t8 rfl (by decide) 0 (by decide) (hw wd_33) (fun _ h9 => h9) (q := (2, 5)) rfl (v := .ref q9) (ah_f_R e10) d_WH_becomeLong_14 ?_
  refine lv_iconst (v := 0) hx hb d_WH_becomeLong_17 (by decide) ?_
  refine lv_lload_n hx hb d_WH_becomeLong_18 rfl (lv_at hl 0 rfl) ?_
  refine lv_ldc2 (v := 4294967295) hx hb hown (hw wd_217) d_WH_becomeLong_19 ?_
  refine lv_land hx hb d_WH_becomeLong_22 ?_
  refine lv_topl (fun v11 ev11 => ?_)
  have w := w v11 ev11
  obtain ⟨t12, w⟩ := w
  obtain ⟨i13, w⟩ := w
  refine hb_last hx hb hK hW t12 (by decide) (by decide) 2 rfl i13 d_WH_becomeLong_23 (fun H locs h14 eh14 hW => ?_)
  have w := w h14 eh14
  have mm15 : ah_m h7 h14 := ah_m.rf.st (by rw [eh14]; rfl) (by rw [eh14]; rfl)
  have hm := hm.tr mm15
  have t16 := mm15.tg t8 (by decide)
  have t17 := mm15.tg t12 (by decide)
  refine lv_aload_n hx hb d_WH_becomeLong_24 rfl (lv_at hl 1 rfl) ?_
  obtain ⟨q18, e19, w⟩ := w
  refine hb_get (ci := 2) (C := "BigDesk$Whole") (T := T_WH) (N := 3) hx hb hts (fun w9 h9 => hT w9 (u_WH w9 h9)) hown hK hW t16 rfl (by decide) 0 (by decide) (hw wd_33) (fun _ h9 => h9) (q := (2, 5)) rfl (v := .ref q18) (ah_f_R e19) d_WH_becomeLong_25 ?_
  refine lv_iconst (v := 1) hx hb d_WH_becomeLong_28 (by decide) ?_
  refine lv_lload_n hx hb d_WH_becomeLong_29 rfl (lv_at hl 0 rfl) ?_
  refine lv_bipush (v := 32) hx hb d_WH_becomeLong_30 (by decide) ?_
  refine lv_lushr hx hb d_WH_becomeLong_32 rfl ?_
  refine lv_topl (fun v20 ev20 => ?_)
  have w := w v20 ev20
  obtain ⟨t21, w⟩ := w
  obtain ⟨i22, w⟩ := w
  refine hb_last hx hb hK hW t21 (by decide) (by decide) 2 rfl i22 d_WH_becomeLong_33 (fun H locs h23 eh23 hW => ?_)
  have w := w h23 eh23
  have mm24 : ah_m h14 h23 := ah_m.rf.st (by rw [eh23]; rfl) (by rw [eh23]; rfl)
  have hm := hm.tr mm24
  have t25 := mm24.tg t16 (by decide)
  have t26 := mm24.tg t17 (by decide)
  have t27 := mm24.tg t21 (by decide)
  refine lv_aload_n hx hb d_WH_becomeLong_34 rfl (lv_at hl 1 rfl) ?_
  refine lv_iconst (v := 2) hx hb d_WH_becomeLong_35 (by decide) ?_
  refine hb_callv (va_runV (As := [.int (2 : Int32)]) (rest := []) ⟨hx, hb, hml, hown, hts⟩ (m_WH_settle G x4 (2 : Int32) h23 hst w) (cwV 1 hts (zx_gV hT wd_218 wd_219 wd_220 wd_2 wd_221) rfl rfl rfl (by decide +kernel) ⟨Nat.le_of_ble_eq_true rfl, Nat.le_of_ble_eq_true rfl⟩) (hb_preV hK hX hW t25 (by decide) rfl) rfl rfl hl.1 rfl (lv_room (Nat.le_of_ble_eq_true rfl)) d_WH_becomeLong_36 ⟨(by show _ ≤ 0; omega), (by show _ ≤ 0; omega)⟩) hW (fun h28 H locs hk hW => ?_)
  obtain ⟨w, mm29⟩ := hk
  have w := w mm29
  have hm := hm.tr mm29
  have t30 := mm29.tg t25 (by decide)
  have t31 := mm29.tg t26 (by decide)
  have t32 := mm29.tg t27 (by decide)
  refine lv_aload_n hx hb d_WH_becomeLong_39 rfl (lv_at hl 1 rfl) ?_
  refine lv_lload_n hx hb d_WH_becomeLong_40 rfl (lv_at hl 2 rfl) ?_
  refine lv_lconst (v := 0) hx hb d_WH_becomeLong_41 (by decide) ?_
  refine hb_lcmp_ge (tgt := 50) hx hb d_WH_becomeLong_42 d_WH_becomeLong_43 (by decide) (fun c33 => ?_) (fun c33 => ?_)
  · have w := w.1 c33
    refine lv_iconst (v := 0) hx hb d_WH_becomeLong_50 (by decide) ?_
    exact tb_WH_becomeLong_51 C (by omega) (by omega)  (0 : Int32) x4 h28 _ _ _ w hm hW (lv_sub hl [] rfl)
  · have w := w.2 c33
    refine lv_iconst (v := 1) hx hb d_WH_becomeLong_46 (by decide) ?_
    refine lv_goto (tgt := 51) hx hb d_WH_becomeLong_47 (by decide) ?_
    exact tb_WH_becomeLong_51 C (by omega) (by omega)  (1 : Int32) x4 h28 _ _ _ w hm hW (lv_sub hl [] rfl)
set_option maxHeartbeats 4000000 in
set_option maxRecDepth 100000 in
theorem m_WH_becomeLong {l : Launch} (G : zG) (a1 : Nat) (a2 : Int64) (h0 : ah_H) {K : ah_H → Prop} (hst : l.stackTraces = false) (w : w_WH_becomeLong a1 a2 h0 K) : Met l y_WH_becomeLong (Cond.code y_WH_becomeLong b_WH_becomeLong 5 none :: zx_T) rm_WH_becomeLong (va_Pc [.ref a1, .long a2] (ah_B G h0)) (va_Qv (fun h9 => K h9 ∧ ah_m h0 h9) (ah_B G) (fun q => G.2.2 ≤ q)) 0 0 (fun q => G.2.2 ≤ q) := by
  refine Met.ofW (cc := b_WH_becomeLong) (maxL := 5) (ret := none) (by decide) rfl ?_
  intro p e s m args below meth c s₁ B hml hv
  have htb := cx_out B (atoms_spec B.pre _ List.mem_cons_self)
  obtain ⟨rfl, hB⟩ := hv
  have C : cx_C p l s m _ meth c G y_WH_becomeLong b_WH_becomeLong 5 none "BigDesk$Whole" (Cond.code y_WH_becomeLong b_WH_becomeLong 5 none :: zx_T) [] := ⟨B.exec, B.bytes, B.returns, hml, findClass_of_methodNamed B.named, atoms_spec B.pre, cx_hd, B.notSynchronized, hB.2.2.1, hB.2.2.2, htb, fun z9 => (name_of_methodNamed B.named B.method).1.trans z9, hst⟩
  obtain ⟨hx, hb, hr, hml, hown, hts, hT, hlk, hK, hX, htb, hin, hst⟩ := id C
  have hw : ∀ {w9 : Cond}, w9 ∈ zx_T → w9.before _ s = true := fun h9 => hts _ (hT _ h9)
  have hW : ah_W G s.heap h0 s.heap [] := ⟨hB.1, hB.2.1, va_S.rf⟩
  have hm : ah_m h0 h0 := ah_m.rf
  have hcl : 0 + 0 ≤ 0 := by decide
  have hsl : 0 + 0 ≤ 0 := by decide
  have hl := lv_entry ([.ref a1, .long a2]) (n := 5) (Nat.le_of_ble_eq_true rfl)
  rw [lg_entry_eq]
  generalize (lg_sl ([.ref a1, .long a2]) ++ List.replicate (5 - (lg_sl ([.ref a1, .long a2])).length) Slot.unset).toArray = ls at hl ⊢
  have hl : lv_has ls 5 [(0, .ref a1), (1, .long a2)] := hl
  unfold w_WH_becomeLong at w
  refine lv_lload_n hx hb d_WH_becomeLong_0 rfl (lv_at hl 1 rfl) ?_
  refine lv_lconst (v := 0) hx hb d_WH_becomeLong_1 (by decide) ?_
  refine hb_lcmp_ge (tgt := 11) hx hb d_WH_becomeLong_2 d_WH_becomeLong_3 (by decide) (fun c3 => ?_) (fun c3 => ?_)
  · have w := w.1 c3
    refine lv_lload_n hx hb d_WH_becomeLong_11 rfl (lv_at hl 1 rfl) ?_
    exact tb_WH_becomeLong_12 C (by omega) (by omega)  a1 a2 a2 h0 _ _ _ w hm hW (lv_sub hl [0, 1] rfl)
  · have w := w.2 c3
    refine lv_lload_n hx hb d_WH_becomeLong_6 rfl (lv_at hl 1 rfl) ?_
    refine lv_lneg hx hb d_WH_becomeLong_7 ?_
    refine lv_goto (tgt := 12) hx hb d_WH_becomeLong_8 (by decide) ?_
    exact tb_WH_becomeLong_12 C (by omega) (by omega)  a1 a2 (-a2) h0 _ _ _ w hm hW (lv_sub hl [0, 1] rfl)
set_option maxHeartbeats 4000000 in
set_option maxRecDepth 100000 in
theorem m_WH_become {l : Launch} (G : zG) (a1 : Nat) (a2 : Nat) (h0 : ah_H) {K : ah_H → Prop} (hst : l.stackTraces = false) (w : w_WH_become a1 a2 h0 K) : Met l y_WH_become (Cond.code y_WH_become b_WH_become 2 none :: zx_T) rm_WH_become (va_Pc [.ref a1, .ref a2] (ah_B G h0)) (va_Qv (fun h9 => K h9 ∧ ah_m h0 h9) (ah_B G) (fun q => G.2.2 ≤ q)) 0 0 (fun q => G.2.2 ≤ q) := by
  refine Met.ofW (cc := b_WH_become) (maxL := 2) (ret := none) (by decide) rfl ?_
  intro p e s m args below meth c s₁ B hml hv
  have htb := cx_out B (atoms_spec B.pre _ List.mem_cons_self)
  obtain ⟨rfl, hB⟩ := hv
  have C : cx_C p l s m _ meth c G y_WH_become b_WH_become 2 none "BigDesk$Whole" (Cond.code y_WH_become b_WH_become 2 none :: zx_T) [] := ⟨B.exec, B.bytes, B.returns, hml, findClass_of_methodNamed B.named, atoms_spec B.pre, cx_hd, B.notSynchronized, hB.2.2.1, hB.2.2.2, htb, fun z9 => (name_of_methodNamed B.named B.method).1.trans z9, hst⟩
  obtain ⟨hx, hb, hr, hml, hown, hts, hT, hlk, hK, hX, htb, hin, hst⟩ := id C
  have hw : ∀ {w9 : Cond}, w9 ∈ zx_T → w9.before _ s = true := fun h9 => hts _ (hT _ h9)
  have hW : ah_W G s.heap h0 s.heap [] := ⟨hB.1, hB.2.1, va_S.rf⟩
  have hm : ah_m h0 h0 := ah_m.rf
  have hcl : 0 + 0 ≤ 0 := by decide
  have hsl : 0 + 0 ≤ 0 := by decide
  have hl := lv_entry ([.ref a1, .ref a2]) (n := 2) (Nat.le_of_ble_eq_true rfl)
  rw [lg_entry_eq]
  generalize (lg_sl ([.ref a1, .ref a2]) ++ List.replicate (2 - (lg_sl ([.ref a1, .ref a2])).length) Slot.unset).toArray = ls at hl ⊢
  have hl : lv_has ls 2 [(0, .ref a1), (1, .ref a2)] := hl
  unfold w_WH_become at w
  refine lv_aload_n hx hb d_WH_become_0 rfl (lv_at hl 1 rfl) ?_
  obtain ⟨t3, w⟩ := w
  obtain ⟨q4, e5, w⟩ := w
  refine hb_get (ci := 2) (C := "BigDesk$Whole") (T := T_WH) (N := 3) hx hb hts (fun w9 h9 => hT w9 (u_WH w9 h9)) hown hK hW t3 rfl (by decide) 0 (by decide) (hw wd_33) (fun _ h9 => h9) (q := (2, 5)) rfl (v := .ref q4) (ah_f_R e5) d_WH_become_1 ?_
  refine lv_iconst (v := 0) hx hb d_WH_become_4 (by decide) ?_
  refine lv_aload_n hx hb d_WH_become_5 rfl (lv_at hl 0 rfl) ?_
  obtain ⟨t6, w⟩ := w
  obtain ⟨q7, e8, w⟩ := w
  refine hb_get (ci := 2) (C := "BigDesk$Whole") (T := T_WH) (N := 3) hx hb hts (fun w9 h9 => hT w9 (u_WH w9 h9)) hown hK hW t6 rfl (by decide) 0 (by decide) (hw wd_33) (fun _ h9 => h9) (q := (2, 5)) rfl (v := .ref q7) (ah_f_R e8) d_WH_become_6 ?_
  refine lv_iconst (v := 0) hx hb d_WH_become_9 (by decide) ?_
  refine lv_sipush (v := 258) hx hb d_WH_become_10 (by decide) ?_
  obtain ⟨t9, w⟩ := w
  obtain ⟨t10, w⟩ := w
  obtain ⟨y11, w⟩ := w
  obtain ⟨y12, w⟩ := w
  obtain ⟨y13, w⟩ := w
  obtain ⟨y14, w⟩ := w
  obtain ⟨y15, w⟩ := w
  refine hb_copyl hx hb (by rw [hml]; exact hl.1.symm) hown (hw wd_237) (hw wd_239) (hw wd_238) (hw wd_10) hK hW t9 t10 y11 y12 y13 y14 y15 (Nat.le_of_ble_eq_true rfl) (Nat.le_of_ble_eq_true (by decide +kernel)) d_WH_become_13 (fun H locs h16 eh16 hW => ?_)
  have w := w h16 eh16
  have mm17 : ah_m h0 h16 := ah_m.rf.st (by rw [eh16]; rfl) (by rw [eh16]; rfl)
  have hm := hm.tr mm17
  have t18 := mm17.tg t3 (by decide)
  have t19 := mm17.tg t6 (by decide)
  have t20 := mm17.tg t9 (by decide)
  have t21 := mm17.tg t10 (by decide)
  refine lv_aload_n hx hb d_WH_become_16 rfl (lv_at hl 0 rfl) ?_
  refine lv_aload_n hx hb d_WH_become_17 rfl (lv_at hl 1 rfl) ?_
  refine hb_get (ci := 2) (C := "BigDesk$Whole") (T := T_WH) (N := 3) hx hb hts (fun w9 h9 => hT w9 (u_WH w9 h9)) hown hK hW t18 rfl (by decide) 1 (by decide) (hw wd_37) (fun _ h9 => h9) (q := (0, 0)) rfl (v := .int (ah_I h16 0 a2)) rfl d_WH_become_18 ?_
  refine lv_topi (fun v22 ev22 => ?_)
  have w := w v22 ev22
  refine hb_put (ci := 2) (C := "BigDesk$Whole") (T := T_WH) (N := 3) hx hb hts (fun w9 h9 => hT w9 (u_WH w9 h9)) t_WH o_WH n_WH hown hK hW t19 rfl (by decide) 1 (by decide) (hw wd_37) (fun _ h9 => h9) rfl (ty := t_WH 1) (by decide +kernel) (q := (0, 0)) rfl (by decide) (v := .int v22) rfl rfl (ah_one_I h16 0 a1 v22) d_WH_become_21 (fun H locs h23 eh23 hW => ?_)
  have w := w h23 eh23
  have mm24 : ah_m h16 h23 := ah_m.rf.st (by rw [eh23]; rfl) (by rw [eh23]; rfl)
  have hm := hm.tr mm24
  have t25 := mm24.tg t18 (by decide)
  have t26 := mm24.tg t19 (by decide)
  have t27 := mm24.tg t20 (by decide)
  have t28 := mm24.tg t21 (by decide)
  refine lv_aload_n hx hb d_WH_become_24 rfl (lv_at hl 0 rfl) ?_
  refine lv_aload_n hx hb d_WH_become_25 rfl (lv_at hl 1 rfl) ?_
  refine hb_get (ci := 2) (C := "BigDesk$Whole") (T := T_WH) (N := 3) hx hb hts (fun w9 h9 => hT w9 (u_WH w9 h9)) hown hK hW t25 rfl (by decide) 2 (by decide) (hw wd_43) (fun _ h9 => h9) (q := (0, 1)) rfl (v := .int (ah_I h23 1 a2)) rfl d_WH_become_26 ?_
  refine lv_topi (fun v29 ev29 => ?_)
  have w := w v29 ev29
  obtain ⟨z30, w⟩ := w
  refine hb_put (ci := 2) (C := "BigDesk$Whole") (T := T_WH) (N := 3) hx hb hts (fun w9 h9 => hT w9 (u_WH w9 h9)) t_WH o_WH n_WH hown hK hW t26 rfl (by decide) 2 (by decide) (hw wd_43) (fun _ h9 => h9) rfl (ty := t_WH 2) (by decide +kernel) (q := (0, 1)) rfl (by decide) (v := .int v29) (zb_n z30) (zb_f z30) (ah_one_I h23 1 a1 v29) d_WH_become_29 (fun H locs h31 eh31 hW => ?_)
  have w := w h31 eh31
  have mm32 : ah_m h23 h31 := ah_m.rf.st (by rw [eh31]; rfl) (by rw [eh31]; rfl)
  have hm := hm.tr mm32
  have t33 := mm32.tg t25 (by decide)
  have t34 := mm32.tg t26 (by decide)
  have t35 := mm32.tg t27 (by decide)
  have t36 := mm32.tg t28 (by decide)
  exact hb_vret (K := fun h9 => K h9 ∧ ah_m h0 h9) hx hb hr hlk hK hX hW ⟨w, hm⟩ (by omega) (by omega) d_WH_become_32
set_option maxHeartbeats 4000000 in
set_option maxRecDepth 100000 in
theorem tl_WH_bitsOf_2 {p : Program} {l : Launch} {e : Env} {s : State} {m : MethodId} {args : Array Value} {below : List Frame} {meth : Method} {c : Code} {G : zG} (C : cx_C p l s m args meth c G y_WH_bitsOf b_WH_bitsOf 3 (some .int) "BigDesk$Whole" (Cond.code y_WH_bitsOf b_WH_bitsOf 3 (some .int) :: zx_T) []) {K : Int32 → ah_H → Prop} {h0 : ah_H} {cells slots : Nat} (hcl : cells + 0 ≤ 0) (hsl : slots + 0 ≤ 0) {xt_22 : Int32 → ah_H → Prop} (hc_xt_22 : ∀ (z0 : Int32) (hz : ah_H) (H : Heap) (locs : List Loc) (ls : Array Slot), xt_22 z0 hz → ah_m h0 hz → ah_W G s.heap hz H locs → lv_has ls 3 [(2, .int z0)] → W p l e rm_WH_bitsOf s m args below meth c H locs cells slots (MQ below (va_Qi (fun r9 h9 => K r9 h9 ∧ ah_m h0 h9) (ah_B G) (fun q => G.2.2 ≤ q)) args s 0 0 (fun q => G.2.2 ≤ q)) (F0 m 22 ls [])) : ∀ (n : Nat) (x2 : Int64) (x3 : Int32) (h4 : ah_H) (H : Heap) (locs : List Loc) (ls : Array Slot), lp_WH_bitsOf_2 xt_22 K n x2 x3 h4 → ah_m h0 h4 → ah_W G s.heap h4 H locs → lv_has ls 3 [(0, .long x2), (2, .int x3)] → W p l e rm_WH_bitsOf s m args below meth c H locs cells slots (MQ below (va_Qi (fun r9 h9 => K r9 h9 ∧ ah_m h0 h9) (ah_B G) (fun q => G.2.2 ≤ q)) args s 0 0 (fun q => G.2.2 ≤ q)) (F0 m 2 ls []) := by
  obtain ⟨hx, hb, hr, hml, hown, hts, hT, hlk, hK, hX, htb, hin, hst⟩ := id C
  have hw : ∀ {w9 : Cond}, w9 ∈ zx_T → w9.before _ s = true := fun h9 => hts _ (hT _ h9)
  intro n
  induction n with
  | zero =>
    intro x2 x3 h4 H locs ls w
    exact absurd w (by intro z9; exact z9)
  | succ n ih =>
    intro x2 x3 h4 H locs ls w hm hW hl
    unfold lp_WH_bitsOf_2 at w
    refine lv_iload_n hx hb d_WH_bitsOf_2 rfl (lv_at hl 1 rfl) ?_
    refine lv_bipush (v := 32) hx hb d_WH_bitsOf_3 (by decide) ?_
    refine lv_icmp_ge (tgt := 22) hx hb d_WH_bitsOf_5 (by decide) (fun c5 => ?_) (fun c5 => ?_)
    · have w := w.1 c5
      exact hc_xt_22 x3 h4 _ _ _ w hm hW (lv_sub hl [1] rfl)
    · have w := w.2 c5
      refine lv_lload_n hx hb d_WH_bitsOf_8 rfl (lv_at hl 0 rfl) ?_
      refine lv_iload_n hx hb d_WH_bitsOf_9 rfl (lv_at hl 1 rfl) ?_
      refine lv_lushr hx hb d_WH_bitsOf_10 rfl ?_
      refine lv_lconst (v := 0) hx hb d_WH_bitsOf_11 (by decide) ?_
      refine hb_lcmp_eq (tgt := 22) hx hb d_WH_bitsOf_12 d_WH_bitsOf_13 (by decide) (fun c6 => ?_) (fun c6 => ?_)
      · have w := w.1 c6
        exact hc_xt_22 x3 h4 _ _ _ w hm hW (lv_sub hl [1] rfl)
      · have w := w.2 c6
        obtain ⟨v7, ev7⟩ : ∃ y9 : Int32, y9 = x3 + 1 := ⟨_, rfl⟩
        have w := w v7 ev7
        refine lv_iinc (v := v7) (lv' := [(2, .int v7), (0, .long x2)]) hx hb d_WH_bitsOf_16 hl (k := 1) rfl (by rw [ev7]; rfl) (by decide) rfl (fun ls hl => ?_)
        refine lv_goto (tgt := 2) hx hb d_WH_bitsOf_19 (by decide) ?_
        exact ih x2 v7 h4 _ _ _ w hm hW (lv_sub hl [1, 0] rfl)
set_option maxHeartbeats 4000000 in
set_option maxRecDepth 100000 in
theorem tb_WH_bitsOf_22 {p : Program} {l : Launch} {e : Env} {s : State} {m : MethodId} {args : Array Value} {below : List Frame} {meth : Method} {c : Code} {G : zG} (C : cx_C p l s m args meth c G y_WH_bitsOf b_WH_bitsOf 3 (some .int) "BigDesk$Whole" (Cond.code y_WH_bitsOf b_WH_bitsOf 3 (some .int) :: zx_T) []) {K : Int32 → ah_H → Prop} {h0 : ah_H} {cells slots : Nat} (hcl : cells + 0 ≤ 0) (hsl : slots + 0 ≤ 0)  (x10 : Int32) (h11 : ah_H) (H : Heap) (locs : List Loc) (ls : Array Slot) (w : bk_WH_bitsOf_22 K x10 h11) (hm : ah_m h0 h11) (hW : ah_W G s.heap h11 H locs) (hl : lv_has ls 3 [(2, .int x10)]) : W p l e rm_WH_bitsOf s m args below meth c H locs cells slots (MQ below (va_Qi (fun r9 h9 => K r9 h9 ∧ ah_m h0 h9) (ah_B G) (fun q => G.2.2 ≤ q)) args s 0 0 (fun q => G.2.2 ≤ q)) (F0 m 22 ls []) := by
  unfold bk_WH_bitsOf_22 at w
  obtain ⟨hx, hb, hr, hml, hown, hts, hT, hlk, hK, hX, htb, hin, hst⟩ := id C
  have hw : ∀ {w9 : Cond}, w9 ∈ zx_T → w9.before _ s = true := fun h9 => hts _ (hT _ h9)
  refine lv_iload_n hx hb d_WH_bitsOf_22 rfl (lv_at hl 0 rfl) ?_
  exact hb_iret (K := fun r9 h9 => K r9 h9 ∧ ah_m h0 h9) hx hb hr hlk hK hX hW ⟨w, hm⟩ (by omega) (by omega) d_WH_bitsOf_23
set_option maxHeartbeats 4000000 in
set_option maxRecDepth 100000 in
theorem m_WH_bitsOf {l : Launch} (G : zG) (a1 : Int64) (h0 : ah_H) {K : Int32 → ah_H → Prop} (hst : l.stackTraces = false) (w : w_WH_bitsOf a1 h0 K) : Met l y_WH_bitsOf (Cond.code y_WH_bitsOf b_WH_bitsOf 3 (some .int) :: zx_T) rm_WH_bitsOf (va_Pc [.long a1] (ah_B G h0)) (va_Qi (fun r9 h9 => K r9 h9 ∧ ah_m h0 h9) (ah_B G) (fun q => G.2.2 ≤ q)) 0 0 (fun q => G.2.2 ≤ q) := by
  refine Met.ofW (cc := b_WH_bitsOf) (maxL := 3) (ret := (some .int)) (by decide) rfl ?_
  intro p e s m args below meth c s₁ B hml hv
  have htb := cx_out B (atoms_spec B.pre _ List.mem_cons_self)
  obtain ⟨rfl, hB⟩ := hv
  have C : cx_C p l s m _ meth c G y_WH_bitsOf b_WH_bitsOf 3 (some .int) "BigDesk$Whole" (Cond.code y_WH_bitsOf b_WH_bitsOf 3 (some .int) :: zx_T) [] := ⟨B.exec, B.bytes, B.returns, hml, findClass_of_methodNamed B.named, atoms_spec B.pre, cx_hd, B.notSynchronized, hB.2.2.1, hB.2.2.2, htb, fun z9 => (name_of_methodNamed B.named B.method).1.trans z9, hst⟩
  obtain ⟨hx, hb, hr, hml, hown, hts, hT, hlk, hK, hX, htb, hin, hst⟩ := id C
  have hw : ∀ {w9 : Cond}, w9 ∈ zx_T → w9.before _ s = true := fun h9 => hts _ (hT _ h9)
  have hW : ah_W G s.heap h0 s.heap [] := ⟨hB.1, hB.2.1, va_S.rf⟩
  have hm : ah_m h0 h0 := ah_m.rf
  have hcl : 0 + 0 ≤ 0 := by decide
  have hsl : 0 + 0 ≤ 0 := by decide
  have hl := lv_entry ([.long a1]) (n := 3) (Nat.le_of_ble_eq_true rfl)
  rw [lg_entry_eq]
  generalize (lg_sl ([.long a1]) ++ List.replicate (3 - (lg_sl ([.long a1])).length) Slot.unset).toArray = ls at hl ⊢
  have hl : lv_has ls 3 [(0, .long a1)] := hl
  unfold w_WH_bitsOf at w
  refine lv_iconst (v := 0) hx hb d_WH_bitsOf_0 (by decide) ?_
  refine lv_istore_n (lv' := [(2, .int (0 : Int32)), (0, .long a1)]) hx hb d_WH_bitsOf_1 rfl hl (by decide) rfl (fun ls hl => ?_)
  obtain ⟨k12, w⟩ := w
  refine tl_WH_bitsOf_2 C (by omega) (by omega) (fun x8 h9 H locs ls w hm hW hl => ?_) k12 a1 (0 : Int32) h0 _ _ _ w hm hW (lv_sub hl [1, 0] rfl)
  · exact tb_WH_bitsOf_22 C (by omega) (by omega)  x8 h9 _ _ _ w hm hW (lv_sub hl [0] rfl)
set_option maxHeartbeats 4000000 in
set_option maxRecDepth 100000 in
theorem tb_WH_bits_35 {p : Program} {l : Launch} {e : Env} {s : State} {m : MethodId} {args : Array Value} {below : List Frame} {meth : Method} {c : Code} {G : zG} (C : cx_C p l s m args meth c G y_WH_bits b_WH_bits 1 (some .int) "BigDesk$Whole" (Cond.code y_WH_bits b_WH_bits 1 (some .int) :: zx_T) []) {K : Int32 → ah_H → Prop} {h0 : ah_H} {cells slots : Nat} (hcl : cells + 0 ≤ 0) (hsl : slots + 0 ≤ 0)  (s4 : Int32) (h5 : ah_H) (H : Heap) (locs : List Loc) (ls : Array Slot) (w : bk_WH_bits_35 K s4 h5) (hm : ah_m h0 h5) (hW : ah_W G s.heap h5 H locs) (hl : lv_has ls 1 []) : W p l e rm_WH_bits s m args below meth c H locs cells slots (MQ below (va_Qi (fun r9 h9 => K r9 h9 ∧ ah_m h0 h9) (ah_B G) (fun q => G.2.2 ≤ q)) args s 0 0 (fun q => G.2.2 ≤ q)) (F0 m 35 ls [.int s4]) := by
  unfold bk_WH_bits_35 at w
  obtain ⟨hx, hb, hr, hml, hown, hts, hT, hlk, hK, hX, htb, hin, hst⟩ := id C
  have hw : ∀ {w9 : Cond}, w9 ∈ zx_T → w9.before _ s = true := fun h9 => hts _ (hT _ h9)
  exact hb_iret (K := fun r9 h9 => K r9 h9 ∧ ah_m h0 h9) hx hb hr hlk hK hX hW ⟨w, hm⟩ (by omega) (by omega) d_WH_bits_35
set_option maxHeartbeats 4000000 in
set_option maxRecDepth 100000 in
theorem m_WH_bits {l : Launch} (G : zG) (a1 : Nat) (h0 : ah_H) {K : Int32 → ah_H → Prop} (hst : l.stackTraces = false) (w : w_WH_bits a1 h0 K) : Met l y_WH_bits (Cond.code y_WH_bits b_WH_bits 1 (some .int) :: zx_T) rm_WH_bits (va_Pc [.ref a1] (ah_B G h0)) (va_Qi (fun r9 h9 => K r9 h9 ∧ ah_m h0 h9) (ah_B G) (fun q => G.2.2 ≤ q)) 0 0 (fun q => G.2.2 ≤ q) := by
  refine Met.ofW (cc := b_WH_bits) (maxL := 1) (ret := (some .int)) (by decide) rfl ?_
  intro p e s m args below meth c s₁ B hml hv
  have htb := cx_out B (atoms_spec B.pre _ List.mem_cons_self)
  obtain ⟨rfl, hB⟩ := hv
  have C : cx_C p l s m _ meth c G y_WH_bits b_WH_bits 1 (some .int) "BigDesk$Whole" (Cond.code y_WH_bits b_WH_bits 1 (some .int) :: zx_T) [] := ⟨B.exec, B.bytes, B.returns, hml, findClass_of_methodNamed B.named, atoms_spec B.pre, cx_hd, B.notSynchronized, hB.2.2.1, hB.2.2.2, htb, fun z9 => (name_of_methodNamed B.named B.method).1.trans z9, hst⟩
  obtain ⟨hx, hb, hr, hml, hown, hts, hT, hlk, hK, hX, htb, hin, hst⟩ := id C
  have hw : ∀ {w9 : Cond}, w9 ∈ zx_T → w9.before _ s = true := fun h9 => hts _ (hT _ h9)
  have hW : ah_W G s.heap h0 s.heap [] := ⟨hB.1, hB.2.1, va_S.rf⟩
  have hm : ah_m h0 h0 := ah_m.rf
  have hcl : 0 + 0 ≤ 0 := by decide
  have hsl : 0 + 0 ≤ 0 := by decide
  have hl := lv_entry ([.ref a1]) (n := 1) (Nat.le_of_ble_eq_true rfl)
  rw [lg_entry_eq]
  generalize (lg_sl ([.ref a1]) ++ List.replicate (1 - (lg_sl ([.ref a1])).length) Slot.unset).toArray = ls at hl ⊢
  have hl : lv_has ls 1 [(0, .ref a1)] := hl
  unfold w_WH_bits at w
  refine lv_aload_n hx hb d_WH_bits_0 rfl (lv_at hl 0 rfl) ?_
  obtain ⟨t2, w⟩ := w
  refine hb_get (ci := 2) (C := "BigDesk$Whole") (T := T_WH) (N := 3) hx hb hts (fun w9 h9 => hT w9 (u_WH w9 h9)) hown hK hW t2 rfl (by decide) 1 (by decide) (hw wd_37) (fun _ h9 => h9) (q := (0, 0)) rfl (v := .int (ah_I h0 0 a1)) rfl d_WH_bits_1 ?_
  refine lv_if_le (tgt := 34) hx hb d_WH_bits_4 (by decide) (fun c3 => ?_) (fun c3 => ?_)
  · have w := w.1 c3
    refine lv_iconst (v := 0) hx hb d_WH_bits_34 (by decide) ?_
    exact tb_WH_bits_35 C (by omega) (by omega)  (0 : Int32) h0 _ _ _ w hm hW (lv_sub hl [] rfl)
  · have w := w.2 c3
    refine lv_bipush (v := 32) hx hb d_WH_bits_7 (by decide) ?_
    refine lv_aload_n hx hb d_WH_bits_9 rfl (lv_at hl 0 rfl) ?_
    refine hb_get (ci := 2) (C := "BigDesk$Whole") (T := T_WH) (N := 3) hx hb hts (fun w9 h9 => hT w9 (u_WH w9 h9)) hown hK hW t2 rfl (by decide) 1 (by decide) (hw wd_37) (fun _ h9 => h9) (q := (0, 0)) rfl (v := .int (ah_I h0 0 a1)) rfl d_WH_bits_10 ?_
    refine lv_iconst (v := 1) hx hb d_WH_bits_13 (by decide) ?_
    refine lv_isub hx hb d_WH_bits_14 ?_
    refine lv_imul hx hb d_WH_bits_15 ?_
    refine lv_aload_n hx hb d_WH_bits_16 rfl (lv_at hl 0 rfl) ?_
    obtain ⟨q6, e7, w⟩ := w
    refine hb_get (ci := 2) (C := "BigDesk$Whole") (T := T_WH) (N := 3) hx hb hts (fun w9 h9 => hT w9 (u_WH w9 h9)) hown hK hW t2 rfl (by decide) 0 (by decide) (hw wd_33) (fun _ h9 => h9) (q := (2, 5)) rfl (v := .ref q6) (ah_f_R e7) d_WH_bits_17 ?_
    refine lv_aload_n hx hb d_WH_bits_20 rfl (lv_at hl 0 rfl) ?_
    refine hb_get (ci := 2) (C := "BigDesk$Whole") (T := T_WH) (N := 3) hx hb hts (fun w9 h9 => hT w9 (u_WH w9 h9)) hown hK hW t2 rfl (by decide) 1 (by decide) (hw wd_37) (fun _ h9 => h9) (q := (0, 0)) rfl (v := .int (ah_I h0 0 a1)) rfl d_WH_bits_21 ?_
    refine lv_iconst (v := 1) hx hb d_WH_bits_24 (by decide) ?_
    refine lv_isub hx hb d_WH_bits_25 ?_
    obtain ⟨t8, w⟩ := w
    obtain ⟨i9, w⟩ := w
    refine hb_lald hx hb hK hW t8 (by decide) (by decide) 2 rfl i9 d_WH_bits_26 ?_
    refine hb_calli (va_runS (As := [.long (ah_bL h0 q6 ((ah_I h0 0 a1) - (1 : Int32)).toNatClampNeg)]) (rest := [.int ((32 : Int32) * ((ah_I h0 0 a1) - (1 : Int32)))]) ⟨hx, hb, hml, hown, hts⟩ (m_WH_bitsOf G (ah_bL h0 q6 ((ah_I h0 0 a1) - (1 : Int32)).toNatClampNeg) h0 hst w) (va_cwS 1 hts (zx_gS hT wd_277 wd_278 wd_2 wd_279) rfl rfl rfl (by decide +kernel) ⟨Nat.le_of_ble_eq_true rfl, Nat.le_of_ble_eq_true rfl⟩) (hb_preS hK hX hW) rfl rfl hl.1 rfl (lv_room (Nat.le_of_ble_eq_true rfl)) d_WH_bits_27 ⟨(by show _ ≤ 0; omega), (by show _ ≤ 0; omega)⟩) hW (fun r11 h10 H locs hk hW => ?_)
    obtain ⟨w, mm12⟩ := hk
    have w := w mm12
    have hm := hm.tr mm12
    have t13 := mm12.tg t2 (by decide)
    have t14 := mm12.tg t8 (by decide)
    refine lv_iadd hx hb d_WH_bits_30 ?_
    refine lv_goto (tgt := 35) hx hb d_WH_bits_31 (by decide) ?_
    exact tb_WH_bits_35 C (by omega) (by omega)  (((32 : Int32) * ((ah_I h0 0 a1) - (1 : Int32))) + r11) h10 _ _ _ w hm hW (lv_sub hl [] rfl)
set_option maxHeartbeats 4000000 in
set_option maxRecDepth 100000 in
theorem tb_WH_at_21 {p : Program} {l : Launch} {e : Env} {s : State} {m : MethodId} {args : Array Value} {below : List Frame} {meth : Method} {c : Code} {G : zG} (C : cx_C p l s m args meth c G y_WH_at b_WH_at 2 (some .long) "BigDesk$Whole" (Cond.code y_WH_at b_WH_at 2 (some .long) :: zx_T) []) {K : Int64 → ah_H → Prop} {h0 : ah_H} {cells slots : Nat} (hcl : cells + 0 ≤ 0) (hsl : slots + 0 ≤ 0)  (s5 : Int64) (h6 : ah_H) (H : Heap) (locs : List Loc) (ls : Array Slot) (w : bk_WH_at_21 K s5 h6) (hm : ah_m h0 h6) (hW : ah_W G s.heap h6 H locs) (hl : lv_has ls 2 []) : W p l e rm_WH_at s m args below meth c H locs cells slots (MQ below (va_Ql (fun r9 h9 => K r9 h9 ∧ ah_m h0 h9) (ah_B G) (fun q => G.2.2 ≤ q)) args s 0 0 (fun q => G.2.2 ≤ q)) (F0 m 21 ls [.long s5]) := by
  unfold bk_WH_at_21 at w
  obtain ⟨hx, hb, hr, hml, hown, hts, hT, hlk, hK, hX, htb, hin, hst⟩ := id C
  have hw : ∀ {w9 : Cond}, w9 ∈ zx_T → w9.before _ s = true := fun h9 => hts _ (hT _ h9)
  exact hb_lret (K := fun r9 h9 => K r9 h9 ∧ ah_m h0 h9) hx hb hr hlk hK hX hW ⟨w, hm⟩ (by omega) (by omega) d_WH_at_21
set_option maxHeartbeats 4000000 in
set_option maxRecDepth 100000 in
theorem tb_WH_at_20 {p : Program} {l : Launch} {e : Env} {s : State} {m : MethodId} {args : Array Value} {below : List Frame} {meth : Method} {c : Code} {G : zG} (C : cx_C p l s m args meth c G y_WH_at b_WH_at 2 (some .long) "BigDesk$Whole" (Cond.code y_WH_at b_WH_at 2 (some .long) :: zx_T) []) {K : Int64 → ah_H → Prop} {h0 : ah_H} {cells slots : Nat} (hcl : cells + 0 ≤ 0) (hsl : slots + 0 ≤ 0)   (h4 : ah_H) (H : Heap) (locs : List Loc) (ls : Array Slot) (w : bk_WH_at_20 K h4) (hm : ah_m h0 h4) (hW : ah_W G s.heap h4 H locs) (hl : lv_has ls 2 []) : W p l e rm_WH_at s m args below meth c H locs cells slots (MQ below (va_Ql (fun r9 h9 => K r9 h9 ∧ ah_m h0 h9) (ah_B G) (fun q => G.2.2 ≤ q)) args s 0 0 (fun q => G.2.2 ≤ q)) (F0 m 20 ls []) := by
  unfold bk_WH_at_20 at w
  obtain ⟨hx, hb, hr, hml, hown, hts, hT, hlk, hK, hX, htb, hin, hst⟩ := id C
  have hw : ∀ {w9 : Cond}, w9 ∈ zx_T → w9.before _ s = true := fun h9 => hts _ (hT _ h9)
  refine lv_lconst (v := 0) hx hb d_WH_at_20 (by decide) ?_
  exact tb_WH_at_21 C (by omega) (by omega)  (0 : Int64) h4 _ _ _ w hm hW (lv_sub hl [] rfl)
set_option maxHeartbeats 4000000 in
set_option maxRecDepth 100000 in
theorem m_WH_at {l : Launch} (G : zG) (a1 : Nat) (a2 : Int32) (h0 : ah_H) {K : Int64 → ah_H → Prop} (hst : l.stackTraces = false) (w : w_WH_at a1 a2 h0 K) : Met l y_WH_at (Cond.code y_WH_at b_WH_at 2 (some .long) :: zx_T) rm_WH_at (va_Pc [.ref a1, .int a2] (ah_B G h0)) (va_Ql (fun r9 h9 => K r9 h9 ∧ ah_m h0 h9) (ah_B G) (fun q => G.2.2 ≤ q)) 0 0 (fun q => G.2.2 ≤ q) := by
  refine Met.ofW (cc := b_WH_at) (maxL := 2) (ret := (some .long)) (by decide) rfl ?_
  intro p e s m args below meth c s₁ B hml hv
  have htb := cx_out B (atoms_spec B.pre _ List.mem_cons_self)
  obtain ⟨rfl, hB⟩ := hv
  have C : cx_C p l s m _ meth c G y_WH_at b_WH_at 2 (some .long) "BigDesk$Whole" (Cond.code y_WH_at b_WH_at 2 (some .long) :: zx_T) [] := ⟨B.exec, B.bytes, B.returns, hml, findClass_of_methodNamed B.named, atoms_spec B.pre, cx_hd, B.notSynchronized, hB.2.2.1, hB.2.2.2, htb, fun z9 => (name_of_methodNamed B.named B.method).1.trans z9, hst⟩
  obtain ⟨hx, hb, hr, hml, hown, hts, hT, hlk, hK, hX, htb, hin, hst⟩ := id C
  have hw : ∀ {w9 : Cond}, w9 ∈ zx_T → w9.before _ s = true := fun h9 => hts _ (hT _ h9)
  have hW : ah_W G s.heap h0 s.heap [] := ⟨hB.1, hB.2.1, va_S.rf⟩
  have hm : ah_m h0 h0 := ah_m.rf
  have hcl : 0 + 0 ≤ 0 := by decide
  have hsl : 0 + 0 ≤ 0 := by decide
  have hl := lv_entry ([.ref a1, .int a2]) (n := 2) (Nat.le_of_ble_eq_true rfl)
  rw [lg_entry_eq]
  generalize (lg_sl ([.ref a1, .int a2]) ++ List.replicate (2 - (lg_sl ([.ref a1, .int a2])).length) Slot.unset).toArray = ls at hl ⊢
  have hl : lv_has ls 2 [(0, .ref a1), (1, .int a2)] := hl
  unfold w_WH_at at w
  refine lv_iload_n hx hb d_WH_at_0 rfl (lv_at hl 1 rfl) ?_
  refine lv_if_lt (tgt := 20) hx hb d_WH_at_1 (by decide) (fun c3 => ?_) (fun c3 => ?_)
  · have w := w.1 c3
    exact tb_WH_at_20 C (by omega) (by omega)   h0 _ _ _ w hm hW (lv_sub hl [] rfl)
  · have w := w.2 c3
    refine lv_iload_n hx hb d_WH_at_4 rfl (lv_at hl 1 rfl) ?_
    refine lv_sipush (v := 258) hx hb d_WH_at_5 (by decide) ?_
    refine lv_icmp_ge (tgt := 20) hx hb d_WH_at_8 (by decide) (fun c7 => ?_) (fun c7 => ?_)
    · have w := w.1 c7
      exact tb_WH_at_20 C (by omega) (by omega)   h0 _ _ _ w hm hW (lv_sub hl [] rfl)
    · have w := w.2 c7
      refine lv_aload_n hx hb d_WH_at_11 rfl (lv_at hl 0 rfl) ?_
      obtain ⟨t8, w⟩ := w
      obtain ⟨q9, e10, w⟩ := w
      refine hb_get (ci := 2) (C := "BigDesk$Whole") (T := T_WH) (N := 3) hx hb hts (fun w9 h9 => hT w9 (u_WH w9 h9)) hown hK hW t8 rfl (by decide) 0 (by decide) (hw wd_33) (fun _ h9 => h9) (q := (2, 5)) rfl (v := .ref q9) (ah_f_R e10) d_WH_at_12 ?_
      refine lv_iload_n hx hb d_WH_at_15 rfl (lv_at hl 1 rfl) ?_
      obtain ⟨t11, w⟩ := w
      obtain ⟨i12, w⟩ := w
      refine hb_lald hx hb hK hW t11 (by decide) (by decide) 2 rfl i12 d_WH_at_16 ?_
      refine lv_goto (tgt := 21) hx hb d_WH_at_17 (by decide) ?_
      exact tb_WH_at_21 C (by omega) (by omega)  (ah_bL h0 q9 a2.toNatClampNeg) h0 _ _ _ w hm hW (lv_sub hl [] rfl)
set_option maxHeartbeats 4000000 in
set_option maxRecDepth 100000 in
theorem tl_WH_becomeShiftedUp_33 {p : Program} {l : Launch} {e : Env} {s : State} {m : MethodId} {args : Array Value} {below : List Frame} {meth : Method} {c : Code} {G : zG} (C : cx_C p l s m args meth c G y_WH_becomeShiftedUp b_WH_becomeShiftedUp 9 none "BigDesk$Whole" (Cond.code y_WH_becomeShiftedUp b_WH_becomeShiftedUp 9 none :: zx_T) []) {K : ah_H → Prop} {h0 : ah_H} {cells slots : Nat} (hcl : cells + 0 ≤ 0) (hsl : slots + 0 ≤ 0) {xt_87 : Nat → Int32 → ah_H → Prop} (hc_xt_87 : ∀ (z0 : Nat) (z1 : Int32) (hz : ah_H) (H : Heap) (locs : List Loc) (ls : Array Slot), xt_87 z0 z1 hz → ah_m h0 hz → ah_W G s.heap hz H locs → lv_has ls 9 [(0, .ref z0), (5, .int z1)] → W p l e rm_WH_becomeShiftedUp s m args below meth c H locs cells slots (MQ below (va_Qv (fun h9 => K h9 ∧ ah_m h0 h9) (ah_B G) (fun q => G.2.2 ≤ q)) args s 0 0 (fun q => G.2.2 ≤ q)) (F0 m 87 ls [])) : ∀ (n : Nat) (x9 : Nat) (x10 : Nat) (x11 : Int32) (x12 : Int32) (x13 : Int32) (x14 : Int32) (h15 : ah_H) (H : Heap) (locs : List Loc) (ls : Array Slot), lp_WH_becomeShiftedUp_33 xt_87 K n x9 x10 x11 x12 x13 x14 h15 → ah_m h0 h15 → ah_W G s.heap h15 H locs → lv_has ls 9 [(0, .ref x9), (1, .ref x10), (3, .int x11), (4, .int x12), (5, .int x13), (6, .int x14)] → W p l e rm_WH_becomeShiftedUp s m args below meth c H locs cells slots (MQ below (va_Qv (fun h9 => K h9 ∧ ah_m h0 h9) (ah_B G) (fun q => G.2.2 ≤ q)) args s 0 0 (fun q => G.2.2 ≤ q)) (F0 m 33 ls []) := by
  obtain ⟨hx, hb, hr, hml, hown, hts, hT, hlk, hK, hX, htb, hin, hst⟩ := id C
  have hw : ∀ {w9 : Cond}, w9 ∈ zx_T → w9.before _ s = true := fun h9 => hts _ (hT _ h9)
  intro n
  induction n with
  | zero =>
    intro x9 x10 x11 x12 x13 x14 h15 H locs ls w
    exact absurd w (by intro z9; exact z9)
  | succ n ih =>
    intro x9 x10 x11 x12 x13 x14 h15 H locs ls w hm hW hl
    unfold lp_WH_becomeShiftedUp_33 at w
    refine lv_iload hx hb d_WH_becomeShiftedUp_33 (lv_at hl 5 rfl) ?_
    refine lv_if_lt (tgt := 87) hx hb d_WH_becomeShiftedUp_35 (by decide) (fun c16 => ?_) (fun c16 => ?_)
    · have w := w.1 c16
      exact hc_xt_87 x9 x13 h15 _ _ _ w hm hW (lv_sub hl [0, 4] rfl)
    · have w := w.2 c16
      refine lv_aload_n hx hb d_WH_becomeShiftedUp_38 rfl (lv_at hl 1 rfl) ?_
      refine lv_iload hx hb d_WH_becomeShiftedUp_39 (lv_at hl 5 rfl) ?_
      refine lv_iload_n hx hb d_WH_becomeShiftedUp_41 rfl (lv_at hl 2 rfl) ?_
      refine lv_isub hx hb d_WH_becomeShiftedUp_42 ?_
      refine lv_iconst (v := 1) hx hb d_WH_becomeShiftedUp_43 (by decide) ?_
      refine lv_isub hx hb d_WH_becomeShiftedUp_44 ?_
      obtain ⟨t17, w⟩ := w
      refine hb_calll (va_runV (As := [.int ((x14 - x11) - (1 : Int32))]) (rest := []) ⟨hx, hb, hml, hown, hts⟩ (m_WH_at G x10 ((x14 - x11) - (1 : Int32)) h15 hst w) (cwV 1 hts (zx_gV hT wd_343 wd_344 wd_345 wd_2 wd_346) rfl rfl rfl (by decide +kernel) ⟨Nat.le_of_ble_eq_true rfl, Nat.le_of_ble_eq_true rfl⟩) (hb_preV hK hX hW t17 (by decide) rfl) rfl rfl hl.1 rfl (lv_room (Nat.le_of_ble_eq_true rfl)) d_WH_becomeShiftedUp_45 ⟨(by show _ ≤ 0; omega), (by show _ ≤ 0; omega)⟩) hW (fun r19 h18 H locs hk hW => ?_)
      obtain ⟨w, mm20⟩ := hk
      have w := w mm20
      have hm := hm.tr mm20
      have t21 := mm20.tg t17 (by decide)
      refine lv_bipush (v := 32) hx hb d_WH_becomeShiftedUp_48 (by decide) ?_
      refine lv_iload hx hb d_WH_becomeShiftedUp_50 (lv_at hl 3 rfl) ?_
      refine lv_isub hx hb d_WH_becomeShiftedUp_52 ?_
      refine lv_lushr hx hb d_WH_becomeShiftedUp_53 rfl ?_
      refine lv_topl (fun v22 ev22 => ?_)
      have w := w v22 ev22
      refine lv_lstore (lv' := [(7, .long v22), (0, .ref x9), (1, .ref x10), (3, .int x11), (4, .int x12), (5, .int x13), (6, .int x14)]) hx hb d_WH_becomeShiftedUp_54 hl (by decide) rfl (fun ls hl => ?_)
      refine lv_aload_n hx hb d_WH_becomeShiftedUp_56 rfl (lv_at hl 1 rfl) ?_
      obtain ⟨t23, w⟩ := w
      obtain ⟨q24, e25, w⟩ := w
      refine hb_get (ci := 2) (C := "BigDesk$Whole") (T := T_WH) (N := 3) hx hb hts (fun w9 h9 => hT w9 (u_WH w9 h9)) hown hK hW t23 rfl (by decide) 0 (by decide) (hw wd_33) (fun _ h9 => h9) (q := (2, 5)) rfl (v := .ref q24) (ah_f_R e25) d_WH_becomeShiftedUp_57 ?_
      refine lv_iload hx hb d_WH_becomeShiftedUp_60 (lv_at hl 6 rfl) ?_
      refine lv_aload_n hx hb d_WH_becomeShiftedUp_62 rfl (lv_at hl 2 rfl) ?_
      refine lv_iload hx hb d_WH_becomeShiftedUp_63 (lv_at hl 6 rfl) ?_
      refine lv_iload_n hx hb d_WH_becomeShiftedUp_65 rfl (lv_at hl 3 rfl) ?_
      refine lv_isub hx hb d_WH_becomeShiftedUp_66 ?_
      refine hb_calll (va_runV (As := [.int (x14 - x11)]) (rest := [.int x14, .ref q24]) ⟨hx, hb, hml, hown, hts⟩ (m_WH_at G x10 (x14 - x11) h18 hst w) (cwV 1 hts (zx_gV hT wd_343 wd_344 wd_345 wd_2 wd_346) rfl rfl rfl (by decide +kernel) ⟨Nat.le_of_ble_eq_true rfl, Nat.le_of_ble_eq_true rfl⟩) (hb_preV hK hX hW t21 (by decide) rfl) rfl rfl hl.1 rfl (lv_room (Nat.le_of_ble_eq_true rfl)) d_WH_becomeShiftedUp_67 ⟨(by show _ ≤ 0; omega), (by show _ ≤ 0; omega)⟩) hW (fun r27 h26 H locs hk hW => ?_)
      obtain ⟨w, mm28⟩ := hk
      have w := w mm28
      have hm := hm.tr mm28
      have t29 := mm28.tg t21 (by decide)
      have t30 := mm28.tg t23 (by decide)
      refine lv_iload hx hb d_WH_becomeShiftedUp_70 (lv_at hl 4 rfl) ?_
      refine lv_lshl hx hb d_WH_becomeShiftedUp_72 rfl ?_
      refine lv_lload hx hb d_WH_becomeShiftedUp_73 (lv_at hl 0 rfl) ?_
      refine lv_lor hx hb d_WH_becomeShiftedUp_75 ?_
      refine lv_ldc2 (v := 4294967295) hx hb hown (hw wd_217) d_WH_becomeShiftedUp_76 ?_
      refine lv_land hx hb d_WH_becomeShiftedUp_79 ?_
      refine lv_topl (fun v31 ev31 => ?_)
      have w := w v31 ev31
      obtain ⟨t32, w⟩ := w
      obtain ⟨i33, w⟩ := w
      refine hb_last hx hb hK hW t32 (by decide) (by decide) 2 rfl i33 d_WH_becomeShiftedUp_80 (fun H locs h34 eh34 hW => ?_)
      have w := w h34 eh34
      have mm35 : ah_m h26 h34 := ah_m.rf.st (by rw [eh34]; rfl) (by rw [eh34]; rfl)
      have hm := hm.tr mm35
      have t36 := mm35.tg t29 (by decide)
      have t37 := mm35.tg t30 (by decide)
      have t38 := mm35.tg t32 (by decide)
      obtain ⟨v39, ev39⟩ : ∃ y9 : Int32, y9 = x14 + (-1) := ⟨_, rfl⟩
      have w := w v39 ev39
      refine lv_iinc (v := v39) (lv' := [(6, .int v39), (7, .long v22), (0, .ref x9), (1, .ref x10), (3, .int x11), (4, .int x12), (5, .int x13)]) hx hb d_WH_becomeShiftedUp_81 hl (k := 6) rfl (by rw [ev39]; rfl) (by decide) rfl (fun ls hl => ?_)
      refine lv_goto (tgt := 33) hx hb d_WH_becomeShiftedUp_84 (by decide) ?_
      exact ih x9 x10 x11 x12 x13 v39 h34 _ _ _ w hm hW (lv_sub hl [2, 3, 4, 5, 6, 0] rfl)
set_option maxHeartbeats 4000000 in
set_option maxRecDepth 100000 in
theorem m_WH_becomeShiftedUp {l : Launch} (G : zG) (a1 : Nat) (a2 : Nat) (a3 : Int32) (h0 : ah_H) {K : ah_H → Prop} (hst : l.stackTraces = false) (w : w_WH_becomeShiftedUp a1 a2 a3 h0 K) : Met l y_WH_becomeShiftedUp (Cond.code y_WH_becomeShiftedUp b_WH_becomeShiftedUp 9 none :: zx_T) rm_WH_becomeShiftedUp (va_Pc [.ref a1, .ref a2, .int a3] (ah_B G h0)) (va_Qv (fun h9 => K h9 ∧ ah_m h0 h9) (ah_B G) (fun q => G.2.2 ≤ q)) 0 0 (fun q => G.2.2 ≤ q) := by
  refine Met.ofW (cc := b_WH_becomeShiftedUp) (maxL := 9) (ret := none) (by decide) rfl ?_
  intro p e s m args below meth c s₁ B hml hv
  have htb := cx_out B (atoms_spec B.pre _ List.mem_cons_self)
  obtain ⟨rfl, hB⟩ := hv
  have C : cx_C p l s m _ meth c G y_WH_becomeShiftedUp b_WH_becomeShiftedUp 9 none "BigDesk$Whole" (Cond.code y_WH_becomeShiftedUp b_WH_becomeShiftedUp 9 none :: zx_T) [] := ⟨B.exec, B.bytes, B.returns, hml, findClass_of_methodNamed B.named, atoms_spec B.pre, cx_hd, B.notSynchronized, hB.2.2.1, hB.2.2.2, htb, fun z9 => (name_of_methodNamed B.named B.method).1.trans z9, hst⟩
  obtain ⟨hx, hb, hr, hml, hown, hts, hT, hlk, hK, hX, htb, hin, hst⟩ := id C
  have hw : ∀ {w9 : Cond}, w9 ∈ zx_T → w9.before _ s = true := fun h9 => hts _ (hT _ h9)
  have hW : ah_W G s.heap h0 s.heap [] := ⟨hB.1, hB.2.1, va_S.rf⟩
  have hm : ah_m h0 h0 := ah_m.rf
  have hcl : 0 + 0 ≤ 0 := by decide
  have hsl : 0 + 0 ≤ 0 := by decide
  have hl := lv_entry ([.ref a1, .ref a2, .int a3]) (n := 9) (Nat.le_of_ble_eq_true rfl)
  rw [lg_entry_eq]
  generalize (lg_sl ([.ref a1, .ref a2, .int a3]) ++ List.replicate (9 - (lg_sl ([.ref a1, .ref a2, .int a3])).length) Slot.unset).toArray = ls at hl ⊢
  have hl : lv_has ls 9 [(0, .ref a1), (1, .ref a2), (2, .int a3)] := hl
  unfold w_WH_becomeShiftedUp at w
  refine lv_iload_n hx hb d_WH_becomeShiftedUp_0 rfl (lv_at hl 2 rfl) ?_
  refine lv_bipush (v := 32) hx hb d_WH_becomeShiftedUp_1 (by decide) ?_
  refine lv_idiv hx hb d_WH_becomeShiftedUp_3 (by decide) ?_
  refine lv_topi (fun v4 ev4 => ?_)
  have w := w v4 ev4
  refine lv_istore_n (lv' := [(3, .int v4), (0, .ref a1), (1, .ref a2), (2, .int a3)]) hx hb d_WH_becomeShiftedUp_4 rfl hl (by decide) rfl (fun ls hl => ?_)
  refine lv_iload_n hx hb d_WH_becomeShiftedUp_5 rfl (lv_at hl 3 rfl) ?_
  refine lv_bipush (v := 32) hx hb d_WH_becomeShiftedUp_6 (by decide) ?_
  refine lv_irem hx hb d_WH_becomeShiftedUp_8 (by decide) ?_
  refine lv_topi (fun v5 ev5 => ?_)
  have w := w v5 ev5
  refine lv_istore (lv' := [(4, .int v5), (3, .int v4), (0, .ref a1), (1, .ref a2), (2, .int a3)]) hx hb d_WH_becomeShiftedUp_9 hl (by decide) rfl (fun ls hl => ?_)
  refine lv_aload_n hx hb d_WH_becomeShiftedUp_11 rfl (lv_at hl 3 rfl) ?_
  obtain ⟨t6, w⟩ := w
  refine hb_get (ci := 2) (C := "BigDesk$Whole") (T := T_WH) (N := 3) hx hb hts (fun w9 h9 => hT w9 (u_WH w9 h9)) hown hK hW t6 rfl (by decide) 1 (by decide) (hw wd_37) (fun _ h9 => h9) (q := (0, 0)) rfl (v := .int (ah_I h0 0 a2)) rfl d_WH_becomeShiftedUp_12 ?_
  refine lv_iload_n hx hb d_WH_becomeShiftedUp_15 rfl (lv_at hl 1 rfl) ?_
  refine lv_iadd hx hb d_WH_becomeShiftedUp_16 ?_
  refine lv_iconst (v := 1) hx hb d_WH_becomeShiftedUp_17 (by decide) ?_
  refine lv_iadd hx hb d_WH_becomeShiftedUp_18 ?_
  refine lv_sipush (v := 258) hx hb d_WH_becomeShiftedUp_19 (by decide) ?_
  refine va_mmin hx hb (by rw [hml]; exact hl.1.symm) hown (hw wd_342) (hw wd_258) (hw wd_12) (hw wd_259) (Nat.le_of_ble_eq_true rfl) (Nat.le_of_ble_eq_true rfl) (by show _ ≤ 0; omega) (by show _ ≤ 0; omega) d_WH_becomeShiftedUp_22 ?_
  refine lv_topi (fun v7 ev7 => ?_)
  have w := w v7 ev7
  refine lv_istore (lv' := [(5, .int v7), (4, .int v5), (3, .int v4), (0, .ref a1), (1, .ref a2), (2, .int a3)]) hx hb d_WH_becomeShiftedUp_25 hl (by decide) rfl (fun ls hl => ?_)
  refine lv_iload hx hb d_WH_becomeShiftedUp_27 (lv_at hl 0 rfl) ?_
  refine lv_iconst (v := 1) hx hb d_WH_becomeShiftedUp_29 (by decide) ?_
  refine lv_isub hx hb d_WH_becomeShiftedUp_30 ?_
  refine lv_topi (fun v8 ev8 => ?_)
  have w := w v8 ev8
  refine lv_istore (lv' := [(6, .int v8), (5, .int v7), (4, .int v5), (3, .int v4), (0, .ref a1), (1, .ref a2), (2, .int a3)]) hx hb d_WH_becomeShiftedUp_31 hl (by decide) rfl (fun ls hl => ?_)
  obtain ⟨k47, w⟩ := w
  refine tl_WH_becomeShiftedUp_33 C (by omega) (by omega) (fun x40 x41 h42 H locs ls w hm hW hl => ?_) k47 a1 a2 v4 v5 v7 v8 h0 _ _ _ w hm hW (lv_sub hl [4, 5, 3, 2, 1, 0] rfl)
  · refine lv_aload_n hx hb d_WH_becomeShiftedUp_87 rfl (lv_at hl 0 rfl) ?_
    refine lv_iload hx hb d_WH_becomeShiftedUp_88 (lv_at hl 1 rfl) ?_
    obtain ⟨t43, w⟩ := w
    refine hb_callv (va_runV (As := [.int x41]) (rest := []) ⟨hx, hb, hml, hown, hts⟩ (m_WH_settle G x40 x41 h42 hst w) (cwV 1 hts (zx_gV hT wd_218 wd_219 wd_220 wd_2 wd_221) rfl rfl rfl (by decide +kernel) ⟨Nat.le_of_ble_eq_true rfl, Nat.le_of_ble_eq_true rfl⟩) (hb_preV hK hX hW t43 (by decide) rfl) rfl rfl hl.1 rfl (lv_room (Nat.le_of_ble_eq_true rfl)) d_WH_becomeShiftedUp_90 ⟨(by show _ ≤ 0; omega), (by show _ ≤ 0; omega)⟩) hW (fun h44 H locs hk hW => ?_)
    obtain ⟨w, mm45⟩ := hk
    have w := w mm45
    have hm := hm.tr mm45
    have t46 := mm45.tg t43 (by decide)
    exact hb_vret (K := fun h9 => K h9 ∧ ah_m h0 h9) hx hb hr hlk hK hX hW ⟨w, hm⟩ (by omega) (by omega) d_WH_becomeShiftedUp_93
set_option maxHeartbeats 4000000 in
set_option maxRecDepth 100000 in
theorem tl_WH_becomeShiftedDown_26 {p : Program} {l : Launch} {e : Env} {s : State} {m : MethodId} {args : Array Value} {below : List Frame} {meth : Method} {c : Code} {G : zG} (C : cx_C p l s m args meth c G y_WH_becomeShiftedDown b_WH_becomeShiftedDown 9 none "BigDesk$Whole" (Cond.code y_WH_becomeShiftedDown b_WH_becomeShiftedDown 9 none :: zx_T) []) {K : ah_H → Prop} {h0 : ah_H} {cells slots : Nat} (hcl : cells + 0 ≤ 0) (hsl : slots + 0 ≤ 0) {xt_82 : Nat → Int32 → ah_H → Prop} (hc_xt_82 : ∀ (z0 : Nat) (z1 : Int32) (hz : ah_H) (H : Heap) (locs : List Loc) (ls : Array Slot), xt_82 z0 z1 hz → ah_m h0 hz → ah_W G s.heap hz H locs → lv_has ls 9 [(0, .ref z0), (5, .int z1)] → W p l e rm_WH_becomeShiftedDown s m args below meth c H locs cells slots (MQ below (va_Qv (fun h9 => K h9 ∧ ah_m h0 h9) (ah_B G) (fun q => G.2.2 ≤ q)) args s 0 0 (fun q => G.2.2 ≤ q)) (F0 m 82 ls [])) : ∀ (n : Nat) (x8 : Nat) (x9 : Nat) (x10 : Int32) (x11 : Int32) (x12 : Int32) (x13 : Int32) (h14 : ah_H) (H : Heap) (locs : List Loc) (ls : Array Slot), lp_WH_becomeShiftedDown_26 xt_82 K n x8 x9 x10 x11 x12 x13 h14 → ah_m h0 h14 → ah_W G s.heap h14 H locs → lv_has ls 9 [(0, .ref x8), (1, .ref x9), (3, .int x10), (4, .int x11), (5, .int x12), (6, .int x13)] → W p l e rm_WH_becomeShiftedDown s m args below meth c H locs cells slots (MQ below (va_Qv (fun h9 => K h9 ∧ ah_m h0 h9) (ah_B G) (fun q => G.2.2 ≤ q)) args s 0 0 (fun q => G.2.2 ≤ q)) (F0 m 26 ls []) := by
  obtain ⟨hx, hb, hr, hml, hown, hts, hT, hlk, hK, hX, htb, hin, hst⟩ := id C
  have hw : ∀ {w9 : Cond}, w9 ∈ zx_T → w9.before _ s = true := fun h9 => hts _ (hT _ h9)
  intro n
  induction n with
  | zero =>
    intro x8 x9 x10 x11 x12 x13 h14 H locs ls w
    exact absurd w (by intro z9; exact z9)
  | succ n ih =>
    intro x8 x9 x10 x11 x12 x13 h14 H locs ls w hm hW hl
    unfold lp_WH_becomeShiftedDown_26 at w
    refine lv_iload hx hb d_WH_becomeShiftedDown_26 (lv_at hl 5 rfl) ?_
    refine lv_iload hx hb d_WH_becomeShiftedDown_28 (lv_at hl 4 rfl) ?_
    refine lv_icmp_ge (tgt := 82) hx hb d_WH_becomeShiftedDown_30 (by decide) (fun c15 => ?_) (fun c15 => ?_)
    · have w := w.1 c15
      exact hc_xt_82 x8 x12 h14 _ _ _ w hm hW (lv_sub hl [0, 4] rfl)
    · have w := w.2 c15
      refine lv_aload_n hx hb d_WH_becomeShiftedDown_33 rfl (lv_at hl 1 rfl) ?_
      refine lv_iload hx hb d_WH_becomeShiftedDown_34 (lv_at hl 5 rfl) ?_
      refine lv_iload_n hx hb d_WH_becomeShiftedDown_36 rfl (lv_at hl 2 rfl) ?_
      refine lv_iadd hx hb d_WH_becomeShiftedDown_37 ?_
      refine lv_iconst (v := 1) hx hb d_WH_becomeShiftedDown_38 (by decide) ?_
      refine lv_iadd hx hb d_WH_becomeShiftedDown_39 ?_
      obtain ⟨t16, w⟩ := w
      refine hb_calll (va_runV (As := [.int ((x13 + x10) + (1 : Int32))]) (rest := []) ⟨hx, hb, hml, hown, hts⟩ (m_WH_at G x9 ((x13 + x10) + (1 : Int32)) h14 hst w) (cwV 1 hts (zx_gV hT wd_343 wd_344 wd_345 wd_2 wd_346) rfl rfl rfl (by decide +kernel) ⟨Nat.le_of_ble_eq_true rfl, Nat.le_of_ble_eq_true rfl⟩) (hb_preV hK hX hW t16 (by decide) rfl) rfl rfl hl.1 rfl (lv_room (Nat.le_of_ble_eq_true rfl)) d_WH_becomeShiftedDown_40 ⟨(by show _ ≤ 0; omega), (by show _ ≤ 0; omega)⟩) hW (fun r18 h17 H locs hk hW => ?_)
      obtain ⟨w, mm19⟩ := hk
      have w := w mm19
      have hm := hm.tr mm19
      have t20 := mm19.tg t16 (by decide)
      refine lv_bipush (v := 32) hx hb d_WH_becomeShiftedDown_43 (by decide) ?_
      refine lv_iload hx hb d_WH_becomeShiftedDown_45 (lv_at hl 3 rfl) ?_
      refine lv_isub hx hb d_WH_becomeShiftedDown_47 ?_
      refine lv_lshl hx hb d_WH_becomeShiftedDown_48 rfl ?_
      refine lv_topl (fun v21 ev21 => ?_)
      have w := w v21 ev21
      refine lv_lstore (lv' := [(7, .long v21), (0, .ref x8), (1, .ref x9), (3, .int x10), (4, .int x11), (5, .int x12), (6, .int x13)]) hx hb d_WH_becomeShiftedDown_49 hl (by decide) rfl (fun ls hl => ?_)
      refine lv_aload_n hx hb d_WH_becomeShiftedDown_51 rfl (lv_at hl 1 rfl) ?_
      obtain ⟨t22, w⟩ := w
      obtain ⟨q23, e24, w⟩ := w
      refine hb_get (ci := 2) (C := "BigDesk$Whole") (T := T_WH) (N := 3) hx hb hts (fun w9 h9 => hT w9 (u_WH w9 h9)) hown hK hW t22 rfl (by decide) 0 (by decide) (hw wd_33) (fun _ h9 => h9) (q := (2, 5)) rfl (v := .ref q23) (ah_f_R e24) d_WH_becomeShiftedDown_52 ?_
      refine lv_iload hx hb d_WH_becomeShiftedDown_55 (lv_at hl 6 rfl) ?_
      refine lv_aload_n hx hb d_WH_becomeShiftedDown_57 rfl (lv_at hl 2 rfl) ?_
      refine lv_iload hx hb d_WH_becomeShiftedDown_58 (lv_at hl 6 rfl) ?_
      refine lv_iload_n hx hb d_WH_becomeShiftedDown_60 rfl (lv_at hl 3 rfl) ?_
      refine lv_iadd hx hb d_WH_becomeShiftedDown_61 ?_
      refine hb_calll (va_runV (As := [.int (x13 + x10)]) (rest := [.int x13, .ref q23]) ⟨hx, hb, hml, hown, hts⟩ (m_WH_at G x9 (x13 + x10) h17 hst w) (cwV 1 hts (zx_gV hT wd_343 wd_344 wd_345 wd_2 wd_346) rfl rfl rfl (by decide +kernel) ⟨Nat.le_of_ble_eq_true rfl, Nat.le_of_ble_eq_true rfl⟩) (hb_preV hK hX hW t20 (by decide) rfl) rfl rfl hl.1 rfl (lv_room (Nat.le_of_ble_eq_true rfl)) d_WH_becomeShiftedDown_62 ⟨(by show _ ≤ 0; omega), (by show _ ≤ 0; omega)⟩) hW (fun r26 h25 H locs hk hW => ?_)
      obtain ⟨w, mm27⟩ := hk
      have w := w mm27
      have hm := hm.tr mm27
      have t28 := mm27.tg t20 (by decide)
      have t29 := mm27.tg t22 (by decide)
      refine lv_iload hx hb d_WH_becomeShiftedDown_65 (lv_at hl 4 rfl) ?_
      refine lv_lushr hx hb d_WH_becomeShiftedDown_67 rfl ?_
      refine lv_lload hx hb d_WH_becomeShiftedDown_68 (lv_at hl 0 rfl) ?_
      refine lv_lor hx hb d_WH_becomeShiftedDown_70 ?_
      refine lv_ldc2 (v := 4294967295) hx hb hown (hw wd_217) d_WH_becomeShiftedDown_71 ?_
      refine lv_land hx hb d_WH_becomeShiftedDown_74 ?_
      refine lv_topl (fun v30 ev30 => ?_)
      have w := w v30 ev30
      obtain ⟨t31, w⟩ := w
      obtain ⟨i32, w⟩ := w
      refine hb_last hx hb hK hW t31 (by decide) (by decide) 2 rfl i32 d_WH_becomeShiftedDown_75 (fun H locs h33 eh33 hW => ?_)
      have w := w h33 eh33
      have mm34 : ah_m h25 h33 := ah_m.rf.st (by rw [eh33]; rfl) (by rw [eh33]; rfl)
      have hm := hm.tr mm34
      have t35 := mm34.tg t28 (by decide)
      have t36 := mm34.tg t29 (by decide)
      have t37 := mm34.tg t31 (by decide)
      obtain ⟨v38, ev38⟩ : ∃ y9 : Int32, y9 = x13 + 1 := ⟨_, rfl⟩
      have w := w v38 ev38
      refine lv_iinc (v := v38) (lv' := [(6, .int v38), (7, .long v21), (0, .ref x8), (1, .ref x9), (3, .int x10), (4, .int x11), (5, .int x12)]) hx hb d_WH_becomeShiftedDown_76 hl (k := 6) rfl (by rw [ev38]; rfl) (by decide) rfl (fun ls hl => ?_)
      refine lv_goto (tgt := 26) hx hb d_WH_becomeShiftedDown_79 (by decide) ?_
      exact ih x8 x9 x10 x11 x12 v38 h33 _ _ _ w hm hW (lv_sub hl [2, 3, 4, 5, 6, 0] rfl)
set_option maxHeartbeats 4000000 in
set_option maxRecDepth 100000 in
theorem m_WH_becomeShiftedDown {l : Launch} (G : zG) (a1 : Nat) (a2 : Nat) (a3 : Int32) (h0 : ah_H) {K : ah_H → Prop} (hst : l.stackTraces = false) (w : w_WH_becomeShiftedDown a1 a2 a3 h0 K) : Met l y_WH_becomeShiftedDown (Cond.code y_WH_becomeShiftedDown b_WH_becomeShiftedDown 9 none :: zx_T) rm_WH_becomeShiftedDown (va_Pc [.ref a1, .ref a2, .int a3] (ah_B G h0)) (va_Qv (fun h9 => K h9 ∧ ah_m h0 h9) (ah_B G) (fun q => G.2.2 ≤ q)) 0 0 (fun q => G.2.2 ≤ q) := by
  refine Met.ofW (cc := b_WH_becomeShiftedDown) (maxL := 9) (ret := none) (by decide) rfl ?_
  intro p e s m args below meth c s₁ B hml hv
  have htb := cx_out B (atoms_spec B.pre _ List.mem_cons_self)
  obtain ⟨rfl, hB⟩ := hv
  have C : cx_C p l s m _ meth c G y_WH_becomeShiftedDown b_WH_becomeShiftedDown 9 none "BigDesk$Whole" (Cond.code y_WH_becomeShiftedDown b_WH_becomeShiftedDown 9 none :: zx_T) [] := ⟨B.exec, B.bytes, B.returns, hml, findClass_of_methodNamed B.named, atoms_spec B.pre, cx_hd, B.notSynchronized, hB.2.2.1, hB.2.2.2, htb, fun z9 => (name_of_methodNamed B.named B.method).1.trans z9, hst⟩
  obtain ⟨hx, hb, hr, hml, hown, hts, hT, hlk, hK, hX, htb, hin, hst⟩ := id C
  have hw : ∀ {w9 : Cond}, w9 ∈ zx_T → w9.before _ s = true := fun h9 => hts _ (hT _ h9)
  have hW : ah_W G s.heap h0 s.heap [] := ⟨hB.1, hB.2.1, va_S.rf⟩
  have hm : ah_m h0 h0 := ah_m.rf
  have hcl : 0 + 0 ≤ 0 := by decide
  have hsl : 0 + 0 ≤ 0 := by decide
  have hl := lv_entry ([.ref a1, .ref a2, .int a3]) (n := 9) (Nat.le_of_ble_eq_true rfl)
  rw [lg_entry_eq]
  generalize (lg_sl ([.ref a1, .ref a2, .int a3]) ++ List.replicate (9 - (lg_sl ([.ref a1, .ref a2, .int a3])).length) Slot.unset).toArray = ls at hl ⊢
  have hl : lv_has ls 9 [(0, .ref a1), (1, .ref a2), (2, .int a3)] := hl
  unfold w_WH_becomeShiftedDown at w
  refine lv_iload_n hx hb d_WH_becomeShiftedDown_0 rfl (lv_at hl 2 rfl) ?_
  refine lv_bipush (v := 32) hx hb d_WH_becomeShiftedDown_1 (by decide) ?_
  refine lv_idiv hx hb d_WH_becomeShiftedDown_3 (by decide) ?_
  refine lv_topi (fun v4 ev4 => ?_)
  have w := w v4 ev4
  refine lv_istore_n (lv' := [(3, .int v4), (0, .ref a1), (1, .ref a2), (2, .int a3)]) hx hb d_WH_becomeShiftedDown_4 rfl hl (by decide) rfl (fun ls hl => ?_)
  refine lv_iload_n hx hb d_WH_becomeShiftedDown_5 rfl (lv_at hl 3 rfl) ?_
  refine lv_bipush (v := 32) hx hb d_WH_becomeShiftedDown_6 (by decide) ?_
  refine lv_irem hx hb d_WH_becomeShiftedDown_8 (by decide) ?_
  refine lv_topi (fun v5 ev5 => ?_)
  have w := w v5 ev5
  refine lv_istore (lv' := [(4, .int v5), (3, .int v4), (0, .ref a1), (1, .ref a2), (2, .int a3)]) hx hb d_WH_becomeShiftedDown_9 hl (by decide) rfl (fun ls hl => ?_)
  refine lv_aload_n hx hb d_WH_becomeShiftedDown_11 rfl (lv_at hl 3 rfl) ?_
  obtain ⟨t6, w⟩ := w
  refine hb_get (ci := 2) (C := "BigDesk$Whole") (T := T_WH) (N := 3) hx hb hts (fun w9 h9 => hT w9 (u_WH w9 h9)) hown hK hW t6 rfl (by decide) 1 (by decide) (hw wd_37) (fun _ h9 => h9) (q := (0, 0)) rfl (v := .int (ah_I h0 0 a2)) rfl d_WH_becomeShiftedDown_12 ?_
  refine lv_iload_n hx hb d_WH_becomeShiftedDown_15 rfl (lv_at hl 1 rfl) ?_
  refine lv_isub hx hb d_WH_becomeShiftedDown_16 ?_
  refine lv_iconst (v := 0) hx hb d_WH_becomeShiftedDown_17 (by decide) ?_
  refine va_mmax hx hb (by rw [hml]; exact hl.1.symm) hown (hw wd_359) (hw wd_255) (hw wd_12) (hw wd_256) (Nat.le_of_ble_eq_true rfl) (Nat.le_of_ble_eq_true rfl) (by show _ ≤ 0; omega) (by show _ ≤ 0; omega) d_WH_becomeShiftedDown_18 ?_
  refine lv_topi (fun v7 ev7 => ?_)
  have w := w v7 ev7
  refine lv_istore (lv' := [(5, .int v7), (4, .int v5), (3, .int v4), (0, .ref a1), (1, .ref a2), (2, .int a3)]) hx hb d_WH_becomeShiftedDown_21 hl (by decide) rfl (fun ls hl => ?_)
  refine lv_iconst (v := 0) hx hb d_WH_becomeShiftedDown_23 (by decide) ?_
  refine lv_istore (lv' := [(6, .int (0 : Int32)), (5, .int v7), (4, .int v5), (3, .int v4), (0, .ref a1), (1, .ref a2), (2, .int a3)]) hx hb d_WH_becomeShiftedDown_24 hl (by decide) rfl (fun ls hl => ?_)
  obtain ⟨k46, w⟩ := w
  refine tl_WH_becomeShiftedDown_26 C (by omega) (by omega) (fun x39 x40 h41 H locs ls w hm hW hl => ?_) k46 a1 a2 v4 v5 v7 (0 : Int32) h0 _ _ _ w hm hW (lv_sub hl [4, 5, 3, 2, 1, 0] rfl)
  · refine lv_aload_n hx hb d_WH_becomeShiftedDown_82 rfl (lv_at hl 0 rfl) ?_
    refine lv_iload hx hb d_WH_becomeShiftedDown_83 (lv_at hl 1 rfl) ?_
    obtain ⟨t42, w⟩ := w
    refine hb_callv (va_runV (As := [.int x40]) (rest := []) ⟨hx, hb, hml, hown, hts⟩ (m_WH_settle G x39 x40 h41 hst w) (cwV 1 hts (zx_gV hT wd_218 wd_219 wd_220 wd_2 wd_221) rfl rfl rfl (by decide +kernel) ⟨Nat.le_of_ble_eq_true rfl, Nat.le_of_ble_eq_true rfl⟩) (hb_preV hK hX hW t42 (by decide) rfl) rfl rfl hl.1 rfl (lv_room (Nat.le_of_ble_eq_true rfl)) d_WH_becomeShiftedDown_85 ⟨(by show _ ≤ 0; omega), (by show _ ≤ 0; omega)⟩) hW (fun h43 H locs hk hW => ?_)
    obtain ⟨w, mm44⟩ := hk
    have w := w mm44
    have hm := hm.tr mm44
    have t45 := mm44.tg t42 (by decide)
    exact hb_vret (K := fun h9 => K h9 ∧ ah_m h0 h9) hx hb hr hlk hK hX hW ⟨w, hm⟩ (by omega) (by omega) d_WH_becomeShiftedDown_88
set_option maxHeartbeats 4000000 in
set_option maxRecDepth 100000 in
theorem tl_WH_endingZeros_2 {p : Program} {l : Launch} {e : Env} {s : State} {m : MethodId} {args : Array Value} {below : List Frame} {meth : Method} {c : Code} {G : zG} (C : cx_C p l s m args meth c G y_WH_endingZeros b_WH_endingZeros 4 (some .int) "BigDesk$Whole" (Cond.code y_WH_endingZeros b_WH_endingZeros 4 (some .int) :: zx_T) []) {K : Int32 → ah_H → Prop} {h0 : ah_H} {cells slots : Nat} (hcl : cells + 0 ≤ 0) (hsl : slots + 0 ≤ 0) {xt_23 : Int32 → Int64 → ah_H → Prop} {xt_47 : ah_H → Prop} (hc_xt_23 : ∀ (z0 : Int32) (z1 : Int64) (hz : ah_H) (H : Heap) (locs : List Loc) (ls : Array Slot), xt_23 z0 z1 hz → ah_m h0 hz → ah_W G s.heap hz H locs → lv_has ls 4 [(1, .int z0), (2, .long z1)] → W p l e rm_WH_endingZeros s m args below meth c H locs cells slots (MQ below (va_Qi (fun r9 h9 => K r9 h9 ∧ ah_m h0 h9) (ah_B G) (fun q => G.2.2 ≤ q)) args s 0 0 (fun q => G.2.2 ≤ q)) (F0 m 23 ls [])) (hc_xt_47 : ∀ (hz : ah_H) (H : Heap) (locs : List Loc) (ls : Array Slot), xt_47 hz → ah_m h0 hz → ah_W G s.heap hz H locs → lv_has ls 4 [] → W p l e rm_WH_endingZeros s m args below meth c H locs cells slots (MQ below (va_Qi (fun r9 h9 => K r9 h9 ∧ ah_m h0 h9) (ah_B G) (fun q => G.2.2 ≤ q)) args s 0 0 (fun q => G.2.2 ≤ q)) (F0 m 47 ls [])) : ∀ (n : Nat) (x2 : Nat) (x3 : Int32) (h4 : ah_H) (H : Heap) (locs : List Loc) (ls : Array Slot), lp_WH_endingZeros_2 xt_23 xt_47 K n x2 x3 h4 → ah_m h0 h4 → ah_W G s.heap h4 H locs → lv_has ls 4 [(0, .ref x2), (1, .int x3)] → W p l e rm_WH_endingZeros s m args below meth c H locs cells slots (MQ below (va_Qi (fun r9 h9 => K r9 h9 ∧ ah_m h0 h9) (ah_B G) (fun q => G.2.2 ≤ q)) args s 0 0 (fun q => G.2.2 ≤ q)) (F0 m 2 ls []) := by
  obtain ⟨hx, hb, hr, hml, hown, hts, hT, hlk, hK, hX, htb, hin, hst⟩ := id C
  have hw : ∀ {w9 : Cond}, w9 ∈ zx_T → w9.before _ s = true := fun h9 => hts _ (hT _ h9)
  intro n
  induction n with
  | zero =>
    intro x2 x3 h4 H locs ls w
    exact absurd w (by intro z9; exact z9)
  | succ n ih =>
    intro x2 x3 h4 H locs ls w hm hW hl
    unfold lp_WH_endingZeros_2 at w
    refine lv_iload_n hx hb d_WH_endingZeros_2 rfl (lv_at hl 1 rfl) ?_
    refine lv_aload_n hx hb d_WH_endingZeros_3 rfl (lv_at hl 0 rfl) ?_
    obtain ⟨t5, w⟩ := w
    refine hb_get (ci := 2) (C := "BigDesk$Whole") (T := T_WH) (N := 3) hx hb hts (fun w9 h9 => hT w9 (u_WH w9 h9)) hown hK hW t5 rfl (by decide) 1 (by decide) (hw wd_37) (fun _ h9 => h9) (q := (0, 0)) rfl (v := .int (ah_I h4 0 x2)) rfl d_WH_endingZeros_4 ?_
    refine lv_icmp_ge (tgt := 47) hx hb d_WH_endingZeros_7 (by decide) (fun c6 => ?_) (fun c6 => ?_)
    · have w := w.1 c6
      exact hc_xt_47  h4 _ _ _ w hm hW (lv_sub hl [] rfl)
    · have w := w.2 c6
      refine lv_aload_n hx hb d_WH_endingZeros_10 rfl (lv_at hl 0 rfl) ?_
      obtain ⟨q7, e8, w⟩ := w
      refine hb_get (ci := 2) (C := "BigDesk$Whole") (T := T_WH) (N := 3) hx hb hts (fun w9 h9 => hT w9 (u_WH w9 h9)) hown hK hW t5 rfl (by decide) 0 (by decide) (hw wd_33) (fun _ h9 => h9) (q := (2, 5)) rfl (v := .ref q7) (ah_f_R e8) d_WH_endingZeros_11 ?_
      refine lv_iload_n hx hb d_WH_endingZeros_14 rfl (lv_at hl 1 rfl) ?_
      obtain ⟨t9, w⟩ := w
      obtain ⟨i10, w⟩ := w
      refine hb_lald hx hb hK hW t9 (by decide) (by decide) 2 rfl i10 d_WH_endingZeros_15 ?_
      refine lv_topl (fun v11 ev11 => ?_)
      have w := w v11 ev11
      refine lv_lstore_n (lv' := [(2, .long v11), (0, .ref x2), (1, .int x3)]) hx hb d_WH_endingZeros_16 rfl hl (by decide) rfl (fun ls hl => ?_)
      refine lv_lload_n hx hb d_WH_endingZeros_17 rfl (lv_at hl 0 rfl) ?_
      refine lv_lconst (v := 0) hx hb d_WH_endingZeros_18 (by decide) ?_
      refine hb_lcmp_eq (tgt := 41) hx hb d_WH_endingZeros_19 d_WH_endingZeros_20 (by decide) (fun c12 => ?_) (fun c12 => ?_)
      · have w := w.1 c12
        obtain ⟨v13, ev13⟩ : ∃ y9 : Int32, y9 = x3 + 1 := ⟨_, rfl⟩
        have w := w v13 ev13
        refine lv_iinc (v := v13) (lv' := [(1, .int v13), (2, .long v11), (0, .ref x2)]) hx hb d_WH_endingZeros_41 hl (k := 2) rfl (by rw [ev13]; rfl) (by decide) rfl (fun ls hl => ?_)
        refine lv_goto (tgt := 2) hx hb d_WH_endingZeros_44 (by decide) ?_
        exact ih x2 v13 h4 _ _ _ w hm hW (lv_sub hl [2, 0] rfl)
      · have w := w.2 c12
        exact hc_xt_23 x3 v11 h4 _ _ _ w hm hW (lv_sub hl [2, 0] rfl)
set_option maxHeartbeats 4000000 in
set_option maxRecDepth 100000 in
theorem m_WH_endingZeros {l : Launch} (G : zG) (a1 : Nat) (h0 : ah_H) {K : Int32 → ah_H → Prop} (hst : l.stackTraces = false) (w : w_WH_endingZeros a1 h0 K) : Met l y_WH_endingZeros (Cond.code y_WH_endingZeros b_WH_endingZeros 4 (some .int) :: zx_T) rm_WH_endingZeros (va_Pc [.ref a1] (ah_B G h0)) (va_Qi (fun r9 h9 => K r9 h9 ∧ ah_m h0 h9) (ah_B G) (fun q => G.2.2 ≤ q)) 0 0 (fun q => G.2.2 ≤ q) := by
  refine Met.ofW (cc := b_WH_endingZeros) (maxL := 4) (ret := (some .int)) (by decide) rfl ?_
  intro p e s m args below meth c s₁ B hml hv
  have htb := cx_out B (atoms_spec B.pre _ List.mem_cons_self)
  obtain ⟨rfl, hB⟩ := hv
  have C : cx_C p l s m _ meth c G y_WH_endingZeros b_WH_endingZeros 4 (some .int) "BigDesk$Whole" (Cond.code y_WH_endingZeros b_WH_endingZeros 4 (some .int) :: zx_T) [] := ⟨B.exec, B.bytes, B.returns, hml, findClass_of_methodNamed B.named, atoms_spec B.pre, cx_hd, B.notSynchronized, hB.2.2.1, hB.2.2.2, htb, fun z9 => (name_of_methodNamed B.named B.method).1.trans z9, hst⟩
  obtain ⟨hx, hb, hr, hml, hown, hts, hT, hlk, hK, hX, htb, hin, hst⟩ := id C
  have hw : ∀ {w9 : Cond}, w9 ∈ zx_T → w9.before _ s = true := fun h9 => hts _ (hT _ h9)
  have hW : ah_W G s.heap h0 s.heap [] := ⟨hB.1, hB.2.1, va_S.rf⟩
  have hm : ah_m h0 h0 := ah_m.rf
  have hcl : 0 + 0 ≤ 0 := by decide
  have hsl : 0 + 0 ≤ 0 := by decide
  have hl := lv_entry ([.ref a1]) (n := 4) (Nat.le_of_ble_eq_true rfl)
  rw [lg_entry_eq]
  generalize (lg_sl ([.ref a1]) ++ List.replicate (4 - (lg_sl ([.ref a1])).length) Slot.unset).toArray = ls at hl ⊢
  have hl : lv_has ls 4 [(0, .ref a1)] := hl
  unfold w_WH_endingZeros at w
  refine lv_iconst (v := 0) hx hb d_WH_endingZeros_0 (by decide) ?_
  refine lv_istore_n (lv' := [(1, .int (0 : Int32)), (0, .ref a1)]) hx hb d_WH_endingZeros_1 rfl hl (by decide) rfl (fun ls hl => ?_)
  obtain ⟨k21, w⟩ := w
  refine tl_WH_endingZeros_2 C (by omega) (by omega) (fun x14 x15 h16 H locs ls w hm hW hl => ?_) (fun  h20 H locs ls w hm hW hl => ?_) k21 a1 (0 : Int32) h0 _ _ _ w hm hW (lv_sub hl [1, 0] rfl)
  · refine lv_bipush (v := 32) hx hb d_WH_endingZeros_23 (by decide) ?_
    refine lv_iload_n hx hb d_WH_endingZeros_25 rfl (lv_at hl 0 rfl) ?_
    refine lv_imul hx hb d_WH_endingZeros_26 ?_
    refine lv_lload_n hx hb d_WH_endingZeros_27 rfl (lv_at hl 1 rfl) ?_
    refine lv_ldc2 (v := -1) hx hb hown (hw wd_364) d_WH_endingZeros_28 ?_
    refine lv_lxor hx hb d_WH_endingZeros_31 ?_
    refine lv_lload_n hx hb d_WH_endingZeros_32 rfl (lv_at hl 1 rfl) ?_
    refine lv_lconst (v := 1) hx hb d_WH_endingZeros_33 (by decide) ?_
    refine lv_lsub hx hb d_WH_endingZeros_34 ?_
    refine lv_land hx hb d_WH_endingZeros_35 ?_
    refine hb_calli (va_runS (As := [.long ((x15 ^^^ (-1 : Int64)) &&& (x15 - (1 : Int64)))]) (rest := [.int ((32 : Int32) * x14)]) ⟨hx, hb, hml, hown, hts⟩ (m_JL_bitCount G ((x15 ^^^ (-1 : Int64)) &&& (x15 - (1 : Int64))) h16 hst w) (va_cwS 1 hts (zx_gS hT wd_365 wd_366 wd_14 wd_367) rfl rfl rfl (by decide +kernel) ⟨Nat.le_of_ble_eq_true rfl, Nat.le_of_ble_eq_true rfl⟩) (hb_preS hK hX hW) rfl rfl hl.1 rfl (lv_room (Nat.le_of_ble_eq_true rfl)) d_WH_endingZeros_36 ⟨(by show _ ≤ 0; omega), (by show _ ≤ 0; omega)⟩) hW (fun r18 h17 H locs hk hW => ?_)
    obtain ⟨w, mm19⟩ := hk
    have w := w mm19
    have hm := hm.tr mm19
    refine lv_iadd hx hb d_WH_endingZeros_39 ?_
    exact hb_iret (K := fun r9 h9 => K r9 h9 ∧ ah_m h0 h9) hx hb hr hlk hK hX hW ⟨w, hm⟩ (by omega) (by omega) d_WH_endingZeros_40
  · refine lv_iconst (v := 0) hx hb d_WH_endingZeros_47 (by decide) ?_
    exact hb_iret (K := fun r9 h9 => K r9 h9 ∧ ah_m h0 h9) hx hb hr hlk hK hX hW ⟨w, hm⟩ (by omega) (by omega) d_WH_endingZeros_48
set_option maxHeartbeats 4000000 in
set_option maxRecDepth 100000 in
theorem tl_WH_addOne_2 {p : Program} {l : Launch} {e : Env} {s : State} {m : MethodId} {args : Array Value} {below : List Frame} {meth : Method} {c : Code} {G : zG} (C : cx_C p l s m args meth c G y_WH_addOne b_WH_addOne 2 none "BigDesk$Whole" (Cond.code y_WH_addOne b_WH_addOne 2 none :: zx_T) []) {K : ah_H → Prop} {h0 : ah_H} {cells slots : Nat} (hcl : cells + 0 ≤ 0) (hsl : slots + 0 ≤ 0) {xt_36 : Nat → Int32 → ah_H → Prop} (hc_xt_36 : ∀ (z0 : Nat) (z1 : Int32) (hz : ah_H) (H : Heap) (locs : List Loc) (ls : Array Slot), xt_36 z0 z1 hz → ah_m h0 hz → ah_W G s.heap hz H locs → lv_has ls 2 [(0, .ref z0), (1, .int z1)] → W p l e rm_WH_addOne s m args below meth c H locs cells slots (MQ below (va_Qv (fun h9 => K h9 ∧ ah_m h0 h9) (ah_B G) (fun q => G.2.2 ≤ q)) args s 0 0 (fun q => G.2.2 ≤ q)) (F0 m 36 ls [])) : ∀ (n : Nat) (x2 : Nat) (x3 : Int32) (h4 : ah_H) (H : Heap) (locs : List Loc) (ls : Array Slot), lp_WH_addOne_2 xt_36 K n x2 x3 h4 → ah_m h0 h4 → ah_W G s.heap h4 H locs → lv_has ls 2 [(0, .ref x2), (1, .int x3)] → W p l e rm_WH_addOne s m args below meth c H locs cells slots (MQ below (va_Qv (fun h9 => K h9 ∧ ah_m h0 h9) (ah_B G) (fun q => G.2.2 ≤ q)) args s 0 0 (fun q => G.2.2 ≤ q)) (F0 m 2 ls []) := by
  obtain ⟨hx, hb, hr, hml, hown, hts, hT, hlk, hK, hX, htb, hin, hst⟩ := id C
  have hw : ∀ {w9 : Cond}, w9 ∈ zx_T → w9.before _ s = true := fun h9 => hts _ (hT _ h9)
  intro n
  induction n with
  | zero =>
    intro x2 x3 h4 H locs ls w
    exact absurd w (by intro z9; exact z9)
  | succ n ih =>
    intro x2 x3 h4 H locs ls w hm hW hl
    unfold lp_WH_addOne_2 at w
    refine lv_iload_n hx hb d_WH_addOne_2 rfl (lv_at hl 1 rfl) ?_
    refine lv_aload_n hx hb d_WH_addOne_3 rfl (lv_at hl 0 rfl) ?_
    obtain ⟨t5, w⟩ := w
    refine hb_get (ci := 2) (C := "BigDesk$Whole") (T := T_WH) (N := 3) hx hb hts (fun w9 h9 => hT w9 (u_WH w9 h9)) hown hK hW t5 rfl (by decide) 1 (by decide) (hw wd_37) (fun _ h9 => h9) (q := (0, 0)) rfl (v := .int (ah_I h4 0 x2)) rfl d_WH_addOne_4 ?_
    refine lv_icmp_ge (tgt := 36) hx hb d_WH_addOne_7 (by decide) (fun c6 => ?_) (fun c6 => ?_)
    · have w := w.1 c6
      exact hc_xt_36 x2 x3 h4 _ _ _ w hm hW (lv_sub hl [0, 1] rfl)
    · have w := w.2 c6
      refine lv_aload_n hx hb d_WH_addOne_10 rfl (lv_at hl 0 rfl) ?_
      obtain ⟨q7, e8, w⟩ := w
      refine hb_get (ci := 2) (C := "BigDesk$Whole") (T := T_WH) (N := 3) hx hb hts (fun w9 h9 => hT w9 (u_WH w9 h9)) hown hK hW t5 rfl (by decide) 0 (by decide) (hw wd_33) (fun _ h9 => h9) (q := (2, 5)) rfl (v := .ref q7) (ah_f_R e8) d_WH_addOne_11 ?_
      refine lv_iload_n hx hb d_WH_addOne_14 rfl (lv_at hl 1 rfl) ?_
      obtain ⟨t9, w⟩ := w
      obtain ⟨i10, w⟩ := w
      refine hb_lald hx hb hK hW t9 (by decide) (by decide) 2 rfl i10 d_WH_addOne_15 ?_
      refine lv_ldc2 (v := 4294967295) hx hb hown (hw wd_217) d_WH_addOne_16 ?_
      refine hb_lcmp_ne (tgt := 36) hx hb d_WH_addOne_19 d_WH_addOne_20 (by decide) (fun c11 => ?_) (fun c11 => ?_)
      · have w := w.1 c11
        exact hc_xt_36 x2 x3 h4 _ _ _ w hm hW (lv_sub hl [0, 1] rfl)
      · have w := w.2 c11
        refine lv_aload_n hx hb d_WH_addOne_23 rfl (lv_at hl 0 rfl) ?_
        obtain ⟨q12, e13, w⟩ := w
        refine hb_get (ci := 2) (C := "BigDesk$Whole") (T := T_WH) (N := 3) hx hb hts (fun w9 h9 => hT w9 (u_WH w9 h9)) hown hK hW t5 rfl (by decide) 0 (by decide) (hw wd_33) (fun _ h9 => h9) (q := (2, 5)) rfl (v := .ref q12) (ah_f_R e13) d_WH_addOne_24 ?_
        refine lv_iload_n hx hb d_WH_addOne_27 rfl (lv_at hl 1 rfl) ?_
        refine lv_lconst (v := 0) hx hb d_WH_addOne_28 (by decide) ?_
        obtain ⟨t14, w⟩ := w
        obtain ⟨i15, w⟩ := w
        refine hb_last hx hb hK hW t14 (by decide) (by decide) 2 rfl i15 d_WH_addOne_29 (fun H locs h16 eh16 hW => ?_)
        have w := w h16 eh16
        have mm17 : ah_m h4 h16 := ah_m.rf.st (by rw [eh16]; rfl) (by rw [eh16]; rfl)
        have hm := hm.tr mm17
        have t18 := mm17.tg t5 (by decide)
        have t19 := mm17.tg t9 (by decide)
        have t20 := mm17.tg t14 (by decide)
        obtain ⟨v21, ev21⟩ : ∃ y9 : Int32, y9 = x3 + 1 := ⟨_, rfl⟩
        have w := w v21 ev21
        refine lv_iinc (v := v21) (lv' := [(1, .int v21), (0, .ref x2)]) hx hb d_WH_addOne_30 hl (k := 1) rfl (by rw [ev21]; rfl) (by decide) rfl (fun ls hl => ?_)
        refine lv_goto (tgt := 2) hx hb d_WH_addOne_33 (by decide) ?_
        exact ih x2 v21 h16 _ _ _ w hm hW (lv_sub hl [1, 0] rfl)
set_option maxHeartbeats 4000000 in
set_option maxRecDepth 100000 in
theorem tb_WH_addOne_67 {p : Program} {l : Launch} {e : Env} {s : State} {m : MethodId} {args : Array Value} {below : List Frame} {meth : Method} {c : Code} {G : zG} (C : cx_C p l s m args meth c G y_WH_addOne b_WH_addOne 2 none "BigDesk$Whole" (Cond.code y_WH_addOne b_WH_addOne 2 none :: zx_T) []) {K : ah_H → Prop} {h0 : ah_H} {cells slots : Nat} (hcl : cells + 0 ≤ 0) (hsl : slots + 0 ≤ 0)   (h29 : ah_H) (H : Heap) (locs : List Loc) (ls : Array Slot) (w : bk_WH_addOne_67 K h29) (hm : ah_m h0 h29) (hW : ah_W G s.heap h29 H locs) (hl : lv_has ls 2 []) : W p l e rm_WH_addOne s m args below meth c H locs cells slots (MQ below (va_Qv (fun h9 => K h9 ∧ ah_m h0 h9) (ah_B G) (fun q => G.2.2 ≤ q)) args s 0 0 (fun q => G.2.2 ≤ q)) (F0 m 67 ls []) := by
  unfold bk_WH_addOne_67 at w
  obtain ⟨hx, hb, hr, hml, hown, hts, hT, hlk, hK, hX, htb, hin, hst⟩ := id C
  have hw : ∀ {w9 : Cond}, w9 ∈ zx_T → w9.before _ s = true := fun h9 => hts _ (hT _ h9)
  exact hb_vret (K := fun h9 => K h9 ∧ ah_m h0 h9) hx hb hr hlk hK hX hW ⟨w, hm⟩ (by omega) (by omega) d_WH_addOne_67
set_option maxHeartbeats 4000000 in
set_option maxRecDepth 100000 in
theorem tb_WH_addOne_36 {p : Program} {l : Launch} {e : Env} {s : State} {m : MethodId} {args : Array Value} {below : List Frame} {meth : Method} {c : Code} {G : zG} (C : cx_C p l s m args meth c G y_WH_addOne b_WH_addOne 2 none "BigDesk$Whole" (Cond.code y_WH_addOne b_WH_addOne 2 none :: zx_T) []) {K : ah_H → Prop} {h0 : ah_H} {cells slots : Nat} (hcl : cells + 0 ≤ 0) (hsl : slots + 0 ≤ 0)  (x25 : Nat) (x26 : Int32) (h27 : ah_H) (H : Heap) (locs : List Loc) (ls : Array Slot) (w : bk_WH_addOne_36 K x25 x26 h27) (hm : ah_m h0 h27) (hW : ah_W G s.heap h27 H locs) (hl : lv_has ls 2 [(0, .ref x25), (1, .int x26)]) : W p l e rm_WH_addOne s m args below meth c H locs cells slots (MQ below (va_Qv (fun h9 => K h9 ∧ ah_m h0 h9) (ah_B G) (fun q => G.2.2 ≤ q)) args s 0 0 (fun q => G.2.2 ≤ q)) (F0 m 36 ls []) := by
  unfold bk_WH_addOne_36 at w
  obtain ⟨hx, hb, hr, hml, hown, hts, hT, hlk, hK, hX, htb, hin, hst⟩ := id C
  have hw : ∀ {w9 : Cond}, w9 ∈ zx_T → w9.before _ s = true := fun h9 => hts _ (hT _ h9)
  refine lv_iload_n hx hb d_WH_addOne_36 rfl (lv_at hl 1 rfl) ?_
  refine lv_sipush (v := 258) hx hb d_WH_addOne_37 (by decide) ?_
  refine lv_icmp_ge (tgt := 67) hx hb d_WH_addOne_40 (by decide) (fun c28 => ?_) (fun c28 => ?_)
  · have w := w.1 c28
    exact tb_WH_addOne_67 C (by omega) (by omega)   h27 _ _ _ w hm hW (lv_sub hl [] rfl)
  · have w := w.2 c28
    refine lv_aload_n hx hb d_WH_addOne_43 rfl (lv_at hl 0 rfl) ?_
    obtain ⟨t30, w⟩ := w
    obtain ⟨q31, e32, w⟩ := w
    refine hb_get (ci := 2) (C := "BigDesk$Whole") (T := T_WH) (N := 3) hx hb hts (fun w9 h9 => hT w9 (u_WH w9 h9)) hown hK hW t30 rfl (by decide) 0 (by decide) (hw wd_33) (fun _ h9 => h9) (q := (2, 5)) rfl (v := .ref q31) (ah_f_R e32) d_WH_addOne_44 ?_
    refine lv_iload_n hx hb d_WH_addOne_47 rfl (lv_at hl 1 rfl) ?_
    refine lv_dup2_11 hx hb d_WH_addOne_48 rfl rfl ?_
    obtain ⟨t33, w⟩ := w
    obtain ⟨i34, w⟩ := w
    refine hb_lald hx hb hK hW t33 (by decide) (by decide) 2 rfl i34 d_WH_addOne_49 ?_
    refine lv_lconst (v := 1) hx hb d_WH_addOne_50 (by decide) ?_
    refine lv_ladd hx hb d_WH_addOne_51 ?_
    refine lv_topl (fun v35 ev35 => ?_)
    have w := w v35 ev35
    obtain ⟨i36, w⟩ := w
    refine hb_last hx hb hK hW t33 (by decide) (by decide) 2 rfl i36 d_WH_addOne_52 (fun H locs h37 eh37 hW => ?_)
    have w := w h37 eh37
    have mm38 : ah_m h27 h37 := ah_m.rf.st (by rw [eh37]; rfl) (by rw [eh37]; rfl)
    have hm := hm.tr mm38
    have t39 := mm38.tg t30 (by decide)
    have t40 := mm38.tg t33 (by decide)
    refine lv_aload_n hx hb d_WH_addOne_53 rfl (lv_at hl 0 rfl) ?_
    refine lv_aload_n hx hb d_WH_addOne_54 rfl (lv_at hl 0 rfl) ?_
    refine hb_get (ci := 2) (C := "BigDesk$Whole") (T := T_WH) (N := 3) hx hb hts (fun w9 h9 => hT w9 (u_WH w9 h9)) hown hK hW t39 rfl (by decide) 1 (by decide) (hw wd_37) (fun _ h9 => h9) (q := (0, 0)) rfl (v := .int (ah_I h37 0 x25)) rfl d_WH_addOne_55 ?_
    refine lv_iload_n hx hb d_WH_addOne_58 rfl (lv_at hl 1 rfl) ?_
    refine lv_iconst (v := 1) hx hb d_WH_addOne_59 (by decide) ?_
    refine lv_iadd hx hb d_WH_addOne_60 ?_
    refine va_mmax hx hb (by rw [hml]; exact hl.1.symm) hown (hw wd_359) (hw wd_255) (hw wd_12) (hw wd_256) (Nat.le_of_ble_eq_true rfl) (Nat.le_of_ble_eq_true rfl) (by show _ ≤ 0; omega) (by show _ ≤ 0; omega) d_WH_addOne_61 ?_
    refine lv_topi (fun v41 ev41 => ?_)
    have w := w v41 ev41
    refine hb_put (ci := 2) (C := "BigDesk$Whole") (T := T_WH) (N := 3) hx hb hts (fun w9 h9 => hT w9 (u_WH w9 h9)) t_WH o_WH n_WH hown hK hW t39 rfl (by decide) 1 (by decide) (hw wd_37) (fun _ h9 => h9) rfl (ty := t_WH 1) (by decide +kernel) (q := (0, 0)) rfl (by decide) (v := .int v41) rfl rfl (ah_one_I h37 0 x25 v41) d_WH_addOne_64 (fun H locs h42 eh42 hW => ?_)
    have w := w h42 eh42
    have mm43 : ah_m h37 h42 := ah_m.rf.st (by rw [eh42]; rfl) (by rw [eh42]; rfl)
    have hm := hm.tr mm43
    have t44 := mm43.tg t39 (by decide)
    have t45 := mm43.tg t40 (by decide)
    exact tb_WH_addOne_67 C (by omega) (by omega)   h42 _ _ _ w hm hW (lv_sub hl [] rfl)
set_option maxHeartbeats 4000000 in
set_option maxRecDepth 100000 in
theorem m_WH_addOne {l : Launch} (G : zG) (a1 : Nat) (h0 : ah_H) {K : ah_H → Prop} (hst : l.stackTraces = false) (w : w_WH_addOne a1 h0 K) : Met l y_WH_addOne (Cond.code y_WH_addOne b_WH_addOne 2 none :: zx_T) rm_WH_addOne (va_Pc [.ref a1] (ah_B G h0)) (va_Qv (fun h9 => K h9 ∧ ah_m h0 h9) (ah_B G) (fun q => G.2.2 ≤ q)) 0 0 (fun q => G.2.2 ≤ q) := by
  refine Met.ofW (cc := b_WH_addOne) (maxL := 2) (ret := none) (by decide) rfl ?_
  intro p e s m args below meth c s₁ B hml hv
  have htb := cx_out B (atoms_spec B.pre _ List.mem_cons_self)
  obtain ⟨rfl, hB⟩ := hv
  have C : cx_C p l s m _ meth c G y_WH_addOne b_WH_addOne 2 none "BigDesk$Whole" (Cond.code y_WH_addOne b_WH_addOne 2 none :: zx_T) [] := ⟨B.exec, B.bytes, B.returns, hml, findClass_of_methodNamed B.named, atoms_spec B.pre, cx_hd, B.notSynchronized, hB.2.2.1, hB.2.2.2, htb, fun z9 => (name_of_methodNamed B.named B.method).1.trans z9, hst⟩
  obtain ⟨hx, hb, hr, hml, hown, hts, hT, hlk, hK, hX, htb, hin, hst⟩ := id C
  have hw : ∀ {w9 : Cond}, w9 ∈ zx_T → w9.before _ s = true := fun h9 => hts _ (hT _ h9)
  have hW : ah_W G s.heap h0 s.heap [] := ⟨hB.1, hB.2.1, va_S.rf⟩
  have hm : ah_m h0 h0 := ah_m.rf
  have hcl : 0 + 0 ≤ 0 := by decide
  have hsl : 0 + 0 ≤ 0 := by decide
  have hl := lv_entry ([.ref a1]) (n := 2) (Nat.le_of_ble_eq_true rfl)
  rw [lg_entry_eq]
  generalize (lg_sl ([.ref a1]) ++ List.replicate (2 - (lg_sl ([.ref a1])).length) Slot.unset).toArray = ls at hl ⊢
  have hl : lv_has ls 2 [(0, .ref a1)] := hl
  unfold w_WH_addOne at w
  refine lv_iconst (v := 0) hx hb d_WH_addOne_0 (by decide) ?_
  refine lv_istore_n (lv' := [(1, .int (0 : Int32)), (0, .ref a1)]) hx hb d_WH_addOne_1 rfl hl (by decide) rfl (fun ls hl => ?_)
  obtain ⟨k46, w⟩ := w
  refine tl_WH_addOne_2 C (by omega) (by omega) (fun x22 x23 h24 H locs ls w hm hW hl => ?_) k46 a1 (0 : Int32) h0 _ _ _ w hm hW (lv_sub hl [1, 0] rfl)
  · exact tb_WH_addOne_36 C (by omega) (by omega)  x22 x23 h24 _ _ _ w hm hW (lv_sub hl [0, 1] rfl)
set_option maxHeartbeats 4000000 in
set_option maxRecDepth 100000 in
theorem m_WH_clear {l : Launch} (G : zG) (a1 : Nat) (h0 : ah_H) {K : ah_H → Prop} (hst : l.stackTraces = false) (w : w_WH_clear a1 h0 K) : Met l y_WH_clear (Cond.code y_WH_clear b_WH_clear 1 none :: zx_T) rm_WH_clear (va_Pc [.ref a1] (ah_B G h0)) (va_Qv (fun h9 => K h9 ∧ ah_m h0 h9) (ah_B G) (fun q => G.2.2 ≤ q)) 0 0 (fun q => G.2.2 ≤ q) := by
  refine Met.ofW (cc := b_WH_clear) (maxL := 1) (ret := none) (by decide) rfl ?_
  intro p e s m args below meth c s₁ B hml hv
  have htb := cx_out B (atoms_spec B.pre _ List.mem_cons_self)
  obtain ⟨rfl, hB⟩ := hv
  have C : cx_C p l s m _ meth c G y_WH_clear b_WH_clear 1 none "BigDesk$Whole" (Cond.code y_WH_clear b_WH_clear 1 none :: zx_T) [] := ⟨B.exec, B.bytes, B.returns, hml, findClass_of_methodNamed B.named, atoms_spec B.pre, cx_hd, B.notSynchronized, hB.2.2.1, hB.2.2.2, htb, fun z9 => (name_of_methodNamed B.named B.method).1.trans z9, hst⟩
  obtain ⟨hx, hb, hr, hml, hown, hts, hT, hlk, hK, hX, htb, hin, hst⟩ := id C
  have hw : ∀ {w9 : Cond}, w9 ∈ zx_T → w9.before _ s = true := fun h9 => hts _ (hT _ h9)
  have hW : ah_W G s.heap h0 s.heap [] := ⟨hB.1, hB.2.1, va_S.rf⟩
  have hm : ah_m h0 h0 := ah_m.rf
  have hcl : 0 + 0 ≤ 0 := by decide
  have hsl : 0 + 0 ≤ 0 := by decide
  have hl := lv_entry ([.ref a1]) (n := 1) (Nat.le_of_ble_eq_true rfl)
  rw [lg_entry_eq]
  generalize (lg_sl ([.ref a1]) ++ List.replicate (1 - (lg_sl ([.ref a1])).length) Slot.unset).toArray = ls at hl ⊢
  have hl : lv_has ls 1 [(0, .ref a1)] := hl
  unfold w_WH_clear at w
  refine lv_aload_n hx hb d_WH_clear_0 rfl (lv_at hl 0 rfl) ?_
  refine lv_iconst (v := 0) hx hb d_WH_clear_1 (by decide) ?_
  obtain ⟨t2, w⟩ := w
  refine hb_callv (va_runV (As := [.int (0 : Int32)]) (rest := []) ⟨hx, hb, hml, hown, hts⟩ (m_WH_settle G a1 (0 : Int32) h0 hst w) (cwV 1 hts (zx_gV hT wd_218 wd_219 wd_220 wd_2 wd_221) rfl rfl rfl (by decide +kernel) ⟨Nat.le_of_ble_eq_true rfl, Nat.le_of_ble_eq_true rfl⟩) (hb_preV hK hX hW t2 (by decide) rfl) rfl rfl hl.1 rfl (lv_room (Nat.le_of_ble_eq_true rfl)) d_WH_clear_2 ⟨(by show _ ≤ 0; omega), (by show _ ≤ 0; omega)⟩) hW (fun h3 H locs hk hW => ?_)
  obtain ⟨w, mm4⟩ := hk
  have w := w mm4
  have hm := hm.tr mm4
  have t5 := mm4.tg t2 (by decide)
  refine lv_aload_n hx hb d_WH_clear_5 rfl (lv_at hl 0 rfl) ?_
  refine lv_iconst (v := 0) hx hb d_WH_clear_6 (by decide) ?_
  refine hb_put (ci := 2) (C := "BigDesk$Whole") (T := T_WH) (N := 3) hx hb hts (fun w9 h9 => hT w9 (u_WH w9 h9)) t_WH o_WH n_WH hown hK hW t5 rfl (by decide) 2 (by decide) (hw wd_43) (fun _ h9 => h9) rfl (ty := t_WH 2) (by decide +kernel) (q := (0, 1)) rfl (by decide) (v := .int (0 : Int32)) rfl rfl (ah_one_I h3 1 a1 (0 : Int32)) d_WH_clear_7 (fun H locs h6 eh6 hW => ?_)
  have w := w h6 eh6
  have mm7 : ah_m h3 h6 := ah_m.rf.st (by rw [eh6]; rfl) (by rw [eh6]; rfl)
  have hm := hm.tr mm7
  have t8 := mm7.tg t5 (by decide)
  exact hb_vret (K := fun h9 => K h9 ∧ ah_m h0 h9) hx hb hr hlk hK hX hW ⟨w, hm⟩ (by omega) (by omega) d_WH_clear_10
set_option maxHeartbeats 4000000 in
set_option maxRecDepth 100000 in
theorem tb_WH_longFrom_54 {p : Program} {l : Launch} {e : Env} {s : State} {m : MethodId} {args : Array Value} {below : List Frame} {meth : Method} {c : Code} {G : zG} (C : cx_C p l s m args meth c G y_WH_longFrom b_WH_longFrom 6 (some .long) "BigDesk$Whole" (Cond.code y_WH_longFrom b_WH_longFrom 6 (some .long) :: zx_T) []) {K : Int64 → ah_H → Prop} {h0 : ah_H} {cells slots : Nat} (hcl : cells + 0 ≤ 0) (hsl : slots + 0 ≤ 0)  (s20 : Int64) (h21 : ah_H) (H : Heap) (locs : List Loc) (ls : Array Slot) (w : bk_WH_longFrom_54 K s20 h21) (hm : ah_m h0 h21) (hW : ah_W G s.heap h21 H locs) (hl : lv_has ls 6 []) : W p l e rm_WH_longFrom s m args below meth c H locs cells slots (MQ below (va_Ql (fun r9 h9 => K r9 h9 ∧ ah_m h0 h9) (ah_B G) (fun q => G.2.2 ≤ q)) args s 0 0 (fun q => G.2.2 ≤ q)) (F0 m 54 ls [.long s20]) := by
  unfold bk_WH_longFrom_54 at w
  obtain ⟨hx, hb, hr, hml, hown, hts, hT, hlk, hK, hX, htb, hin, hst⟩ := id C
  have hw : ∀ {w9 : Cond}, w9 ∈ zx_T → w9.before _ s = true := fun h9 => hts _ (hT _ h9)
  exact hb_lret (K := fun r9 h9 => K r9 h9 ∧ ah_m h0 h9) hx hb hr hlk hK hX hW ⟨w, hm⟩ (by omega) (by omega) d_WH_longFrom_54
set_option maxHeartbeats 4000000 in
set_option maxRecDepth 100000 in
theorem m_WH_longFrom {l : Launch} (G : zG) (a1 : Nat) (a2 : Int32) (h0 : ah_H) {K : Int64 → ah_H → Prop} (hst : l.stackTraces = false) (w : w_WH_longFrom a1 a2 h0 K) : Met l y_WH_longFrom (Cond.code y_WH_longFrom b_WH_longFrom 6 (some .long) :: zx_T) rm_WH_longFrom (va_Pc [.ref a1, .int a2] (ah_B G h0)) (va_Ql (fun r9 h9 => K r9 h9 ∧ ah_m h0 h9) (ah_B G) (fun q => G.2.2 ≤ q)) 0 0 (fun q => G.2.2 ≤ q) := by
  refine Met.ofW (cc := b_WH_longFrom) (maxL := 6) (ret := (some .long)) (by decide) rfl ?_
  intro p e s m args below meth c s₁ B hml hv
  have htb := cx_out B (atoms_spec B.pre _ List.mem_cons_self)
  obtain ⟨rfl, hB⟩ := hv
  have C : cx_C p l s m _ meth c G y_WH_longFrom b_WH_longFrom 6 (some .long) "BigDesk$Whole" (Cond.code y_WH_longFrom b_WH_longFrom 6 (some .long) :: zx_T) [] := ⟨B.exec, B.bytes, B.returns, hml, findClass_of_methodNamed B.named, atoms_spec B.pre, cx_hd, B.notSynchronized, hB.2.2.1, hB.2.2.2, htb, fun z9 => (name_of_methodNamed B.named B.method).1.trans z9, hst⟩
  obtain ⟨hx, hb, hr, hml, hown, hts, hT, hlk, hK, hX, htb, hin, hst⟩ := id C
  have hw : ∀ {w9 : Cond}, w9 ∈ zx_T → w9.before _ s = true := fun h9 => hts _ (hT _ h9)
  have hW : ah_W G s.heap h0 s.heap [] := ⟨hB.1, hB.2.1, va_S.rf⟩
  have hm : ah_m h0 h0 := ah_m.rf
  have hcl : 0 + 0 ≤ 0 := by decide
  have hsl : 0 + 0 ≤ 0 := by decide
  have hl := lv_entry ([.ref a1, .int a2]) (n := 6) (Nat.le_of_ble_eq_true rfl)
  rw [lg_entry_eq]
  generalize (lg_sl ([.ref a1, .int a2]) ++ List.replicate (6 - (lg_sl ([.ref a1, .int a2])).length) Slot.unset).toArray = ls at hl ⊢
  have hl : lv_has ls 6 [(0, .ref a1), (1, .int a2)] := hl
  unfold w_WH_longFrom at w
  refine lv_iload_n hx hb d_WH_longFrom_0 rfl (lv_at hl 1 rfl) ?_
  refine lv_bipush (v := 32) hx hb d_WH_longFrom_1 (by decide) ?_
  refine lv_idiv hx hb d_WH_longFrom_3 (by decide) ?_
  refine lv_topi (fun v3 ev3 => ?_)
  have w := w v3 ev3
  refine lv_istore_n (lv' := [(2, .int v3), (0, .ref a1), (1, .int a2)]) hx hb d_WH_longFrom_4 rfl hl (by decide) rfl (fun ls hl => ?_)
  refine lv_iload_n hx hb d_WH_longFrom_5 rfl (lv_at hl 2 rfl) ?_
  refine lv_bipush (v := 32) hx hb d_WH_longFrom_6 (by decide) ?_
  refine lv_irem hx hb d_WH_longFrom_8 (by decide) ?_
  refine lv_topi (fun v4 ev4 => ?_)
  have w := w v4 ev4
  refine lv_istore_n (lv' := [(3, .int v4), (2, .int v3), (0, .ref a1), (1, .int a2)]) hx hb d_WH_longFrom_9 rfl hl (by decide) rfl (fun ls hl => ?_)
  refine lv_aload_n hx hb d_WH_longFrom_10 rfl (lv_at hl 2 rfl) ?_
  refine lv_iload_n hx hb d_WH_longFrom_11 rfl (lv_at hl 1 rfl) ?_
  refine lv_iconst (v := 1) hx hb d_WH_longFrom_12 (by decide) ?_
  refine lv_iadd hx hb d_WH_longFrom_13 ?_
  obtain ⟨t5, w⟩ := w
  refine hb_calll (va_runV (As := [.int (v3 + (1 : Int32))]) (rest := []) ⟨hx, hb, hml, hown, hts⟩ (m_WH_at G a1 (v3 + (1 : Int32)) h0 hst w) (cwV 1 hts (zx_gV hT wd_343 wd_344 wd_345 wd_2 wd_346) rfl rfl rfl (by decide +kernel) ⟨Nat.le_of_ble_eq_true rfl, Nat.le_of_ble_eq_true rfl⟩) (hb_preV hK hX hW t5 (by decide) rfl) rfl rfl hl.1 rfl (lv_room (Nat.le_of_ble_eq_true rfl)) d_WH_longFrom_14 ⟨(by show _ ≤ 0; omega), (by show _ ≤ 0; omega)⟩) hW (fun r7 h6 H locs hk hW => ?_)
  obtain ⟨w, mm8⟩ := hk
  have w := w mm8
  have hm := hm.tr mm8
  have t9 := mm8.tg t5 (by decide)
  refine lv_bipush (v := 32) hx hb d_WH_longFrom_17 (by decide) ?_
  refine lv_lshl hx hb d_WH_longFrom_19 rfl ?_
  refine lv_aload_n hx hb d_WH_longFrom_20 rfl (lv_at hl 2 rfl) ?_
  refine lv_iload_n hx hb d_WH_longFrom_21 rfl (lv_at hl 1 rfl) ?_
  refine hb_calll (va_runV (As := [.int v3]) (rest := [.long (r7 <<< ((32 : Int32).toInt64 &&& 63))]) ⟨hx, hb, hml, hown, hts⟩ (m_WH_at G a1 v3 h6 hst w) (cwV 1 hts (zx_gV hT wd_343 wd_344 wd_345 wd_2 wd_346) rfl rfl rfl (by decide +kernel) ⟨Nat.le_of_ble_eq_true rfl, Nat.le_of_ble_eq_true rfl⟩) (hb_preV hK hX hW t9 (by decide) rfl) rfl rfl hl.1 rfl (lv_room (Nat.le_of_ble_eq_true rfl)) d_WH_longFrom_22 ⟨(by show _ ≤ 0; omega), (by show _ ≤ 0; omega)⟩) hW (fun r11 h10 H locs hk hW => ?_)
  obtain ⟨w, mm12⟩ := hk
  have w := w mm12
  have hm := hm.tr mm12
  have t13 := mm12.tg t9 (by decide)
  refine lv_lor hx hb d_WH_longFrom_25 ?_
  refine lv_topl (fun v14 ev14 => ?_)
  have w := w v14 ev14
  refine lv_lstore (lv' := [(4, .long v14), (3, .int v4), (2, .int v3), (0, .ref a1), (1, .int a2)]) hx hb d_WH_longFrom_26 hl (by decide) rfl (fun ls hl => ?_)
  refine lv_iload_n hx hb d_WH_longFrom_28 rfl (lv_at hl 1 rfl) ?_
  refine lv_if_ne (tgt := 37) hx hb d_WH_longFrom_29 (by decide) (fun c15 => ?_) (fun c15 => ?_)
  · have w := w.1 c15
    refine lv_lload hx hb d_WH_longFrom_37 (lv_at hl 0 rfl) ?_
    refine lv_iload_n hx hb d_WH_longFrom_39 rfl (lv_at hl 1 rfl) ?_
    refine lv_lushr hx hb d_WH_longFrom_40 rfl ?_
    refine lv_aload_n hx hb d_WH_longFrom_41 rfl (lv_at hl 3 rfl) ?_
    refine lv_iload_n hx hb d_WH_longFrom_42 rfl (lv_at hl 2 rfl) ?_
    refine lv_iconst (v := 2) hx hb d_WH_longFrom_43 (by decide) ?_
    refine lv_iadd hx hb d_WH_longFrom_44 ?_
    refine hb_calll (va_runV (As := [.int (v3 + (2 : Int32))]) (rest := [.long ((v14.toUInt64 >>> (v4.toInt64.toUInt64 &&& Int64.toUInt64 63)).toInt64)]) ⟨hx, hb, hml, hown, hts⟩ (m_WH_at G a1 (v3 + (2 : Int32)) h10 hst w) (cwV 1 hts (zx_gV hT wd_343 wd_344 wd_345 wd_2 wd_346) rfl rfl rfl (by decide +kernel) ⟨Nat.le_of_ble_eq_true rfl, Nat.le_of_ble_eq_true rfl⟩) (hb_preV hK hX hW t13 (by decide) rfl) rfl rfl hl.1 rfl (lv_room (Nat.le_of_ble_eq_true rfl)) d_WH_longFrom_45 ⟨(by show _ ≤ 0; omega), (by show _ ≤ 0; omega)⟩) hW (fun r17 h16 H locs hk hW => ?_)
    obtain ⟨w, mm18⟩ := hk
    have w := w mm18
    have hm := hm.tr mm18
    have t19 := mm18.tg t13 (by decide)
    refine lv_bipush (v := 64) hx hb d_WH_longFrom_48 (by decide) ?_
    refine lv_iload_n hx hb d_WH_longFrom_50 rfl (lv_at hl 1 rfl) ?_
    refine lv_isub hx hb d_WH_longFrom_51 ?_
    refine lv_lshl hx hb d_WH_longFrom_52 rfl ?_
    refine lv_lor hx hb d_WH_longFrom_53 ?_
    exact tb_WH_longFrom_54 C (by omega) (by omega)  (((v14.toUInt64 >>> (v4.toInt64.toUInt64 &&& Int64.toUInt64 63)).toInt64) ||| (r17 <<< (((64 : Int32) - v4).toInt64 &&& 63))) h16 _ _ _ w hm hW (lv_sub hl [] rfl)
  · have w := w.2 c15
    refine lv_lload hx hb d_WH_longFrom_32 (lv_at hl 0 rfl) ?_
    refine lv_goto (tgt := 54) hx hb d_WH_longFrom_34 (by decide) ?_
    exact tb_WH_longFrom_54 C (by omega) (by omega)  v14 h10 _ _ _ w hm hW (lv_sub hl [] rfl)
set_option maxHeartbeats 4000000 in
set_option maxRecDepth 100000 in
theorem m_WH_lowestLong {l : Launch} (G : zG) (a1 : Nat) (h0 : ah_H) {K : Int64 → ah_H → Prop} (hst : l.stackTraces = false) (w : w_WH_lowestLong a1 h0 K) : Met l y_WH_lowestLong (Cond.code y_WH_lowestLong b_WH_lowestLong 1 (some .long) :: zx_T) rm_WH_lowestLong (va_Pc [.ref a1] (ah_B G h0)) (va_Ql (fun r9 h9 => K r9 h9 ∧ ah_m h0 h9) (ah_B G) (fun q => G.2.2 ≤ q)) 0 0 (fun q => G.2.2 ≤ q) := by
  refine Met.ofW (cc := b_WH_lowestLong) (maxL := 1) (ret := (some .long)) (by decide) rfl ?_
  intro p e s m args below meth c s₁ B hml hv
  have htb := cx_out B (atoms_spec B.pre _ List.mem_cons_self)
  obtain ⟨rfl, hB⟩ := hv
  have C : cx_C p l s m _ meth c G y_WH_lowestLong b_WH_lowestLong 1 (some .long) "BigDesk$Whole" (Cond.code y_WH_lowestLong b_WH_lowestLong 1 (some .long) :: zx_T) [] := ⟨B.exec, B.bytes, B.returns, hml, findClass_of_methodNamed B.named, atoms_spec B.pre, cx_hd, B.notSynchronized, hB.2.2.1, hB.2.2.2, htb, fun z9 => (name_of_methodNamed B.named B.method).1.trans z9, hst⟩
  obtain ⟨hx, hb, hr, hml, hown, hts, hT, hlk, hK, hX, htb, hin, hst⟩ := id C
  have hw : ∀ {w9 : Cond}, w9 ∈ zx_T → w9.before _ s = true := fun h9 => hts _ (hT _ h9)
  have hW : ah_W G s.heap h0 s.heap [] := ⟨hB.1, hB.2.1, va_S.rf⟩
  have hm : ah_m h0 h0 := ah_m.rf
  have hcl : 0 + 0 ≤ 0 := by decide
  have hsl : 0 + 0 ≤ 0 := by decide
  have hl := lv_entry ([.ref a1]) (n := 1) (Nat.le_of_ble_eq_true rfl)
  rw [lg_entry_eq]
  generalize (lg_sl ([.ref a1]) ++ List.replicate (1 - (lg_sl ([.ref a1])).length) Slot.unset).toArray = ls at hl ⊢
  have hl : lv_has ls 1 [(0, .ref a1)] := hl
  unfold w_WH_lowestLong at w
  refine lv_aload_n hx hb d_WH_lowestLong_0 rfl (lv_at hl 0 rfl) ?_
  obtain ⟨t2, w⟩ := w
  obtain ⟨q3, e4, w⟩ := w
  refine hb_get (ci := 2) (C := "BigDesk$Whole") (T := T_WH) (N := 3) hx hb hts (fun w9 h9 => hT w9 (u_WH w9 h9)) hown hK hW t2 rfl (by decide) 0 (by decide) (hw wd_33) (fun _ h9 => h9) (q := (2, 5)) rfl (v := .ref q3) (ah_f_R e4) d_WH_lowestLong_1 ?_
  refine lv_iconst (v := 1) hx hb d_WH_lowestLong_4 (by decide) ?_
  obtain ⟨t5, w⟩ := w
  obtain ⟨i6, w⟩ := w
  refine hb_lald hx hb hK hW t5 (by decide) (by decide) 2 rfl i6 d_WH_lowestLong_5 ?_
  refine lv_bipush (v := 32) hx hb d_WH_lowestLong_6 (by decide) ?_
  refine lv_lshl hx hb d_WH_lowestLong_8 rfl ?_
  refine lv_aload_n hx hb d_WH_lowestLong_9 rfl (lv_at hl 0 rfl) ?_
  obtain ⟨q7, e8, w⟩ := w
  refine hb_get (ci := 2) (C := "BigDesk$Whole") (T := T_WH) (N := 3) hx hb hts (fun w9 h9 => hT w9 (u_WH w9 h9)) hown hK hW t2 rfl (by decide) 0 (by decide) (hw wd_33) (fun _ h9 => h9) (q := (2, 5)) rfl (v := .ref q7) (ah_f_R e8) d_WH_lowestLong_10 ?_
  refine lv_iconst (v := 0) hx hb d_WH_lowestLong_13 (by decide) ?_
  obtain ⟨t9, w⟩ := w
  obtain ⟨i10, w⟩ := w
  refine hb_lald hx hb hK hW t9 (by decide) (by decide) 2 rfl i10 d_WH_lowestLong_14 ?_
  refine lv_lor hx hb d_WH_lowestLong_15 ?_
  exact hb_lret (K := fun r9 h9 => K r9 h9 ∧ ah_m h0 h9) hx hb hr hlk hK hX hW ⟨w, hm⟩ (by omega) (by omega) d_WH_lowestLong_16
set_option maxHeartbeats 4000000 in
set_option maxRecDepth 100000 in
theorem tb_WH_asLong_19 {p : Program} {l : Launch} {e : Env} {s : State} {m : MethodId} {args : Array Value} {below : List Frame} {meth : Method} {c : Code} {G : zG} (C : cx_C p l s m args meth c G y_WH_asLong b_WH_asLong 1 (some .long) "BigDesk$Whole" (Cond.code y_WH_asLong b_WH_asLong 1 (some .long) :: zx_T) []) {K : Int64 → ah_H → Prop} {h0 : ah_H} {cells slots : Nat} (hcl : cells + 0 ≤ 0) (hsl : slots + 0 ≤ 0)  (s8 : Int64) (h9 : ah_H) (H : Heap) (locs : List Loc) (ls : Array Slot) (w : bk_WH_asLong_19 K s8 h9) (hm : ah_m h0 h9) (hW : ah_W G s.heap h9 H locs) (hl : lv_has ls 1 []) : W p l e rm_WH_asLong s m args below meth c H locs cells slots (MQ below (va_Ql (fun r9 h9 => K r9 h9 ∧ ah_m h0 h9) (ah_B G) (fun q => G.2.2 ≤ q)) args s 0 0 (fun q => G.2.2 ≤ q)) (F0 m 19 ls [.long s8]) := by
  unfold bk_WH_asLong_19 at w
  obtain ⟨hx, hb, hr, hml, hown, hts, hT, hlk, hK, hX, htb, hin, hst⟩ := id C
  have hw : ∀ {w9 : Cond}, w9 ∈ zx_T → w9.before _ s = true := fun h9 => hts _ (hT _ h9)
  exact hb_lret (K := fun r9 h9 => K r9 h9 ∧ ah_m h0 h9) hx hb hr hlk hK hX hW ⟨w, hm⟩ (by omega) (by omega) d_WH_asLong_19
set_option maxHeartbeats 4000000 in
set_option maxRecDepth 100000 in
theorem m_WH_asLong {l : Launch} (G : zG) (a1 : Nat) (h0 : ah_H) {K : Int64 → ah_H → Prop} (hst : l.stackTraces = false) (w : w_WH_asLong a1 h0 K) : Met l y_WH_asLong (Cond.code y_WH_asLong b_WH_asLong 1 (some .long) :: zx_T) rm_WH_asLong (va_Pc [.ref a1] (ah_B G h0)) (va_Ql (fun r9 h9 => K r9 h9 ∧ ah_m h0 h9) (ah_B G) (fun q => G.2.2 ≤ q)) 0 0 (fun q => G.2.2 ≤ q) := by
  refine Met.ofW (cc := b_WH_asLong) (maxL := 1) (ret := (some .long)) (by decide) rfl ?_
  intro p e s m args below meth c s₁ B hml hv
  have htb := cx_out B (atoms_spec B.pre _ List.mem_cons_self)
  obtain ⟨rfl, hB⟩ := hv
  have C : cx_C p l s m _ meth c G y_WH_asLong b_WH_asLong 1 (some .long) "BigDesk$Whole" (Cond.code y_WH_asLong b_WH_asLong 1 (some .long) :: zx_T) [] := ⟨B.exec, B.bytes, B.returns, hml, findClass_of_methodNamed B.named, atoms_spec B.pre, cx_hd, B.notSynchronized, hB.2.2.1, hB.2.2.2, htb, fun z9 => (name_of_methodNamed B.named B.method).1.trans z9, hst⟩
  obtain ⟨hx, hb, hr, hml, hown, hts, hT, hlk, hK, hX, htb, hin, hst⟩ := id C
  have hw : ∀ {w9 : Cond}, w9 ∈ zx_T → w9.before _ s = true := fun h9 => hts _ (hT _ h9)
  have hW : ah_W G s.heap h0 s.heap [] := ⟨hB.1, hB.2.1, va_S.rf⟩
  have hm : ah_m h0 h0 := ah_m.rf
  have hcl : 0 + 0 ≤ 0 := by decide
  have hsl : 0 + 0 ≤ 0 := by decide
  have hl := lv_entry ([.ref a1]) (n := 1) (Nat.le_of_ble_eq_true rfl)
  rw [lg_entry_eq]
  generalize (lg_sl ([.ref a1]) ++ List.replicate (1 - (lg_sl ([.ref a1])).length) Slot.unset).toArray = ls at hl ⊢
  have hl : lv_has ls 1 [(0, .ref a1)] := hl
  unfold w_WH_asLong at w
  refine lv_aload_n hx hb d_WH_asLong_0 rfl (lv_at hl 0 rfl) ?_
  obtain ⟨t2, w⟩ := w
  refine hb_get (ci := 2) (C := "BigDesk$Whole") (T := T_WH) (N := 3) hx hb hts (fun w9 h9 => hT w9 (u_WH w9 h9)) hown hK hW t2 rfl (by decide) 2 (by decide) (hw wd_43) (fun _ h9 => h9) (q := (0, 1)) rfl (v := .int (ah_I h0 1 a1)) rfl d_WH_asLong_1 ?_
  refine lv_if_eq (tgt := 15) hx hb d_WH_asLong_4 (by decide) (fun c3 => ?_) (fun c3 => ?_)
  · have w := w.1 c3
    refine lv_aload_n hx hb d_WH_asLong_15 rfl (lv_at hl 0 rfl) ?_
    refine hb_calll (va_runV (As := []) (rest := []) ⟨hx, hb, hml, hown, hts⟩ (m_WH_lowestLong G a1 h0 hst w) (cwV 0 hts (zx_gV hT wd_508 wd_510 wd_s11 wd_2 wd_511) rfl rfl rfl (by decide +kernel) ⟨Nat.le_of_ble_eq_true rfl, Nat.le_of_ble_eq_true rfl⟩) (hb_preV hK hX hW t2 (by decide) rfl) rfl rfl hl.1 rfl (lv_room (Nat.le_of_ble_eq_true rfl)) d_WH_asLong_16 ⟨(by show _ ≤ 0; omega), (by show _ ≤ 0; omega)⟩) hW (fun r5 h4 H locs hk hW => ?_)
    obtain ⟨w, mm6⟩ := hk
    have w := w mm6
    have hm := hm.tr mm6
    have t7 := mm6.tg t2 (by decide)
    exact tb_WH_asLong_19 C (by omega) (by omega)  r5 h4 _ _ _ w hm hW (lv_sub hl [] rfl)
  · have w := w.2 c3
    refine lv_aload_n hx hb d_WH_asLong_7 rfl (lv_at hl 0 rfl) ?_
    refine hb_calll (va_runV (As := []) (rest := []) ⟨hx, hb, hml, hown, hts⟩ (m_WH_lowestLong G a1 h0 hst w) (cwV 0 hts (zx_gV hT wd_508 wd_510 wd_s11 wd_2 wd_511) rfl rfl rfl (by decide +kernel) ⟨Nat.le_of_ble_eq_true rfl, Nat.le_of_ble_eq_true rfl⟩) (hb_preV hK hX hW t2 (by decide) rfl) rfl rfl hl.1 rfl (lv_room (Nat.le_of_ble_eq_true rfl)) d_WH_asLong_8 ⟨(by show _ ≤ 0; omega), (by show _ ≤ 0; omega)⟩) hW (fun r11 h10 H locs hk hW => ?_)
    obtain ⟨w, mm12⟩ := hk
    have w := w mm12
    have hm := hm.tr mm12
    have t13 := mm12.tg t2 (by decide)
    refine lv_lneg hx hb d_WH_asLong_11 ?_
    refine lv_goto (tgt := 19) hx hb d_WH_asLong_12 (by decide) ?_
    exact tb_WH_asLong_19 C (by omega) (by omega)  (-r11) h10 _ _ _ w hm hW (lv_sub hl [] rfl)
set_option maxHeartbeats 4000000 in
set_option maxRecDepth 100000 in
theorem tb_WH_isLong_39 {p : Program} {l : Launch} {e : Env} {s : State} {m : MethodId} {args : Array Value} {below : List Frame} {meth : Method} {c : Code} {G : zG} (C : cx_C p l s m args meth c G y_WH_isLong b_WH_isLong 3 (some .boolean) "BigDesk$Whole" (Cond.code y_WH_isLong b_WH_isLong 3 (some .boolean) :: zx_T) []) {K : Int32 → ah_H → Prop} {h0 : ah_H} {cells slots : Nat} (hcl : cells + 0 ≤ 0) (hsl : slots + 0 ≤ 0)  (s9 : Int32) (h10 : ah_H) (H : Heap) (locs : List Loc) (ls : Array Slot) (w : bk_WH_isLong_39 K s9 h10) (hm : ah_m h0 h10) (hW : ah_W G s.heap h10 H locs) (hl : lv_has ls 3 []) : W p l e rm_WH_isLong s m args below meth c H locs cells slots (MQ below (va_Qi (fun r9 h9 => K r9 h9 ∧ ah_m h0 h9) (ah_B G) (fun q => G.2.2 ≤ q)) args s 0 0 (fun q => G.2.2 ≤ q)) (F0 m 39 ls [.int s9]) := by
  unfold bk_WH_isLong_39 at w
  obtain ⟨hx, hb, hr, hml, hown, hts, hT, hlk, hK, hX, htb, hin, hst⟩ := id C
  have hw : ∀ {w9 : Cond}, w9 ∈ zx_T → w9.before _ s = true := fun h9 => hts _ (hT _ h9)
  obtain ⟨z11, w⟩ := w
  exact hb_zret (K := fun r9 h9 => K r9 h9 ∧ ah_m h0 h9) hx hb hr hlk z11 hK hX hW ⟨w, hm⟩ (by omega) (by omega) d_WH_isLong_39
set_option maxHeartbeats 4000000 in
set_option maxRecDepth 100000 in
theorem tb_WH_isLong_38 {p : Program} {l : Launch} {e : Env} {s : State} {m : MethodId} {args : Array Value} {below : List Frame} {meth : Method} {c : Code} {G : zG} (C : cx_C p l s m args meth c G y_WH_isLong b_WH_isLong 3 (some .boolean) "BigDesk$Whole" (Cond.code y_WH_isLong b_WH_isLong 3 (some .boolean) :: zx_T) []) {K : Int32 → ah_H → Prop} {h0 : ah_H} {cells slots : Nat} (hcl : cells + 0 ≤ 0) (hsl : slots + 0 ≤ 0)   (h8 : ah_H) (H : Heap) (locs : List Loc) (ls : Array Slot) (w : bk_WH_isLong_38 K h8) (hm : ah_m h0 h8) (hW : ah_W G s.heap h8 H locs) (hl : lv_has ls 3 []) : W p l e rm_WH_isLong s m args below meth c H locs cells slots (MQ below (va_Qi (fun r9 h9 => K r9 h9 ∧ ah_m h0 h9) (ah_B G) (fun q => G.2.2 ≤ q)) args s 0 0 (fun q => G.2.2 ≤ q)) (F0 m 38 ls []) := by
  unfold bk_WH_isLong_38 at w
  obtain ⟨hx, hb, hr, hml, hown, hts, hT, hlk, hK, hX, htb, hin, hst⟩ := id C
  have hw : ∀ {w9 : Cond}, w9 ∈ zx_T → w9.before _ s = true := fun h9 => hts _ (hT _ h9)
  refine lv_iconst (v := 0) hx hb d_WH_isLong_38 (by decide) ?_
  exact tb_WH_isLong_39 C (by omega) (by omega)  (0 : Int32) h8 _ _ _ w hm hW (lv_sub hl [] rfl)
set_option maxHeartbeats 4000000 in
set_option maxRecDepth 100000 in
theorem tb_WH_isLong_34 {p : Program} {l : Launch} {e : Env} {s : State} {m : MethodId} {args : Array Value} {below : List Frame} {meth : Method} {c : Code} {G : zG} (C : cx_C p l s m args meth c G y_WH_isLong b_WH_isLong 3 (some .boolean) "BigDesk$Whole" (Cond.code y_WH_isLong b_WH_isLong 3 (some .boolean) :: zx_T) []) {K : Int32 → ah_H → Prop} {h0 : ah_H} {cells slots : Nat} (hcl : cells + 0 ≤ 0) (hsl : slots + 0 ≤ 0)   (h13 : ah_H) (H : Heap) (locs : List Loc) (ls : Array Slot) (w : bk_WH_isLong_34 K h13) (hm : ah_m h0 h13) (hW : ah_W G s.heap h13 H locs) (hl : lv_has ls 3 []) : W p l e rm_WH_isLong s m args below meth c H locs cells slots (MQ below (va_Qi (fun r9 h9 => K r9 h9 ∧ ah_m h0 h9) (ah_B G) (fun q => G.2.2 ≤ q)) args s 0 0 (fun q => G.2.2 ≤ q)) (F0 m 34 ls []) := by
  unfold bk_WH_isLong_34 at w
  obtain ⟨hx, hb, hr, hml, hown, hts, hT, hlk, hK, hX, htb, hin, hst⟩ := id C
  have hw : ∀ {w9 : Cond}, w9 ∈ zx_T → w9.before _ s = true := fun h9 => hts _ (hT _ h9)
  refine lv_iconst (v := 1) hx hb d_WH_isLong_34 (by decide) ?_
  refine lv_goto (tgt := 39) hx hb d_WH_isLong_35 (by decide) ?_
  exact tb_WH_isLong_39 C (by omega) (by omega)  (1 : Int32) h13 _ _ _ w hm hW (lv_sub hl [] rfl)
set_option maxHeartbeats 4000000 in
set_option maxRecDepth 100000 in
theorem m_WH_isLong {l : Launch} (G : zG) (a1 : Nat) (h0 : ah_H) {K : Int32 → ah_H → Prop} (hst : l.stackTraces = false) (w : w_WH_isLong a1 h0 K) : Met l y_WH_isLong (Cond.code y_WH_isLong b_WH_isLong 3 (some .boolean) :: zx_T) rm_WH_isLong (va_Pc [.ref a1] (ah_B G h0)) (va_Qi (fun r9 h9 => K r9 h9 ∧ ah_m h0 h9) (ah_B G) (fun q => G.2.2 ≤ q)) 0 0 (fun q => G.2.2 ≤ q) := by
  refine Met.ofW (cc := b_WH_isLong) (maxL := 3) (ret := (some .boolean)) (by decide) rfl ?_
  intro p e s m args below meth c s₁ B hml hv
  have htb := cx_out B (atoms_spec B.pre _ List.mem_cons_self)
  obtain ⟨rfl, hB⟩ := hv
  have C : cx_C p l s m _ meth c G y_WH_isLong b_WH_isLong 3 (some .boolean) "BigDesk$Whole" (Cond.code y_WH_isLong b_WH_isLong 3 (some .boolean) :: zx_T) [] := ⟨B.exec, B.bytes, B.returns, hml, findClass_of_methodNamed B.named, atoms_spec B.pre, cx_hd, B.notSynchronized, hB.2.2.1, hB.2.2.2, htb, fun z9 => (name_of_methodNamed B.named B.method).1.trans z9, hst⟩
  obtain ⟨hx, hb, hr, hml, hown, hts, hT, hlk, hK, hX, htb, hin, hst⟩ := id C
  have hw : ∀ {w9 : Cond}, w9 ∈ zx_T → w9.before _ s = true := fun h9 => hts _ (hT _ h9)
  have hW : ah_W G s.heap h0 s.heap [] := ⟨hB.1, hB.2.1, va_S.rf⟩
  have hm : ah_m h0 h0 := ah_m.rf
  have hcl : 0 + 0 ≤ 0 := by decide
  have hsl : 0 + 0 ≤ 0 := by decide
  have hl := lv_entry ([.ref a1]) (n := 3) (Nat.le_of_ble_eq_true rfl)
  rw [lg_entry_eq]
  generalize (lg_sl ([.ref a1]) ++ List.replicate (3 - (lg_sl ([.ref a1])).length) Slot.unset).toArray = ls at hl ⊢
  have hl : lv_has ls 3 [(0, .ref a1)] := hl
  unfold w_WH_isLong at w
  refine lv_aload_n hx hb d_WH_isLong_0 rfl (lv_at hl 0 rfl) ?_
  obtain ⟨t2, w⟩ := w
  refine hb_calll (va_runV (As := []) (rest := []) ⟨hx, hb, hml, hown, hts⟩ (m_WH_lowestLong G a1 h0 hst w) (cwV 0 hts (zx_gV hT wd_508 wd_510 wd_s11 wd_2 wd_511) rfl rfl rfl (by decide +kernel) ⟨Nat.le_of_ble_eq_true rfl, Nat.le_of_ble_eq_true rfl⟩) (hb_preV hK hX hW t2 (by decide) rfl) rfl rfl hl.1 rfl (lv_room (Nat.le_of_ble_eq_true rfl)) d_WH_isLong_1 ⟨(by show _ ≤ 0; omega), (by show _ ≤ 0; omega)⟩) hW (fun r4 h3 H locs hk hW => ?_)
  obtain ⟨w, mm5⟩ := hk
  have w := w mm5
  have hm := hm.tr mm5
  have t6 := mm5.tg t2 (by decide)
  refine lv_lstore_n (lv' := [(1, .long r4), (0, .ref a1)]) hx hb d_WH_isLong_4 rfl hl (by decide) rfl (fun ls hl => ?_)
  refine lv_aload_n hx hb d_WH_isLong_5 rfl (lv_at hl 1 rfl) ?_
  refine hb_get (ci := 2) (C := "BigDesk$Whole") (T := T_WH) (N := 3) hx hb hts (fun w9 h9 => hT w9 (u_WH w9 h9)) hown hK hW t6 rfl (by decide) 1 (by decide) (hw wd_37) (fun _ h9 => h9) (q := (0, 0)) rfl (v := .int (ah_I h3 0 a1)) rfl d_WH_isLong_6 ?_
  refine lv_iconst (v := 2) hx hb d_WH_isLong_9 (by decide) ?_
  refine lv_icmp_gt (tgt := 38) hx hb d_WH_isLong_10 (by decide) (fun c7 => ?_) (fun c7 => ?_)
  · have w := w.1 c7
    exact tb_WH_isLong_38 C (by omega) (by omega)   h3 _ _ _ w hm hW (lv_sub hl [] rfl)
  · have w := w.2 c7
    refine lv_lload_n hx hb d_WH_isLong_13 rfl (lv_at hl 0 rfl) ?_
    refine lv_lconst (v := 0) hx hb d_WH_isLong_14 (by decide) ?_
    refine hb_lcmp_ge (tgt := 34) hx hb d_WH_isLong_15 d_WH_isLong_16 (by decide) (fun c12 => ?_) (fun c12 => ?_)
    · have w := w.1 c12
      exact tb_WH_isLong_34 C (by omega) (by omega)   h3 _ _ _ w hm hW (lv_sub hl [] rfl)
    · have w := w.2 c12
      refine lv_aload_n hx hb d_WH_isLong_19 rfl (lv_at hl 1 rfl) ?_
      refine hb_get (ci := 2) (C := "BigDesk$Whole") (T := T_WH) (N := 3) hx hb hts (fun w9 h9 => hT w9 (u_WH w9 h9)) hown hK hW t6 rfl (by decide) 2 (by decide) (hw wd_43) (fun _ h9 => h9) (q := (0, 1)) rfl (v := .int (ah_I h3 1 a1)) rfl d_WH_isLong_20 ?_
      refine lv_if_eq (tgt := 38) hx hb d_WH_isLong_23 (by decide) (fun c14 => ?_) (fun c14 => ?_)
      · have w := w.1 c14
        exact tb_WH_isLong_38 C (by omega) (by omega)   h3 _ _ _ w hm hW (lv_sub hl [] rfl)
      · have w := w.2 c14
        refine lv_lload_n hx hb d_WH_isLong_26 rfl (lv_at hl 0 rfl) ?_
        refine lv_ldc2 (v := -9223372036854775808) hx hb hown (hw wd_523) d_WH_isLong_27 ?_
        refine hb_lcmp_ne (tgt := 38) hx hb d_WH_isLong_30 d_WH_isLong_31 (by decide) (fun c15 => ?_) (fun c15 => ?_)
        · have w := w.1 c15
          exact tb_WH_isLong_38 C (by omega) (by omega)   h3 _ _ _ w hm hW (lv_sub hl [] rfl)
        · have w := w.2 c15
          exact tb_WH_isLong_34 C (by omega) (by omega)   h3 _ _ _ w hm hW (lv_sub hl [] rfl)
set_option maxHeartbeats 4000000 in
set_option maxRecDepth 100000 in
theorem tl_WH_appendChunk_5 {p : Program} {l : Launch} {e : Env} {s : State} {m : MethodId} {args : Array Value} {below : List Frame} {meth : Method} {c : Code} {G : zG} (C : cx_C p l s m args meth c G y_WH_appendChunk b_WH_appendChunk 8 none "BigDesk$Whole" (Cond.code y_WH_appendChunk b_WH_appendChunk 8 none :: zx_T) []) {K : ah_H → Prop} {h0 : ah_H} {cells slots : Nat} (hcl : cells + 0 ≤ 0) (hsl : slots + 0 ≤ 0) {xt_54 : Nat → Int64 → ah_H → Prop} (hc_xt_54 : ∀ (z0 : Nat) (z1 : Int64) (hz : ah_H) (H : Heap) (locs : List Loc) (ls : Array Slot), xt_54 z0 z1 hz → ah_m h0 hz → ah_W G s.heap hz H locs → lv_has ls 8 [(0, .ref z0), (3, .long z1)] → W p l e rm_WH_appendChunk s m args below meth c H locs cells slots (MQ below (va_Qv (fun h9 => K h9 ∧ ah_m h0 h9) (ah_B G) (fun q => G.2.2 ≤ q)) args s 0 0 (fun q => G.2.2 ≤ q)) (F0 m 54 ls [])) : ∀ (n : Nat) (x3 : Nat) (x4 : Int64) (x5 : Int32) (h6 : ah_H) (H : Heap) (locs : List Loc) (ls : Array Slot), lp_WH_appendChunk_5 xt_54 K n x3 x4 x5 h6 → ah_m h0 h6 → ah_W G s.heap h6 H locs → lv_has ls 8 [(0, .ref x3), (3, .long x4), (5, .int x5)] → W p l e rm_WH_appendChunk s m args below meth c H locs cells slots (MQ below (va_Qv (fun h9 => K h9 ∧ ah_m h0 h9) (ah_B G) (fun q => G.2.2 ≤ q)) args s 0 0 (fun q => G.2.2 ≤ q)) (F0 m 5 ls []) := by
  obtain ⟨hx, hb, hr, hml, hown, hts, hT, hlk, hK, hX, htb, hin, hst⟩ := id C
  have hw : ∀ {w9 : Cond}, w9 ∈ zx_T → w9.before _ s = true := fun h9 => hts _ (hT _ h9)
  intro n
  induction n with
  | zero =>
    intro x3 x4 x5 h6 H locs ls w
    exact absurd w (by intro z9; exact z9)
  | succ n ih =>
    intro x3 x4 x5 h6 H locs ls w hm hW hl
    unfold lp_WH_appendChunk_5 at w
    refine lv_iload hx hb d_WH_appendChunk_5 (lv_at hl 2 rfl) ?_
    refine lv_aload_n hx hb d_WH_appendChunk_7 rfl (lv_at hl 0 rfl) ?_
    obtain ⟨t7, w⟩ := w
    refine hb_get (ci := 2) (C := "BigDesk$Whole") (T := T_WH) (N := 3) hx hb hts (fun w9 h9 => hT w9 (u_WH w9 h9)) hown hK hW t7 rfl (by decide) 1 (by decide) (hw wd_37) (fun _ h9 => h9) (q := (0, 0)) rfl (v := .int (ah_I h6 0 x3)) rfl d_WH_appendChunk_8 ?_
    refine lv_icmp_ge (tgt := 54) hx hb d_WH_appendChunk_11 (by decide) (fun c8 => ?_) (fun c8 => ?_)
    · have w := w.1 c8
      exact hc_xt_54 x3 x4 h6 _ _ _ w hm hW (lv_sub hl [0, 1] rfl)
    · have w := w.2 c8
      refine lv_aload_n hx hb d_WH_appendChunk_14 rfl (lv_at hl 0 rfl) ?_
      obtain ⟨q9, e10, w⟩ := w
      refine hb_get (ci := 2) (C := "BigDesk$Whole") (T := T_WH) (N := 3) hx hb hts (fun w9 h9 => hT w9 (u_WH w9 h9)) hown hK hW t7 rfl (by decide) 0 (by decide) (hw wd_33) (fun _ h9 => h9) (q := (2, 5)) rfl (v := .ref q9) (ah_f_R e10) d_WH_appendChunk_15 ?_
      refine lv_iload hx hb d_WH_appendChunk_18 (lv_at hl 2 rfl) ?_
      obtain ⟨t11, w⟩ := w
      obtain ⟨i12, w⟩ := w
      refine hb_lald hx hb hK hW t11 (by decide) (by decide) 2 rfl i12 d_WH_appendChunk_20 ?_
      refine lv_ldc2 (v := 1000000000) hx hb hown (hw wd_571) d_WH_appendChunk_21 ?_
      refine lv_lmul hx hb d_WH_appendChunk_24 ?_
      refine lv_lload_n hx hb d_WH_appendChunk_25 rfl (lv_at hl 1 rfl) ?_
      refine lv_ladd hx hb d_WH_appendChunk_26 ?_
      refine lv_topl (fun v13 ev13 => ?_)
      have w := w v13 ev13
      refine lv_lstore (lv' := [(6, .long v13), (0, .ref x3), (3, .long x4), (5, .int x5)]) hx hb d_WH_appendChunk_27 hl (by decide) rfl (fun ls hl => ?_)
      refine lv_aload_n hx hb d_WH_appendChunk_29 rfl (lv_at hl 1 rfl) ?_
      obtain ⟨q14, e15, w⟩ := w
      refine hb_get (ci := 2) (C := "BigDesk$Whole") (T := T_WH) (N := 3) hx hb hts (fun w9 h9 => hT w9 (u_WH w9 h9)) hown hK hW t7 rfl (by decide) 0 (by decide) (hw wd_33) (fun _ h9 => h9) (q := (2, 5)) rfl (v := .ref q14) (ah_f_R e15) d_WH_appendChunk_30 ?_
      refine lv_iload hx hb d_WH_appendChunk_33 (lv_at hl 3 rfl) ?_
      refine lv_lload hx hb d_WH_appendChunk_35 (lv_at hl 0 rfl) ?_
      refine lv_ldc2 (v := 4294967295) hx hb hown (hw wd_217) d_WH_appendChunk_37 ?_
      refine lv_land hx hb d_WH_appendChunk_40 ?_
      refine lv_topl (fun v16 ev16 => ?_)
      have w := w v16 ev16
      obtain ⟨t17, w⟩ := w
      obtain ⟨i18, w⟩ := w
      refine hb_last hx hb hK hW t17 (by decide) (by decide) 2 rfl i18 d_WH_appendChunk_41 (fun H locs h19 eh19 hW => ?_)
      have w := w h19 eh19
      have mm20 : ah_m h6 h19 := ah_m.rf.st (by rw [eh19]; rfl) (by rw [eh19]; rfl)
      have hm := hm.tr mm20
      have t21 := mm20.tg t7 (by decide)
      have t22 := mm20.tg t11 (by decide)
      have t23 := mm20.tg t17 (by decide)
      refine lv_lload hx hb d_WH_appendChunk_42 (lv_at hl 0 rfl) ?_
      refine lv_bipush (v := 32) hx hb d_WH_appendChunk_44 (by decide) ?_
      refine lv_lushr hx hb d_WH_appendChunk_46 rfl ?_
      refine lv_topl (fun v24 ev24 => ?_)
      have w := w v24 ev24
      refine lv_lstore_n (lv' := [(3, .long v24), (6, .long v13), (0, .ref x3), (5, .int x5)]) hx hb d_WH_appendChunk_47 rfl hl (by decide) rfl (fun ls hl => ?_)
      obtain ⟨v25, ev25⟩ : ∃ y9 : Int32, y9 = x5 + 1 := ⟨_, rfl⟩
      have w := w v25 ev25
      refine lv_iinc (v := v25) (lv' := [(5, .int v25), (3, .long v24), (6, .long v13), (0, .ref x3)]) hx hb d_WH_appendChunk_48 hl (k := 3) rfl (by rw [ev25]; rfl) (by decide) rfl (fun ls hl => ?_)
      refine lv_goto (tgt := 5) hx hb d_WH_appendChunk_51 (by decide) ?_
      exact ih x3 v24 v25 h19 _ _ _ w hm hW (lv_sub hl [3, 1, 0] rfl)
set_option maxHeartbeats 4000000 in
set_option maxRecDepth 100000 in
theorem tb_WH_appendChunk_90 {p : Program} {l : Launch} {e : Env} {s : State} {m : MethodId} {args : Array Value} {below : List Frame} {meth : Method} {c : Code} {G : zG} (C : cx_C p l s m args meth c G y_WH_appendChunk b_WH_appendChunk 8 none "BigDesk$Whole" (Cond.code y_WH_appendChunk b_WH_appendChunk 8 none :: zx_T) []) {K : ah_H → Prop} {h0 : ah_H} {cells slots : Nat} (hcl : cells + 0 ≤ 0) (hsl : slots + 0 ≤ 0)   (h30 : ah_H) (H : Heap) (locs : List Loc) (ls : Array Slot) (w : bk_WH_appendChunk_90 K h30) (hm : ah_m h0 h30) (hW : ah_W G s.heap h30 H locs) (hl : lv_has ls 8 []) : W p l e rm_WH_appendChunk s m args below meth c H locs cells slots (MQ below (va_Qv (fun h9 => K h9 ∧ ah_m h0 h9) (ah_B G) (fun q => G.2.2 ≤ q)) args s 0 0 (fun q => G.2.2 ≤ q)) (F0 m 90 ls []) := by
  unfold bk_WH_appendChunk_90 at w
  obtain ⟨hx, hb, hr, hml, hown, hts, hT, hlk, hK, hX, htb, hin, hst⟩ := id C
  have hw : ∀ {w9 : Cond}, w9 ∈ zx_T → w9.before _ s = true := fun h9 => hts _ (hT _ h9)
  exact hb_vret (K := fun h9 => K h9 ∧ ah_m h0 h9) hx hb hr hlk hK hX hW ⟨w, hm⟩ (by omega) (by omega) d_WH_appendChunk_90
set_option maxHeartbeats 4000000 in
set_option maxRecDepth 100000 in
theorem m_WH_appendChunk {l : Launch} (G : zG) (a1 : Nat) (a2 : Int64) (h0 : ah_H) {K : ah_H → Prop} (hst : l.stackTraces = false) (w : w_WH_appendChunk a1 a2 h0 K) : Met l y_WH_appendChunk (Cond.code y_WH_appendChunk b_WH_appendChunk 8 none :: zx_T) rm_WH_appendChunk (va_Pc [.ref a1, .long a2] (ah_B G h0)) (va_Qv (fun h9 => K h9 ∧ ah_m h0 h9) (ah_B G) (fun q => G.2.2 ≤ q)) 0 0 (fun q => G.2.2 ≤ q) := by
  refine Met.ofW (cc := b_WH_appendChunk) (maxL := 8) (ret := none) (by decide) rfl ?_
  intro p e s m args below meth c s₁ B hml hv
  have htb := cx_out B (atoms_spec B.pre _ List.mem_cons_self)
  obtain ⟨rfl, hB⟩ := hv
  have C : cx_C p l s m _ meth c G y_WH_appendChunk b_WH_appendChunk 8 none "BigDesk$Whole" (Cond.code y_WH_appendChunk b_WH_appendChunk 8 none :: zx_T) [] := ⟨B.exec, B.bytes, B.returns, hml, findClass_of_methodNamed B.named, atoms_spec B.pre, cx_hd, B.notSynchronized, hB.2.2.1, hB.2.2.2, htb, fun z9 => (name_of_methodNamed B.named B.method).1.trans z9, hst⟩
  obtain ⟨hx, hb, hr, hml, hown, hts, hT, hlk, hK, hX, htb, hin, hst⟩ := id C
  have hw : ∀ {w9 : Cond}, w9 ∈ zx_T → w9.before _ s = true := fun h9 => hts _ (hT _ h9)
  have hW : ah_W G s.heap h0 s.heap [] := ⟨hB.1, hB.2.1, va_S.rf⟩
  have hm : ah_m h0 h0 := ah_m.rf
  have hcl : 0 + 0 ≤ 0 := by decide
  have hsl : 0 + 0 ≤ 0 := by decide
  have hl := lv_entry ([.ref a1, .long a2]) (n := 8) (Nat.le_of_ble_eq_true rfl)
  rw [lg_entry_eq]
  generalize (lg_sl ([.ref a1, .long a2]) ++ List.replicate (8 - (lg_sl ([.ref a1, .long a2])).length) Slot.unset).toArray = ls at hl ⊢
  have hl : lv_has ls 8 [(0, .ref a1), (1, .long a2)] := hl
  unfold w_WH_appendChunk at w
  refine lv_lload_n hx hb d_WH_appendChunk_0 rfl (lv_at hl 1 rfl) ?_
  refine lv_lstore_n (lv' := [(3, .long a2), (0, .ref a1), (1, .long a2)]) hx hb d_WH_appendChunk_1 rfl hl (by decide) rfl (fun ls hl => ?_)
  refine lv_iconst (v := 0) hx hb d_WH_appendChunk_2 (by decide) ?_
  refine lv_istore (lv' := [(5, .int (0 : Int32)), (3, .long a2), (0, .ref a1), (1, .long a2)]) hx hb d_WH_appendChunk_3 hl (by decide) rfl (fun ls hl => ?_)
  obtain ⟨k46, w⟩ := w
  refine tl_WH_appendChunk_5 C (by omega) (by omega) (fun x26 x27 h28 H locs ls w hm hW hl => ?_) k46 a1 a2 (0 : Int32) h0 _ _ _ w hm hW (lv_sub hl [2, 1, 0] rfl)
  · refine lv_lload_n hx hb d_WH_appendChunk_54 rfl (lv_at hl 1 rfl) ?_
    refine lv_lconst (v := 0) hx hb d_WH_appendChunk_55 (by decide) ?_
    refine hb_lcmp_le (tgt := 90) hx hb d_WH_appendChunk_56 d_WH_appendChunk_57 (by decide) (fun c29 => ?_) (fun c29 => ?_)
    · have w := w.1 c29
      exact tb_WH_appendChunk_90 C (by omega) (by omega)   h28 _ _ _ w hm hW (lv_sub hl [] rfl)
    · have w := w.2 c29
      refine lv_aload_n hx hb d_WH_appendChunk_60 rfl (lv_at hl 0 rfl) ?_
      obtain ⟨t31, w⟩ := w
      refine hb_get (ci := 2) (C := "BigDesk$Whole") (T := T_WH) (N := 3) hx hb hts (fun w9 h9 => hT w9 (u_WH w9 h9)) hown hK hW t31 rfl (by decide) 1 (by decide) (hw wd_37) (fun _ h9 => h9) (q := (0, 0)) rfl (v := .int (ah_I h28 0 x26)) rfl d_WH_appendChunk_61 ?_
      refine lv_sipush (v := 258) hx hb d_WH_appendChunk_64 (by decide) ?_
      refine lv_icmp_ge (tgt := 90) hx hb d_WH_appendChunk_67 (by decide) (fun c32 => ?_) (fun c32 => ?_)
      · have w := w.1 c32
        exact tb_WH_appendChunk_90 C (by omega) (by omega)   h28 _ _ _ w hm hW (lv_sub hl [] rfl)
      · have w := w.2 c32
        refine lv_aload_n hx hb d_WH_appendChunk_70 rfl (lv_at hl 0 rfl) ?_
        obtain ⟨q33, e34, w⟩ := w
        refine hb_get (ci := 2) (C := "BigDesk$Whole") (T := T_WH) (N := 3) hx hb hts (fun w9 h9 => hT w9 (u_WH w9 h9)) hown hK hW t31 rfl (by decide) 0 (by decide) (hw wd_33) (fun _ h9 => h9) (q := (2, 5)) rfl (v := .ref q33) (ah_f_R e34) d_WH_appendChunk_71 ?_
        refine lv_aload_n hx hb d_WH_appendChunk_74 rfl (lv_at hl 0 rfl) ?_
        refine hb_get (ci := 2) (C := "BigDesk$Whole") (T := T_WH) (N := 3) hx hb hts (fun w9 h9 => hT w9 (u_WH w9 h9)) hown hK hW t31 rfl (by decide) 1 (by decide) (hw wd_37) (fun _ h9 => h9) (q := (0, 0)) rfl (v := .int (ah_I h28 0 x26)) rfl d_WH_appendChunk_75 ?_
        refine lv_lload_n hx hb d_WH_appendChunk_78 rfl (lv_at hl 1 rfl) ?_
        obtain ⟨t35, w⟩ := w
        obtain ⟨i36, w⟩ := w
        refine hb_last hx hb hK hW t35 (by decide) (by decide) 2 rfl i36 d_WH_appendChunk_79 (fun H locs h37 eh37 hW => ?_)
        have w := w h37 eh37
        have mm38 : ah_m h28 h37 := ah_m.rf.st (by rw [eh37]; rfl) (by rw [eh37]; rfl)
        have hm := hm.tr mm38
        have t39 := mm38.tg t31 (by decide)
        have t40 := mm38.tg t35 (by decide)
        refine lv_aload_n hx hb d_WH_appendChunk_80 rfl (lv_at hl 0 rfl) ?_
        refine lv_dup hx hb d_WH_appendChunk_81 rfl ?_
        refine hb_get (ci := 2) (C := "BigDesk$Whole") (T := T_WH) (N := 3) hx hb hts (fun w9 h9 => hT w9 (u_WH w9 h9)) hown hK hW t39 rfl (by decide) 1 (by decide) (hw wd_37) (fun _ h9 => h9) (q := (0, 0)) rfl (v := .int (ah_I h37 0 x26)) rfl d_WH_appendChunk_82 ?_
        refine lv_iconst (v := 1) hx hb d_WH_appendChunk_85 (by decide) ?_
        refine lv_iadd hx hb d_WH_appendChunk_86 ?_
        refine lv_topi (fun v41 ev41 => ?_)
        have w := w v41 ev41
        refine hb_put (ci := 2) (C := "BigDesk$Whole") (T := T_WH) (N := 3) hx hb hts (fun w9 h9 => hT w9 (u_WH w9 h9)) t_WH o_WH n_WH hown hK hW t39 rfl (by decide) 1 (by decide) (hw wd_37) (fun _ h9 => h9) rfl (ty := t_WH 1) (by decide +kernel) (q := (0, 0)) rfl (by decide) (v := .int v41) rfl rfl (ah_one_I h37 0 x26 v41) d_WH_appendChunk_87 (fun H locs h42 eh42 hW => ?_)
        have w := w h42 eh42
        have mm43 : ah_m h37 h42 := ah_m.rf.st (by rw [eh42]; rfl) (by rw [eh42]; rfl)
        have hm := hm.tr mm43
        have t44 := mm43.tg t39 (by decide)
        have t45 := mm43.tg t40 (by decide)
        exact tb_WH_appendChunk_90 C (by omega) (by omega)   h42 _ _ _ w hm hW (lv_sub hl [] rfl)
set_option maxHeartbeats 4000000 in
set_option maxRecDepth 100000 in
theorem tl_WH_takeChunk_9 {p : Program} {l : Launch} {e : Env} {s : State} {m : MethodId} {args : Array Value} {below : List Frame} {meth : Method} {c : Code} {G : zG} (C : cx_C p l s m args meth c G y_WH_takeChunk b_WH_takeChunk 6 (some .long) "BigDesk$Whole" (Cond.code y_WH_takeChunk b_WH_takeChunk 6 (some .long) :: zx_T) []) {K : Int64 → ah_H → Prop} {h0 : ah_H} {cells slots : Nat} (hcl : cells + 0 ≤ 0) (hsl : slots + 0 ≤ 0) {xt_51 : Nat → Int64 → ah_H → Prop} (hc_xt_51 : ∀ (z0 : Nat) (z1 : Int64) (hz : ah_H) (H : Heap) (locs : List Loc) (ls : Array Slot), xt_51 z0 z1 hz → ah_m h0 hz → ah_W G s.heap hz H locs → lv_has ls 6 [(0, .ref z0), (1, .long z1)] → W p l e rm_WH_takeChunk s m args below meth c H locs cells slots (MQ below (va_Ql (fun r9 h9 => K r9 h9 ∧ ah_m h0 h9) (ah_B G) (fun q => G.2.2 ≤ q)) args s 0 0 (fun q => G.2.2 ≤ q)) (F0 m 51 ls [])) : ∀ (n : Nat) (x4 : Nat) (x5 : Int64) (x6 : Int32) (h7 : ah_H) (H : Heap) (locs : List Loc) (ls : Array Slot), lp_WH_takeChunk_9 xt_51 K n x4 x5 x6 h7 → ah_m h0 h7 → ah_W G s.heap h7 H locs → lv_has ls 6 [(0, .ref x4), (1, .long x5), (3, .int x6)] → W p l e rm_WH_takeChunk s m args below meth c H locs cells slots (MQ below (va_Ql (fun r9 h9 => K r9 h9 ∧ ah_m h0 h9) (ah_B G) (fun q => G.2.2 ≤ q)) args s 0 0 (fun q => G.2.2 ≤ q)) (F0 m 9 ls []) := by
  obtain ⟨hx, hb, hr, hml, hown, hts, hT, hlk, hK, hX, htb, hin, hst⟩ := id C
  have hw : ∀ {w9 : Cond}, w9 ∈ zx_T → w9.before _ s = true := fun h9 => hts _ (hT _ h9)
  intro n
  induction n with
  | zero =>
    intro x4 x5 x6 h7 H locs ls w
    exact absurd w (by intro z9; exact z9)
  | succ n ih =>
    intro x4 x5 x6 h7 H locs ls w hm hW hl
    unfold lp_WH_takeChunk_9 at w
    refine lv_iload_n hx hb d_WH_takeChunk_9 rfl (lv_at hl 2 rfl) ?_
    refine lv_if_lt (tgt := 51) hx hb d_WH_takeChunk_10 (by decide) (fun c8 => ?_) (fun c8 => ?_)
    · have w := w.1 c8
      exact hc_xt_51 x4 x5 h7 _ _ _ w hm hW (lv_sub hl [0, 1] rfl)
    · have w := w.2 c8
      refine lv_lload_n hx hb d_WH_takeChunk_13 rfl (lv_at hl 1 rfl) ?_
      refine lv_bipush (v := 32) hx hb d_WH_takeChunk_14 (by decide) ?_
      refine lv_lshl hx hb d_WH_takeChunk_16 rfl ?_
      refine lv_aload_n hx hb d_WH_takeChunk_17 rfl (lv_at hl 0 rfl) ?_
      obtain ⟨t9, w⟩ := w
      obtain ⟨q10, e11, w⟩ := w
      refine hb_get (ci := 2) (C := "BigDesk$Whole") (T := T_WH) (N := 3) hx hb hts (fun w9 h9 => hT w9 (u_WH w9 h9)) hown hK hW t9 rfl (by decide) 0 (by decide) (hw wd_33) (fun _ h9 => h9) (q := (2, 5)) rfl (v := .ref q10) (ah_f_R e11) d_WH_takeChunk_18 ?_
      refine lv_iload_n hx hb d_WH_takeChunk_21 rfl (lv_at hl 2 rfl) ?_
      obtain ⟨t12, w⟩ := w
      obtain ⟨i13, w⟩ := w
      refine hb_lald hx hb hK hW t12 (by decide) (by decide) 2 rfl i13 d_WH_takeChunk_22 ?_
      refine lv_lor hx hb d_WH_takeChunk_23 ?_
      refine lv_topl (fun v14 ev14 => ?_)
      have w := w v14 ev14
      refine lv_lstore (lv' := [(4, .long v14), (0, .ref x4), (1, .long x5), (3, .int x6)]) hx hb d_WH_takeChunk_24 hl (by decide) rfl (fun ls hl => ?_)
      refine lv_aload_n hx hb d_WH_takeChunk_26 rfl (lv_at hl 1 rfl) ?_
      obtain ⟨q15, e16, w⟩ := w
      refine hb_get (ci := 2) (C := "BigDesk$Whole") (T := T_WH) (N := 3) hx hb hts (fun w9 h9 => hT w9 (u_WH w9 h9)) hown hK hW t9 rfl (by decide) 0 (by decide) (hw wd_33) (fun _ h9 => h9) (q := (2, 5)) rfl (v := .ref q15) (ah_f_R e16) d_WH_takeChunk_27 ?_
      refine lv_iload_n hx hb d_WH_takeChunk_30 rfl (lv_at hl 3 rfl) ?_
      refine lv_lload hx hb d_WH_takeChunk_31 (lv_at hl 0 rfl) ?_
      refine lv_ldc2 (v := 1000000000) hx hb hown (hw wd_571) d_WH_takeChunk_33 ?_
      refine lv_ldiv hx hb d_WH_takeChunk_36 (by decide) ?_
      refine lv_topl (fun v17 ev17 => ?_)
      have w := w v17 ev17
      obtain ⟨t18, w⟩ := w
      obtain ⟨i19, w⟩ := w
      refine hb_last hx hb hK hW t18 (by decide) (by decide) 2 rfl i19 d_WH_takeChunk_37 (fun H locs h20 eh20 hW => ?_)
      have w := w h20 eh20
      have mm21 : ah_m h7 h20 := ah_m.rf.st (by rw [eh20]; rfl) (by rw [eh20]; rfl)
      have hm := hm.tr mm21
      have t22 := mm21.tg t9 (by decide)
      have t23 := mm21.tg t12 (by decide)
      have t24 := mm21.tg t18 (by decide)
      refine lv_lload hx hb d_WH_takeChunk_38 (lv_at hl 0 rfl) ?_
      refine lv_ldc2 (v := 1000000000) hx hb hown (hw wd_571) d_WH_takeChunk_40 ?_
      refine lv_lrem hx hb d_WH_takeChunk_43 (by decide) ?_
      refine lv_topl (fun v25 ev25 => ?_)
      have w := w v25 ev25
      refine lv_lstore_n (lv' := [(1, .long v25), (4, .long v14), (0, .ref x4), (3, .int x6)]) hx hb d_WH_takeChunk_44 rfl hl (by decide) rfl (fun ls hl => ?_)
      obtain ⟨v26, ev26⟩ : ∃ y9 : Int32, y9 = x6 + (-1) := ⟨_, rfl⟩
      have w := w v26 ev26
      refine lv_iinc (v := v26) (lv' := [(3, .int v26), (1, .long v25), (4, .long v14), (0, .ref x4)]) hx hb d_WH_takeChunk_45 hl (k := 3) rfl (by rw [ev26]; rfl) (by decide) rfl (fun ls hl => ?_)
      refine lv_goto (tgt := 9) hx hb d_WH_takeChunk_48 (by decide) ?_
      exact ih x4 v25 v26 h20 _ _ _ w hm hW (lv_sub hl [3, 1, 0] rfl)
set_option maxHeartbeats 4000000 in
set_option maxRecDepth 100000 in
theorem m_WH_takeChunk {l : Launch} (G : zG) (a1 : Nat) (h0 : ah_H) {K : Int64 → ah_H → Prop} (hst : l.stackTraces = false) (w : w_WH_takeChunk a1 h0 K) : Met l y_WH_takeChunk (Cond.code y_WH_takeChunk b_WH_takeChunk 6 (some .long) :: zx_T) rm_WH_takeChunk (va_Pc [.ref a1] (ah_B G h0)) (va_Ql (fun r9 h9 => K r9 h9 ∧ ah_m h0 h9) (ah_B G) (fun q => G.2.2 ≤ q)) 0 0 (fun q => G.2.2 ≤ q) := by
  refine Met.ofW (cc := b_WH_takeChunk) (maxL := 6) (ret := (some .long)) (by decide) rfl ?_
  intro p e s m args below meth c s₁ B hml hv
  have htb := cx_out B (atoms_spec B.pre _ List.mem_cons_self)
  obtain ⟨rfl, hB⟩ := hv
  have C : cx_C p l s m _ meth c G y_WH_takeChunk b_WH_takeChunk 6 (some .long) "BigDesk$Whole" (Cond.code y_WH_takeChunk b_WH_takeChunk 6 (some .long) :: zx_T) [] := ⟨B.exec, B.bytes, B.returns, hml, findClass_of_methodNamed B.named, atoms_spec B.pre, cx_hd, B.notSynchronized, hB.2.2.1, hB.2.2.2, htb, fun z9 => (name_of_methodNamed B.named B.method).1.trans z9, hst⟩
  obtain ⟨hx, hb, hr, hml, hown, hts, hT, hlk, hK, hX, htb, hin, hst⟩ := id C
  have hw : ∀ {w9 : Cond}, w9 ∈ zx_T → w9.before _ s = true := fun h9 => hts _ (hT _ h9)
  have hW : ah_W G s.heap h0 s.heap [] := ⟨hB.1, hB.2.1, va_S.rf⟩
  have hm : ah_m h0 h0 := ah_m.rf
  have hcl : 0 + 0 ≤ 0 := by decide
  have hsl : 0 + 0 ≤ 0 := by decide
  have hl := lv_entry ([.ref a1]) (n := 6) (Nat.le_of_ble_eq_true rfl)
  rw [lg_entry_eq]
  generalize (lg_sl ([.ref a1]) ++ List.replicate (6 - (lg_sl ([.ref a1])).length) Slot.unset).toArray = ls at hl ⊢
  have hl : lv_has ls 6 [(0, .ref a1)] := hl
  unfold w_WH_takeChunk at w
  refine lv_lconst (v := 0) hx hb d_WH_takeChunk_0 (by decide) ?_
  refine lv_lstore_n (lv' := [(1, .long (0 : Int64)), (0, .ref a1)]) hx hb d_WH_takeChunk_1 rfl hl (by decide) rfl (fun ls hl => ?_)
  refine lv_aload_n hx hb d_WH_takeChunk_2 rfl (lv_at hl 1 rfl) ?_
  obtain ⟨t2, w⟩ := w
  refine hb_get (ci := 2) (C := "BigDesk$Whole") (T := T_WH) (N := 3) hx hb hts (fun w9 h9 => hT w9 (u_WH w9 h9)) hown hK hW t2 rfl (by decide) 1 (by decide) (hw wd_37) (fun _ h9 => h9) (q := (0, 0)) rfl (v := .int (ah_I h0 0 a1)) rfl d_WH_takeChunk_3 ?_
  refine lv_iconst (v := 1) hx hb d_WH_takeChunk_6 (by decide) ?_
  refine lv_isub hx hb d_WH_takeChunk_7 ?_
  refine lv_topi (fun v3 ev3 => ?_)
  have w := w v3 ev3
  refine lv_istore_n (lv' := [(3, .int v3), (1, .long (0 : Int64)), (0, .ref a1)]) hx hb d_WH_takeChunk_8 rfl hl (by decide) rfl (fun ls hl => ?_)
  obtain ⟨k34, w⟩ := w
  refine tl_WH_takeChunk_9 C (by omega) (by omega) (fun x27 x28 h29 H locs ls w hm hW hl => ?_) k34 a1 (0 : Int64) v3 h0 _ _ _ w hm hW (lv_sub hl [2, 1, 0] rfl)
  · refine lv_aload_n hx hb d_WH_takeChunk_51 rfl (lv_at hl 0 rfl) ?_
    refine lv_aload_n hx hb d_WH_takeChunk_52 rfl (lv_at hl 0 rfl) ?_
    obtain ⟨t30, w⟩ := w
    refine hb_get (ci := 2) (C := "BigDesk$Whole") (T := T_WH) (N := 3) hx hb hts (fun w9 h9 => hT w9 (u_WH w9 h9)) hown hK hW t30 rfl (by decide) 1 (by decide) (hw wd_37) (fun _ h9 => h9) (q := (0, 0)) rfl (v := .int (ah_I h29 0 x27)) rfl d_WH_takeChunk_53 ?_
    refine hb_callv (va_runV (As := [.int (ah_I h29 0 x27)]) (rest := []) ⟨hx, hb, hml, hown, hts⟩ (m_WH_settle G x27 (ah_I h29 0 x27) h29 hst w) (cwV 1 hts (zx_gV hT wd_218 wd_219 wd_220 wd_2 wd_221) rfl rfl rfl (by decide +kernel) ⟨Nat.le_of_ble_eq_true rfl, Nat.le_of_ble_eq_true rfl⟩) (hb_preV hK hX hW t30 (by decide) rfl) rfl rfl hl.1 rfl (lv_room (Nat.le_of_ble_eq_true rfl)) d_WH_takeChunk_56 ⟨(by show _ ≤ 0; omega), (by show _ ≤ 0; omega)⟩) hW (fun h31 H locs hk hW => ?_)
    obtain ⟨w, mm32⟩ := hk
    have w := w mm32
    have hm := hm.tr mm32
    have t33 := mm32.tg t30 (by decide)
    refine lv_lload_n hx hb d_WH_takeChunk_59 rfl (lv_at hl 1 rfl) ?_
    exact hb_lret (K := fun r9 h9 => K r9 h9 ∧ ah_m h0 h9) hx hb hr hlk hK hX hW ⟨w, hm⟩ (by omega) (by omega) d_WH_takeChunk_60
