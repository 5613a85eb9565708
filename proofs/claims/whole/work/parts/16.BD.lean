theorem d_BD_init_0 : decode b_BD_init 0 = .ok (.aload_n 0, 1) := by decide +kernel
theorem d_BD_init_1 : decode b_BD_init 1 = .ok (.invokespecial 3, 3) := by decide +kernel
theorem d_BD_init_4 : decode b_BD_init 4 = .ok (.aload_n 0, 1) := by decide +kernel
theorem d_BD_init_5 : decode b_BD_init 5 = .ok (.bipush 12, 2) := by decide +kernel
theorem d_BD_init_7 : decode b_BD_init 7 = .ok (.anewarray 9, 3) := by decide +kernel
theorem d_BD_init_10 : decode b_BD_init 10 = .ok (.putfield 11, 3) := by decide +kernel
theorem d_BD_init_13 : decode b_BD_init 13 = .ok (.iconst 0, 1) := by decide +kernel
theorem d_BD_init_14 : decode b_BD_init 14 = .ok (.istore_n 1, 1) := by decide +kernel
theorem d_BD_init_15 : decode b_BD_init 15 = .ok (.iload_n 1, 1) := by decide +kernel
theorem d_BD_init_16 : decode b_BD_init 16 = .ok (.bipush 12, 2) := by decide +kernel
theorem d_BD_init_18 : decode b_BD_init 18 = .ok (.if_icmp .ge 22, 3) := by decide +kernel
theorem d_BD_init_21 : decode b_BD_init 21 = .ok (.aload_n 0, 1) := by decide +kernel
theorem d_BD_init_22 : decode b_BD_init 22 = .ok (.getfield 11, 3) := by decide +kernel
theorem d_BD_init_25 : decode b_BD_init 25 = .ok (.iload_n 1, 1) := by decide +kernel
theorem d_BD_init_26 : decode b_BD_init 26 = .ok (.new 9, 3) := by decide +kernel
theorem d_BD_init_29 : decode b_BD_init 29 = .ok (.dup, 1) := by decide +kernel
theorem d_BD_init_30 : decode b_BD_init 30 = .ok (.invokespecial 15, 3) := by decide +kernel
theorem d_BD_init_33 : decode b_BD_init 33 = .ok (.aastore, 1) := by decide +kernel
theorem d_BD_init_34 : decode b_BD_init 34 = .ok (.iinc 1 1, 3) := by decide +kernel
theorem d_BD_init_37 : decode b_BD_init 37 = .ok (.goto (-22), 3) := by decide +kernel
theorem d_BD_init_40 : decode b_BD_init 40 = .ok (.aload_n 0, 1) := by decide +kernel
theorem d_BD_init_41 : decode b_BD_init 41 = .ok (.new 9, 3) := by decide +kernel
theorem d_BD_init_44 : decode b_BD_init 44 = .ok (.dup, 1) := by decide +kernel
theorem d_BD_init_45 : decode b_BD_init 45 = .ok (.invokespecial 15, 3) := by decide +kernel
theorem d_BD_init_48 : decode b_BD_init 48 = .ok (.putfield 16, 3) := by decide +kernel
theorem d_BD_init_51 : decode b_BD_init 51 = .ok (.aload_n 0, 1) := by decide +kernel
theorem d_BD_init_52 : decode b_BD_init 52 = .ok (.new 9, 3) := by decide +kernel
theorem d_BD_init_55 : decode b_BD_init 55 = .ok (.dup, 1) := by decide +kernel
theorem d_BD_init_56 : decode b_BD_init 56 = .ok (.invokespecial 15, 3) := by decide +kernel
theorem d_BD_init_59 : decode b_BD_init 59 = .ok (.putfield 20, 3) := by decide +kernel
theorem d_BD_init_62 : decode b_BD_init 62 = .ok (.aload_n 0, 1) := by decide +kernel
theorem d_BD_init_63 : decode b_BD_init 63 = .ok (.new 23, 3) := by decide +kernel
theorem d_BD_init_66 : decode b_BD_init 66 = .ok (.dup, 1) := by decide +kernel
theorem d_BD_init_67 : decode b_BD_init 67 = .ok (.invokespecial 25, 3) := by decide +kernel
theorem d_BD_init_70 : decode b_BD_init 70 = .ok (.putfield 26, 3) := by decide +kernel
theorem d_BD_init_73 : decode b_BD_init 73 = .ok (.aload_n 0, 1) := by decide +kernel
theorem d_BD_init_74 : decode b_BD_init 74 = .ok (.new 30, 3) := by decide +kernel
theorem d_BD_init_77 : decode b_BD_init 77 = .ok (.dup, 1) := by decide +kernel
theorem d_BD_init_78 : decode b_BD_init 78 = .ok (.invokespecial 32, 3) := by decide +kernel
theorem d_BD_init_81 : decode b_BD_init 81 = .ok (.putfield 33, 3) := by decide +kernel
theorem d_BD_init_84 : decode b_BD_init 84 = .ok (.aload_n 0, 1) := by decide +kernel
theorem d_BD_init_85 : decode b_BD_init 85 = .ok (.sipush 2600, 3) := by decide +kernel
theorem d_BD_init_88 : decode b_BD_init 88 = .ok (.newarray .byte, 2) := by decide +kernel
theorem d_BD_init_90 : decode b_BD_init 90 = .ok (.putfield 37, 3) := by decide +kernel
theorem d_BD_init_93 : decode b_BD_init 93 = .ok (.aload_n 0, 1) := by decide +kernel
theorem d_BD_init_94 : decode b_BD_init 94 = .ok (.iconst 0, 1) := by decide +kernel
theorem d_BD_init_95 : decode b_BD_init 95 = .ok (.putfield 41, 3) := by decide +kernel
theorem d_BD_init_98 : decode b_BD_init 98 = .ok (.aload_n 0, 1) := by decide +kernel
theorem d_BD_init_99 : decode b_BD_init 99 = .ok (.sipush 2468, 3) := by decide +kernel
theorem d_BD_init_102 : decode b_BD_init 102 = .ok (.newarray .byte, 2) := by decide +kernel
theorem d_BD_init_104 : decode b_BD_init 104 = .ok (.putfield 45, 3) := by decide +kernel
theorem d_BD_init_107 : decode b_BD_init 107 = .ok (.aload_n 0, 1) := by decide +kernel
theorem d_BD_init_108 : decode b_BD_init 108 = .ok (.iconst 0, 1) := by decide +kernel
theorem d_BD_init_109 : decode b_BD_init 109 = .ok (.putfield 48, 3) := by decide +kernel
theorem d_BD_init_112 : decode b_BD_init 112 = .ok (.return_, 1) := by decide +kernel
theorem d_BD_register_0 : decode b_BD_register 0 = .ok (.iload_n 1, 1) := by decide +kernel
theorem d_BD_register_1 : decode b_BD_register 1 = .ok (.ifCond .lt 9, 3) := by decide +kernel
theorem d_BD_register_4 : decode b_BD_register 4 = .ok (.iload_n 1, 1) := by decide +kernel
theorem d_BD_register_5 : decode b_BD_register 5 = .ok (.bipush 12, 2) := by decide +kernel
theorem d_BD_register_7 : decode b_BD_register 7 = .ok (.if_icmp .lt 13, 3) := by decide +kernel
theorem d_BD_register_10 : decode b_BD_register 10 = .ok (.new 112, 3) := by decide +kernel
theorem d_BD_register_13 : decode b_BD_register 13 = .ok (.dup, 1) := by decide +kernel
theorem d_BD_register_14 : decode b_BD_register 14 = .ok (.ldc 190, 2) := by decide +kernel
theorem d_BD_register_16 : decode b_BD_register 16 = .ok (.invokespecial 116, 3) := by decide +kernel
theorem d_BD_register_19 : decode b_BD_register 19 = .ok (.athrow, 1) := by decide +kernel
theorem d_BD_register_20 : decode b_BD_register 20 = .ok (.aload_n 0, 1) := by decide +kernel
theorem d_BD_register_21 : decode b_BD_register 21 = .ok (.getfield 11, 3) := by decide +kernel
theorem d_BD_register_24 : decode b_BD_register 24 = .ok (.iload_n 1, 1) := by decide +kernel
theorem d_BD_register_25 : decode b_BD_register 25 = .ok (.aaload, 1) := by decide +kernel
theorem d_BD_register_26 : decode b_BD_register 26 = .ok (.areturn, 1) := by decide +kernel
theorem d_BD_set_0 : decode b_BD_set 0 = .ok (.aload_n 0, 1) := by decide +kernel
theorem d_BD_set_1 : decode b_BD_set 1 = .ok (.iload_n 1, 1) := by decide +kernel
theorem d_BD_set_2 : decode b_BD_set 2 = .ok (.invokevirtual 51, 3) := by decide +kernel
theorem d_BD_set_5 : decode b_BD_set 5 = .ok (.lload_n 2, 1) := by decide +kernel
theorem d_BD_set_6 : decode b_BD_set 6 = .ok (.invokevirtual 55, 3) := by decide +kernel
theorem d_BD_set_9 : decode b_BD_set 9 = .ok (.return_, 1) := by decide +kernel
theorem d_BD_copy_0 : decode b_BD_copy 0 = .ok (.aload_n 0, 1) := by decide +kernel
theorem d_BD_copy_1 : decode b_BD_copy 1 = .ok (.iload_n 1, 1) := by decide +kernel
theorem d_BD_copy_2 : decode b_BD_copy 2 = .ok (.invokevirtual 51, 3) := by decide +kernel
theorem d_BD_copy_5 : decode b_BD_copy 5 = .ok (.astore_n 3, 1) := by decide +kernel
theorem d_BD_copy_6 : decode b_BD_copy 6 = .ok (.aload_n 3, 1) := by decide +kernel
theorem d_BD_copy_7 : decode b_BD_copy 7 = .ok (.aload_n 0, 1) := by decide +kernel
theorem d_BD_copy_8 : decode b_BD_copy 8 = .ok (.iload_n 2, 1) := by decide +kernel
theorem d_BD_copy_9 : decode b_BD_copy 9 = .ok (.invokevirtual 51, 3) := by decide +kernel
theorem d_BD_copy_12 : decode b_BD_copy 12 = .ok (.invokevirtual 59, 3) := by decide +kernel
theorem d_BD_copy_15 : decode b_BD_copy 15 = .ok (.return_, 1) := by decide +kernel
theorem d_BD_keepMade_0 : decode b_BD_keepMade 0 = .ok (.aload_n 0, 1) := by decide +kernel
theorem d_BD_keepMade_1 : decode b_BD_keepMade 1 = .ok (.getfield 16, 3) := by decide +kernel
theorem d_BD_keepMade_4 : decode b_BD_keepMade 4 = .ok (.invokevirtual 80, 3) := by decide +kernel
theorem d_BD_keepMade_7 : decode b_BD_keepMade 7 = .ok (.sipush 8192, 3) := by decide +kernel
theorem d_BD_keepMade_10 : decode b_BD_keepMade 10 = .ok (.if_icmp .le 13, 3) := by decide +kernel
theorem d_BD_keepMade_13 : decode b_BD_keepMade 13 = .ok (.new 84, 3) := by decide +kernel
theorem d_BD_keepMade_16 : decode b_BD_keepMade 16 = .ok (.dup, 1) := by decide +kernel
theorem d_BD_keepMade_17 : decode b_BD_keepMade 17 = .ok (.ldc 86, 2) := by decide +kernel
theorem d_BD_keepMade_19 : decode b_BD_keepMade 19 = .ok (.invokespecial 88, 3) := by decide +kernel
theorem d_BD_keepMade_22 : decode b_BD_keepMade 22 = .ok (.athrow, 1) := by decide +kernel
theorem d_BD_keepMade_23 : decode b_BD_keepMade 23 = .ok (.aload_n 1, 1) := by decide +kernel
theorem d_BD_keepMade_24 : decode b_BD_keepMade 24 = .ok (.aload_n 0, 1) := by decide +kernel
theorem d_BD_keepMade_25 : decode b_BD_keepMade 25 = .ok (.getfield 16, 3) := by decide +kernel
theorem d_BD_keepMade_28 : decode b_BD_keepMade 28 = .ok (.invokevirtual 59, 3) := by decide +kernel
theorem d_BD_keepMade_31 : decode b_BD_keepMade 31 = .ok (.return_, 1) := by decide +kernel
theorem d_BD_add_0 : decode b_BD_add 0 = .ok (.aload_n 0, 1) := by decide +kernel
theorem d_BD_add_1 : decode b_BD_add 1 = .ok (.iload_n 1, 1) := by decide +kernel
theorem d_BD_add_2 : decode b_BD_add 2 = .ok (.invokevirtual 51, 3) := by decide +kernel
theorem d_BD_add_5 : decode b_BD_add 5 = .ok (.astore 4, 2) := by decide +kernel
theorem d_BD_add_7 : decode b_BD_add 7 = .ok (.aload_n 0, 1) := by decide +kernel
theorem d_BD_add_8 : decode b_BD_add 8 = .ok (.getfield 16, 3) := by decide +kernel
theorem d_BD_add_11 : decode b_BD_add 11 = .ok (.aload_n 0, 1) := by decide +kernel
theorem d_BD_add_12 : decode b_BD_add 12 = .ok (.iload_n 2, 1) := by decide +kernel
theorem d_BD_add_13 : decode b_BD_add 13 = .ok (.invokevirtual 51, 3) := by decide +kernel
theorem d_BD_add_16 : decode b_BD_add 16 = .ok (.aload_n 0, 1) := by decide +kernel
theorem d_BD_add_17 : decode b_BD_add 17 = .ok (.iload_n 3, 1) := by decide +kernel
theorem d_BD_add_18 : decode b_BD_add 18 = .ok (.invokevirtual 51, 3) := by decide +kernel
theorem d_BD_add_21 : decode b_BD_add 21 = .ok (.iconst 0, 1) := by decide +kernel
theorem d_BD_add_22 : decode b_BD_add 22 = .ok (.invokestatic 63, 3) := by decide +kernel
theorem d_BD_add_25 : decode b_BD_add 25 = .ok (.aload_n 0, 1) := by decide +kernel
theorem d_BD_add_26 : decode b_BD_add 26 = .ok (.aload 4, 2) := by decide +kernel
theorem d_BD_add_28 : decode b_BD_add 28 = .ok (.invokevirtual 69, 3) := by decide +kernel
theorem d_BD_add_31 : decode b_BD_add 31 = .ok (.return_, 1) := by decide +kernel
theorem d_BD_subtract_0 : decode b_BD_subtract 0 = .ok (.aload_n 0, 1) := by decide +kernel
theorem d_BD_subtract_1 : decode b_BD_subtract 1 = .ok (.iload_n 1, 1) := by decide +kernel
theorem d_BD_subtract_2 : decode b_BD_subtract 2 = .ok (.invokevirtual 51, 3) := by decide +kernel
theorem d_BD_subtract_5 : decode b_BD_subtract 5 = .ok (.astore 4, 2) := by decide +kernel
theorem d_BD_subtract_7 : decode b_BD_subtract 7 = .ok (.aload_n 0, 1) := by decide +kernel
theorem d_BD_subtract_8 : decode b_BD_subtract 8 = .ok (.getfield 16, 3) := by decide +kernel
theorem d_BD_subtract_11 : decode b_BD_subtract 11 = .ok (.aload_n 0, 1) := by decide +kernel
theorem d_BD_subtract_12 : decode b_BD_subtract 12 = .ok (.iload_n 2, 1) := by decide +kernel
theorem d_BD_subtract_13 : decode b_BD_subtract 13 = .ok (.invokevirtual 51, 3) := by decide +kernel
theorem d_BD_subtract_16 : decode b_BD_subtract 16 = .ok (.aload_n 0, 1) := by decide +kernel
theorem d_BD_subtract_17 : decode b_BD_subtract 17 = .ok (.iload_n 3, 1) := by decide +kernel
theorem d_BD_subtract_18 : decode b_BD_subtract 18 = .ok (.invokevirtual 51, 3) := by decide +kernel
theorem d_BD_subtract_21 : decode b_BD_subtract 21 = .ok (.iconst 1, 1) := by decide +kernel
theorem d_BD_subtract_22 : decode b_BD_subtract 22 = .ok (.invokestatic 63, 3) := by decide +kernel
theorem d_BD_subtract_25 : decode b_BD_subtract 25 = .ok (.aload_n 0, 1) := by decide +kernel
theorem d_BD_subtract_26 : decode b_BD_subtract 26 = .ok (.aload 4, 2) := by decide +kernel
theorem d_BD_subtract_28 : decode b_BD_subtract 28 = .ok (.invokevirtual 69, 3) := by decide +kernel
theorem d_BD_subtract_31 : decode b_BD_subtract 31 = .ok (.return_, 1) := by decide +kernel
theorem d_BD_keepProduct_0 : decode b_BD_keepProduct 0 = .ok (.aload_n 0, 1) := by decide +kernel
theorem d_BD_keepProduct_1 : decode b_BD_keepProduct 1 = .ok (.getfield 16, 3) := by decide +kernel
theorem d_BD_keepProduct_4 : decode b_BD_keepProduct 4 = .ok (.aload_n 2, 1) := by decide +kernel
theorem d_BD_keepProduct_5 : decode b_BD_keepProduct 5 = .ok (.aload_n 3, 1) := by decide +kernel
theorem d_BD_keepProduct_6 : decode b_BD_keepProduct 6 = .ok (.invokestatic 194, 3) := by decide +kernel
theorem d_BD_keepProduct_9 : decode b_BD_keepProduct 9 = .ok (.ifCond .ne 13, 3) := by decide +kernel
theorem d_BD_keepProduct_12 : decode b_BD_keepProduct 12 = .ok (.new 84, 3) := by decide +kernel
theorem d_BD_keepProduct_15 : decode b_BD_keepProduct 15 = .ok (.dup, 1) := by decide +kernel
theorem d_BD_keepProduct_16 : decode b_BD_keepProduct 16 = .ok (.ldc 86, 2) := by decide +kernel
theorem d_BD_keepProduct_18 : decode b_BD_keepProduct 18 = .ok (.invokespecial 88, 3) := by decide +kernel
theorem d_BD_keepProduct_21 : decode b_BD_keepProduct 21 = .ok (.athrow, 1) := by decide +kernel
theorem d_BD_keepProduct_22 : decode b_BD_keepProduct 22 = .ok (.aload_n 0, 1) := by decide +kernel
theorem d_BD_keepProduct_23 : decode b_BD_keepProduct 23 = .ok (.aload_n 1, 1) := by decide +kernel
theorem d_BD_keepProduct_24 : decode b_BD_keepProduct 24 = .ok (.invokevirtual 69, 3) := by decide +kernel
theorem d_BD_keepProduct_27 : decode b_BD_keepProduct 27 = .ok (.return_, 1) := by decide +kernel
theorem d_BD_multiply_0 : decode b_BD_multiply 0 = .ok (.aload_n 0, 1) := by decide +kernel
theorem d_BD_multiply_1 : decode b_BD_multiply 1 = .ok (.iload_n 1, 1) := by decide +kernel
theorem d_BD_multiply_2 : decode b_BD_multiply 2 = .ok (.invokevirtual 51, 3) := by decide +kernel
theorem d_BD_multiply_5 : decode b_BD_multiply 5 = .ok (.astore 4, 2) := by decide +kernel
theorem d_BD_multiply_7 : decode b_BD_multiply 7 = .ok (.aload_n 0, 1) := by decide +kernel
theorem d_BD_multiply_8 : decode b_BD_multiply 8 = .ok (.aload 4, 2) := by decide +kernel
theorem d_BD_multiply_10 : decode b_BD_multiply 10 = .ok (.aload_n 0, 1) := by decide +kernel
theorem d_BD_multiply_11 : decode b_BD_multiply 11 = .ok (.iload_n 2, 1) := by decide +kernel
theorem d_BD_multiply_12 : decode b_BD_multiply 12 = .ok (.invokevirtual 51, 3) := by decide +kernel
theorem d_BD_multiply_15 : decode b_BD_multiply 15 = .ok (.aload_n 0, 1) := by decide +kernel
theorem d_BD_multiply_16 : decode b_BD_multiply 16 = .ok (.iload_n 3, 1) := by decide +kernel
theorem d_BD_multiply_17 : decode b_BD_multiply 17 = .ok (.invokevirtual 51, 3) := by decide +kernel
theorem d_BD_multiply_20 : decode b_BD_multiply 20 = .ok (.invokevirtual 72, 3) := by decide +kernel
theorem d_BD_multiply_23 : decode b_BD_multiply 23 = .ok (.return_, 1) := by decide +kernel
theorem d_BD_times_0 : decode b_BD_times 0 = .ok (.aload_n 0, 1) := by decide +kernel
theorem d_BD_times_1 : decode b_BD_times 1 = .ok (.iload_n 1, 1) := by decide +kernel
theorem d_BD_times_2 : decode b_BD_times 2 = .ok (.invokevirtual 51, 3) := by decide +kernel
theorem d_BD_times_5 : decode b_BD_times 5 = .ok (.astore 5, 2) := by decide +kernel
theorem d_BD_times_7 : decode b_BD_times 7 = .ok (.aload_n 0, 1) := by decide +kernel
theorem d_BD_times_8 : decode b_BD_times 8 = .ok (.iload_n 2, 1) := by decide +kernel
theorem d_BD_times_9 : decode b_BD_times 9 = .ok (.invokevirtual 51, 3) := by decide +kernel
theorem d_BD_times_12 : decode b_BD_times 12 = .ok (.astore 6, 2) := by decide +kernel
theorem d_BD_times_14 : decode b_BD_times 14 = .ok (.aload_n 0, 1) := by decide +kernel
theorem d_BD_times_15 : decode b_BD_times 15 = .ok (.getfield 20, 3) := by decide +kernel
theorem d_BD_times_18 : decode b_BD_times 18 = .ok (.lload_n 3, 1) := by decide +kernel
theorem d_BD_times_19 : decode b_BD_times 19 = .ok (.invokevirtual 55, 3) := by decide +kernel
theorem d_BD_times_22 : decode b_BD_times 22 = .ok (.aload_n 0, 1) := by decide +kernel
theorem d_BD_times_23 : decode b_BD_times 23 = .ok (.aload 5, 2) := by decide +kernel
theorem d_BD_times_25 : decode b_BD_times 25 = .ok (.aload 6, 2) := by decide +kernel
theorem d_BD_times_27 : decode b_BD_times 27 = .ok (.aload_n 0, 1) := by decide +kernel
theorem d_BD_times_28 : decode b_BD_times 28 = .ok (.getfield 20, 3) := by decide +kernel
theorem d_BD_times_31 : decode b_BD_times 31 = .ok (.invokevirtual 72, 3) := by decide +kernel
theorem d_BD_times_34 : decode b_BD_times 34 = .ok (.return_, 1) := by decide +kernel
theorem d_BD_requireShift_0 : decode b_BD_requireShift 0 = .ok (.iload_n 0, 1) := by decide +kernel
theorem d_BD_requireShift_1 : decode b_BD_requireShift 1 = .ok (.ifCond .lt 10, 3) := by decide +kernel
theorem d_BD_requireShift_4 : decode b_BD_requireShift 4 = .ok (.iload_n 0, 1) := by decide +kernel
theorem d_BD_requireShift_5 : decode b_BD_requireShift 5 = .ok (.sipush 8192, 3) := by decide +kernel
theorem d_BD_requireShift_8 : decode b_BD_requireShift 8 = .ok (.if_icmp .le 13, 3) := by decide +kernel
theorem d_BD_requireShift_11 : decode b_BD_requireShift 11 = .ok (.new 112, 3) := by decide +kernel
theorem d_BD_requireShift_14 : decode b_BD_requireShift 14 = .ok (.dup, 1) := by decide +kernel
theorem d_BD_requireShift_15 : decode b_BD_requireShift 15 = .ok (.ldc 192, 2) := by decide +kernel
theorem d_BD_requireShift_17 : decode b_BD_requireShift 17 = .ok (.invokespecial 116, 3) := by decide +kernel
theorem d_BD_requireShift_20 : decode b_BD_requireShift 20 = .ok (.athrow, 1) := by decide +kernel
theorem d_BD_requireShift_21 : decode b_BD_requireShift 21 = .ok (.return_, 1) := by decide +kernel
theorem d_BD_shift_0 : decode b_BD_shift 0 = .ok (.aload_n 0, 1) := by decide +kernel
theorem d_BD_shift_1 : decode b_BD_shift 1 = .ok (.iload_n 1, 1) := by decide +kernel
theorem d_BD_shift_2 : decode b_BD_shift 2 = .ok (.invokevirtual 51, 3) := by decide +kernel
theorem d_BD_shift_5 : decode b_BD_shift 5 = .ok (.astore 4, 2) := by decide +kernel
theorem d_BD_shift_7 : decode b_BD_shift 7 = .ok (.aload_n 0, 1) := by decide +kernel
theorem d_BD_shift_8 : decode b_BD_shift 8 = .ok (.iload_n 2, 1) := by decide +kernel
theorem d_BD_shift_9 : decode b_BD_shift 9 = .ok (.invokevirtual 51, 3) := by decide +kernel
theorem d_BD_shift_12 : decode b_BD_shift 12 = .ok (.astore 5, 2) := by decide +kernel
theorem d_BD_shift_14 : decode b_BD_shift 14 = .ok (.iload_n 3, 1) := by decide +kernel
theorem d_BD_shift_15 : decode b_BD_shift 15 = .ok (.invokestatic 76, 3) := by decide +kernel
theorem d_BD_shift_18 : decode b_BD_shift 18 = .ok (.aload 5, 2) := by decide +kernel
theorem d_BD_shift_20 : decode b_BD_shift 20 = .ok (.invokevirtual 80, 3) := by decide +kernel
theorem d_BD_shift_23 : decode b_BD_shift 23 = .ok (.iload_n 3, 1) := by decide +kernel
theorem d_BD_shift_24 : decode b_BD_shift 24 = .ok (.iadd, 1) := by decide +kernel
theorem d_BD_shift_25 : decode b_BD_shift 25 = .ok (.sipush 8192, 3) := by decide +kernel
theorem d_BD_shift_28 : decode b_BD_shift 28 = .ok (.if_icmp .le 13, 3) := by decide +kernel
theorem d_BD_shift_31 : decode b_BD_shift 31 = .ok (.new 84, 3) := by decide +kernel
theorem d_BD_shift_34 : decode b_BD_shift 34 = .ok (.dup, 1) := by decide +kernel
theorem d_BD_shift_35 : decode b_BD_shift 35 = .ok (.ldc 86, 2) := by decide +kernel
theorem d_BD_shift_37 : decode b_BD_shift 37 = .ok (.invokespecial 88, 3) := by decide +kernel
theorem d_BD_shift_40 : decode b_BD_shift 40 = .ok (.athrow, 1) := by decide +kernel
theorem d_BD_shift_41 : decode b_BD_shift 41 = .ok (.aload_n 0, 1) := by decide +kernel
theorem d_BD_shift_42 : decode b_BD_shift 42 = .ok (.getfield 16, 3) := by decide +kernel
theorem d_BD_shift_45 : decode b_BD_shift 45 = .ok (.aload 5, 2) := by decide +kernel
theorem d_BD_shift_47 : decode b_BD_shift 47 = .ok (.iload_n 3, 1) := by decide +kernel
theorem d_BD_shift_48 : decode b_BD_shift 48 = .ok (.invokevirtual 91, 3) := by decide +kernel
theorem d_BD_shift_51 : decode b_BD_shift 51 = .ok (.aload_n 0, 1) := by decide +kernel
theorem d_BD_shift_52 : decode b_BD_shift 52 = .ok (.getfield 16, 3) := by decide +kernel
theorem d_BD_shift_55 : decode b_BD_shift 55 = .ok (.aload 5, 2) := by decide +kernel
theorem d_BD_shift_57 : decode b_BD_shift 57 = .ok (.getfield 95, 3) := by decide +kernel
theorem d_BD_shift_60 : decode b_BD_shift 60 = .ok (.invokevirtual 99, 3) := by decide +kernel
theorem d_BD_shift_63 : decode b_BD_shift 63 = .ok (.aload_n 0, 1) := by decide +kernel
theorem d_BD_shift_64 : decode b_BD_shift 64 = .ok (.aload 4, 2) := by decide +kernel
theorem d_BD_shift_66 : decode b_BD_shift 66 = .ok (.invokevirtual 69, 3) := by decide +kernel
theorem d_BD_shift_69 : decode b_BD_shift 69 = .ok (.return_, 1) := by decide +kernel
theorem d_BD_half_0 : decode b_BD_half 0 = .ok (.aload_n 0, 1) := by decide +kernel
theorem d_BD_half_1 : decode b_BD_half 1 = .ok (.iload_n 1, 1) := by decide +kernel
theorem d_BD_half_2 : decode b_BD_half 2 = .ok (.invokevirtual 51, 3) := by decide +kernel
theorem d_BD_half_5 : decode b_BD_half 5 = .ok (.astore 4, 2) := by decide +kernel
theorem d_BD_half_7 : decode b_BD_half 7 = .ok (.aload_n 0, 1) := by decide +kernel
theorem d_BD_half_8 : decode b_BD_half 8 = .ok (.iload_n 2, 1) := by decide +kernel
theorem d_BD_half_9 : decode b_BD_half 9 = .ok (.invokevirtual 51, 3) := by decide +kernel
theorem d_BD_half_12 : decode b_BD_half 12 = .ok (.astore 5, 2) := by decide +kernel
theorem d_BD_half_14 : decode b_BD_half 14 = .ok (.iload_n 3, 1) := by decide +kernel
theorem d_BD_half_15 : decode b_BD_half 15 = .ok (.invokestatic 76, 3) := by decide +kernel
theorem d_BD_half_18 : decode b_BD_half 18 = .ok (.aload_n 0, 1) := by decide +kernel
theorem d_BD_half_19 : decode b_BD_half 19 = .ok (.getfield 16, 3) := by decide +kernel
theorem d_BD_half_22 : decode b_BD_half 22 = .ok (.aload 5, 2) := by decide +kernel
theorem d_BD_half_24 : decode b_BD_half 24 = .ok (.iload_n 3, 1) := by decide +kernel
theorem d_BD_half_25 : decode b_BD_half 25 = .ok (.invokevirtual 103, 3) := by decide +kernel
theorem d_BD_half_28 : decode b_BD_half 28 = .ok (.aload 5, 2) := by decide +kernel
theorem d_BD_half_30 : decode b_BD_half 30 = .ok (.getfield 95, 3) := by decide +kernel
theorem d_BD_half_33 : decode b_BD_half 33 = .ok (.ifCond .eq 19, 3) := by decide +kernel
theorem d_BD_half_36 : decode b_BD_half 36 = .ok (.aload 5, 2) := by decide +kernel
theorem d_BD_half_38 : decode b_BD_half 38 = .ok (.invokevirtual 106, 3) := by decide +kernel
theorem d_BD_half_41 : decode b_BD_half 41 = .ok (.iload_n 3, 1) := by decide +kernel
theorem d_BD_half_42 : decode b_BD_half 42 = .ok (.if_icmp .ge 10, 3) := by decide +kernel
theorem d_BD_half_45 : decode b_BD_half 45 = .ok (.aload_n 0, 1) := by decide +kernel
theorem d_BD_half_46 : decode b_BD_half 46 = .ok (.getfield 16, 3) := by decide +kernel
theorem d_BD_half_49 : decode b_BD_half 49 = .ok (.invokevirtual 109, 3) := by decide +kernel
theorem d_BD_half_52 : decode b_BD_half 52 = .ok (.aload_n 0, 1) := by decide +kernel
theorem d_BD_half_53 : decode b_BD_half 53 = .ok (.getfield 16, 3) := by decide +kernel
theorem d_BD_half_56 : decode b_BD_half 56 = .ok (.aload 5, 2) := by decide +kernel
theorem d_BD_half_58 : decode b_BD_half 58 = .ok (.getfield 95, 3) := by decide +kernel
theorem d_BD_half_61 : decode b_BD_half 61 = .ok (.invokevirtual 99, 3) := by decide +kernel
theorem d_BD_half_64 : decode b_BD_half 64 = .ok (.aload 4, 2) := by decide +kernel
theorem d_BD_half_66 : decode b_BD_half 66 = .ok (.aload_n 0, 1) := by decide +kernel
theorem d_BD_half_67 : decode b_BD_half 67 = .ok (.getfield 16, 3) := by decide +kernel
theorem d_BD_half_70 : decode b_BD_half 70 = .ok (.invokevirtual 59, 3) := by decide +kernel
theorem d_BD_half_73 : decode b_BD_half 73 = .ok (.return_, 1) := by decide +kernel
theorem d_BD_divide_0 : decode b_BD_divide 0 = .ok (.aload_n 0, 1) := by decide +kernel
theorem d_BD_divide_1 : decode b_BD_divide 1 = .ok (.iload_n 1, 1) := by decide +kernel
theorem d_BD_divide_2 : decode b_BD_divide 2 = .ok (.invokevirtual 51, 3) := by decide +kernel
theorem d_BD_divide_5 : decode b_BD_divide 5 = .ok (.astore 5, 2) := by decide +kernel
theorem d_BD_divide_7 : decode b_BD_divide 7 = .ok (.aload_n 0, 1) := by decide +kernel
theorem d_BD_divide_8 : decode b_BD_divide 8 = .ok (.iload_n 2, 1) := by decide +kernel
theorem d_BD_divide_9 : decode b_BD_divide 9 = .ok (.invokevirtual 51, 3) := by decide +kernel
theorem d_BD_divide_12 : decode b_BD_divide 12 = .ok (.astore 6, 2) := by decide +kernel
theorem d_BD_divide_14 : decode b_BD_divide 14 = .ok (.aload_n 0, 1) := by decide +kernel
theorem d_BD_divide_15 : decode b_BD_divide 15 = .ok (.iload_n 3, 1) := by decide +kernel
theorem d_BD_divide_16 : decode b_BD_divide 16 = .ok (.invokevirtual 51, 3) := by decide +kernel
theorem d_BD_divide_19 : decode b_BD_divide 19 = .ok (.astore 7, 2) := by decide +kernel
theorem d_BD_divide_21 : decode b_BD_divide 21 = .ok (.aload_n 0, 1) := by decide +kernel
theorem d_BD_divide_22 : decode b_BD_divide 22 = .ok (.iload 4, 2) := by decide +kernel
theorem d_BD_divide_24 : decode b_BD_divide 24 = .ok (.invokevirtual 51, 3) := by decide +kernel
theorem d_BD_divide_27 : decode b_BD_divide 27 = .ok (.astore 8, 2) := by decide +kernel
theorem d_BD_divide_29 : decode b_BD_divide 29 = .ok (.iload_n 1, 1) := by decide +kernel
theorem d_BD_divide_30 : decode b_BD_divide 30 = .ok (.iload_n 2, 1) := by decide +kernel
theorem d_BD_divide_31 : decode b_BD_divide 31 = .ok (.if_icmp .ne 13, 3) := by decide +kernel
theorem d_BD_divide_34 : decode b_BD_divide 34 = .ok (.new 112, 3) := by decide +kernel
theorem d_BD_divide_37 : decode b_BD_divide 37 = .ok (.dup, 1) := by decide +kernel
theorem d_BD_divide_38 : decode b_BD_divide 38 = .ok (.ldc 114, 2) := by decide +kernel
theorem d_BD_divide_40 : decode b_BD_divide 40 = .ok (.invokespecial 116, 3) := by decide +kernel
theorem d_BD_divide_43 : decode b_BD_divide 43 = .ok (.athrow, 1) := by decide +kernel
theorem d_BD_divide_44 : decode b_BD_divide 44 = .ok (.aload 8, 2) := by decide +kernel
theorem d_BD_divide_46 : decode b_BD_divide 46 = .ok (.getfield 117, 3) := by decide +kernel
theorem d_BD_divide_49 : decode b_BD_divide 49 = .ok (.ifCond .ne 13, 3) := by decide +kernel
theorem d_BD_divide_52 : decode b_BD_divide 52 = .ok (.new 120, 3) := by decide +kernel
theorem d_BD_divide_55 : decode b_BD_divide 55 = .ok (.dup, 1) := by decide +kernel
theorem d_BD_divide_56 : decode b_BD_divide 56 = .ok (.ldc 122, 2) := by decide +kernel
theorem d_BD_divide_58 : decode b_BD_divide 58 = .ok (.invokespecial 124, 3) := by decide +kernel
theorem d_BD_divide_61 : decode b_BD_divide 61 = .ok (.athrow, 1) := by decide +kernel
theorem d_BD_divide_62 : decode b_BD_divide 62 = .ok (.aload_n 0, 1) := by decide +kernel
theorem d_BD_divide_63 : decode b_BD_divide 63 = .ok (.getfield 26, 3) := by decide +kernel
theorem d_BD_divide_66 : decode b_BD_divide 66 = .ok (.aload 7, 2) := by decide +kernel
theorem d_BD_divide_68 : decode b_BD_divide 68 = .ok (.aload 8, 2) := by decide +kernel
theorem d_BD_divide_70 : decode b_BD_divide 70 = .ok (.invokevirtual 125, 3) := by decide +kernel
theorem d_BD_divide_73 : decode b_BD_divide 73 = .ok (.aload 5, 2) := by decide +kernel
theorem d_BD_divide_75 : decode b_BD_divide 75 = .ok (.aload_n 0, 1) := by decide +kernel
theorem d_BD_divide_76 : decode b_BD_divide 76 = .ok (.getfield 26, 3) := by decide +kernel
theorem d_BD_divide_79 : decode b_BD_divide 79 = .ok (.getfield 129, 3) := by decide +kernel
theorem d_BD_divide_82 : decode b_BD_divide 82 = .ok (.invokevirtual 59, 3) := by decide +kernel
theorem d_BD_divide_85 : decode b_BD_divide 85 = .ok (.aload 6, 2) := by decide +kernel
theorem d_BD_divide_87 : decode b_BD_divide 87 = .ok (.aload_n 0, 1) := by decide +kernel
theorem d_BD_divide_88 : decode b_BD_divide 88 = .ok (.getfield 26, 3) := by decide +kernel
theorem d_BD_divide_91 : decode b_BD_divide 91 = .ok (.getfield 132, 3) := by decide +kernel
theorem d_BD_divide_94 : decode b_BD_divide 94 = .ok (.invokevirtual 59, 3) := by decide +kernel
theorem d_BD_divide_97 : decode b_BD_divide 97 = .ok (.return_, 1) := by decide +kernel
theorem d_BD_gcd_0 : decode b_BD_gcd 0 = .ok (.aload_n 0, 1) := by decide +kernel
theorem d_BD_gcd_1 : decode b_BD_gcd 1 = .ok (.iload_n 1, 1) := by decide +kernel
theorem d_BD_gcd_2 : decode b_BD_gcd 2 = .ok (.invokevirtual 51, 3) := by decide +kernel
theorem d_BD_gcd_5 : decode b_BD_gcd 5 = .ok (.astore 4, 2) := by decide +kernel
theorem d_BD_gcd_7 : decode b_BD_gcd 7 = .ok (.aload 4, 2) := by decide +kernel
theorem d_BD_gcd_9 : decode b_BD_gcd 9 = .ok (.aload_n 0, 1) := by decide +kernel
theorem d_BD_gcd_10 : decode b_BD_gcd 10 = .ok (.getfield 33, 3) := by decide +kernel
theorem d_BD_gcd_13 : decode b_BD_gcd 13 = .ok (.aload_n 0, 1) := by decide +kernel
theorem d_BD_gcd_14 : decode b_BD_gcd 14 = .ok (.iload_n 2, 1) := by decide +kernel
theorem d_BD_gcd_15 : decode b_BD_gcd 15 = .ok (.invokevirtual 51, 3) := by decide +kernel
theorem d_BD_gcd_18 : decode b_BD_gcd 18 = .ok (.aload_n 0, 1) := by decide +kernel
theorem d_BD_gcd_19 : decode b_BD_gcd 19 = .ok (.iload_n 3, 1) := by decide +kernel
theorem d_BD_gcd_20 : decode b_BD_gcd 20 = .ok (.invokevirtual 51, 3) := by decide +kernel
theorem d_BD_gcd_23 : decode b_BD_gcd 23 = .ok (.aload_n 0, 1) := by decide +kernel
theorem d_BD_gcd_24 : decode b_BD_gcd 24 = .ok (.getfield 26, 3) := by decide +kernel
theorem d_BD_gcd_27 : decode b_BD_gcd 27 = .ok (.invokevirtual 135, 3) := by decide +kernel
theorem d_BD_gcd_30 : decode b_BD_gcd 30 = .ok (.invokevirtual 59, 3) := by decide +kernel
theorem d_BD_gcd_33 : decode b_BD_gcd 33 = .ok (.return_, 1) := by decide +kernel
theorem d_BD_negate_0 : decode b_BD_negate 0 = .ok (.aload_n 0, 1) := by decide +kernel
theorem d_BD_negate_1 : decode b_BD_negate 1 = .ok (.iload_n 1, 1) := by decide +kernel
theorem d_BD_negate_2 : decode b_BD_negate 2 = .ok (.invokevirtual 51, 3) := by decide +kernel
theorem d_BD_negate_5 : decode b_BD_negate 5 = .ok (.astore_n 3, 1) := by decide +kernel
theorem d_BD_negate_6 : decode b_BD_negate 6 = .ok (.aload_n 0, 1) := by decide +kernel
theorem d_BD_negate_7 : decode b_BD_negate 7 = .ok (.iload_n 2, 1) := by decide +kernel
theorem d_BD_negate_8 : decode b_BD_negate 8 = .ok (.invokevirtual 51, 3) := by decide +kernel
theorem d_BD_negate_11 : decode b_BD_negate 11 = .ok (.astore 4, 2) := by decide +kernel
theorem d_BD_negate_13 : decode b_BD_negate 13 = .ok (.aload 4, 2) := by decide +kernel
theorem d_BD_negate_15 : decode b_BD_negate 15 = .ok (.getfield 95, 3) := by decide +kernel
theorem d_BD_negate_18 : decode b_BD_negate 18 = .ok (.ifCond .ne 7, 3) := by decide +kernel
theorem d_BD_negate_21 : decode b_BD_negate 21 = .ok (.iconst 1, 1) := by decide +kernel
theorem d_BD_negate_22 : decode b_BD_negate 22 = .ok (.goto 4, 3) := by decide +kernel
theorem d_BD_negate_25 : decode b_BD_negate 25 = .ok (.iconst 0, 1) := by decide +kernel
theorem d_BD_negate_26 : decode b_BD_negate 26 = .ok (.istore 5, 2) := by decide +kernel
theorem d_BD_negate_28 : decode b_BD_negate 28 = .ok (.aload_n 3, 1) := by decide +kernel
theorem d_BD_negate_29 : decode b_BD_negate 29 = .ok (.aload 4, 2) := by decide +kernel
theorem d_BD_negate_31 : decode b_BD_negate 31 = .ok (.invokevirtual 59, 3) := by decide +kernel
theorem d_BD_negate_34 : decode b_BD_negate 34 = .ok (.aload_n 3, 1) := by decide +kernel
theorem d_BD_negate_35 : decode b_BD_negate 35 = .ok (.iload 5, 2) := by decide +kernel
theorem d_BD_negate_37 : decode b_BD_negate 37 = .ok (.invokevirtual 99, 3) := by decide +kernel
theorem d_BD_negate_40 : decode b_BD_negate 40 = .ok (.return_, 1) := by decide +kernel
theorem d_BD_compare_0 : decode b_BD_compare 0 = .ok (.aload_n 0, 1) := by decide +kernel
theorem d_BD_compare_1 : decode b_BD_compare 1 = .ok (.iload_n 1, 1) := by decide +kernel
theorem d_BD_compare_2 : decode b_BD_compare 2 = .ok (.invokevirtual 51, 3) := by decide +kernel
theorem d_BD_compare_5 : decode b_BD_compare 5 = .ok (.astore_n 3, 1) := by decide +kernel
theorem d_BD_compare_6 : decode b_BD_compare 6 = .ok (.aload_n 0, 1) := by decide +kernel
theorem d_BD_compare_7 : decode b_BD_compare 7 = .ok (.iload_n 2, 1) := by decide +kernel
theorem d_BD_compare_8 : decode b_BD_compare 8 = .ok (.invokevirtual 51, 3) := by decide +kernel
theorem d_BD_compare_11 : decode b_BD_compare 11 = .ok (.astore 4, 2) := by decide +kernel
theorem d_BD_compare_13 : decode b_BD_compare 13 = .ok (.aload_n 3, 1) := by decide +kernel
theorem d_BD_compare_14 : decode b_BD_compare 14 = .ok (.getfield 95, 3) := by decide +kernel
theorem d_BD_compare_17 : decode b_BD_compare 17 = .ok (.aload 4, 2) := by decide +kernel
theorem d_BD_compare_19 : decode b_BD_compare 19 = .ok (.getfield 95, 3) := by decide +kernel
theorem d_BD_compare_22 : decode b_BD_compare 22 = .ok (.if_icmp .eq 16, 3) := by decide +kernel
theorem d_BD_compare_25 : decode b_BD_compare 25 = .ok (.aload_n 3, 1) := by decide +kernel
theorem d_BD_compare_26 : decode b_BD_compare 26 = .ok (.getfield 95, 3) := by decide +kernel
theorem d_BD_compare_29 : decode b_BD_compare 29 = .ok (.ifCond .eq 7, 3) := by decide +kernel
theorem d_BD_compare_32 : decode b_BD_compare 32 = .ok (.iconst (-1), 1) := by decide +kernel
theorem d_BD_compare_33 : decode b_BD_compare 33 = .ok (.goto 4, 3) := by decide +kernel
theorem d_BD_compare_36 : decode b_BD_compare 36 = .ok (.iconst 1, 1) := by decide +kernel
theorem d_BD_compare_37 : decode b_BD_compare 37 = .ok (.ireturn, 1) := by decide +kernel
theorem d_BD_compare_38 : decode b_BD_compare 38 = .ok (.aload_n 3, 1) := by decide +kernel
theorem d_BD_compare_39 : decode b_BD_compare 39 = .ok (.aload 4, 2) := by decide +kernel
theorem d_BD_compare_41 : decode b_BD_compare 41 = .ok (.invokestatic 139, 3) := by decide +kernel
theorem d_BD_compare_44 : decode b_BD_compare 44 = .ok (.istore 5, 2) := by decide +kernel
theorem d_BD_compare_46 : decode b_BD_compare 46 = .ok (.aload_n 3, 1) := by decide +kernel
theorem d_BD_compare_47 : decode b_BD_compare 47 = .ok (.getfield 95, 3) := by decide +kernel
theorem d_BD_compare_50 : decode b_BD_compare 50 = .ok (.ifCond .eq 9, 3) := by decide +kernel
theorem d_BD_compare_53 : decode b_BD_compare 53 = .ok (.iload 5, 2) := by decide +kernel
theorem d_BD_compare_55 : decode b_BD_compare 55 = .ok (.ineg, 1) := by decide +kernel
theorem d_BD_compare_56 : decode b_BD_compare 56 = .ok (.goto 5, 3) := by decide +kernel
theorem d_BD_compare_59 : decode b_BD_compare 59 = .ok (.iload 5, 2) := by decide +kernel
theorem d_BD_compare_61 : decode b_BD_compare 61 = .ok (.ireturn, 1) := by decide +kernel
theorem d_BD_rest_0 : decode b_BD_rest 0 = .ok (.aload_n 0, 1) := by decide +kernel
theorem d_BD_rest_1 : decode b_BD_rest 1 = .ok (.iload_n 1, 1) := by decide +kernel
theorem d_BD_rest_2 : decode b_BD_rest 2 = .ok (.invokevirtual 51, 3) := by decide +kernel
theorem d_BD_rest_5 : decode b_BD_rest 5 = .ok (.astore 4, 2) := by decide +kernel
theorem d_BD_rest_7 : decode b_BD_rest 7 = .ok (.lload_n 2, 1) := by decide +kernel
theorem d_BD_rest_8 : decode b_BD_rest 8 = .ok (.lconst 1, 1) := by decide +kernel
theorem d_BD_rest_9 : decode b_BD_rest 9 = .ok (.lcmp, 1) := by decide +kernel
theorem d_BD_rest_10 : decode b_BD_rest 10 = .ok (.ifCond .ge 13, 3) := by decide +kernel
theorem d_BD_rest_13 : decode b_BD_rest 13 = .ok (.new 112, 3) := by decide +kernel
theorem d_BD_rest_16 : decode b_BD_rest 16 = .ok (.dup, 1) := by decide +kernel
theorem d_BD_rest_17 : decode b_BD_rest 17 = .ok (.ldc 143, 2) := by decide +kernel
theorem d_BD_rest_19 : decode b_BD_rest 19 = .ok (.invokespecial 116, 3) := by decide +kernel
theorem d_BD_rest_22 : decode b_BD_rest 22 = .ok (.athrow, 1) := by decide +kernel
theorem d_BD_rest_23 : decode b_BD_rest 23 = .ok (.aload_n 0, 1) := by decide +kernel
theorem d_BD_rest_24 : decode b_BD_rest 24 = .ok (.getfield 20, 3) := by decide +kernel
theorem d_BD_rest_27 : decode b_BD_rest 27 = .ok (.lload_n 2, 1) := by decide +kernel
theorem d_BD_rest_28 : decode b_BD_rest 28 = .ok (.invokevirtual 55, 3) := by decide +kernel
theorem d_BD_rest_31 : decode b_BD_rest 31 = .ok (.aload_n 0, 1) := by decide +kernel
theorem d_BD_rest_32 : decode b_BD_rest 32 = .ok (.getfield 26, 3) := by decide +kernel
theorem d_BD_rest_35 : decode b_BD_rest 35 = .ok (.aload 4, 2) := by decide +kernel
theorem d_BD_rest_37 : decode b_BD_rest 37 = .ok (.aload_n 0, 1) := by decide +kernel
theorem d_BD_rest_38 : decode b_BD_rest 38 = .ok (.getfield 20, 3) := by decide +kernel
theorem d_BD_rest_41 : decode b_BD_rest 41 = .ok (.invokevirtual 125, 3) := by decide +kernel
theorem d_BD_rest_44 : decode b_BD_rest 44 = .ok (.aload_n 0, 1) := by decide +kernel
theorem d_BD_rest_45 : decode b_BD_rest 45 = .ok (.getfield 26, 3) := by decide +kernel
theorem d_BD_rest_48 : decode b_BD_rest 48 = .ok (.getfield 132, 3) := by decide +kernel
theorem d_BD_rest_51 : decode b_BD_rest 51 = .ok (.invokevirtual 145, 3) := by decide +kernel
theorem d_BD_rest_54 : decode b_BD_rest 54 = .ok (.lreturn, 1) := by decide +kernel
theorem d_BD_value_0 : decode b_BD_value 0 = .ok (.aload_n 0, 1) := by decide +kernel
theorem d_BD_value_1 : decode b_BD_value 1 = .ok (.iload_n 1, 1) := by decide +kernel
theorem d_BD_value_2 : decode b_BD_value 2 = .ok (.invokevirtual 51, 3) := by decide +kernel
theorem d_BD_value_5 : decode b_BD_value 5 = .ok (.astore_n 2, 1) := by decide +kernel
theorem d_BD_value_6 : decode b_BD_value 6 = .ok (.aload_n 2, 1) := by decide +kernel
theorem d_BD_value_7 : decode b_BD_value 7 = .ok (.invokevirtual 149, 3) := by decide +kernel
theorem d_BD_value_10 : decode b_BD_value 10 = .ok (.ifCond .ne 13, 3) := by decide +kernel
theorem d_BD_value_13 : decode b_BD_value 13 = .ok (.new 84, 3) := by decide +kernel
theorem d_BD_value_16 : decode b_BD_value 16 = .ok (.dup, 1) := by decide +kernel
theorem d_BD_value_17 : decode b_BD_value 17 = .ok (.ldc 153, 2) := by decide +kernel
theorem d_BD_value_19 : decode b_BD_value 19 = .ok (.invokespecial 88, 3) := by decide +kernel
theorem d_BD_value_22 : decode b_BD_value 22 = .ok (.athrow, 1) := by decide +kernel
theorem d_BD_value_23 : decode b_BD_value 23 = .ok (.aload_n 2, 1) := by decide +kernel
theorem d_BD_value_24 : decode b_BD_value 24 = .ok (.invokevirtual 145, 3) := by decide +kernel
theorem d_BD_value_27 : decode b_BD_value 27 = .ok (.lreturn, 1) := by decide +kernel
theorem d_BD_limb_0 : decode b_BD_limb 0 = .ok (.aload_n 0, 1) := by decide +kernel
theorem d_BD_limb_1 : decode b_BD_limb 1 = .ok (.iload_n 1, 1) := by decide +kernel
theorem d_BD_limb_2 : decode b_BD_limb 2 = .ok (.invokevirtual 51, 3) := by decide +kernel
theorem d_BD_limb_5 : decode b_BD_limb 5 = .ok (.astore_n 3, 1) := by decide +kernel
theorem d_BD_limb_6 : decode b_BD_limb 6 = .ok (.iload_n 2, 1) := by decide +kernel
theorem d_BD_limb_7 : decode b_BD_limb 7 = .ok (.ifCond .lt 10, 3) := by decide +kernel
theorem d_BD_limb_10 : decode b_BD_limb 10 = .ok (.iload_n 2, 1) := by decide +kernel
theorem d_BD_limb_11 : decode b_BD_limb 11 = .ok (.sipush 255, 3) := by decide +kernel
theorem d_BD_limb_14 : decode b_BD_limb 14 = .ok (.if_icmp .le 13, 3) := by decide +kernel
theorem d_BD_limb_17 : decode b_BD_limb 17 = .ok (.new 112, 3) := by decide +kernel
theorem d_BD_limb_20 : decode b_BD_limb 20 = .ok (.dup, 1) := by decide +kernel
theorem d_BD_limb_21 : decode b_BD_limb 21 = .ok (.ldc 155, 2) := by decide +kernel
theorem d_BD_limb_23 : decode b_BD_limb 23 = .ok (.invokespecial 116, 3) := by decide +kernel
theorem d_BD_limb_26 : decode b_BD_limb 26 = .ok (.athrow, 1) := by decide +kernel
theorem d_BD_limb_27 : decode b_BD_limb 27 = .ok (.aload_n 3, 1) := by decide +kernel
theorem d_BD_limb_28 : decode b_BD_limb 28 = .ok (.iload_n 2, 1) := by decide +kernel
theorem d_BD_limb_29 : decode b_BD_limb 29 = .ok (.invokevirtual 157, 3) := by decide +kernel
theorem d_BD_limb_32 : decode b_BD_limb 32 = .ok (.lreturn, 1) := by decide +kernel
theorem d_BD_look_0 : decode b_BD_look 0 = .ok (.aload_n 0, 1) := by decide +kernel
theorem d_BD_look_1 : decode b_BD_look 1 = .ok (.iload_n 1, 1) := by decide +kernel
theorem d_BD_look_2 : decode b_BD_look 2 = .ok (.invokevirtual 51, 3) := by decide +kernel
theorem d_BD_look_5 : decode b_BD_look 5 = .ok (.astore_n 3, 1) := by decide +kernel
theorem d_BD_look_6 : decode b_BD_look 6 = .ok (.iload_n 2, 1) := by decide +kernel
theorem d_BD_look_7 : decode b_BD_look 7 = .ok (.tableswitch 76 0 3 #[29, 53, 58, 71], 29) := by decide +kernel
theorem d_BD_look_36 : decode b_BD_look 36 = .ok (.aload_n 3, 1) := by decide +kernel
theorem d_BD_look_37 : decode b_BD_look 37 = .ok (.getfield 95, 3) := by decide +kernel
theorem d_BD_look_40 : decode b_BD_look 40 = .ok (.ifCond .eq 7, 3) := by decide +kernel
theorem d_BD_look_43 : decode b_BD_look 43 = .ok (.iconst (-1), 1) := by decide +kernel
theorem d_BD_look_44 : decode b_BD_look 44 = .ok (.goto 15, 3) := by decide +kernel
theorem d_BD_look_47 : decode b_BD_look 47 = .ok (.aload_n 3, 1) := by decide +kernel
theorem d_BD_look_48 : decode b_BD_look 48 = .ok (.getfield 117, 3) := by decide +kernel
theorem d_BD_look_51 : decode b_BD_look 51 = .ok (.ifCond .le 7, 3) := by decide +kernel
theorem d_BD_look_54 : decode b_BD_look 54 = .ok (.iconst 1, 1) := by decide +kernel
theorem d_BD_look_55 : decode b_BD_look 55 = .ok (.goto 4, 3) := by decide +kernel
theorem d_BD_look_58 : decode b_BD_look 58 = .ok (.iconst 0, 1) := by decide +kernel
theorem d_BD_look_59 : decode b_BD_look 59 = .ok (.ireturn, 1) := by decide +kernel
theorem d_BD_look_60 : decode b_BD_look 60 = .ok (.aload_n 3, 1) := by decide +kernel
theorem d_BD_look_61 : decode b_BD_look 61 = .ok (.invokevirtual 80, 3) := by decide +kernel
theorem d_BD_look_64 : decode b_BD_look 64 = .ok (.ireturn, 1) := by decide +kernel
theorem d_BD_look_65 : decode b_BD_look 65 = .ok (.aload_n 3, 1) := by decide +kernel
theorem d_BD_look_66 : decode b_BD_look 66 = .ok (.invokevirtual 149, 3) := by decide +kernel
theorem d_BD_look_69 : decode b_BD_look 69 = .ok (.ifCond .eq 7, 3) := by decide +kernel
theorem d_BD_look_72 : decode b_BD_look 72 = .ok (.iconst 1, 1) := by decide +kernel
theorem d_BD_look_73 : decode b_BD_look 73 = .ok (.goto 4, 3) := by decide +kernel
theorem d_BD_look_76 : decode b_BD_look 76 = .ok (.iconst 0, 1) := by decide +kernel
theorem d_BD_look_77 : decode b_BD_look 77 = .ok (.ireturn, 1) := by decide +kernel
theorem d_BD_look_78 : decode b_BD_look 78 = .ok (.aload_n 3, 1) := by decide +kernel
theorem d_BD_look_79 : decode b_BD_look 79 = .ok (.invokevirtual 106, 3) := by decide +kernel
theorem d_BD_look_82 : decode b_BD_look 82 = .ok (.ireturn, 1) := by decide +kernel
theorem d_BD_look_83 : decode b_BD_look 83 = .ok (.new 112, 3) := by decide +kernel
theorem d_BD_look_86 : decode b_BD_look 86 = .ok (.dup, 1) := by decide +kernel
theorem d_BD_look_87 : decode b_BD_look 87 = .ok (.ldc 161, 2) := by decide +kernel
theorem d_BD_look_89 : decode b_BD_look 89 = .ok (.invokespecial 116, 3) := by decide +kernel
theorem d_BD_look_92 : decode b_BD_look 92 = .ok (.athrow, 1) := by decide +kernel
theorem d_BD_feed_0 : decode b_BD_feed 0 = .ok (.iload_n 1, 1) := by decide +kernel
theorem d_BD_feed_1 : decode b_BD_feed 1 = .ok (.iconst 1, 1) := by decide +kernel
theorem d_BD_feed_2 : decode b_BD_feed 2 = .ok (.if_icmp .lt 9, 3) := by decide +kernel
theorem d_BD_feed_5 : decode b_BD_feed 5 = .ok (.iload_n 1, 1) := by decide +kernel
theorem d_BD_feed_6 : decode b_BD_feed 6 = .ok (.bipush 8, 2) := by decide +kernel
theorem d_BD_feed_8 : decode b_BD_feed 8 = .ok (.if_icmp .le 13, 3) := by decide +kernel
theorem d_BD_feed_11 : decode b_BD_feed 11 = .ok (.new 112, 3) := by decide +kernel
theorem d_BD_feed_14 : decode b_BD_feed 14 = .ok (.dup, 1) := by decide +kernel
theorem d_BD_feed_15 : decode b_BD_feed 15 = .ok (.ldc 163, 2) := by decide +kernel
theorem d_BD_feed_17 : decode b_BD_feed 17 = .ok (.invokespecial 116, 3) := by decide +kernel
theorem d_BD_feed_20 : decode b_BD_feed 20 = .ok (.athrow, 1) := by decide +kernel
theorem d_BD_feed_21 : decode b_BD_feed 21 = .ok (.aload_n 0, 1) := by decide +kernel
theorem d_BD_feed_22 : decode b_BD_feed 22 = .ok (.getfield 41, 3) := by decide +kernel
theorem d_BD_feed_25 : decode b_BD_feed 25 = .ok (.iload_n 1, 1) := by decide +kernel
theorem d_BD_feed_26 : decode b_BD_feed 26 = .ok (.iadd, 1) := by decide +kernel
theorem d_BD_feed_27 : decode b_BD_feed 27 = .ok (.sipush 2600, 3) := by decide +kernel
theorem d_BD_feed_30 : decode b_BD_feed 30 = .ok (.if_icmp .le 13, 3) := by decide +kernel
theorem d_BD_feed_33 : decode b_BD_feed 33 = .ok (.new 84, 3) := by decide +kernel
theorem d_BD_feed_36 : decode b_BD_feed 36 = .ok (.dup, 1) := by decide +kernel
theorem d_BD_feed_37 : decode b_BD_feed 37 = .ok (.ldc 165, 2) := by decide +kernel
theorem d_BD_feed_39 : decode b_BD_feed 39 = .ok (.invokespecial 88, 3) := by decide +kernel
theorem d_BD_feed_42 : decode b_BD_feed 42 = .ok (.athrow, 1) := by decide +kernel
theorem d_BD_feed_43 : decode b_BD_feed 43 = .ok (.iconst 0, 1) := by decide +kernel
theorem d_BD_feed_44 : decode b_BD_feed 44 = .ok (.istore 4, 2) := by decide +kernel
theorem d_BD_feed_46 : decode b_BD_feed 46 = .ok (.iload 4, 2) := by decide +kernel
theorem d_BD_feed_48 : decode b_BD_feed 48 = .ok (.iload_n 1, 1) := by decide +kernel
theorem d_BD_feed_49 : decode b_BD_feed 49 = .ok (.if_icmp .ge 30, 3) := by decide +kernel
theorem d_BD_feed_52 : decode b_BD_feed 52 = .ok (.aload_n 0, 1) := by decide +kernel
theorem d_BD_feed_53 : decode b_BD_feed 53 = .ok (.getfield 37, 3) := by decide +kernel
theorem d_BD_feed_56 : decode b_BD_feed 56 = .ok (.aload_n 0, 1) := by decide +kernel
theorem d_BD_feed_57 : decode b_BD_feed 57 = .ok (.getfield 41, 3) := by decide +kernel
theorem d_BD_feed_60 : decode b_BD_feed 60 = .ok (.iload 4, 2) := by decide +kernel
theorem d_BD_feed_62 : decode b_BD_feed 62 = .ok (.iadd, 1) := by decide +kernel
theorem d_BD_feed_63 : decode b_BD_feed 63 = .ok (.lload_n 2, 1) := by decide +kernel
theorem d_BD_feed_64 : decode b_BD_feed 64 = .ok (.bipush 8, 2) := by decide +kernel
theorem d_BD_feed_66 : decode b_BD_feed 66 = .ok (.iload 4, 2) := by decide +kernel
theorem d_BD_feed_68 : decode b_BD_feed 68 = .ok (.imul, 1) := by decide +kernel
theorem d_BD_feed_69 : decode b_BD_feed 69 = .ok (.lushr, 1) := by decide +kernel
theorem d_BD_feed_70 : decode b_BD_feed 70 = .ok (.l2i, 1) := by decide +kernel
theorem d_BD_feed_71 : decode b_BD_feed 71 = .ok (.i2b, 1) := by decide +kernel
theorem d_BD_feed_72 : decode b_BD_feed 72 = .ok (.bastore, 1) := by decide +kernel
theorem d_BD_feed_73 : decode b_BD_feed 73 = .ok (.iinc 4 1, 3) := by decide +kernel
theorem d_BD_feed_76 : decode b_BD_feed 76 = .ok (.goto (-30), 3) := by decide +kernel
theorem d_BD_feed_79 : decode b_BD_feed 79 = .ok (.aload_n 0, 1) := by decide +kernel
theorem d_BD_feed_80 : decode b_BD_feed 80 = .ok (.dup, 1) := by decide +kernel
theorem d_BD_feed_81 : decode b_BD_feed 81 = .ok (.getfield 41, 3) := by decide +kernel
theorem d_BD_feed_84 : decode b_BD_feed 84 = .ok (.iload_n 1, 1) := by decide +kernel
theorem d_BD_feed_85 : decode b_BD_feed 85 = .ok (.iadd, 1) := by decide +kernel
theorem d_BD_feed_86 : decode b_BD_feed 86 = .ok (.putfield 41, 3) := by decide +kernel
theorem d_BD_feed_89 : decode b_BD_feed 89 = .ok (.aload_n 0, 1) := by decide +kernel
theorem d_BD_feed_90 : decode b_BD_feed 90 = .ok (.getfield 41, 3) := by decide +kernel
theorem d_BD_feed_93 : decode b_BD_feed 93 = .ok (.ireturn, 1) := by decide +kernel
theorem d_BD_read_0 : decode b_BD_read 0 = .ok (.aload_n 0, 1) := by decide +kernel
theorem d_BD_read_1 : decode b_BD_read 1 = .ok (.iload_n 1, 1) := by decide +kernel
theorem d_BD_read_2 : decode b_BD_read 2 = .ok (.invokevirtual 51, 3) := by decide +kernel
theorem d_BD_read_5 : decode b_BD_read 5 = .ok (.astore_n 2, 1) := by decide +kernel
theorem d_BD_read_6 : decode b_BD_read 6 = .ok (.aload_n 0, 1) := by decide +kernel
theorem d_BD_read_7 : decode b_BD_read 7 = .ok (.getfield 41, 3) := by decide +kernel
theorem d_BD_read_10 : decode b_BD_read 10 = .ok (.istore_n 3, 1) := by decide +kernel
theorem d_BD_read_11 : decode b_BD_read 11 = .ok (.aload_n 0, 1) := by decide +kernel
theorem d_BD_read_12 : decode b_BD_read 12 = .ok (.iconst 0, 1) := by decide +kernel
theorem d_BD_read_13 : decode b_BD_read 13 = .ok (.putfield 41, 3) := by decide +kernel
theorem d_BD_read_16 : decode b_BD_read 16 = .ok (.aload_n 0, 1) := by decide +kernel
theorem d_BD_read_17 : decode b_BD_read 17 = .ok (.getfield 16, 3) := by decide +kernel
theorem d_BD_read_20 : decode b_BD_read 20 = .ok (.aload_n 0, 1) := by decide +kernel
theorem d_BD_read_21 : decode b_BD_read 21 = .ok (.getfield 37, 3) := by decide +kernel
theorem d_BD_read_24 : decode b_BD_read 24 = .ok (.iload_n 3, 1) := by decide +kernel
theorem d_BD_read_25 : decode b_BD_read 25 = .ok (.invokestatic 167, 3) := by decide +kernel
theorem d_BD_read_28 : decode b_BD_read 28 = .ok (.ifCond .eq 16, 3) := by decide +kernel
theorem d_BD_read_31 : decode b_BD_read 31 = .ok (.aload_n 0, 1) := by decide +kernel
theorem d_BD_read_32 : decode b_BD_read 32 = .ok (.getfield 16, 3) := by decide +kernel
theorem d_BD_read_35 : decode b_BD_read 35 = .ok (.invokevirtual 80, 3) := by decide +kernel
theorem d_BD_read_38 : decode b_BD_read 38 = .ok (.sipush 8192, 3) := by decide +kernel
theorem d_BD_read_41 : decode b_BD_read 41 = .ok (.if_icmp .le 5, 3) := by decide +kernel
theorem d_BD_read_44 : decode b_BD_read 44 = .ok (.iconst 0, 1) := by decide +kernel
theorem d_BD_read_45 : decode b_BD_read 45 = .ok (.ireturn, 1) := by decide +kernel
theorem d_BD_read_46 : decode b_BD_read 46 = .ok (.aload_n 2, 1) := by decide +kernel
theorem d_BD_read_47 : decode b_BD_read 47 = .ok (.aload_n 0, 1) := by decide +kernel
theorem d_BD_read_48 : decode b_BD_read 48 = .ok (.getfield 16, 3) := by decide +kernel
theorem d_BD_read_51 : decode b_BD_read 51 = .ok (.invokevirtual 59, 3) := by decide +kernel
theorem d_BD_read_54 : decode b_BD_read 54 = .ok (.iconst 1, 1) := by decide +kernel
theorem d_BD_read_55 : decode b_BD_read 55 = .ok (.ireturn, 1) := by decide +kernel
theorem d_BD_write_0 : decode b_BD_write 0 = .ok (.aload_n 0, 1) := by decide +kernel
theorem d_BD_write_1 : decode b_BD_write 1 = .ok (.getfield 16, 3) := by decide +kernel
theorem d_BD_write_4 : decode b_BD_write 4 = .ok (.aload_n 0, 1) := by decide +kernel
theorem d_BD_write_5 : decode b_BD_write 5 = .ok (.iload_n 1, 1) := by decide +kernel
theorem d_BD_write_6 : decode b_BD_write 6 = .ok (.invokevirtual 51, 3) := by decide +kernel
theorem d_BD_write_9 : decode b_BD_write 9 = .ok (.invokevirtual 59, 3) := by decide +kernel
theorem d_BD_write_12 : decode b_BD_write 12 = .ok (.aload_n 0, 1) := by decide +kernel
theorem d_BD_write_13 : decode b_BD_write 13 = .ok (.aload_n 0, 1) := by decide +kernel
theorem d_BD_write_14 : decode b_BD_write 14 = .ok (.getfield 16, 3) := by decide +kernel
theorem d_BD_write_17 : decode b_BD_write 17 = .ok (.aload_n 0, 1) := by decide +kernel
theorem d_BD_write_18 : decode b_BD_write 18 = .ok (.getfield 45, 3) := by decide +kernel
theorem d_BD_write_21 : decode b_BD_write 21 = .ok (.invokestatic 173, 3) := by decide +kernel
theorem d_BD_write_24 : decode b_BD_write 24 = .ok (.putfield 48, 3) := by decide +kernel
theorem d_BD_write_27 : decode b_BD_write 27 = .ok (.aload_n 0, 1) := by decide +kernel
theorem d_BD_write_28 : decode b_BD_write 28 = .ok (.getfield 48, 3) := by decide +kernel
theorem d_BD_write_31 : decode b_BD_write 31 = .ok (.ireturn, 1) := by decide +kernel
theorem d_BD_text_0 : decode b_BD_text 0 = .ok (.iload_n 1, 1) := by decide +kernel
theorem d_BD_text_1 : decode b_BD_text 1 = .ok (.ifCond .ne 8, 3) := by decide +kernel
theorem d_BD_text_4 : decode b_BD_text 4 = .ok (.aload_n 0, 1) := by decide +kernel
theorem d_BD_text_5 : decode b_BD_text 5 = .ok (.getfield 41, 3) := by decide +kernel
theorem d_BD_text_8 : decode b_BD_text 8 = .ok (.ireturn, 1) := by decide +kernel
theorem d_BD_text_9 : decode b_BD_text 9 = .ok (.iload_n 1, 1) := by decide +kernel
theorem d_BD_text_10 : decode b_BD_text 10 = .ok (.iconst 1, 1) := by decide +kernel
theorem d_BD_text_11 : decode b_BD_text 11 = .ok (.if_icmp .ne 8, 3) := by decide +kernel
theorem d_BD_text_14 : decode b_BD_text 14 = .ok (.aload_n 0, 1) := by decide +kernel
theorem d_BD_text_15 : decode b_BD_text 15 = .ok (.getfield 48, 3) := by decide +kernel
theorem d_BD_text_18 : decode b_BD_text 18 = .ok (.ireturn, 1) := by decide +kernel
theorem d_BD_text_19 : decode b_BD_text 19 = .ok (.new 112, 3) := by decide +kernel
theorem d_BD_text_22 : decode b_BD_text 22 = .ok (.dup, 1) := by decide +kernel
theorem d_BD_text_23 : decode b_BD_text 23 = .ok (.ldc 188, 2) := by decide +kernel
theorem d_BD_text_25 : decode b_BD_text 25 = .ok (.invokespecial 116, 3) := by decide +kernel
theorem d_BD_text_28 : decode b_BD_text 28 = .ok (.athrow, 1) := by decide +kernel
abbrev rm_BD_init : Room := { frames := 3, cells := 43, slots := 10048, locals := 60 }
def w_BD_init (a1 : Nat) (h0 : ah_H) (K : ah_H → Prop) : Prop :=
  ∀ q2 : Nat, ah_T h0 q2 = 0 → ∀ h4 : ah_H, h4 = ah_new h0 q2 120 12 → ah_T h4 a1 = 4 ∧ ∀ h8 : ah_H, h8 = ah_sR h4 6 a1 (some q2) → ∃ q12, ah_R h8 6 a1 = some q12 ∧ ∀ q14 : Nat, ah_T h8 q14 = 0 → ∀ h16 : ah_H, h16 = ah_new h8 q14 3 0 → w_WH_init q14 h16 (fun h21 => ah_m h16 h21 → ah_T h21 q12 = 120 ∧ vp_in (0 : Int32) (ah_N h21 q12) ∧ ∀ h28 : ah_H, h28 = ah_cR h21 q12 (va_up (ah_bR h21 q12) (0 : Int32).toNatClampNeg (some q14)) → ∃ q34, ah_R h28 6 a1 = some q34 ∧ ∀ q36 : Nat, ah_T h28 q36 = 0 → ∀ h38 : ah_H, h38 = ah_new h28 q36 3 0 → w_WH_init q36 h38 (fun h45 => ah_m h38 h45 → ah_T h45 q34 = 120 ∧ vp_in (1 : Int32) (ah_N h45 q34) ∧ ∀ h54 : ah_H, h54 = ah_cR h45 q34 (va_up (ah_bR h45 q34) (1 : Int32).toNatClampNeg (some q36)) → ∃ q62, ah_R h54 6 a1 = some q62 ∧ ∀ q64 : Nat, ah_T h54 q64 = 0 → ∀ h66 : ah_H, h66 = ah_new h54 q64 3 0 → w_WH_init q64 h66 (fun h75 => ah_m h66 h75 → ah_T h75 q62 = 120 ∧ vp_in (2 : Int32) (ah_N h75 q62) ∧ ∀ h86 : ah_H, h86 = ah_cR h75 q62 (va_up (ah_bR h75 q62) (2 : Int32).toNatClampNeg (some q64)) → ∃ q96, ah_R h86 6 a1 = some q96 ∧ ∀ q98 : Nat, ah_T h86 q98 = 0 → ∀ h100 : ah_H, h100 = ah_new h86 q98 3 0 → w_WH_init q98 h100 (fun h111 => ah_m h100 h111 → ah_T h111 q96 = 120 ∧ vp_in (3 : Int32) (ah_N h111 q96) ∧ ∀ h124 : ah_H, h124 = ah_cR h111 q96 (va_up (ah_bR h111 q96) (3 : Int32).toNatClampNeg (some q98)) → ∃ q136, ah_R h124 6 a1 = some q136 ∧ ∀ q138 : Nat, ah_T h124 q138 = 0 → ∀ h140 : ah_H, h140 = ah_new h124 q138 3 0 → w_WH_init q138 h140 (fun h153 => ah_m h140 h153 → ah_T h153 q136 = 120 ∧ vp_in (4 : Int32) (ah_N h153 q136) ∧ ∀ h168 : ah_H, h168 = ah_cR h153 q136 (va_up (ah_bR h153 q136) (4 : Int32).toNatClampNeg (some q138)) → ∃ q182, ah_R h168 6 a1 = some q182 ∧ ∀ q184 : Nat, ah_T h168 q184 = 0 → ∀ h186 : ah_H, h186 = ah_new h168 q184 3 0 → w_WH_init q184 h186 (fun h201 => ah_m h186 h201 → ah_T h201 q182 = 120 ∧ vp_in (5 : Int32) (ah_N h201 q182) ∧ ∀ h218 : ah_H, h218 = ah_cR h201 q182 (va_up (ah_bR h201 q182) (5 : Int32).toNatClampNeg (some q184)) → ∃ q234, ah_R h218 6 a1 = some q234 ∧ ∀ q236 : Nat, ah_T h218 q236 = 0 → ∀ h238 : ah_H, h238 = ah_new h218 q236 3 0 → w_WH_init q236 h238 (fun h255 => ah_m h238 h255 → ah_T h255 q234 = 120 ∧ vp_in (6 : Int32) (ah_N h255 q234) ∧ ∀ h274 : ah_H, h274 = ah_cR h255 q234 (va_up (ah_bR h255 q234) (6 : Int32).toNatClampNeg (some q236)) → ∃ q292, ah_R h274 6 a1 = some q292 ∧ ∀ q294 : Nat, ah_T h274 q294 = 0 → ∀ h296 : ah_H, h296 = ah_new h274 q294 3 0 → w_WH_init q294 h296 (fun h315 => ah_m h296 h315 → ah_T h315 q292 = 120 ∧ vp_in (7 : Int32) (ah_N h315 q292) ∧ ∀ h336 : ah_H, h336 = ah_cR h315 q292 (va_up (ah_bR h315 q292) (7 : Int32).toNatClampNeg (some q294)) → ∃ q356, ah_R h336 6 a1 = some q356 ∧ ∀ q358 : Nat, ah_T h336 q358 = 0 → ∀ h360 : ah_H, h360 = ah_new h336 q358 3 0 → w_WH_init q358 h360 (fun h381 => ah_m h360 h381 → ah_T h381 q356 = 120 ∧ vp_in (8 : Int32) (ah_N h381 q356) ∧ ∀ h404 : ah_H, h404 = ah_cR h381 q356 (va_up (ah_bR h381 q356) (8 : Int32).toNatClampNeg (some q358)) → ∃ q426, ah_R h404 6 a1 = some q426 ∧ ∀ q428 : Nat, ah_T h404 q428 = 0 → ∀ h430 : ah_H, h430 = ah_new h404 q428 3 0 → w_WH_init q428 h430 (fun h453 => ah_m h430 h453 → ah_T h453 q426 = 120 ∧ vp_in (9 : Int32) (ah_N h453 q426) ∧ ∀ h478 : ah_H, h478 = ah_cR h453 q426 (va_up (ah_bR h453 q426) (9 : Int32).toNatClampNeg (some q428)) → ∃ q502, ah_R h478 6 a1 = some q502 ∧ ∀ q504 : Nat, ah_T h478 q504 = 0 → ∀ h506 : ah_H, h506 = ah_new h478 q504 3 0 → w_WH_init q504 h506 (fun h531 => ah_m h506 h531 → ah_T h531 q502 = 120 ∧ vp_in (10 : Int32) (ah_N h531 q502) ∧ ∀ h558 : ah_H, h558 = ah_cR h531 q502 (va_up (ah_bR h531 q502) (10 : Int32).toNatClampNeg (some q504)) → ∃ q584, ah_R h558 6 a1 = some q584 ∧ ∀ q586 : Nat, ah_T h558 q586 = 0 → ∀ h588 : ah_H, h588 = ah_new h558 q586 3 0 → w_WH_init q586 h588 (fun h615 => ah_m h588 h615 → ah_T h615 q584 = 120 ∧ vp_in (11 : Int32) (ah_N h615 q584) ∧ ∀ h644 : ah_H, h644 = ah_cR h615 q584 (va_up (ah_bR h615 q584) (11 : Int32).toNatClampNeg (some q586)) → ∀ q672 : Nat, ah_T h644 q672 = 0 → ∀ h674 : ah_H, h674 = ah_new h644 q672 3 0 → w_WH_init q672 h674 (fun h703 => ah_m h674 h703 → ∀ h732 : ah_H, h732 = ah_sR h703 7 a1 (some q672) → ∀ q761 : Nat, ah_T h732 q761 = 0 → ∀ h763 : ah_H, h763 = ah_new h732 q761 3 0 → w_WH_init q761 h763 (fun h793 => ah_m h763 h793 → ∀ h823 : ah_H, h823 = ah_sR h793 8 a1 (some q761) → ∀ q853 : Nat, ah_T h823 q853 = 0 → ∀ h855 : ah_H, h855 = ah_new h823 q853 2 0 → w_DV_init q853 h855 (fun h886 => ah_m h855 h886 → ∀ h917 : ah_H, h917 = ah_sR h886 9 a1 (some q853) → ∀ q948 : Nat, ah_T h917 q948 = 0 → ∀ h950 : ah_H, h950 = ah_new h917 q948 1 0 → w_CD_init q948 h950 (fun h982 => ah_m h950 h982 → ∀ h1014 : ah_H, h1014 = ah_sR h982 10 a1 (some q948) → ∀ q1046 : Nat, ah_T h1014 q1046 = 0 → ∀ h1048 : ah_H, h1048 = ah_new h1014 q1046 101 2600 → ∀ h1081 : ah_H, h1081 = ah_sR h1048 11 a1 (some q1046) → ∀ h1114 : ah_H, h1114 = ah_sI h1081 2 a1 (0 : Int32) → ∀ q1147 : Nat, ah_T h1114 q1147 = 0 → ∀ h1149 : ah_H, h1149 = ah_new h1114 q1147 101 2468 → ∀ h1183 : ah_H, h1183 = ah_sR h1149 12 a1 (some q1147) → ∀ h1217 : ah_H, h1217 = ah_sI h1183 3 a1 (0 : Int32) → K h1217))))))))))))))))
abbrev rm_BD_register : Room := { frames := 6, cells := 1, slots := 6, locals := 90 }
def bk_BD_register_10  (K : Nat → ah_H → Prop) (Ex : String → ah_H → Prop)  (h4 : ah_H) : Prop :=
  Ex "java/lang/IllegalArgumentException" h4
def w_BD_register (a1 : Nat) (a2 : Int32) (h0 : ah_H) (K : Nat → ah_H → Prop) (Ex : String → ah_H → Prop) : Prop :=
  (a2 < 0 → (bk_BD_register_10 K Ex h0)) ∧ (¬ a2 < 0 → ((a2 < (12 : Int32) → (ah_T h0 a1 = 4 ∧ ∃ q7, ah_R h0 6 a1 = some q7 ∧ ah_T h0 q7 = 120 ∧ vp_in a2 (ah_N h0 q7) ∧ ∃ q11, ah_bR h0 q7 a2.toNatClampNeg = some q11 ∧ K q11 h0)) ∧ (¬ a2 < (12 : Int32) → (bk_BD_register_10 K Ex h0))))
abbrev rm_BD_set : Room := { frames := 7, cells := 1, slots := 6, locals := 111 }
def w_BD_set (a1 : Nat) (a2 : Int32) (a3 : Int64) (h0 : ah_H) (K : ah_H → Prop) (Ex : String → ah_H → Prop) : Prop :=
  ah_T h0 a1 = 4 ∧ w_BD_register a1 a2 h0 (fun r6 h5 => ah_m h0 h5 → ah_T h5 r6 = 3 ∧ w_WH_becomeLong r6 a3 h5 (fun h10 => ah_m h5 h10 → K h10)) (fun E9 h9 => ah_m h0 h9 → Ex E9 h9)
abbrev rm_BD_copy : Room := { frames := 7, cells := 2, slots := 12, locals := 111 }
def w_BD_copy (a1 : Nat) (a2 : Int32) (a3 : Int32) (h0 : ah_H) (K : ah_H → Prop) (Ex : String → ah_H → Prop) : Prop :=
  ah_T h0 a1 = 4 ∧ w_BD_register a1 a2 h0 (fun r6 h5 => ah_m h0 h5 → w_BD_register a1 a3 h5 (fun r10 h9 => ah_m h5 h9 → ah_T h9 r6 = 3 ∧ w_WH_become r6 r10 h9 (fun h14 => ah_m h9 h14 → K h14)) (fun E9 h9 => ah_m h5 h9 → Ex E9 h9)) (fun E9 h9 => ah_m h0 h9 → Ex E9 h9)
abbrev rm_BD_keepMade : Room := { frames := 6, cells := 1, slots := 6, locals := 90 }
def w_BD_keepMade (a1 : Nat) (a2 : Nat) (h0 : ah_H) (K : ah_H → Prop) (Ex : String → ah_H → Prop) : Prop :=
  ah_T h0 a1 = 4 ∧ ∃ q4, ah_R h0 7 a1 = some q4 ∧ ah_T h0 q4 = 3 ∧ w_WH_bits q4 h0 (fun r8 h7 => ah_m h0 h7 → (r8 ≤ (8192 : Int32) → (∃ q13, ah_R h7 7 a1 = some q13 ∧ ah_T h7 a2 = 3 ∧ w_WH_become a2 q13 h7 (fun h16 => ah_m h7 h16 → K h16))) ∧ (¬ r8 ≤ (8192 : Int32) → (Ex "java/lang/IllegalStateException" h7)))
abbrev rm_BD_add : Room := { frames := 7, cells := 4, slots := 24, locals := 111 }
def w_BD_add (a1 : Nat) (a2 : Int32) (a3 : Int32) (a4 : Int32) (h0 : ah_H) (K : ah_H → Prop) (Ex : String → ah_H → Prop) : Prop :=
  ah_T h0 a1 = 4 ∧ w_BD_register a1 a2 h0 (fun r7 h6 => ah_m h0 h6 → ∃ q10, ah_R h6 7 a1 = some q10 ∧ w_BD_register a1 a3 h6 (fun r13 h12 => ah_m h6 h12 → w_BD_register a1 a4 h12 (fun r17 h16 => ah_m h12 h16 → w_SU_total q10 r13 r17 (0 : Int32) h16 (fun h20 => ah_m h16 h20 → w_BD_keepMade a1 r7 h20 (fun h23 => ah_m h20 h23 → K h23) (fun E9 h9 => ah_m h20 h9 → Ex E9 h9))) (fun E9 h9 => ah_m h12 h9 → Ex E9 h9)) (fun E9 h9 => ah_m h6 h9 → Ex E9 h9)) (fun E9 h9 => ah_m h0 h9 → Ex E9 h9)
abbrev rm_BD_subtract : Room := { frames := 7, cells := 4, slots := 24, locals := 111 }
def w_BD_subtract (a1 : Nat) (a2 : Int32) (a3 : Int32) (a4 : Int32) (h0 : ah_H) (K : ah_H → Prop) (Ex : String → ah_H → Prop) : Prop :=
  ah_T h0 a1 = 4 ∧ w_BD_register a1 a2 h0 (fun r7 h6 => ah_m h0 h6 → ∃ q10, ah_R h6 7 a1 = some q10 ∧ w_BD_register a1 a3 h6 (fun r13 h12 => ah_m h6 h12 → w_BD_register a1 a4 h12 (fun r17 h16 => ah_m h12 h16 → w_SU_total q10 r13 r17 (1 : Int32) h16 (fun h20 => ah_m h16 h20 → w_BD_keepMade a1 r7 h20 (fun h23 => ah_m h20 h23 → K h23) (fun E9 h9 => ah_m h20 h9 → Ex E9 h9))) (fun E9 h9 => ah_m h12 h9 → Ex E9 h9)) (fun E9 h9 => ah_m h6 h9 → Ex E9 h9)) (fun E9 h9 => ah_m h0 h9 → Ex E9 h9)
abbrev rm_BD_keepProduct : Room := { frames := 7, cells := 1, slots := 6, locals := 111 }
def w_BD_keepProduct (a1 : Nat) (a2 : Nat) (a3 : Nat) (a4 : Nat) (h0 : ah_H) (K : ah_H → Prop) (Ex : String → ah_H → Prop) : Prop :=
  ah_T h0 a1 = 4 ∧ ∃ q6, ah_R h0 7 a1 = some q6 ∧ w_SU_product q6 a3 a4 h0 (fun r9 h8 => ah_m h0 h8 → (¬ r9 = 0 → (w_BD_keepMade a1 a2 h8 (fun h13 => ah_m h8 h13 → K h13) (fun E9 h9 => ah_m h8 h9 → Ex E9 h9))) ∧ (r9 = 0 → (Ex "java/lang/IllegalStateException" h8)))
abbrev rm_BD_multiply : Room := { frames := 8, cells := 4, slots := 24, locals := 134 }
def w_BD_multiply (a1 : Nat) (a2 : Int32) (a3 : Int32) (a4 : Int32) (h0 : ah_H) (K : ah_H → Prop) (Ex : String → ah_H → Prop) : Prop :=
  ah_T h0 a1 = 4 ∧ w_BD_register a1 a2 h0 (fun r7 h6 => ah_m h0 h6 → w_BD_register a1 a3 h6 (fun r11 h10 => ah_m h6 h10 → w_BD_register a1 a4 h10 (fun r15 h14 => ah_m h10 h14 → w_BD_keepProduct a1 r7 r11 r15 h14 (fun h18 => ah_m h14 h18 → K h18) (fun E9 h9 => ah_m h14 h9 → Ex E9 h9)) (fun E9 h9 => ah_m h10 h9 → Ex E9 h9)) (fun E9 h9 => ah_m h6 h9 → Ex E9 h9)) (fun E9 h9 => ah_m h0 h9 → Ex E9 h9)
abbrev rm_BD_times : Room := { frames := 8, cells := 3, slots := 18, locals := 134 }
def w_BD_times (a1 : Nat) (a2 : Int32) (a3 : Int32) (a4 : Int64) (h0 : ah_H) (K : ah_H → Prop) (Ex : String → ah_H → Prop) : Prop :=
  ah_T h0 a1 = 4 ∧ w_BD_register a1 a2 h0 (fun r7 h6 => ah_m h0 h6 → w_BD_register a1 a3 h6 (fun r11 h10 => ah_m h6 h10 → ∃ q14, ah_R h10 8 a1 = some q14 ∧ ah_T h10 q14 = 3 ∧ w_WH_becomeLong q14 a4 h10 (fun h17 => ah_m h10 h17 → ∃ q21, ah_R h17 8 a1 = some q21 ∧ w_BD_keepProduct a1 r7 r11 q21 h17 (fun h23 => ah_m h17 h23 → K h23) (fun E9 h9 => ah_m h17 h9 → Ex E9 h9))) (fun E9 h9 => ah_m h6 h9 → Ex E9 h9)) (fun E9 h9 => ah_m h0 h9 → Ex E9 h9)
abbrev rm_BD_requireShift : Room := { frames := 6, cells := 1, slots := 6, locals := 90 }
def bk_BD_requireShift_11  (K : ah_H → Prop) (Ex : String → ah_H → Prop)  (h3 : ah_H) : Prop :=
  Ex "java/lang/IllegalArgumentException" h3
def w_BD_requireShift (a1 : Int32) (h0 : ah_H) (K : ah_H → Prop) (Ex : String → ah_H → Prop) : Prop :=
  (a1 < 0 → (bk_BD_requireShift_11 K Ex h0)) ∧ (¬ a1 < 0 → ((a1 ≤ (8192 : Int32) → (K h0)) ∧ (¬ a1 ≤ (8192 : Int32) → (bk_BD_requireShift_11 K Ex h0))))
abbrev rm_BD_shift : Room := { frames := 7, cells := 4, slots := 24, locals := 111 }
def w_BD_shift (a1 : Nat) (a2 : Int32) (a3 : Int32) (a4 : Int32) (h0 : ah_H) (K : ah_H → Prop) (Ex : String → ah_H → Prop) : Prop :=
  ah_T h0 a1 = 4 ∧ w_BD_register a1 a2 h0 (fun r7 h6 => ah_m h0 h6 → w_BD_register a1 a3 h6 (fun r11 h10 => ah_m h6 h10 → w_BD_requireShift a4 h10 (fun h14 => ah_m h10 h14 → ah_T h14 r11 = 3 ∧ w_WH_bits r11 h14 (fun r19 h18 => ah_m h14 h18 → ((r19 + a4) ≤ (8192 : Int32) → (∃ q24, ah_R h18 7 a1 = some q24 ∧ ah_T h18 q24 = 3 ∧ w_WH_becomeShiftedUp q24 r11 a4 h18 (fun h27 => ah_m h18 h27 → ∃ q32, ah_R h27 7 a1 = some q32 ∧ ah_T h27 q32 = 3 ∧ w_WH_markSign q32 (ah_I h27 1 r11) h27 (fun h35 => ah_m h27 h35 → w_BD_keepMade a1 r7 h35 (fun h41 => ah_m h35 h41 → K h41) (fun E9 h9 => ah_m h35 h9 → Ex E9 h9))))) ∧ (¬ (r19 + a4) ≤ (8192 : Int32) → (Ex "java/lang/IllegalStateException" h18)))) (fun E9 h9 => ah_m h10 h9 → Ex E9 h9)) (fun E9 h9 => ah_m h6 h9 → Ex E9 h9)) (fun E9 h9 => ah_m h0 h9 → Ex E9 h9)
abbrev rm_BD_half : Room := { frames := 7, cells := 3, slots := 18, locals := 111 }
def bk_BD_half_52  (K : ah_H → Prop) (Ex : String → ah_H → Prop) (x26 : Nat) (x27 : Nat) (x28 : Nat) (h29 : ah_H) : Prop :=
  ah_T h29 x26 = 4 ∧ ∃ q31, ah_R h29 7 x26 = some q31 ∧ ah_T h29 x28 = 3 ∧ ah_T h29 q31 = 3 ∧ w_WH_markSign q31 (ah_I h29 1 x28) h29 (fun h35 => ah_m h29 h35 → ∃ q40, ah_R h35 7 x26 = some q40 ∧ ah_T h35 x27 = 3 ∧ w_WH_become x27 q40 h35 (fun h43 => ah_m h35 h43 → K h43))
def w_BD_half (a1 : Nat) (a2 : Int32) (a3 : Int32) (a4 : Int32) (h0 : ah_H) (K : ah_H → Prop) (Ex : String → ah_H → Prop) : Prop :=
  ah_T h0 a1 = 4 ∧ w_BD_register a1 a2 h0 (fun r7 h6 => ah_m h0 h6 → w_BD_register a1 a3 h6 (fun r11 h10 => ah_m h6 h10 → w_BD_requireShift a4 h10 (fun h14 => ah_m h10 h14 → ∃ q17, ah_R h14 7 a1 = some q17 ∧ ah_T h14 q17 = 3 ∧ w_WH_becomeShiftedDown q17 r11 a4 h14 (fun h20 => ah_m h14 h20 → ah_T h20 r11 = 3 ∧ ((ah_I h20 1 r11) = 0 → (bk_BD_half_52 K Ex a1 r7 r11 h20)) ∧ (¬ (ah_I h20 1 r11) = 0 → (w_WH_endingZeros r11 h20 (fun r50 h49 => ah_m h20 h49 → (a4 ≤ r50 → (bk_BD_half_52 K Ex a1 r7 r11 h49)) ∧ (¬ a4 ≤ r50 → (∃ q56, ah_R h49 7 a1 = some q56 ∧ ah_T h49 q56 = 3 ∧ w_WH_addOne q56 h49 (fun h59 => ah_m h49 h59 → bk_BD_half_52 K Ex a1 r7 r11 h59)))))))) (fun E9 h9 => ah_m h10 h9 → Ex E9 h9)) (fun E9 h9 => ah_m h6 h9 → Ex E9 h9)) (fun E9 h9 => ah_m h0 h9 → Ex E9 h9)
abbrev rm_BD_divide : Room := { frames := 7, cells := 5, slots := 30, locals := 133 }
def w_BD_divide (a1 : Nat) (a2 : Int32) (a3 : Int32) (a4 : Int32) (a5 : Int32) (h0 : ah_H) (K : ah_H → Prop) (Ex : String → ah_H → Prop) : Prop :=
  ah_T h0 a1 = 4 ∧ w_BD_register a1 a2 h0 (fun r8 h7 => ah_m h0 h7 → w_BD_register a1 a3 h7 (fun r12 h11 => ah_m h7 h11 → w_BD_register a1 a4 h11 (fun r16 h15 => ah_m h11 h15 → w_BD_register a1 a5 h15 (fun r20 h19 => ah_m h15 h19 → (¬ a2 = a3 → (ah_T h19 r20 = 3 ∧ (¬ (ah_I h19 0 r20) = 0 → (∃ q26, ah_R h19 9 a1 = some q26 ∧ ah_T h19 q26 = 2 ∧ w_DV_downwards q26 r16 r20 h19 (fun h29 => ah_m h19 h29 → ∃ q34, ah_R h29 9 a1 = some q34 ∧ ah_T h29 q34 = 2 ∧ ∃ q37, ah_R h29 2 q34 = some q37 ∧ ah_T h29 r8 = 3 ∧ w_WH_become r8 q37 h29 (fun h40 => ah_m h29 h40 → ∃ q47, ah_R h40 9 a1 = some q47 ∧ ah_T h40 q47 = 2 ∧ ∃ q50, ah_R h40 3 q47 = some q50 ∧ ah_T h40 r12 = 3 ∧ w_WH_become r12 q50 h40 (fun h53 => ah_m h40 h53 → K h53))))) ∧ ((ah_I h19 0 r20) = 0 → (Ex "java/lang/ArithmeticException" h19)))) ∧ (a2 = a3 → (Ex "java/lang/IllegalArgumentException" h19))) (fun E9 h9 => ah_m h15 h9 → Ex E9 h9)) (fun E9 h9 => ah_m h11 h9 → Ex E9 h9)) (fun E9 h9 => ah_m h7 h9 → Ex E9 h9)) (fun E9 h9 => ah_m h0 h9 → Ex E9 h9)
abbrev rm_BD_gcd : Room := { frames := 7, cells := 3, slots := 18, locals := 134 }
def w_BD_gcd (a1 : Nat) (a2 : Int32) (a3 : Int32) (a4 : Int32) (h0 : ah_H) (K : ah_H → Prop) (Ex : String → ah_H → Prop) : Prop :=
  ah_T h0 a1 = 4 ∧ w_BD_register a1 a2 h0 (fun r7 h6 => ah_m h0 h6 → ∃ q10, ah_R h6 10 a1 = some q10 ∧ w_BD_register a1 a3 h6 (fun r13 h12 => ah_m h6 h12 → w_BD_register a1 a4 h12 (fun r17 h16 => ah_m h12 h16 → ∃ q20, ah_R h16 9 a1 = some q20 ∧ ah_T h16 q10 = 1 ∧ w_CD_greatest q10 r13 r17 q20 h16 (fun r24 h23 => ah_m h16 h23 → ah_T h23 r7 = 3 ∧ w_WH_become r7 r24 h23 (fun h29 => ah_m h23 h29 → K h29))) (fun E9 h9 => ah_m h12 h9 → Ex E9 h9)) (fun E9 h9 => ah_m h6 h9 → Ex E9 h9)) (fun E9 h9 => ah_m h0 h9 → Ex E9 h9)
abbrev rm_BD_negate : Room := { frames := 7, cells := 2, slots := 12, locals := 111 }
def bk_BD_negate_26  (K : ah_H → Prop) (Ex : String → ah_H → Prop) (x15 : Nat) (x16 : Nat) (s17 : Int32) (h18 : ah_H) : Prop :=
  ah_T h18 x15 = 3 ∧ w_WH_become x15 x16 h18 (fun h20 => ah_m h18 h20 → w_WH_markSign x15 s17 h20 (fun h23 => ah_m h20 h23 → K h23))
def w_BD_negate (a1 : Nat) (a2 : Int32) (a3 : Int32) (h0 : ah_H) (K : ah_H → Prop) (Ex : String → ah_H → Prop) : Prop :=
  ah_T h0 a1 = 4 ∧ w_BD_register a1 a2 h0 (fun r6 h5 => ah_m h0 h5 → w_BD_register a1 a3 h5 (fun r10 h9 => ah_m h5 h9 → ah_T h9 r10 = 3 ∧ (¬ (ah_I h9 1 r10) = 0 → (bk_BD_negate_26 K Ex r6 r10 (0 : Int32) h9)) ∧ ((ah_I h9 1 r10) = 0 → (bk_BD_negate_26 K Ex r6 r10 (1 : Int32) h9))) (fun E9 h9 => ah_m h5 h9 → Ex E9 h9)) (fun E9 h9 => ah_m h0 h9 → Ex E9 h9)
abbrev rm_BD_compare : Room := { frames := 7, cells := 2, slots := 12, locals := 111 }
def bk_BD_compare_61  (K : Int32 → ah_H → Prop) (Ex : String → ah_H → Prop) (s23 : Int32) (h24 : ah_H) : Prop :=
  K s23 h24
def bk_BD_compare_37  (K : Int32 → ah_H → Prop) (Ex : String → ah_H → Prop) (s26 : Int32) (h27 : ah_H) : Prop :=
  K s26 h27
def w_BD_compare (a1 : Nat) (a2 : Int32) (a3 : Int32) (h0 : ah_H) (K : Int32 → ah_H → Prop) (Ex : String → ah_H → Prop) : Prop :=
  ah_T h0 a1 = 4 ∧ w_BD_register a1 a2 h0 (fun r6 h5 => ah_m h0 h5 → w_BD_register a1 a3 h5 (fun r10 h9 => ah_m h5 h9 → ah_T h9 r6 = 3 ∧ ah_T h9 r10 = 3 ∧ ((ah_I h9 1 r6) = (ah_I h9 1 r10) → (w_SU_orderOfAbsolutes r6 r10 h9 (fun r17 h16 => ah_m h9 h16 → ((ah_I h16 1 r6) = 0 → (bk_BD_compare_61 K Ex r17 h16)) ∧ (¬ (ah_I h16 1 r6) = 0 → (bk_BD_compare_61 K Ex (-r17) h16))))) ∧ (¬ (ah_I h9 1 r6) = (ah_I h9 1 r10) → (((ah_I h9 1 r6) = 0 → (bk_BD_compare_37 K Ex (1 : Int32) h9)) ∧ (¬ (ah_I h9 1 r6) = 0 → (bk_BD_compare_37 K Ex (-1 : Int32) h9))))) (fun E9 h9 => ah_m h5 h9 → Ex E9 h9)) (fun E9 h9 => ah_m h0 h9 → Ex E9 h9)
abbrev rm_BD_rest : Room := { frames := 7, cells := 2, slots := 12, locals := 133 }
def w_BD_rest (a1 : Nat) (a2 : Int32) (a3 : Int64) (h0 : ah_H) (K : Int64 → ah_H → Prop) (Ex : String → ah_H → Prop) : Prop :=
  ah_T h0 a1 = 4 ∧ w_BD_register a1 a2 h0 (fun r6 h5 => ah_m h0 h5 → ((1 : Int64) ≤ a3 → (∃ q10, ah_R h5 8 a1 = some q10 ∧ ah_T h5 q10 = 3 ∧ w_WH_becomeLong q10 a3 h5 (fun h13 => ah_m h5 h13 → ∃ q17, ah_R h13 9 a1 = some q17 ∧ ∃ q19, ah_R h13 8 a1 = some q19 ∧ ah_T h13 q17 = 2 ∧ w_DV_downwards q17 r6 q19 h13 (fun h22 => ah_m h13 h22 → ∃ q27, ah_R h22 9 a1 = some q27 ∧ ah_T h22 q27 = 2 ∧ ∃ q30, ah_R h22 3 q27 = some q30 ∧ ah_T h22 q30 = 3 ∧ w_WH_asLong q30 h22 (fun r34 h33 => ah_m h22 h33 → K r34 h33))))) ∧ (¬ (1 : Int64) ≤ a3 → (Ex "java/lang/IllegalArgumentException" h5))) (fun E9 h9 => ah_m h0 h9 → Ex E9 h9)
abbrev rm_BD_value : Room := { frames := 7, cells := 2, slots := 12, locals := 111 }
def w_BD_value (a1 : Nat) (a2 : Int32) (h0 : ah_H) (K : Int64 → ah_H → Prop) (Ex : String → ah_H → Prop) : Prop :=
  ah_T h0 a1 = 4 ∧ w_BD_register a1 a2 h0 (fun r5 h4 => ah_m h0 h4 → ah_T h4 r5 = 3 ∧ w_WH_isLong r5 h4 (fun r10 h9 => ah_m h4 h9 → (¬ r10 = 0 → (w_WH_asLong r5 h9 (fun r16 h15 => ah_m h9 h15 → K r16 h15))) ∧ (r10 = 0 → (Ex "java/lang/IllegalStateException" h9)))) (fun E9 h9 => ah_m h0 h9 → Ex E9 h9)
abbrev rm_BD_limb : Room := { frames := 7, cells := 2, slots := 12, locals := 111 }
def bk_BD_limb_17  (K : Int64 → ah_H → Prop) (Ex : String → ah_H → Prop)  (h10 : ah_H) : Prop :=
  Ex "java/lang/IllegalArgumentException" h10
def w_BD_limb (a1 : Nat) (a2 : Int32) (a3 : Int32) (h0 : ah_H) (K : Int64 → ah_H → Prop) (Ex : String → ah_H → Prop) : Prop :=
  ah_T h0 a1 = 4 ∧ w_BD_register a1 a2 h0 (fun r6 h5 => ah_m h0 h5 → (a3 < 0 → (bk_BD_limb_17 K Ex h5)) ∧ (¬ a3 < 0 → ((a3 ≤ (255 : Int32) → (ah_T h5 r6 = 3 ∧ w_WH_at r6 a3 h5 (fun r14 h13 => ah_m h5 h13 → K r14 h13))) ∧ (¬ a3 ≤ (255 : Int32) → (bk_BD_limb_17 K Ex h5))))) (fun E9 h9 => ah_m h0 h9 → Ex E9 h9)
abbrev rm_BD_look : Room := { frames := 7, cells := 2, slots := 12, locals := 111 }
def bk_BD_look_59  (K : Int32 → ah_H → Prop) (Ex : String → ah_H → Prop) (s13 : Int32) (h14 : ah_H) : Prop :=
  K s13 h14
def bk_BD_look_77  (K : Int32 → ah_H → Prop) (Ex : String → ah_H → Prop) (s28 : Int32) (h29 : ah_H) : Prop :=
  K s28 h29
def w_BD_look (a1 : Nat) (a2 : Int32) (a3 : Int32) (h0 : ah_H) (K : Int32 → ah_H → Prop) (Ex : String → ah_H → Prop) : Prop :=
  ah_T h0 a1 = 4 ∧ w_BD_register a1 a2 h0 (fun r6 h5 => ah_m h0 h5 → (a3.toInt < 0 ∨ 3 < a3.toInt → (Ex "java/lang/IllegalArgumentException" h5)) ∧ (a3.toInt = 0 → (ah_T h5 r6 = 3 ∧ ((ah_I h5 1 r6) = 0 → (((ah_I h5 0 r6) ≤ 0 → (bk_BD_look_59 K Ex (0 : Int32) h5)) ∧ (¬ (ah_I h5 0 r6) ≤ 0 → (bk_BD_look_59 K Ex (1 : Int32) h5)))) ∧ (¬ (ah_I h5 1 r6) = 0 → (bk_BD_look_59 K Ex (-1 : Int32) h5)))) ∧ (a3.toInt = 1 → (ah_T h5 r6 = 3 ∧ w_WH_bits r6 h5 (fun r17 h16 => ah_m h5 h16 → K r17 h16))) ∧ (a3.toInt = 2 → (ah_T h5 r6 = 3 ∧ w_WH_isLong r6 h5 (fun r23 h22 => ah_m h5 h22 → (r23 = 0 → (bk_BD_look_77 K Ex (0 : Int32) h22)) ∧ (¬ r23 = 0 → (bk_BD_look_77 K Ex (1 : Int32) h22))))) ∧ (a3.toInt = 3 → (ah_T h5 r6 = 3 ∧ w_WH_endingZeros r6 h5 (fun r32 h31 => ah_m h5 h31 → K r32 h31)))) (fun E9 h9 => ah_m h0 h9 → Ex E9 h9)
abbrev rm_BD_feed : Room := { frames := 6, cells := 1, slots := 6, locals := 90 }
def bk_BD_feed_11  (K : Int32 → ah_H → Prop) (Ex : String → ah_H → Prop)  (h5 : ah_H) : Prop :=
  Ex "java/lang/IllegalArgumentException" h5
def lp_BD_feed_46 (xt_79 : Nat → Int32 → ah_H → Prop) (K : Int32 → ah_H → Prop) (Ex : String → ah_H → Prop) : Nat → Nat → Int32 → Int64 → Int32 → ah_H → Prop
  | 0, _, _, _, _, _ => False
  | n + 1, x9, x10, x11, x12, h13 =>
    (x10 ≤ x12 → (xt_79 x9 x10 h13)) ∧ (¬ x10 ≤ x12 → (ah_T h13 x9 = 4 ∧ ∃ q16, ah_R h13 11 x9 = some q16 ∧ ∀ v18 : Int32, v18 = (((x11.toUInt64 >>> (((8 : Int32) * x12).toInt64.toUInt64 &&& Int64.toUInt64 63)).toInt64).toInt32).toInt8.toInt32 → ah_T h13 q16 = 101 ∧ vp_in ((ah_I h13 2 x9) + x12) (ah_N h13 q16) ∧ ∀ h21 : ah_H, h21 = ah_cI h13 q16 (upd (ah_bI h13 q16) ((ah_I h13 2 x9) + x12).toNatClampNeg (vp_nar .byte v18)) → ∀ v25 : Int32, v25 = x12 + 1 → (lp_BD_feed_46 xt_79 K Ex n) x9 x10 x11 v25 h21))
def w_BD_feed (a1 : Nat) (a2 : Int32) (a3 : Int64) (h0 : ah_H) (K : Int32 → ah_H → Prop) (Ex : String → ah_H → Prop) : Prop :=
  (a2 < (1 : Int32) → (bk_BD_feed_11 K Ex h0)) ∧ (¬ a2 < (1 : Int32) → ((a2 ≤ (8 : Int32) → (ah_T h0 a1 = 4 ∧ (((ah_I h0 2 a1) + a2) ≤ (2600 : Int32) → (∃ k34, lp_BD_feed_46 (fun (x26 : Nat) (x27 : Int32) h28 => ah_T h28 x26 = 4 ∧ ∀ v30 : Int32, v30 = (ah_I h28 2 x26) + x27 → ∀ h31 : ah_H, h31 = ah_sI h28 2 x26 v30 → K (ah_I h31 2 x26) h31) K Ex k34 a1 a2 a3 (0 : Int32) h0)) ∧ (¬ ((ah_I h0 2 a1) + a2) ≤ (2600 : Int32) → (Ex "java/lang/IllegalStateException" h0)))) ∧ (¬ a2 ≤ (8 : Int32) → (bk_BD_feed_11 K Ex h0))))
abbrev rm_BD_read : Room := { frames := 7, cells := 1, slots := 6, locals := 111 }
def bk_BD_read_44  (K : Int32 → ah_H → Prop) (Ex : String → ah_H → Prop)  (h21 : ah_H) : Prop :=
  K (0 : Int32) h21
def w_BD_read (a1 : Nat) (a2 : Int32) (h0 : ah_H) (K : Int32 → ah_H → Prop) (Ex : String → ah_H → Prop) : Prop :=
  ah_T h0 a1 = 4 ∧ w_BD_register a1 a2 h0 (fun r5 h4 => ah_m h0 h4 → ∀ v8 : Int32, v8 = ah_I h4 2 a1 → ∀ h9 : ah_H, h9 = ah_sI h4 2 a1 (0 : Int32) → ∃ q12, ah_R h9 7 a1 = some q12 ∧ ∃ q14, ah_R h9 11 a1 = some q14 ∧ w_TX_numberOf q12 q14 v8 h9 (fun r17 h16 => ah_m h9 h16 → (r17 = 0 → (bk_BD_read_44 K Ex h16)) ∧ (¬ r17 = 0 → (∃ q22, ah_R h16 7 a1 = some q22 ∧ ah_T h16 q22 = 3 ∧ w_WH_bits q22 h16 (fun r26 h25 => ah_m h16 h25 → (r26 ≤ (8192 : Int32) → (∃ q31, ah_R h25 7 a1 = some q31 ∧ ah_T h25 r5 = 3 ∧ w_WH_become r5 q31 h25 (fun h34 => ah_m h25 h34 → K (1 : Int32) h34))) ∧ (¬ r26 ≤ (8192 : Int32) → (bk_BD_read_44 K Ex h25))))))) (fun E9 h9 => ah_m h0 h9 → Ex E9 h9)
abbrev rm_BD_write : Room := { frames := 7, cells := 1, slots := 6, locals := 111 }
def w_BD_write (a1 : Nat) (a2 : Int32) (h0 : ah_H) (K : Int32 → ah_H → Prop) (Ex : String → ah_H → Prop) : Prop :=
  ah_T h0 a1 = 4 ∧ ∃ q4, ah_R h0 7 a1 = some q4 ∧ w_BD_register a1 a2 h0 (fun r7 h6 => ah_m h0 h6 → ah_T h6 q4 = 3 ∧ w_WH_become q4 r7 h6 (fun h11 => ah_m h6 h11 → ∃ q15, ah_R h11 7 a1 = some q15 ∧ ∃ q17, ah_R h11 12 a1 = some q17 ∧ w_TX_textOf q15 q17 h11 (fun r20 h19 => ah_m h11 h19 → ∀ h24 : ah_H, h24 = ah_sI h19 3 a1 r20 → K (ah_I h24 3 a1) h24))) (fun E9 h9 => ah_m h0 h9 → Ex E9 h9)
abbrev rm_BD_text : Room := { frames := 6, cells := 1, slots := 6, locals := 90 }
def w_BD_text (a1 : Nat) (a2 : Int32) (h0 : ah_H) (K : Int32 → ah_H → Prop) (Ex : String → ah_H → Prop) : Prop :=
  (¬ a2 = 0 → ((¬ a2 = (1 : Int32) → (Ex "java/lang/IllegalArgumentException" h0)) ∧ (a2 = (1 : Int32) → (ah_T h0 a1 = 4 ∧ K (ah_I h0 3 a1) h0)))) ∧ (a2 = 0 → (ah_T h0 a1 = 4 ∧ K (ah_I h0 2 a1) h0))
set_option maxHeartbeats 4000000 in
set_option maxRecDepth 100000 in
theorem m_BD_init {l : Launch} (G : zG) (a1 : Nat) (h0 : ah_H) {K : ah_H → Prop} (hst : l.stackTraces = false) (w : w_BD_init a1 h0 K) : Met l y_BD_init (Cond.code y_BD_init b_BD_init 2 none :: zx_T) rm_BD_init (va_Pc [.ref a1] (ah_B G h0)) (va_Qv (fun h9 => K h9 ∧ ah_m h0 h9) (ah_B G) (fun q => G.2.2 ≤ q)) 43 10048 (fun q => G.2.2 ≤ q) := by
  refine Met.ofW (cc := b_BD_init) (maxL := 2) (ret := none) (by decide) rfl ?_
  intro p e s m args below meth c s₁ B hml hv
  have htb := cx_out B (atoms_spec B.pre _ List.mem_cons_self)
  obtain ⟨rfl, hB⟩ := hv
  have C : cx_C p l s m _ meth c G y_BD_init b_BD_init 2 none "BigDesk" (Cond.code y_BD_init b_BD_init 2 none :: zx_T) [] := ⟨B.exec, B.bytes, B.returns, hml, findClass_of_methodNamed B.named, atoms_spec B.pre, cx_hd, B.notSynchronized, hB.2.2.1, hB.2.2.2, htb, fun z9 => (name_of_methodNamed B.named B.method).1.trans z9, hst⟩
  obtain ⟨hx, hb, hr, hml, hown, hts, hT, hlk, hK, hX, htb, hin, hst⟩ := id C
  have hw : ∀ {w9 : Cond}, w9 ∈ zx_T → w9.before _ s = true := fun h9 => hts _ (hT _ h9)
  have hW : ah_W G s.heap h0 s.heap [] := ⟨hB.1, hB.2.1, va_S.rf⟩
  have hm : ah_m h0 h0 := ah_m.rf
  have hcl : 0 + 43 ≤ 43 := by decide
  have hsl : 0 + 10048 ≤ 10048 := by decide
  have hl := lv_entry ([.ref a1]) (n := 2) (Nat.le_of_ble_eq_true rfl)
  rw [lg_entry_eq]
  generalize (lg_sl ([.ref a1]) ++ List.replicate (2 - (lg_sl ([.ref a1])).length) Slot.unset).toArray = ls at hl ⊢
  have hl : lv_has ls 2 [(0, .ref a1)] := hl
  unfold w_BD_init at w
  refine lv_aload_n hx hb d_BD_init_0 rfl (lv_at hl 0 rfl) ?_
  refine W.objInit hx hb hown (hw wd_23) (hw wd_24) (hw wd_25) rfl (by rw [hml]; exact hl.1) rfl d_BD_init_1 (Nat.le_of_ble_eq_true rfl) (Nat.le_of_ble_eq_true rfl) ?_
  refine W.eq (g2 := F0 m 4 ls []) rfl ?_
  refine lv_aload_n hx hb d_BD_init_4 rfl (lv_at hl 0 rfl) ?_
  refine lv_bipush (v := 12) hx hb d_BD_init_5 (by decide) ?_
  refine hb_newq (N := 12) hx hb hown (hw wd_26) hK hX hW (by decide) (by decide) (by decide) (by show _ ≤ 43; omega) (by show _ ≤ 10048; omega) d_BD_init_7 (fun q2 H z3 hW => ?_)
  obtain ⟨h4, eh4⟩ : ∃ z9, z9 = ah_new h0 q2 120 12 := ⟨_, rfl⟩
  rw [← eh4] at hW
  have w := w q2 z3 h4 eh4
  have mm5 : ah_m h0 h4 := (ah_m.rf.nw z3).eq eh4
  have hm := hm.tr mm5
  have t6 : ah_T h4 q2 = 120 := by rw [eh4]; exact va_up_self _ _ _
  obtain ⟨t7, w⟩ := w
  refine hb_putF (ci := 3) (C := "BigDesk") (T := T_BD) (N := 9) hx hb hts (fun w9 h9 => hT w9 (u_BD w9 h9)) t_BD o_BD n_BD hown hK hW t7 rfl (by decide) 0 (by decide) (hw wd_104) (fun _ h9 => h9) rfl (hin rfl) rfl (ty := t_BD 0) (by decide +kernel) (q := (2, 6)) rfl (by decide) (v := .ref q2) rfl rfl (ah_one_R h4 6 a1 (some q2)) d_BD_init_10 (fun H locs h8 eh8 hW => ?_)
  have w := w h8 eh8
  have mm9 : ah_m h4 h8 := ah_m.rf.st (by rw [eh8]; rfl) (by rw [eh8]; rfl)
  have hm := hm.tr mm9
  have t10 := mm9.tg t6 (by decide)
  have t11 := mm9.tg t7 (by decide)
  refine lv_iconst (v := 0) hx hb d_BD_init_13 (by decide) ?_
  refine lv_istore_n (lv' := [(1, .int (0 : Int32)), (0, .ref a1)]) hx hb d_BD_init_14 rfl hl (by decide) rfl (fun ls hl => ?_)
  refine lv_iload_n hx hb d_BD_init_15 rfl (lv_at hl 0 rfl) ?_
  refine lv_bipush (v := 12) hx hb d_BD_init_16 (by decide) ?_
  refine lv_icmp_ge (tgt := 40) hx hb d_BD_init_18 (by decide) (fun c9 => absurd c9 (by decide)) (fun c9 => ?_)
  refine lv_aload_n hx hb d_BD_init_21 rfl (lv_at hl 1 rfl) ?_
  obtain ⟨q12, e13, w⟩ := w
  refine hb_get (ci := 3) (C := "BigDesk") (T := T_BD) (N := 9) hx hb hts (fun w9 h9 => hT w9 (u_BD w9 h9)) hown hK hW t11 rfl (by decide) 0 (by decide) (hw wd_104) (fun _ h9 => h9) (q := (2, 6)) rfl (v := .ref q12) (ah_f_R e13) d_BD_init_22 ?_
  refine lv_iload_n hx hb d_BD_init_25 rfl (lv_at hl 0 rfl) ?_
  refine hb_new (ci := 2) (C := "BigDesk$Whole") (T := T_WH) (N := 3) hx hb hts (fun w9 h9 => hT w9 (u_WH w9 h9)) t_WH o_WH hown (hw wd_26) (hw wd_28) (hw wd_2) hK hW rfl (by decide) f_WH (by show _ ≤ 43; omega) (by show _ ≤ 10048; omega) d_BD_init_26 (fun q14 H z15 hW => ?_)
  obtain ⟨h16, eh16⟩ : ∃ z9, z9 = ah_new h8 q14 3 0 := ⟨_, rfl⟩
  rw [← eh16] at hW
  have w := w q14 z15 h16 eh16
  have mm17 : ah_m h8 h16 := (ah_m.rf.nw z15).eq eh16
  have hm := hm.tr mm17
  have t18 := mm17.tg t10 (by decide)
  have t19 := mm17.tg t11 (by decide)
  have t20 : ah_T h16 q14 = 3 := by rw [eh16]; exact va_up_self _ _ _
  refine lv_dup hx hb d_BD_init_29 rfl ?_
  refine hb_callv (va_runIN (As := []) (rest := [.ref q14, .int (0 : Int32), .ref q12]) ⟨hx, hb, hml, hown, hts⟩ (m_WH_init G q14 h16 hst w) ⟨va_cnB 0 hts (zx_gB hT wd_31) rfl rfl rfl (hX.1 _ (zx_nest_BD_15) rfl) (hw wd_2) (by decide +kernel) ⟨Nat.le_of_ble_eq_true rfl, Nat.le_of_ble_eq_true rfl⟩, rfl, hw wd_30⟩ (hb_preS hK hX hW) rfl rfl hl.1 rfl (lv_room (Nat.le_of_ble_eq_true rfl)) d_BD_init_30 ⟨(by show _ ≤ 43; omega), (by show _ ≤ 10048; omega)⟩) hW (fun h21 H locs hk hW => ?_)
  obtain ⟨w, mm22⟩ := hk
  have w := w mm22
  have hm := hm.tr mm22
  have t23 := mm22.tg t18 (by decide)
  have t24 := mm22.tg t19 (by decide)
  have t25 := mm22.tg t20 (by decide)
  obtain ⟨t26, w⟩ := w
  obtain ⟨i27, w⟩ := w
  refine hb_astq hx hb hK hW t26 (by decide) 3 2 (r := ("BigDesk$Whole", T_WH, 3)) rfl t25 (by decide) rfl i27 d_BD_init_33 (fun H locs h28 eh28 hW => ?_)
  have w := w h28 eh28
  have mm29 : ah_m h21 h28 := ah_m.rf.st (by rw [eh28]; rfl) (by rw [eh28]; rfl)
  have hm := hm.tr mm29
  have t30 := mm29.tg t23 (by decide)
  have t31 := mm29.tg t24 (by decide)
  have t32 := mm29.tg t25 (by decide)
  have t33 := mm29.tg t26 (by decide)
  refine lv_iinc (v := (1 : Int32)) (lv' := [(1, .int (1 : Int32)), (0, .ref a1)]) hx hb d_BD_init_34 hl (k := 0) rfl (by decide) (by decide) rfl (fun ls hl => ?_)
  refine lv_goto (tgt := 15) hx hb d_BD_init_37 (by decide) ?_
  refine lv_iload_n hx hb d_BD_init_15 rfl (lv_at hl 0 rfl) ?_
  refine lv_bipush (v := 12) hx hb d_BD_init_16 (by decide) ?_
  refine lv_icmp_ge (tgt := 40) hx hb d_BD_init_18 (by decide) (fun c9 => absurd c9 (by decide)) (fun c9 => ?_)
  refine lv_aload_n hx hb d_BD_init_21 rfl (lv_at hl 1 rfl) ?_
  obtain ⟨q34, e35, w⟩ := w
  refine hb_get (ci := 3) (C := "BigDesk") (T := T_BD) (N := 9) hx hb hts (fun w9 h9 => hT w9 (u_BD w9 h9)) hown hK hW t31 rfl (by decide) 0 (by decide) (hw wd_104) (fun _ h9 => h9) (q := (2, 6)) rfl (v := .ref q34) (ah_f_R e35) d_BD_init_22 ?_
  refine lv_iload_n hx hb d_BD_init_25 rfl (lv_at hl 0 rfl) ?_
  refine hb_new (ci := 2) (C := "BigDesk$Whole") (T := T_WH) (N := 3) hx hb hts (fun w9 h9 => hT w9 (u_WH w9 h9)) t_WH o_WH hown (hw wd_26) (hw wd_28) (hw wd_2) hK hW rfl (by decide) f_WH (by show _ ≤ 43; omega) (by show _ ≤ 10048; omega) d_BD_init_26 (fun q36 H z37 hW => ?_)
  obtain ⟨h38, eh38⟩ : ∃ z9, z9 = ah_new h28 q36 3 0 := ⟨_, rfl⟩
  rw [← eh38] at hW
  have w := w q36 z37 h38 eh38
  have mm39 : ah_m h28 h38 := (ah_m.rf.nw z37).eq eh38
  have hm := hm.tr mm39
  have t40 := mm39.tg t30 (by decide)
  have t41 := mm39.tg t31 (by decide)
  have t42 := mm39.tg t32 (by decide)
  have t43 := mm39.tg t33 (by decide)
  have t44 : ah_T h38 q36 = 3 := by rw [eh38]; exact va_up_self _ _ _
  refine lv_dup hx hb d_BD_init_29 rfl ?_
  refine hb_callv (va_runIN (As := []) (rest := [.ref q36, .int (1 : Int32), .ref q34]) ⟨hx, hb, hml, hown, hts⟩ (m_WH_init G q36 h38 hst w) ⟨va_cnB 0 hts (zx_gB hT wd_31) rfl rfl rfl (hX.1 _ (zx_nest_BD_15) rfl) (hw wd_2) (by decide +kernel) ⟨Nat.le_of_ble_eq_true rfl, Nat.le_of_ble_eq_true rfl⟩, rfl, hw wd_30⟩ (hb_preS hK hX hW) rfl rfl hl.1 rfl (lv_room (Nat.le_of_ble_eq_true rfl)) d_BD_init_30 ⟨(by show _ ≤ 43; omega), (by show _ ≤ 10048; omega)⟩) hW (fun h45 H locs hk hW => ?_)
  obtain ⟨w, mm46⟩ := hk
  have w := w mm46
  have hm := hm.tr mm46
  have t47 := mm46.tg t40 (by decide)
  have t48 := mm46.tg t41 (by decide)
  have t49 := mm46.tg t42 (by decide)
  have t50 := mm46.tg t43 (by decide)
  have t51 := mm46.tg t44 (by decide)
  obtain ⟨t52, w⟩ := w
  obtain ⟨i53, w⟩ := w
  refine hb_astq hx hb hK hW t52 (by decide) 3 2 (r := ("BigDesk$Whole", T_WH, 3)) rfl t51 (by decide) rfl i53 d_BD_init_33 (fun H locs h54 eh54 hW => ?_)
  have w := w h54 eh54
  have mm55 : ah_m h45 h54 := ah_m.rf.st (by rw [eh54]; rfl) (by rw [eh54]; rfl)
  have hm := hm.tr mm55
  have t56 := mm55.tg t47 (by decide)
  have t57 := mm55.tg t48 (by decide)
  have t58 := mm55.tg t49 (by decide)
  have t59 := mm55.tg t50 (by decide)
  have t60 := mm55.tg t51 (by decide)
  have t61 := mm55.tg t52 (by decide)
  refine lv_iinc (v := (2 : Int32)) (lv' := [(1, .int (2 : Int32)), (0, .ref a1)]) hx hb d_BD_init_34 hl (k := 0) rfl (by decide) (by decide) rfl (fun ls hl => ?_)
  refine lv_goto (tgt := 15) hx hb d_BD_init_37 (by decide) ?_
  refine lv_iload_n hx hb d_BD_init_15 rfl (lv_at hl 0 rfl) ?_
  refine lv_bipush (v := 12) hx hb d_BD_init_16 (by decide) ?_
  refine lv_icmp_ge (tgt := 40) hx hb d_BD_init_18 (by decide) (fun c9 => absurd c9 (by decide)) (fun c9 => ?_)
  refine lv_aload_n hx hb d_BD_init_21 rfl (lv_at hl 1 rfl) ?_
  obtain ⟨q62, e63, w⟩ := w
  refine hb_get (ci := 3) (C := "BigDesk") (T := T_BD) (N := 9) hx hb hts (fun w9 h9 => hT w9 (u_BD w9 h9)) hown hK hW t57 rfl (by decide) 0 (by decide) (hw wd_104) (fun _ h9 => h9) (q := (2, 6)) rfl (v := .ref q62) (ah_f_R e63) d_BD_init_22 ?_
  refine lv_iload_n hx hb d_BD_init_25 rfl (lv_at hl 0 rfl) ?_
  refine hb_new (ci := 2) (C := "BigDesk$Whole") (T := T_WH) (N := 3) hx hb hts (fun w9 h9 => hT w9 (u_WH w9 h9)) t_WH o_WH hown (hw wd_26) (hw wd_28) (hw wd_2) hK hW rfl (by decide) f_WH (by show _ ≤ 43; omega) (by show _ ≤ 10048; omega) d_BD_init_26 (fun q64 H z65 hW => ?_)
  obtain ⟨h66, eh66⟩ : ∃ z9, z9 = ah_new h54 q64 3 0 := ⟨_, rfl⟩
  rw [← eh66] at hW
  have w := w q64 z65 h66 eh66
  have mm67 : ah_m h54 h66 := (ah_m.rf.nw z65).eq eh66
  have hm := hm.tr mm67
  have t68 := mm67.tg t56 (by decide)
  have t69 := mm67.tg t57 (by decide)
  have t70 := mm67.tg t58 (by decide)
  have t71 := mm67.tg t59 (by decide)
  have t72 := mm67.tg t60 (by decide)
  have t73 := mm67.tg t61 (by decide)
  have t74 : ah_T h66 q64 = 3 := by rw [eh66]; exact va_up_self _ _ _
  refine lv_dup hx hb d_BD_init_29 rfl ?_
  refine hb_callv (va_runIN (As := []) (rest := [.ref q64, .int (2 : Int32), .ref q62]) ⟨hx, hb, hml, hown, hts⟩ (m_WH_init G q64 h66 hst w) ⟨va_cnB 0 hts (zx_gB hT wd_31) rfl rfl rfl (hX.1 _ (zx_nest_BD_15) rfl) (hw wd_2) (by decide +kernel) ⟨Nat.le_of_ble_eq_true rfl, Nat.le_of_ble_eq_true rfl⟩, rfl, hw wd_30⟩ (hb_preS hK hX hW) rfl rfl hl.1 rfl (lv_room (Nat.le_of_ble_eq_true rfl)) d_BD_init_30 ⟨(by show _ ≤ 43; omega), (by show _ ≤ 10048; omega)⟩) hW (fun h75 H locs hk hW => ?_)
  obtain ⟨w, mm76⟩ := hk
  have w := w mm76
  have hm := hm.tr mm76
  have t77 := mm76.tg t68 (by decide)
  have t78 := mm76.tg t69 (by decide)
  have t79 := mm76.tg t70 (by decide)
  have t80 := mm76.tg t71 (by decide)
  have t81 := mm76.tg t72 (by decide)
  have t82 := mm76.tg t73 (by decide)
  have t83 := mm76.tg t74 (by decide)
  obtain ⟨t84, w⟩ := w
  obtain ⟨i85, w⟩ := w
  refine hb_astq hx hb hK hW t84 (by decide) 3 2 (r := ("BigDesk$Whole", T_WH, 3)) rfl t83 (by decide) rfl i85 d_BD_init_33 (fun H locs h86 eh86 hW => ?_)
  have w := w h86 eh86
  have mm87 : ah_m h75 h86 := ah_m.rf.st (by rw [eh86]; rfl) (by rw [eh86]; rfl)
  have hm := hm.tr mm87
  have t88 := mm87.tg t77 (by decide)
  have t89 := mm87.tg t78 (by decide)
  have t90 := mm87.tg t79 (by decide)
  have t91 := mm87.tg t80 (by decide)
  have t92 := mm87.tg t81 (by decide)
  have t93 := mm87.tg t82 (by decide)
  have t94 := mm87.tg t83 (by decide)
  have t95 := mm87.tg t84 (by decide)
  refine lv_iinc (v := (3 : Int32)) (lv' := [(1, .int (3 : Int32)), (0, .ref a1)]) hx hb d_BD_init_34 hl (k := 0) rfl (by decide) (by decide) rfl (fun ls hl => ?_)
  refine lv_goto (tgt := 15) hx hb d_BD_init_37 (by decide) ?_
  refine lv_iload_n hx hb d_BD_init_15 rfl (lv_at hl 0 rfl) ?_
  refine lv_bipush (v := 12) hx hb d_BD_init_16 (by decide) ?_
  refine lv_icmp_ge (tgt := 40) hx hb d_BD_init_18 (by decide) (fun c9 => absurd c9 (by decide)) (fun c9 => ?_)
  refine lv_aload_n hx hb d_BD_init_21 rfl (lv_at hl 1 rfl) ?_
  obtain ⟨q96, e97, w⟩ := w
  refine hb_get (ci := 3) (C := "BigDesk") (T := T_BD) (N := 9) hx hb hts (fun w9 h9 => hT w9 (u_BD w9 h9)) hown hK hW t89 rfl (by decide) 0 (by decide) (hw wd_104) (fun _ h9 => h9) (q := (2, 6)) rfl (v := .ref q96) (ah_f_R e97) d_BD_init_22 ?_
  refine lv_iload_n hx hb d_BD_init_25 rfl (lv_at hl 0 rfl) ?_
  refine hb_new (ci := 2) (C := "BigDesk$Whole") (T := T_WH) (N := 3) hx hb hts (fun w9 h9 => hT w9 (u_WH w9 h9)) t_WH o_WH hown (hw wd_26) (hw wd_28) (hw wd_2) hK hW rfl (by decide) f_WH (by show _ ≤ 43; omega) (by show _ ≤ 10048; omega) d_BD_init_26 (fun q98 H z99 hW => ?_)
  obtain ⟨h100, eh100⟩ : ∃ z9, z9 = ah_new h86 q98 3 0 := ⟨_, rfl⟩
  rw [← eh100] at hW
  have w := w q98 z99 h100 eh100
  have mm101 : ah_m h86 h100 := (ah_m.rf.nw z99).eq eh100
  have hm := hm.tr mm101
  have t102 := mm101.tg t88 (by decide)
  have t103 := mm101.tg t89 (by decide)
  have t104 := mm101.tg t90 (by decide)
  have t105 := mm101.tg t91 (by decide)
  have t106 := mm101.tg t92 (by decide)
  have t107 := mm101.tg t93 (by decide)
  have t108 := mm101.tg t94 (by decide)
  have t109 := mm101.tg t95 (by decide)
  have t110 : ah_T h100 q98 = 3 := by rw [eh100]; exact va_up_self _ _ _
  refine lv_dup hx hb d_BD_init_29 rfl ?_
  refine hb_callv (va_runIN (As := []) (rest := [.ref q98, .int (3 : Int32), .ref q96]) ⟨hx, hb, hml, hown, hts⟩ (m_WH_init G q98 h100 hst w) ⟨va_cnB 0 hts (zx_gB hT wd_31) rfl rfl rfl (hX.1 _ (zx_nest_BD_15) rfl) (hw wd_2) (by decide +kernel) ⟨Nat.le_of_ble_eq_true rfl, Nat.le_of_ble_eq_true rfl⟩, rfl, hw wd_30⟩ (hb_preS hK hX hW) rfl rfl hl.1 rfl (lv_room (Nat.le_of_ble_eq_true rfl)) d_BD_init_30 ⟨(by show _ ≤ 43; omega), (by show _ ≤ 10048; omega)⟩) hW (fun h111 H locs hk hW => ?_)
  obtain ⟨w, mm112⟩ := hk
  have w := w mm112
  have hm := hm.tr mm112
  have t113 := mm112.tg t102 (by decide)
  have t114 := mm112.tg t103 (by decide)
  have t115 := mm112.tg t104 (by decide)
  have t116 := mm112.tg t105 (by decide)
  have t117 := mm112.tg t106 (by decide)
  have t118 := mm112.tg t107 (by decide)
  have t119 := mm112.tg t108 (by decide)
  have t120 := mm112.tg t109 (by decide)
  have t121 := mm112.tg t110 (by decide)
  obtain ⟨t122, w⟩ := w
  obtain ⟨i123, w⟩ := w
  refine hb_astq hx hb hK hW t122 (by decide) 3 2 (r := ("BigDesk$Whole", T_WH, 3)) rfl t121 (by decide) rfl i123 d_BD_init_33 (fun H locs h124 eh124 hW => ?_)
  have w := w h124 eh124
  have mm125 : ah_m h111 h124 := ah_m.rf.st (by rw [eh124]; rfl) (by rw [eh124]; rfl)
  have hm := hm.tr mm125
  have t126 := mm125.tg t113 (by decide)
  have t127 := mm125.tg t114 (by decide)
  have t128 := mm125.tg t115 (by decide)
  have t129 := mm125.tg t116 (by decide)
  have t130 := mm125.tg t117 (by decide)
  have t131 := mm125.tg t118 (by decide)
  have t132 := mm125.tg t119 (by decide)
  have t133 := mm125.tg t120 (by decide)
  have t134 := mm125.tg t121 (by decide)
  have t135 := mm125.tg t122 (by decide)
  refine lv_iinc (v := (4 : Int32)) (lv' := [(1, .int (4 : Int32)), (0, .ref a1)]) hx hb d_BD_init_34 hl (k := 0) rfl (by decide) (by decide) rfl (fun ls hl => ?_)
  refine lv_goto (tgt := 15) hx hb d_BD_init_37 (by decide) ?_
  refine lv_iload_n hx hb d_BD_init_15 rfl (lv_at hl 0 rfl) ?_
  refine lv_bipush (v := 12) hx hb d_BD_init_16 (by decide) ?_
  refine lv_icmp_ge (tgt := 40) hx hb d_BD_init_18 (by decide) (fun c9 => absurd c9 (by decide)) (fun c9 => ?_)
  refine lv_aload_n hx hb d_BD_init_21 rfl (lv_at hl 1 rfl) ?_
  obtain ⟨q136, e137, w⟩ := w
  refine hb_get (ci := 3) (C := "BigDesk") (T := T_BD) (N := 9) hx hb hts (fun w9 h9 => hT w9 (u_BD w9 h9)) hown hK hW t127 rfl (by decide) 0 (by decide) (hw wd_104) (fun _ h9 => h9) (q := (2, 6)) rfl (v := .ref q136) (ah_f_R e137) d_BD_init_22 ?_
  refine lv_iload_n hx hb d_BD_init_25 rfl (lv_at hl 0 rfl) ?_
  refine hb_new (ci := 2) (C := "BigDesk$Whole") (T := T_WH) (N := 3) hx hb hts (fun w9 h9 => hT w9 (u_WH w9 h9)) t_WH o_WH hown (hw wd_26) (hw wd_28) (hw wd_2) hK hW rfl (by decide) f_WH (by show _ ≤ 43; omega) (by show _ ≤ 10048; omega) d_BD_init_26 (fun q138 H z139 hW => ?_)
  obtain ⟨h140, eh140⟩ : ∃ z9, z9 = ah_new h124 q138 3 0 := ⟨_, rfl⟩
  rw [← eh140] at hW
  have w := w q138 z139 h140 eh140
  have mm141 : ah_m h124 h140 := (ah_m.rf.nw z139).eq eh140
  have hm := hm.tr mm141
  have t142 := mm141.tg t126 (by decide)
  have t143 := mm141.tg t127 (by decide)
  have t144 := mm141.tg t128 (by decide)
  have t145 := mm141.tg t129 (by decide)
  have t146 := mm141.tg t130 (by decide)
  have t147 := mm141.tg t131 (by decide)
  have t148 := mm141.tg t132 (by decide)
  have t149 := mm141.tg t133 (by decide)
  have t150 := mm141.tg t134 (by decide)
  have t151 := mm141.tg t135 (by decide)
  have t152 : ah_T h140 q138 = 3 := by rw [eh140]; exact va_up_self _ _ _
  refine lv_dup hx hb d_BD_init_29 rfl ?_
  refine hb_callv (va_runIN (As := []) (rest := [.ref q138, .int (4 : Int32), .ref q136]) ⟨hx, hb, hml, hown, hts⟩ (m_WH_init G q138 h140 hst w) ⟨va_cnB 0 hts (zx_gB hT wd_31) rfl rfl rfl (hX.1 _ (zx_nest_BD_15) rfl) (hw wd_2) (by decide +kernel) ⟨Nat.le_of_ble_eq_true rfl, Nat.le_of_ble_eq_true rfl⟩, rfl, hw wd_30⟩ (hb_preS hK hX hW) rfl rfl hl.1 rfl (lv_room (Nat.le_of_ble_eq_true rfl)) d_BD_init_30 ⟨(by show _ ≤ 43; omega), (by show _ ≤ 10048; omega)⟩) hW (fun h153 H locs hk hW => ?_)
  obtain ⟨w, mm154⟩ := hk
  have w := w mm154
  have hm := hm.tr mm154
  have t155 := mm154.tg t142 (by decide)
  have t156 := mm154.tg t143 (by decide)
  have t157 := mm154.tg t144 (by decide)
  have t158 := mm154.tg t145 (by decide)
  have t159 := mm154.tg t146 (by decide)
  have t160 := mm154.tg t147 (by decide)
  have t161 := mm154.tg t148 (by decide)
  have t162 := mm154.tg t149 (by decide)
  have t163 := mm154.tg t150 (by decide)
  have t164 := mm154.tg t151 (by decide)
  have t165 := mm154.tg t152 (by decide)
  obtain ⟨t166, w⟩ := w
  obtain ⟨i167, w⟩ := w
  refine hb_astq hx hb hK hW t166 (by decide) 3 2 (r := ("BigDesk$Whole", T_WH, 3)) rfl t165 (by decide) rfl i167 d_BD_init_33 (fun H locs h168 eh168 hW => ?_)
  have w := w h168 eh168
  have mm169 : ah_m h153 h168 := ah_m.rf.st (by rw [eh168]; rfl) (by rw [eh168]; rfl)
  have hm := hm.tr mm169
  have t170 := mm169.tg t155 (by decide)
  have t171 := mm169.tg t156 (by decide)
  have t172 := mm169.tg t157 (by decide)
  have t173 := mm169.tg t158 (by decide)
  have t174 := mm169.tg t159 (by decide)
  have t175 := mm169.tg t160 (by decide)
  have t176 := mm169.tg t161 (by decide)
  have t177 := mm169.tg t162 (by decide)
  have t178 := mm169.tg t163 (by decide)
  have t179 := mm169.tg t164 (by decide)
  have t180 := mm169.tg t165 (by decide)
  have t181 := mm169.tg t166 (by decide)
  refine lv_iinc (v := (5 : Int32)) (lv' := [(1, .int (5 : Int32)), (0, .ref a1)]) hx hb d_BD_init_34 hl (k := 0) rfl (by decide) (by decide) rfl (fun ls hl => ?_)
  refine lv_goto (tgt := 15) hx hb d_BD_init_37 (by decide) ?_
  refine lv_iload_n hx hb d_BD_init_15 rfl (lv_at hl 0 rfl) ?_
  refine lv_bipush (v := 12) hx hb d_BD_init_16 (by decide) ?_
  refine lv_icmp_ge (tgt := 40) hx hb d_BD_init_18 (by decide) (fun c9 => absurd c9 (by decide)) (fun c9 => ?_)
  refine lv_aload_n hx hb d_BD_init_21 rfl (lv_at hl 1 rfl) ?_
  obtain ⟨q182, e183, w⟩ := w
  refine hb_get (ci := 3) (C := "BigDesk") (T := T_BD) (N := 9) hx hb hts (fun w9 h9 => hT w9 (u_BD w9 h9)) hown hK hW t171 rfl (by decide) 0 (by decide) (hw wd_104) (fun _ h9 => h9) (q := (2, 6)) rfl (v := .ref q182) (ah_f_R e183) d_BD_init_22 ?_
  refine lv_iload_n hx hb d_BD_init_25 rfl (lv_at hl 0 rfl) ?_
  refine hb_new (ci := 2) (C := "BigDesk$Whole") (T := T_WH) (N := 3) hx hb hts (fun w9 h9 => hT w9 (u_WH w9 h9)) t_WH o_WH hown (hw wd_26) (hw wd_28) (hw wd_2) hK hW rfl (by decide) f_WH (by show _ ≤ 43; omega) (by show _ ≤ 10048; omega) d_BD_init_26 (fun q184 H z185 hW => ?_)
  obtain ⟨h186, eh186⟩ : ∃ z9, z9 = ah_new h168 q184 3 0 := ⟨_, rfl⟩
  rw [← eh186] at hW
  have w := w q184 z185 h186 eh186
  have mm187 : ah_m h168 h186 := (ah_m.rf.nw z185).eq eh186
  have hm := hm.tr mm187
  have t188 := mm187.tg t170 (by decide)
  have t189 := mm187.tg t171 (by decide)
  have t190 := mm187.tg t172 (by decide)
  have t191 := mm187.tg t173 (by decide)
  have t192 := mm187.tg t174 (by decide)
  have t193 := mm187.tg t175 (by decide)
  have t194 := mm187.tg t176 (by decide)
  have t195 := mm187.tg t177 (by decide)
  have t196 := mm187.tg t178 (by decide)
  have t197 := mm187.tg t179 (by decide)
  have t198 := mm187.tg t180 (by decide)
  have t199 := mm187.tg t181 (by decide)
  have t200 : ah_T h186 q184 = 3 := by rw [eh186]; exact va_up_self _ _ _
  refine lv_dup hx hb d_BD_init_29 rfl ?_
  refine hb_callv (va_runIN (As := []) (rest := [.ref q184, .int (5 : Int32), .ref q182]) ⟨hx, hb, hml, hown, hts⟩ (m_WH_init G q184 h186 hst w) ⟨va_cnB 0 hts (zx_gB hT wd_31) rfl rfl rfl (hX.1 _ (zx_nest_BD_15) rfl) (hw wd_2) (by decide +kernel) ⟨Nat.le_of_ble_eq_true rfl, Nat.le_of_ble_eq_true rfl⟩, rfl, hw wd_30⟩ (hb_preS hK hX hW) rfl rfl hl.1 rfl (lv_room (Nat.le_of_ble_eq_true rfl)) d_BD_init_30 ⟨(by show _ ≤ 43; omega), (by show _ ≤ 10048; omega)⟩) hW (fun h201 H locs hk hW => ?_)
  obtain ⟨w, mm202⟩ := hk
  have w := w mm202
  have hm := hm.tr mm202
  have t203 := mm202.tg t188 (by decide)
  have t204 := mm202.tg t189 (by decide)
  have t205 := mm202.tg t190 (by decide)
  have t206 := mm202.tg t191 (by decide)
  have t207 := mm202.tg t192 (by decide)
  have t208 := mm202.tg t193 (by decide)
  have t209 := mm202.tg t194 (by decide)
  have t210 := mm202.tg t195 (by decide)
  have t211 := mm202.tg t196 (by decide)
  have t212 := mm202.tg t197 (by decide)
  have t213 := mm202.tg t198 (by decide)
  have t214 := mm202.tg t199 (by decide)
  have t215 := mm202.tg t200 (by decide)
  obtain ⟨t216, w⟩ := w
  obtain ⟨i217, w⟩ := w
  refine hb_astq hx hb hK hW t216 (by decide) 3 2 (r := ("BigDesk$Whole", T_WH, 3)) rfl t215 (by decide) rfl i217 d_BD_init_33 (fun H locs h218 eh218 hW => ?_)
  have w := w h218 eh218
  have mm219 : ah_m h201 h218 := ah_m.rf.st (by rw [eh218]; rfl) (by rw [eh218]; rfl)
  have hm := hm.tr mm219
  have t220 := mm219.tg t203 (by decide)
  have t221 := mm219.tg t204 (by decide)
  have t222 := mm219.tg t205 (by decide)
  have t223 := mm219.tg t206 (by decide)
  have t224 := mm219.tg t207 (by decide)
  have t225 := mm219.tg t208 (by decide)
  have t226 := mm219.tg t209 (by decide)
  have t227 := mm219.tg t210 (by decide)
  have t228 := mm219.tg t211 (by decide)
  have t229 := mm219.tg t212 (by decide)
  have t230 := mm219.tg t213 (by decide)
  have t231 := mm219.tg t214 (by decide)
  have t232 := mm219.tg t215 (by decide)
  have t233 := mm219.tg t216 (by decide)
  refine lv_iinc (v := (6 : Int32)) (lv' := [(1, .int (6 : Int32)), (0, .ref a1)]) hx hb d_BD_init_34 hl (k := 0) rfl (by decide) (by decide) rfl (fun ls hl => ?_)
  refine lv_goto (tgt := 15) hx hb d_BD_init_37 (by decide) ?_
  refine lv_iload_n hx hb d_BD_init_15 rfl (lv_at hl 0 rfl) ?_
  refine lv_bipush (v := 12) hx hb d_BD_init_16 (by decide) ?_
  refine lv_icmp_ge (tgt := 40) hx hb d_BD_init_18 (by decide) (fun c9 => absurd c9 (by decide)) (fun c9 => ?_)
  refine lv_aload_n hx hb d_BD_init_21 rfl (lv_at hl 1 rfl) ?_
  obtain ⟨q234, e235, w⟩ := w
  refine hb_get (ci := 3) (C := "BigDesk") (T := T_BD) (N := 9) hx hb hts (fun w9 h9 => hT w9 (u_BD w9 h9)) hown hK hW t221 rfl (by decide) 0 (by decide) (hw wd_104) (fun _ h9 => h9) (q := (2, 6)) rfl (v := .ref q234) (ah_f_R e235) d_BD_init_22 ?_
  refine lv_iload_n hx hb d_BD_init_25 rfl (lv_at hl 0 rfl) ?_
  refine hb_new (ci := 2) (C := "BigDesk$Whole") (T := T_WH) (N := 3) hx hb hts (fun w9 h9 => hT w9 (u_WH w9 h9)) t_WH o_WH hown (hw wd_26) (hw wd_28) (hw wd_2) hK hW rfl (by decide) f_WH (by show _ ≤ 43; omega) (by show _ ≤ 10048; omega) d_BD_init_26 (fun q236 H z237 hW => ?_)
  obtain ⟨h238, eh238⟩ : ∃ z9, z9 = ah_new h218 q236 3 0 := ⟨_, rfl⟩
  rw [← eh238] at hW
  have w := w q236 z237 h238 eh238
  have mm239 : ah_m h218 h238 := (ah_m.rf.nw z237).eq eh238
  have hm := hm.tr mm239
  have t240 := mm239.tg t220 (by decide)
  have t241 := mm239.tg t221 (by decide)
  have t242 := mm239.tg t222 (by decide)
  have t243 := mm239.tg t223 (by decide)
  have t244 := mm239.tg t224 (by decide)
  have t245 := mm239.tg t225 (by decide)
  have t246 := mm239.tg t226 (by decide)
  have t247 := mm239.tg t227 (by decide)
  have t248 := mm239.tg t228 (by decide)
  have t249 := mm239.tg t229 (by decide)
  have t250 := mm239.tg t230 (by decide)
  have t251 := mm239.tg t231 (by decide)
  have t252 := mm239.tg t232 (by decide)
  have t253 := mm239.tg t233 (by decide)
  have t254 : ah_T h238 q236 = 3 := by rw [eh238]; exact va_up_self _ _ _
  refine lv_dup hx hb d_BD_init_29 rfl ?_
  refine hb_callv (va_runIN (As := []) (rest := [.ref q236, .int (6 : Int32), .ref q234]) ⟨hx, hb, hml, hown, hts⟩ (m_WH_init G q236 h238 hst w) ⟨va_cnB 0 hts (zx_gB hT wd_31) rfl rfl rfl (hX.1 _ (zx_nest_BD_15) rfl) (hw wd_2) (by decide +kernel) ⟨Nat.le_of_ble_eq_true rfl, Nat.le_of_ble_eq_true rfl⟩, rfl, hw wd_30⟩ (hb_preS hK hX hW) rfl rfl hl.1 rfl (lv_room (Nat.le_of_ble_eq_true rfl)) d_BD_init_30 ⟨(by show _ ≤ 43; omega), (by show _ ≤ 10048; omega)⟩) hW (fun h255 H locs hk hW => ?_)
  obtain ⟨w, mm256⟩ := hk
  have w := w mm256
  have hm := hm.tr mm256
  have t257 := mm256.tg t240 (by decide)
  have t258 := mm256.tg t241 (by decide)
  have t259 := mm256.tg t242 (by decide)
  have t260 := mm256.tg t243 (by decide)
  have t261 := mm256.tg t244 (by decide)
  have t262 := mm256.tg t245 (by decide)
  have t263 := mm256.tg t246 (by decide)
  have t264 := mm256.tg t247 (by decide)
  have t265 := mm256.tg t248 (by decide)
  have t266 := mm256.tg t249 (by decide)
  have t267 := mm256.tg t250 (by decide)
  have t268 := mm256.tg t251 (by decide)
  have t269 := mm256.tg t252 (by decide)
  have t270 := mm256.tg t253 (by decide)
  have t271 := mm256.tg t254 (by decide)
  obtain ⟨t272, w⟩ := w
  obtain ⟨i273, w⟩ := w
  refine hb_astq hx hb hK hW t272 (by decide) 3 2 (r := ("BigDesk$Whole", T_WH, 3)) rfl t271 (by decide) rfl i273 d_BD_init_33 (fun H locs h274 eh274 hW => ?_)
  have w := w h274 eh274
  have mm275 : ah_m h255 h274 := ah_m.rf.st (by rw [eh274]; rfl) (by rw [eh274]; rfl)
  have hm := hm.tr mm275
  have t276 := mm275.tg t257 (by decide)
  have t277 := mm275.tg t258 (by decide)
  have t278 := mm275.tg t259 (by decide)
  have t279 := mm275.tg t260 (by decide)
  have t280 := mm275.tg t261 (by decide)
  have t281 := mm275.tg t262 (by decide)
  have t282 := mm275.tg t263 (by decide)
  have t283 := mm275.tg t264 (by decide)
  have t284 := mm275.tg t265 (by decide)
  have t285 := mm275.tg t266 (by decide)
  have t286 := mm275.tg t267 (by decide)
  have t287 := mm275.tg t268 (by decide)
  have t288 := mm275.tg t269 (by decide)
  have t289 := mm275.tg t270 (by decide)
  have t290 := mm275.tg t271 (by decide)
  have t291 := mm275.tg t272 (by decide)
  refine lv_iinc (v := (7 : Int32)) (lv' := [(1, .int (7 : Int32)), (0, .ref a1)]) hx hb d_BD_init_34 hl (k := 0) rfl (by decide) (by decide) rfl (fun ls hl => ?_)
  refine lv_goto (tgt := 15) hx hb d_BD_init_37 (by decide) ?_
  refine lv_iload_n hx hb d_BD_init_15 rfl (lv_at hl 0 rfl) ?_
  refine lv_bipush (v := 12) hx hb d_BD_init_16 (by decide) ?_
  refine lv_icmp_ge (tgt := 40) hx hb d_BD_init_18 (by decide) (fun c9 => absurd c9 (by decide)) (fun c9 => ?_)
  refine lv_aload_n hx hb d_BD_init_21 rfl (lv_at hl 1 rfl) ?_
  obtain ⟨q292, e293, w⟩ := w
  refine hb_get (ci := 3) (C := "BigDesk") (T := T_BD) (N := 9) hx hb hts (fun w9 h9 => hT w9 (u_BD w9 h9)) hown hK hW t277 rfl (by decide) 0 (by decide) (hw wd_104) (fun _ h9 => h9) (q := (2, 6)) rfl (v := .ref q292) (ah_f_R e293) d_BD_init_22 ?_
  refine lv_iload_n hx hb d_BD_init_25 rfl (lv_at hl 0 rfl) ?_
  refine hb_new (ci := 2) (C := "BigDesk$Whole") (T := T_WH) (N := 3) hx hb hts (fun w9 h9 => hT w9 (u_WH w9 h9)) t_WH o_WH hown (hw wd_26) (hw wd_28) (hw wd_2) hK hW rfl (by decide) f_WH (by show _ ≤ 43; omega) (by show _ ≤ 10048; omega) d_BD_init_26 (fun q294 H z295 hW => ?_)
  obtain ⟨h296, eh296⟩ : ∃ z9, z9 = ah_new h274 q294 3 0 := ⟨_, rfl⟩
  rw [← eh296] at hW
  have w := w q294 z295 h296 eh296
  have mm297 : ah_m h274 h296 := (ah_m.rf.nw z295).eq eh296
  have hm := hm.tr mm297
  have t298 := mm297.tg t276 (by decide)
  have t299 := mm297.tg t277 (by decide)
  have t300 := mm297.tg t278 (by decide)
  have t301 := mm297.tg t279 (by decide)
  have t302 := mm297.tg t280 (by decide)
  have t303 := mm297.tg t281 (by decide)
  have t304 := mm297.tg t282 (by decide)
  have t305 := mm297.tg t283 (by decide)
  have t306 := mm297.tg t284 (by decide)
  have t307 := mm297.tg t285 (by decide)
  have t308 := mm297.tg t286 (by decide)
  have t309 := mm297.tg t287 (by decide)
  have t310 := mm297.tg t288 (by decide)
  have t311 := mm297.tg t289 (by decide)
  have t312 := mm297.tg t290 (by decide)
  have t313 := mm297.tg t291 (by decide)
  have t314 : ah_T h296 q294 = 3 := by rw [eh296]; exact va_up_self _ _ _
  refine lv_dup hx hb d_BD_init_29 rfl ?_
  refine hb_callv (va_runIN (As := []) (rest := [.ref q294, .int (7 : Int32), .ref q292]) ⟨hx, hb, hml, hown, hts⟩ (m_WH_init G q294 h296 hst w) ⟨va_cnB 0 hts (zx_gB hT wd_31) rfl rfl rfl (hX.1 _ (zx_nest_BD_15) rfl) (hw wd_2) (by decide +kernel) ⟨Nat.le_of_ble_eq_true rfl, Nat.le_of_ble_eq_true rfl⟩, rfl, hw wd_30⟩ (hb_preS hK hX hW) rfl rfl hl.1 rfl (lv_room (Nat.le_of_ble_eq_true rfl)) d_BD_init_30 ⟨(by show _ ≤ 43; omega), (by show _ ≤ 10048; omega)⟩) hW (fun h315 H locs hk hW => ?_)
  obtain ⟨w, mm316⟩ := hk
  have w := w mm316
  have hm := hm.tr mm316
  have t317 := mm316.tg t298 (by decide)
  have t318 := mm316.tg t299 (by decide)
  have t319 := mm316.tg t300 (by decide)
  have t320 := mm316.tg t301 (by decide)
  have t321 := mm316.tg t302 (by decide)
  have t322 := mm316.tg t303 (by decide)
  have t323 := mm316.tg t304 (by decide)
  have t324 := mm316.tg t305 (by decide)
  have t325 := mm316.tg t306 (by decide)
  have t326 := mm316.tg t307 (by decide)
  have t327 := mm316.tg t308 (by decide)
  have t328 := mm316.tg t309 (by decide)
  have t329 := mm316.tg t310 (by decide)
  have t330 := mm316.tg t311 (by decide)
  have t331 := mm316.tg t312 (by decide)
  have t332 := mm316.tg t313 (by decide)
  have t333 := mm316.tg t314 (by decide)
  obtain ⟨t334, w⟩ := w
  obtain ⟨i335, w⟩ := w
  refine hb_astq hx hb hK hW t334 (by decide) 3 2 (r := ("BigDesk$Whole", T_WH, 3)) rfl t333 (by decide) rfl i335 d_BD_init_33 (fun H locs h336 eh336 hW => ?_)
  have w := w h336 eh336
  have mm337 : ah_m h315 h336 := ah_m.rf.st (by rw [eh336]; rfl) (by rw [eh336]; rfl)
  have hm := hm.tr mm337
  have t338 := mm337.tg t317 (by decide)
  have t339 := mm337.tg t318 (by decide)
  have t340 := mm337.tg t319 (by decide)
  have t341 := mm337.tg t320 (by decide)
  have t342 := mm337.tg t321 (by decide)
  have t343 := mm337.tg t322 (by decide)
  have t344 := mm337.tg t323 (by decide)
  have t345 := mm337.tg t324 (by decide)
  have t346 := mm337.tg t325 (by decide)
  have t347 := mm337.tg t326 (by decide)
  have t348 := mm337.tg t327 (by decide)
  have t349 := mm337.tg t328 (by decide)
  have t350 := mm337.tg t329 (by decide)
  have t351 := mm337.tg t330 (by decide)
  have t352 := mm337.tg t331 (by decide)
  have t353 := mm337.tg t332 (by decide)
  have t354 := mm337.tg t333 (by decide)
  have t355 := mm337.tg t334 (by decide)
  refine lv_iinc (v := (8 : Int32)) (lv' := [(1, .int (8 : Int32)), (0, .ref a1)]) hx hb d_BD_init_34 hl (k := 0) rfl (by decide) (by decide) rfl (fun ls hl => ?_)
  refine lv_goto (tgt := 15) hx hb d_BD_init_37 (by decide) ?_
  refine lv_iload_n hx hb d_BD_init_15 rfl (lv_at hl 0 rfl) ?_
  refine lv_bipush (v := 12) hx hb d_BD_init_16 (by decide) ?_
  refine lv_icmp_ge (tgt := 40) hx hb d_BD_init_18 (by decide) (fun c9 => absurd c9 (by decide)) (fun c9 => ?_)
  refine lv_aload_n hx hb d_BD_init_21 rfl (lv_at hl 1 rfl) ?_
  obtain ⟨q356, e357, w⟩ := w
  refine hb_get (ci := 3) (C := "BigDesk") (T := T_BD) (N := 9) hx hb hts (fun w9 h9 => hT w9 (u_BD w9 h9)) hown hK hW t339 rfl (by decide) 0 (by decide) (hw wd_104) (fun _ h9 => h9) (q := (2, 6)) rfl (v := .ref q356) (ah_f_R e357) d_BD_init_22 ?_
  refine lv_iload_n hx hb d_BD_init_25 rfl (lv_at hl 0 rfl) ?_
  refine hb_new (ci := 2) (C := "BigDesk$Whole") (T := T_WH) (N := 3) hx hb hts (fun w9 h9 => hT w9 (u_WH w9 h9)) t_WH o_WH hown (hw wd_26) (hw wd_28) (hw wd_2) hK hW rfl (by decide) f_WH (by show _ ≤ 43; omega) (by show _ ≤ 10048; omega) d_BD_init_26 (fun q358 H z359 hW => ?_)
  obtain ⟨h360, eh360⟩ : ∃ z9, z9 = ah_new h336 q358 3 0 := ⟨_, rfl⟩
  rw [← eh360] at hW
  have w := w q358 z359 h360 eh360
  have mm361 : ah_m h336 h360 := (ah_m.rf.nw z359).eq eh360
  have hm := hm.tr mm361
  have t362 := mm361.tg t338 (by decide)
  have t363 := mm361.tg t339 (by decide)
  have t364 := mm361.tg t340 (by decide)
  have t365 := mm361.tg t341 (by decide)
  have t366 := mm361.tg t342 (by decide)
  have t367 := mm361.tg t343 (by decide)
  have t368 := mm361.tg t344 (by decide)
  have t369 := mm361.tg t345 (by decide)
  have t370 := mm361.tg t346 (by decide)
  have t371 := mm361.tg t347 (by decide)
  have t372 := mm361.tg t348 (by decide)
  have t373 := mm361.tg t349 (by decide)
  have t374 := mm361.tg t350 (by decide)
  have t375 := mm361.tg t351 (by decide)
  have t376 := mm361.tg t352 (by decide)
  have t377 := mm361.tg t353 (by decide)
  have t378 := mm361.tg t354 (by decide)
  have t379 := mm361.tg t355 (by decide)
  have t380 : ah_T h360 q358 = 3 := by rw [eh360]; exact va_up_self _ _ _
  refine lv_dup hx hb d_BD_init_29 rfl ?_
  refine hb_callv (va_runIN (As := []) (rest := [.ref q358, .int (8 : Int32), .ref q356]) ⟨hx, hb, hml, hown, hts⟩ (m_WH_init G q358 h360 hst w) ⟨va_cnB 0 hts (zx_gB hT wd_31) rfl rfl rfl (hX.1 _ (zx_nest_BD_15) rfl) (hw wd_2) (by decide +kernel) ⟨Nat.le_of_ble_eq_true rfl, Nat.le_of_ble_eq_true rfl⟩, rfl, hw wd_30⟩ (hb_preS hK hX hW) rfl rfl hl.1 rfl (lv_room (Nat.le_of_ble_eq_true rfl)) d_BD_init_30 ⟨(by show _ ≤ 43; omega), (by show _ ≤ 10048; omega)⟩) hW (fun h381 H locs hk hW => ?_)
  obtain ⟨w, mm382⟩ := hk
  have w := w mm382
  have hm := hm.tr mm382
  have t383 := mm382.tg t362 (by decide)
  have t384 := mm382.tg t363 (by decide)
  have t385 := mm382.tg t364 (by decide)
  have t386 := mm382.tg t365 (by decide)
  have t387 := mm382.tg t366 (by decide)
  have t388 := mm382.tg t367 (by decide)
  have t389 := mm382.tg t368 (by decide)
  have t390 := mm382.tg t369 (by decide)
  have t391 := mm382.tg t370 (by decide)
  have t392 := mm382.tg t371 (by decide)
  have t393 := mm382.tg t372 (by decide)
  have t394 := mm382.tg t373 (by decide)
  have t395 := mm382.tg t374 (by decide)
  have t396 := mm382.tg t375 (by decide)
  have t397 := mm382.tg t376 (by decide)
  have t398 := mm382.tg t377 (by decide)
  have t399 := mm382.tg t378 (by decide)
  have t400 := mm382.tg t379 (by decide)
  have t401 := mm382.tg t380 (by decide)
  obtain ⟨t402, w⟩ := w
  obtain ⟨i403, w⟩ := w
  refine hb_astq hx hb hK hW t402 (by decide) 3 2 (r := ("BigDesk$Whole", T_WH, 3)) rfl t401 (by decide) rfl i403 d_BD_init_33 (fun H locs h404 eh404 hW => ?_)
  have w := w h404 eh404
  have mm405 : ah_m h381 h404 := ah_m.rf.st (by rw [eh404]; rfl) (by rw [eh404]; rfl)
  have hm := hm.tr mm405
  have t406 := mm405.tg t383 (by decide)
  have t407 := mm405.tg t384 (by decide)
  have t408 := mm405.tg t385 (by decide)
  have t409 := mm405.tg t386 (by decide)
  have t410 := mm405.tg t387 (by decide)
  have t411 := mm405.tg t388 (by decide)
  have t412 := mm405.tg t389 (by decide)
  have t413 := mm405.tg t390 (by decide)
  have t414 := mm405.tg t391 (by decide)
  have t415 := mm405.tg t392 (by decide)
  have t416 := mm405.tg t393 (by decide)
  have t417 := mm405.tg t394 (by decide)
  have t418 := mm405.tg t395 (by decide)
  have t419 := mm405.tg t396 (by decide)
  have t420 := mm405.tg t397 (by decide)
  have t421 := mm405.tg t398 (by decide)
  have t422 := mm405.tg t399 (by decide)
  have t423 := mm405.tg t400 (by decide)
  have t424 := mm405.tg t401 (by decide)
  have t425 := mm405.tg t402 (by decide)
  refine lv_iinc (v := (9 : Int32)) (lv' := [(1, .int (9 : Int32)), (0, .ref a1)]) hx hb d_BD_init_34 hl (k := 0) rfl (by decide) (by decide) rfl (fun ls hl => ?_)
  refine lv_goto (tgt := 15) hx hb d_BD_init_37 (by decide) ?_
  refine lv_iload_n hx hb d_BD_init_15 rfl (lv_at hl 0 rfl) ?_
  refine lv_bipush (v := 12) hx hb d_BD_init_16 (by decide) ?_
  refine lv_icmp_ge (tgt := 40) hx hb d_BD_init_18 (by decide) (fun c9 => absurd c9 (by decide)) (fun c9 => ?_)
  refine lv_aload_n hx hb d_BD_init_21 rfl (lv_at hl 1 rfl) ?_
  obtain ⟨q426, e427, w⟩ := w
  refine hb_get (ci := 3) (C := "BigDesk") (T := T_BD) (N := 9) hx hb hts (fun w9 h9 => hT w9 (u_BD w9 h9)) hown hK hW t407 rfl (by decide) 0 (by decide) (hw wd_104) (fun _ h9 => h9) (q := (2, 6)) rfl (v := .ref q426) (ah_f_R e427) d_BD_init_22 ?_
  refine lv_iload_n hx hb d_BD_init_25 rfl (lv_at hl 0 rfl) ?_
  refine hb_new (ci := 2) (C := "BigDesk$Whole") (T := T_WH) (N := 3) hx hb hts (fun w9 h9 => hT w9 (u_WH w9 h9)) t_WH o_WH hown (hw wd_26) (hw wd_28) (hw wd_2) hK hW rfl (by decide) f_WH (by show _ ≤ 43; omega) (by show _ ≤ 10048; omega) d_BD_init_26 (fun q428 H z429 hW => ?_)
  obtain ⟨h430, eh430⟩ : ∃ z9, z9 = ah_new h404 q428 3 0 := ⟨_, rfl⟩
  rw [← eh430] at hW
  have w := w q428 z429 h430 eh430
  have mm431 : ah_m h404 h430 := (ah_m.rf.nw z429).eq eh430
  have hm := hm.tr mm431
  have t432 := mm431.tg t406 (by decide)
  have t433 := mm431.tg t407 (by decide)
  have t434 := mm431.tg t408 (by decide)
  have t435 := mm431.tg t409 (by decide)
  have t436 := mm431.tg t410 (by decide)
  have t437 := mm431.tg t411 (by decide)
  have t438 := mm431.tg t412 (by decide)
  have t439 := mm431.tg t413 (by decide)
  have t440 := mm431.tg t414 (by decide)
  have t441 := mm431.tg t415 (by decide)
  have t442 := mm431.tg t416 (by decide)
  have t443 := mm431.tg t417 (by decide)
  have t444 := mm431.tg t418 (by decide)
  have t445 := mm431.tg t419 (by decide)
  have t446 := mm431.tg t420 (by decide)
  have t447 := mm431.tg t421 (by decide)
  have t448 := mm431.tg t422 (by decide)
  have t449 := mm431.tg t423 (by decide)
  have t450 := mm431.tg t424 (by decide)
  have t451 := mm431.tg t425 (by decide)
  have t452 : ah_T h430 q428 = 3 := by rw [eh430]; exact va_up_self _ _ _
  refine lv_dup hx hb d_BD_init_29 rfl ?_
  refine hb_callv (va_runIN (As := []) (rest := [.ref q428, .int (9 : Int32), .ref q426]) ⟨hx, hb, hml, hown, hts⟩ (m_WH_init G q428 h430 hst w) ⟨va_cnB 0 hts (zx_gB hT wd_31) rfl rfl rfl (hX.1 _ (zx_nest_BD_15) rfl) (hw wd_2) (by decide +kernel) ⟨Nat.le_of_ble_eq_true rfl, Nat.le_of_ble_eq_true rfl⟩, rfl, hw wd_30⟩ (hb_preS hK hX hW) rfl rfl hl.1 rfl (lv_room (Nat.le_of_ble_eq_true rfl)) d_BD_init_30 ⟨(by show _ ≤ 43; omega), (by show _ ≤ 10048; omega)⟩) hW (fun h453 H locs hk hW => ?_)
  obtain ⟨w, mm454⟩ := hk
  have w := w mm454
  have hm := hm.tr mm454
  have t455 := mm454.tg t432 (by decide)
  have t456 := mm454.tg t433 (by decide)
  have t457 := mm454.tg t434 (by decide)
  have t458 := mm454.tg t435 (by decide)
  have t459 := mm454.tg t436 (by decide)
  have t460 := mm454.tg t437 (by decide)
  have t461 := mm454.tg t438 (by decide)
  have t462 := mm454.tg t439 (by decide)
  have t463 := mm454.tg t440 (by decide)
  have t464 := mm454.tg t441 (by decide)
  have t465 := mm454.tg t442 (by decide)
  have t466 := mm454.tg t443 (by decide)
  have t467 := mm454.tg t444 (by decide)
  have t468 := mm454.tg t445 (by decide)
  have t469 := mm454.tg t446 (by decide)
  have t470 := mm454.tg t447 (by decide)
  have t471 := mm454.tg t448 (by decide)
  have t472 := mm454.tg t449 (by decide)
  have t473 := mm454.tg t450 (by decide)
  have t474 := mm454.tg t451 (by decide)
  have t475 := mm454.tg t452 (by decide)
  obtain ⟨t476, w⟩ := w
  obtain ⟨i477, w⟩ := w
  refine hb_astq hx hb hK hW t476 (by decide) 3 2 (r := ("BigDesk$Whole", T_WH, 3)) rfl t475 (by decide) rfl i477 d_BD_init_33 (fun H locs h478 eh478 hW => ?_)
  have w := w h478 eh478
  have mm479 : ah_m h453 h478 := ah_m.rf.st (by rw [eh478]; rfl) (by rw [eh478]; rfl)
  have hm := hm.tr mm479
  have t480 := mm479.tg t455 (by decide)
  have t481 := mm479.tg t456 (by decide)
  have t482 := mm479.tg t457 (by decide)
  have t483 := mm479.tg t458 (by decide)
  have t484 := mm479.tg t459 (by decide)
  have t485 := mm479.tg t460 (by decide)
  have t486 := mm479.tg t461 (by decide)
  have t487 := mm479.tg t462 (by decide)
  have t488 := mm479.tg t463 (by decide)
  have t489 := mm479.tg t464 (by decide)
  have t490 := mm479.tg t465 (by decide)
  have t491 := mm479.tg t466 (by decide)
  have t492 := mm479.tg t467 (by decide)
  have t493 := mm479.tg t468 (by decide)
  have t494 := mm479.tg t469 (by decide)
  have t495 := mm479.tg t470 (by decide)
  have t496 := mm479.tg t471 (by decide)
  have t497 := mm479.tg t472 (by decide)
  have t498 := mm479.tg t473 (by decide)
  have t499 := mm479.tg t474 (by decide)
  have t500 := mm479.tg t475 (by decide)
  have t501 := mm479.tg t476 (by decide)
  refine lv_iinc (v := (10 : Int32)) (lv' := [(1, .int (10 : Int32)), (0, .ref a1)]) hx hb d_BD_init_34 hl (k := 0) rfl (by decide) (by decide) rfl (fun ls hl => ?_)
  refine lv_goto (tgt := 15) hx hb d_BD_init_37 (by decide) ?_
  refine lv_iload_n hx hb d_BD_init_15 rfl (lv_at hl 0 rfl) ?_
  refine lv_bipush (v := 12) hx hb d_BD_init_16 (by decide) ?_
  refine lv_icmp_ge (tgt := 40) hx hb d_BD_init_18 (by decide) (fun c9 => absurd c9 (by decide)) (fun c9 => ?_)
  refine lv_aload_n hx hb d_BD_init_21 rfl (lv_at hl 1 rfl) ?_
  obtain ⟨q502, e503, w⟩ := w
  refine hb_get (ci := 3) (C := "BigDesk") (T := T_BD) (N := 9) hx hb hts (fun w9 h9 => hT w9 (u_BD w9 h9)) hown hK hW t481 rfl (by decide) 0 (by decide) (hw wd_104) (fun _ h9 => h9) (q := (2, 6)) rfl (v := .ref q502) (ah_f_R e503) d_BD_init_22 ?_
  refine lv_iload_n hx hb d_BD_init_25 rfl (lv_at hl 0 rfl) ?_
  refine hb_new (ci := 2) (C := "BigDesk$Whole") (T := T_WH) (N := 3) hx hb hts (fun w9 h9 => hT w9 (u_WH w9 h9)) t_WH o_WH hown (hw wd_26) (hw wd_28) (hw wd_2) hK hW rfl (by decide) f_WH (by show _ ≤ 43; omega) (by show _ ≤ 10048; omega) d_BD_init_26 (fun q504 H z505 hW => ?_)
  obtain ⟨h506, eh506⟩ : ∃ z9, z9 = ah_new h478 q504 3 0 := ⟨_, rfl⟩
  rw [← eh506] at hW
  have w := w q504 z505 h506 eh506
  have mm507 : ah_m h478 h506 := (ah_m.rf.nw z505).eq eh506
  have hm := hm.tr mm507
  have t508 := mm507.tg t480 (by decide)
  have t509 := mm507.tg t481 (by decide)
  have t510 := mm507.tg t482 (by decide)
  have t511 := mm507.tg t483 (by decide)
  have t512 := mm507.tg t484 (by decide)
  have t513 := mm507.tg t485 (by decide)
  have t514 := mm507.tg t486 (by decide)
  have t515 := mm507.tg t487 (by decide)
  have t516 := mm507.tg t488 (by decide)
  have t517 := mm507.tg t489 (by decide)
  have t518 := mm507.tg t490 (by decide)
  have t519 := mm507.tg t491 (by decide)
  have t520 := mm507.tg t492 (by decide)
  have t521 := mm507.tg t493 (by decide)
  have t522 := mm507.tg t494 (by decide)
  have t523 := mm507.tg t495 (by decide)
  have t524 := mm507.tg t496 (by decide)
  have t525 := mm507.tg t497 (by decide)
  have t526 := mm507.tg t498 (by decide)
  have t527 := mm507.tg t499 (by decide)
  have t528 := mm507.tg t500 (by decide)
  have t529 := mm507.tg t501 (by decide)
  have t530 : ah_T h506 q504 = 3 := by rw [eh506]; exact va_up_self _ _ _
  refine lv_dup hx hb d_BD_init_29 rfl ?_
  refine hb_callv (va_runIN (As := []) (rest := [.ref q504, .int (10 : Int32), .ref q502]) ⟨hx, hb, hml, hown, hts⟩ (m_WH_init G q504 h506 hst w) ⟨va_cnB 0 hts (zx_gB hT wd_31) rfl rfl rfl (hX.1 _ (zx_nest_BD_15) rfl) (hw wd_2) (by decide +kernel) ⟨Nat.le_of_ble_eq_true rfl, Nat.le_of_ble_eq_true rfl⟩, rfl, hw wd_30⟩ (hb_preS hK hX hW) rfl rfl hl.1 rfl (lv_room (Nat.le_of_ble_eq_true rfl)) d_BD_init_30 ⟨(by show _ ≤ 43; omega), (by show _ ≤ 10048; omega)⟩) hW (fun h531 H locs hk hW => ?_)
  obtain ⟨w, mm532⟩ := hk
  have w := w mm532
  have hm := hm.tr mm532
  have t533 := mm532.tg t508 (by decide)
  have t534 := mm532.tg t509 (by decide)
  have t535 := mm532.tg t510 (by decide)
  have t536 := mm532.tg t511 (by decide)
  have t537 := mm532.tg t512 (by decide)
  have t538 := mm532.tg t513 (by decide)
  have t539 := mm532.tg t514 (by decide)
  have t540 := mm532.tg t515 (by decide)
  have t541 := mm532.tg t516 (by decide)
  have t542 := mm532.tg t517 (by decide)
  have t543 := mm532.tg t518 (by decide)
  have t544 := mm532.tg t519 (by decide)
  have t545 := mm532.tg t520 (by decide)
  have t546 := mm532.tg t521 (by decide)
  have t547 := mm532.tg t522 (by decide)
  have t548 := mm532.tg t523 (by decide)
  have t549 := mm532.tg t524 (by decide)
  have t550 := mm532.tg t525 (by decide)
  have t551 := mm532.tg t526 (by decide)
  have t552 := mm532.tg t527 (by decide)
  have t553 := mm532.tg t528 (by decide)
  have t554 := mm532.tg t529 (by decide)
  have t555 := mm532.tg t530 (by decide)
  obtain ⟨t556, w⟩ := w
  obtain ⟨i557, w⟩ := w
  refine hb_astq hx hb hK hW t556 (by decide) 3 2 (r := ("BigDesk$Whole", T_WH, 3)) rfl t555 (by decide) rfl i557 d_BD_init_33 (fun H locs h558 eh558 hW => ?_)
  have w := w h558 eh558
  have mm559 : ah_m h531 h558 := ah_m.rf.st (by rw [eh558]; rfl) (by rw [eh558]; rfl)
  have hm := hm.tr mm559
  have t560 := mm559.tg t533 (by decide)
  have t561 := mm559.tg t534 (by decide)
  have t562 := mm559.tg t535 (by decide)
  have t563 := mm559.tg t536 (by decide)
  have t564 := mm559.tg t537 (by decide)
  have t565 := mm559.tg t538 (by decide)
  have t566 := mm559.tg t539 (by decide)
  have t567 := mm559.tg t540 (by decide)
  have t568 := mm559.tg t541 (by decide)
  have t569 := mm559.tg t542 (by decide)
  have t570 := mm559.tg t543 (by decide)
  have t571 := mm559.tg t544 (by decide)
  have t572 := mm559.tg t545 (by decide)
  have t573 := mm559.tg t546 (by decide)
  have t574 := mm559.tg t547 (by decide)
  have t575 := mm559.tg t548 (by decide)
  have t576 := mm559.tg t549 (by decide)
  have t577 := mm559.tg t550 (by decide)
  have t578 := mm559.tg t551 (by decide)
  have t579 := mm559.tg t552 (by decide)
  have t580 := mm559.tg t553 (by decide)
  have t581 := mm559.tg t554 (by decide)
  have t582 := mm559.tg t555 (by decide)
  have t583 := mm559.tg t556 (by decide)
  refine lv_iinc (v := (11 : Int32)) (lv' := [(1, .int (11 : Int32)), (0, .ref a1)]) hx hb d_BD_init_34 hl (k := 0) rfl (by decide) (by decide) rfl (fun ls hl => ?_)
  refine lv_goto (tgt := 15) hx hb d_BD_init_37 (by decide) ?_
  refine lv_iload_n hx hb d_BD_init_15 rfl (lv_at hl 0 rfl) ?_
  refine lv_bipush (v := 12) hx hb d_BD_init_16 (by decide) ?_
  refine lv_icmp_ge (tgt := 40) hx hb d_BD_init_18 (by decide) (fun c9 => absurd c9 (by decide)) (fun c9 => ?_)
  refine lv_aload_n hx hb d_BD_init_21 rfl (lv_at hl 1 rfl) ?_
  obtain ⟨q584, e585, w⟩ := w
  refine hb_get (ci := 3) (C := "BigDesk") (T := T_BD) (N := 9) hx hb hts (fun w9 h9 => hT w9 (u_BD w9 h9)) hown hK hW t561 rfl (by decide) 0 (by decide) (hw wd_104) (fun _ h9 => h9) (q := (2, 6)) rfl (v := .ref q584) (ah_f_R e585) d_BD_init_22 ?_
  refine lv_iload_n hx hb d_BD_init_25 rfl (lv_at hl 0 rfl) ?_
  refine hb_new (ci := 2) (C := "BigDesk$Whole") (T := T_WH) (N := 3) hx hb hts (fun w9 h9 => hT w9 (u_WH w9 h9)) t_WH o_WH hown (hw wd_26) (hw wd_28) (hw wd_2) hK hW rfl (by decide) f_WH (by show _ ≤ 43; omega) (by show _ ≤ 10048; omega) d_BD_init_26 (fun q586 H z587 hW => ?_)
  obtain ⟨h588, eh588⟩ : ∃ z9, z9 = ah_new h558 q586 3 0 := ⟨_, rfl⟩
  rw [← eh588] at hW
  have w := w q586 z587 h588 eh588
  have mm589 : ah_m h558 h588 := (ah_m.rf.nw z587).eq eh588
  have hm := hm.tr mm589
  have t590 := mm589.tg t560 (by decide)
  have t591 := mm589.tg t561 (by decide)
  have t592 := mm589.tg t562 (by decide)
  have t593 := mm589.tg t563 (by decide)
  have t594 := mm589.tg t564 (by decide)
  have t595 := mm589.tg t565 (by decide)
  have t596 := mm589.tg t566 (by decide)
  have t597 := mm589.tg t567 (by decide)
  have t598 := mm589.tg t568 (by decide)
  have t599 := mm589.tg t569 (by decide)
  have t600 := mm589.tg t570 (by decide)
  have t601 := mm589.tg t571 (by decide)
  have t602 := mm589.tg t572 (by decide)
  have t603 := mm589.tg t573 (by decide)
  have t604 := mm589.tg t574 (by decide)
  have t605 := mm589.tg t575 (by decide)
  have t606 := mm589.tg t576 (by decide)
  have t607 := mm589.tg t577 (by decide)
  have t608 := mm589.tg t578 (by decide)
  have t609 := mm589.tg t579 (by decide)
  have t610 := mm589.tg t580 (by decide)
  have t611 := mm589.tg t581 (by decide)
  have t612 := mm589.tg t582 (by decide)
  have t613 := mm589.tg t583 (by decide)
  have t614 : ah_T h588 q586 = 3 := by rw [eh588]; exact va_up_self _ _ _
  refine lv_dup hx hb d_BD_init_29 rfl ?_
  refine hb_callv (va_runIN (As := []) (rest := [.ref q586, .int (11 : Int32), .ref q584]) ⟨hx, hb, hml, hown, hts⟩ (m_WH_init G q586 h588 hst w) ⟨va_cnB 0 hts (zx_gB hT wd_31) rfl rfl rfl (hX.1 _ (zx_nest_BD_15) rfl) (hw wd_2) (by decide +kernel) ⟨Nat.le_of_ble_eq_true rfl, Nat.le_of_ble_eq_true rfl⟩, rfl, hw wd_30⟩ (hb_preS hK hX hW) rfl rfl hl.1 rfl (lv_room (Nat.le_of_ble_eq_true rfl)) d_BD_init_30 ⟨(by show _ ≤ 43; omega), (by show _ ≤ 10048; omega)⟩) hW (fun h615 H locs hk hW => ?_)
  obtain ⟨w, mm616⟩ := hk
  have w := w mm616
  have hm := hm.tr mm616
  have t617 := mm616.tg t590 (by decide)
  have t618 := mm616.tg t591 (by decide)
  have t619 := mm616.tg t592 (by decide)
  have t620 := mm616.tg t593 (by decide)
  have t621 := mm616.tg t594 (by decide)
  have t622 := mm616.tg t595 (by decide)
  have t623 := mm616.tg t596 (by decide)
  have t624 := mm616.tg t597 (by decide)
  have t625 := mm616.tg t598 (by decide)
  have t626 := mm616.tg t599 (by decide)
  have t627 := mm616.tg t600 (by decide)
  have t628 := mm616.tg t601 (by decide)
  have t629 := mm616.tg t602 (by decide)
  have t630 := mm616.tg t603 (by decide)
  have t631 := mm616.tg t604 (by decide)
  have t632 := mm616.tg t605 (by decide)
  have t633 := mm616.tg t606 (by decide)
  have t634 := mm616.tg t607 (by decide)
  have t635 := mm616.tg t608 (by decide)
  have t636 := mm616.tg t609 (by decide)
  have t637 := mm616.tg t610 (by decide)
  have t638 := mm616.tg t611 (by decide)
  have t639 := mm616.tg t612 (by decide)
  have t640 := mm616.tg t613 (by decide)
  have t641 := mm616.tg t614 (by decide)
  obtain ⟨t642, w⟩ := w
  obtain ⟨i643, w⟩ := w
  refine hb_astq hx hb hK hW t642 (by decide) 3 2 (r := ("BigDesk$Whole", T_WH, 3)) rfl t641 (by decide) rfl i643 d_BD_init_33 (fun H locs h644 eh644 hW => ?_)
  have w := w h644 eh644
  have mm645 : ah_m h615 h644 := ah_m.rf.st (by rw [eh644]; rfl) (by rw [eh644]; rfl)
  have hm := hm.tr mm645
  have t646 := mm645.tg t617 (by decide)
  have t647 := mm645.tg t618 (by decide)
  have t648 := mm645.tg t619 (by decide)
  have t649 := mm645.tg t620 (by decide)
  have t650 := mm645.tg t621 (by decide)
  have t651 := mm645.tg t622 (by decide)
  have t652 := mm645.tg t623 (by decide)
  have t653 := mm645.tg t624 (by decide)
  have t654 := mm645.tg t625 (by decide)
  have t655 := mm645.tg t626 (by decide)
  have t656 := mm645.tg t627 (by decide)
  have t657 := mm645.tg t628 (by decide)
  have t658 := mm645.tg t629 (by decide)
  have t659 := mm645.tg t630 (by decide)
  have t660 := mm645.tg t631 (by decide)
  have t661 := mm645.tg t632 (by decide)
  have t662 := mm645.tg t633 (by decide)
  have t663 := mm645.tg t634 (by decide)
  have t664 := mm645.tg t635 (by decide)
  have t665 := mm645.tg t636 (by decide)
  have t666 := mm645.tg t637 (by decide)
  have t667 := mm645.tg t638 (by decide)
  have t668 := mm645.tg t639 (by decide)
  have t669 := mm645.tg t640 (by decide)
  have t670 := mm645.tg t641 (by decide)
  have t671 := mm645.tg t642 (by decide)
  refine lv_iinc (v := (12 : Int32)) (lv' := [(1, .int (12 : Int32)), (0, .ref a1)]) hx hb d_BD_init_34 hl (k := 0) rfl (by decide) (by decide) rfl (fun ls hl => ?_)
  refine lv_goto (tgt := 15) hx hb d_BD_init_37 (by decide) ?_
  refine lv_iload_n hx hb d_BD_init_15 rfl (lv_at hl 0 rfl) ?_
  refine lv_bipush (v := 12) hx hb d_BD_init_16 (by decide) ?_
  refine lv_icmp_ge (tgt := 40) hx hb d_BD_init_18 (by decide) (fun c9 => ?_) (fun c9 => absurd (by decide) c9)
  refine lv_aload_n hx hb d_BD_init_40 rfl (lv_at hl 1 rfl) ?_
  refine hb_new (ci := 2) (C := "BigDesk$Whole") (T := T_WH) (N := 3) hx hb hts (fun w9 h9 => hT w9 (u_WH w9 h9)) t_WH o_WH hown (hw wd_26) (hw wd_28) (hw wd_2) hK hW rfl (by decide) f_WH (by show _ ≤ 43; omega) (by show _ ≤ 10048; omega) d_BD_init_41 (fun q672 H z673 hW => ?_)
  obtain ⟨h674, eh674⟩ : ∃ z9, z9 = ah_new h644 q672 3 0 := ⟨_, rfl⟩
  rw [← eh674] at hW
  have w := w q672 z673 h674 eh674
  have mm675 : ah_m h644 h674 := (ah_m.rf.nw z673).eq eh674
  have hm := hm.tr mm675
  have t676 := mm675.tg t646 (by decide)
  have t677 := mm675.tg t647 (by decide)
  have t678 := mm675.tg t648 (by decide)
  have t679 := mm675.tg t649 (by decide)
  have t680 := mm675.tg t650 (by decide)
  have t681 := mm675.tg t651 (by decide)
  have t682 := mm675.tg t652 (by decide)
  have t683 := mm675.tg t653 (by decide)
  have t684 := mm675.tg t654 (by decide)
  have t685 := mm675.tg t655 (by decide)
  have t686 := mm675.tg t656 (by decide)
  have t687 := mm675.tg t657 (by decide)
  have t688 := mm675.tg t658 (by decide)
  have t689 := mm675.tg t659 (by decide)
  have t690 := mm675.tg t660 (by decide)
  have t691 := mm675.tg t661 (by decide)
  have t692 := mm675.tg t662 (by decide)
  have t693 := mm675.tg t663 (by decide)
  have t694 := mm675.tg t664 (by decide)
  have t695 := mm675.tg t665 (by decide)
  have t696 := mm675.tg t666 (by decide)
  have t697 := mm675.tg t667 (by decide)
  have t698 := mm675.tg t668 (by decide)
  have t699 := mm675.tg t669 (by decide)
  have t700 := mm675.tg t670 (by decide)
  have t701 := mm675.tg t671 (by decide)
  have t702 : ah_T h674 q672 = 3 := by rw [eh674]; exact va_up_self _ _ _
  refine lv_dup hx hb d_BD_init_44 rfl ?_
  refine hb_callv (va_runIN (As := []) (rest := [.ref q672, .ref a1]) ⟨hx, hb, hml, hown, hts⟩ (m_WH_init G q672 h674 hst w) ⟨va_cnB 0 hts (zx_gB hT wd_31) rfl rfl rfl (hX.1 _ (zx_nest_BD_15) rfl) (hw wd_2) (by decide +kernel) ⟨Nat.le_of_ble_eq_true rfl, Nat.le_of_ble_eq_true rfl⟩, rfl, hw wd_30⟩ (hb_preS hK hX hW) rfl rfl hl.1 rfl (lv_room (Nat.le_of_ble_eq_true rfl)) d_BD_init_45 ⟨(by show _ ≤ 43; omega), (by show _ ≤ 10048; omega)⟩) hW (fun h703 H locs hk hW => ?_)
  obtain ⟨w, mm704⟩ := hk
  have w := w mm704
  have hm := hm.tr mm704
  have t705 := mm704.tg t676 (by decide)
  have t706 := mm704.tg t677 (by decide)
  have t707 := mm704.tg t678 (by decide)
  have t708 := mm704.tg t679 (by decide)
  have t709 := mm704.tg t680 (by decide)
  have t710 := mm704.tg t681 (by decide)
  have t711 := mm704.tg t682 (by decide)
  have t712 := mm704.tg t683 (by decide)
  have t713 := mm704.tg t684 (by decide)
  have t714 := mm704.tg t685 (by decide)
  have t715 := mm704.tg t686 (by decide)
  have t716 := mm704.tg t687 (by decide)
  have t717 := mm704.tg t688 (by decide)
  have t718 := mm704.tg t689 (by decide)
  have t719 := mm704.tg t690 (by decide)
  have t720 := mm704.tg t691 (by decide)
  have t721 := mm704.tg t692 (by decide)
  have t722 := mm704.tg t693 (by decide)
  have t723 := mm704.tg t694 (by decide)
  have t724 := mm704.tg t695 (by decide)
  have t725 := mm704.tg t696 (by decide)
  have t726 := mm704.tg t697 (by decide)
  have t727 := mm704.tg t698 (by decide)
  have t728 := mm704.tg t699 (by decide)
  have t729 := mm704.tg t700 (by decide)
  have t730 := mm704.tg t701 (by decide)
  have t731 := mm704.tg t702 (by decide)
  refine hb_putF (ci := 3) (C := "BigDesk") (T := T_BD) (N := 9) hx hb hts (fun w9 h9 => hT w9 (u_BD w9 h9)) t_BD o_BD n_BD hown hK hW t706 rfl (by decide) 1 (by decide) (hw wd_105) (fun _ h9 => h9) rfl (hin rfl) rfl (ty := t_BD 1) (by decide +kernel) (q := (2, 7)) rfl (by decide) (v := .ref q672) rfl rfl (ah_one_R h703 7 a1 (some q672)) d_BD_init_48 (fun H locs h732 eh732 hW => ?_)
  have w := w h732 eh732
  have mm733 : ah_m h703 h732 := ah_m.rf.st (by rw [eh732]; rfl) (by rw [eh732]; rfl)
  have hm := hm.tr mm733
  have t734 := mm733.tg t705 (by decide)
  have t735 := mm733.tg t706 (by decide)
  have t736 := mm733.tg t707 (by decide)
  have t737 := mm733.tg t708 (by decide)
  have t738 := mm733.tg t709 (by decide)
  have t739 := mm733.tg t710 (by decide)
  have t740 := mm733.tg t711 (by decide)
  have t741 := mm733.tg t712 (by decide)
  have t742 := mm733.tg t713 (by decide)
  have t743 := mm733.tg t714 (by decide)
  have t744 := mm733.tg t715 (by decide)
  have t745 := mm733.tg t716 (by decide)
  have t746 := mm733.tg t717 (by decide)
  have t747 := mm733.tg t718 (by decide)
  have t748 := mm733.tg t719 (by decide)
  have t749 := mm733.tg t720 (by decide)
  have t750 := mm733.tg t721 (by decide)
  have t751 := mm733.tg t722 (by decide)
  have t752 := mm733.tg t723 (by decide)
  have t753 := mm733.tg t724 (by decide)
  have t754 := mm733.tg t725 (by decide)
  have t755 := mm733.tg t726 (by decide)
  have t756 := mm733.tg t727 (by decide)
  have t757 := mm733.tg t728 (by decide)
  have t758 := mm733.tg t729 (by decide)
  have t759 := mm733.tg t730 (by decide)
  have t760 := mm733.tg t731 (by decide)
  refine lv_aload_n hx hb d_BD_init_51 rfl (lv_at hl 1 rfl) ?_
  refine hb_new (ci := 2) (C := "BigDesk$Whole") (T := T_WH) (N := 3) hx hb hts (fun w9 h9 => hT w9 (u_WH w9 h9)) t_WH o_WH hown (hw wd_26) (hw wd_28) (hw wd_2) hK hW rfl (by decide) f_WH (by show _ ≤ 43; omega) (by show _ ≤ 10048; omega) d_BD_init_52 (fun q761 H z762 hW => ?_)
  obtain ⟨h763, eh763⟩ : ∃ z9, z9 = ah_new h732 q761 3 0 := ⟨_, rfl⟩
  rw [← eh763] at hW
  have w := w q761 z762 h763 eh763
  have mm764 : ah_m h732 h763 := (ah_m.rf.nw z762).eq eh763
  have hm := hm.tr mm764
  have t765 := mm764.tg t734 (by decide)
  have t766 := mm764.tg t735 (by decide)
  have t767 := mm764.tg t736 (by decide)
  have t768 := mm764.tg t737 (by decide)
  have t769 := mm764.tg t738 (by decide)
  have t770 := mm764.tg t739 (by decide)
  have t771 := mm764.tg t740 (by decide)
  have t772 := mm764.tg t741 (by decide)
  have t773 := mm764.tg t742 (by decide)
  have t774 := mm764.tg t743 (by decide)
  have t775 := mm764.tg t744 (by decide)
  have t776 := mm764.tg t745 (by decide)
  have t777 := mm764.tg t746 (by decide)
  have t778 := mm764.tg t747 (by decide)
  have t779 := mm764.tg t748 (by decide)
  have t780 := mm764.tg t749 (by decide)
  have t781 := mm764.tg t750 (by decide)
  have t782 := mm764.tg t751 (by decide)
  have t783 := mm764.tg t752 (by decide)
  have t784 := mm764.tg t753 (by decide)
  have t785 := mm764.tg t754 (by decide)
  have t786 := mm764.tg t755 (by decide)
  have t787 := mm764.tg t756 (by decide)
  have t788 := mm764.tg t757 (by decide)
  have t789 := mm764.tg t758 (by decide)
  have t790 := mm764.tg t759 (by decide)
  have t791 := mm764.tg t760 (by decide)
  have t792 : ah_T h763 q761 = 3 := by rw [eh763]; exact va_up_self _ _ _
  refine lv_dup hx hb d_BD_init_55 rfl ?_
  refine hb_callv (va_runIN (As := []) (rest := [.ref q761, .ref a1]) ⟨hx, hb, hml, hown, hts⟩ (m_WH_init G q761 h763 hst w) ⟨va_cnB 0 hts (zx_gB hT wd_31) rfl rfl rfl (hX.1 _ (zx_nest_BD_15) rfl) (hw wd_2) (by decide +kernel) ⟨Nat.le_of_ble_eq_true rfl, Nat.le_of_ble_eq_true rfl⟩, rfl, hw wd_30⟩ (hb_preS hK hX hW) rfl rfl hl.1 rfl (lv_room (Nat.le_of_ble_eq_true rfl)) d_BD_init_56 ⟨(by show _ ≤ 43; omega), (by show _ ≤ 10048; omega)⟩) hW (fun h793 H locs hk hW => ?_)
  obtain ⟨w, mm794⟩ := hk
  have w := w mm794
  have hm := hm.tr mm794
  have t795 := mm794.tg t765 (by decide)
  have t796 := mm794.tg t766 (by decide)
  have t797 := mm794.tg t767 (by decide)
  have t798 := mm794.tg t768 (by decide)
  have t799 := mm794.tg t769 (by decide)
  have t800 := mm794.tg t770 (by decide)
  have t801 := mm794.tg t771 (by decide)
  have t802 := mm794.tg t772 (by decide)
  have t803 := mm794.tg t773 (by decide)
  have t804 := mm794.tg t774 (by decide)
  have t805 := mm794.tg t775 (by decide)
  have t806 := mm794.tg t776 (by decide)
  have t807 := mm794.tg t777 (by decide)
  have t808 := mm794.tg t778 (by decide)
  have t809 := mm794.tg t779 (by decide)
  have t810 := mm794.tg t780 (by decide)
  have t811 := mm794.tg t781 (by decide)
  have t812 := mm794.tg t782 (by decide)
  have t813 := mm794.tg t783 (by decide)
  have t814 := mm794.tg t784 (by decide)
  have t815 := mm794.tg t785 (by decide)
  have t816 := mm794.tg t786 (by decide)
  have t817 := mm794.tg t787 (by decide)
  have t818 := mm794.tg t788 (by decide)
  have t819 := mm794.tg t789 (by decide)
  have t820 := mm794.tg t790 (by decide)
  have t821 := mm794.tg t791 (by decide)
  have t822 := mm794.tg t792 (by decide)
  refine hb_putF (ci := 3) (C := "BigDesk") (T := T_BD) (N := 9) hx hb hts (fun w9 h9 => hT w9 (u_BD w9 h9)) t_BD o_BD n_BD hown hK hW t796 rfl (by decide) 2 (by decide) (hw wd_106) (fun _ h9 => h9) rfl (hin rfl) rfl (ty := t_BD 2) (by decide +kernel) (q := (2, 8)) rfl (by decide) (v := .ref q761) rfl rfl (ah_one_R h793 8 a1 (some q761)) d_BD_init_59 (fun H locs h823 eh823 hW => ?_)
  have w := w h823 eh823
  have mm824 : ah_m h793 h823 := ah_m.rf.st (by rw [eh823]; rfl) (by rw [eh823]; rfl)
  have hm := hm.tr mm824
  have t825 := mm824.tg t795 (by decide)
  have t826 := mm824.tg t796 (by decide)
  have t827 := mm824.tg t797 (by decide)
  have t828 := mm824.tg t798 (by decide)
  have t829 := mm824.tg t799 (by decide)
  have t830 := mm824.tg t800 (by decide)
  have t831 := mm824.tg t801 (by decide)
  have t832 := mm824.tg t802 (by decide)
  have t833 := mm824.tg t803 (by decide)
  have t834 := mm824.tg t804 (by decide)
  have t835 := mm824.tg t805 (by decide)
  have t836 := mm824.tg t806 (by decide)
  have t837 := mm824.tg t807 (by decide)
  have t838 := mm824.tg t808 (by decide)
  have t839 := mm824.tg t809 (by decide)
  have t840 := mm824.tg t810 (by decide)
  have t841 := mm824.tg t811 (by decide)
  have t842 := mm824.tg t812 (by decide)
  have t843 := mm824.tg t813 (by decide)
  have t844 := mm824.tg t814 (by decide)
  have t845 := mm824.tg t815 (by decide)
  have t846 := mm824.tg t816 (by decide)
  have t847 := mm824.tg t817 (by decide)
  have t848 := mm824.tg t818 (by decide)
  have t849 := mm824.tg t819 (by decide)
  have t850 := mm824.tg t820 (by decide)
  have t851 := mm824.tg t821 (by decide)
  have t852 := mm824.tg t822 (by decide)
  refine lv_aload_n hx hb d_BD_init_62 rfl (lv_at hl 1 rfl) ?_
  refine hb_new (ci := 1) (C := "BigDesk$Division") (T := T_DV) (N := 3) hx hb hts (fun w9 h9 => hT w9 (u_DV w9 h9)) t_DV o_DV hown (hw wd_56) (hw wd_57) (hw wd_3) hK hW rfl (by decide) f_DV (by show _ ≤ 43; omega) (by show _ ≤ 10048; omega) d_BD_init_63 (fun q853 H z854 hW => ?_)
  obtain ⟨h855, eh855⟩ : ∃ z9, z9 = ah_new h823 q853 2 0 := ⟨_, rfl⟩
  rw [← eh855] at hW
  have w := w q853 z854 h855 eh855
  have mm856 : ah_m h823 h855 := (ah_m.rf.nw z854).eq eh855
  have hm := hm.tr mm856
  have t857 := mm856.tg t825 (by decide)
  have t858 := mm856.tg t826 (by decide)
  have t859 := mm856.tg t827 (by decide)
  have t860 := mm856.tg t828 (by decide)
  have t861 := mm856.tg t829 (by decide)
  have t862 := mm856.tg t830 (by decide)
  have t863 := mm856.tg t831 (by decide)
  have t864 := mm856.tg t832 (by decide)
  have t865 := mm856.tg t833 (by decide)
  have t866 := mm856.tg t834 (by decide)
  have t867 := mm856.tg t835 (by decide)
  have t868 := mm856.tg t836 (by decide)
  have t869 := mm856.tg t837 (by decide)
  have t870 := mm856.tg t838 (by decide)
  have t871 := mm856.tg t839 (by decide)
  have t872 := mm856.tg t840 (by decide)
  have t873 := mm856.tg t841 (by decide)
  have t874 := mm856.tg t842 (by decide)
  have t875 := mm856.tg t843 (by decide)
  have t876 := mm856.tg t844 (by decide)
  have t877 := mm856.tg t845 (by decide)
  have t878 := mm856.tg t846 (by decide)
  have t879 := mm856.tg t847 (by decide)
  have t880 := mm856.tg t848 (by decide)
  have t881 := mm856.tg t849 (by decide)
  have t882 := mm856.tg t850 (by decide)
  have t883 := mm856.tg t851 (by decide)
  have t884 := mm856.tg t852 (by decide)
  have t885 : ah_T h855 q853 = 2 := by rw [eh855]; exact va_up_self _ _ _
  refine lv_dup hx hb d_BD_init_66 rfl ?_
  refine hb_callv (va_runIN (As := []) (rest := [.ref q853, .ref a1]) ⟨hx, hb, hml, hown, hts⟩ (m_DV_init G q853 h855 hst w) ⟨va_cnB 0 hts (zx_gB hT wd_60) rfl rfl rfl (hX.1 _ (zx_nest_BD_25) rfl) (hw wd_3) (by decide +kernel) ⟨Nat.le_of_ble_eq_true rfl, Nat.le_of_ble_eq_true rfl⟩, rfl, hw wd_59⟩ (hb_preS hK hX hW) rfl rfl hl.1 rfl (lv_room (Nat.le_of_ble_eq_true rfl)) d_BD_init_67 ⟨(by show _ ≤ 43; omega), (by show _ ≤ 10048; omega)⟩) hW (fun h886 H locs hk hW => ?_)
  obtain ⟨w, mm887⟩ := hk
  have w := w mm887
  have hm := hm.tr mm887
  have t888 := mm887.tg t857 (by decide)
  have t889 := mm887.tg t858 (by decide)
  have t890 := mm887.tg t859 (by decide)
  have t891 := mm887.tg t860 (by decide)
  have t892 := mm887.tg t861 (by decide)
  have t893 := mm887.tg t862 (by decide)
  have t894 := mm887.tg t863 (by decide)
  have t895 := mm887.tg t864 (by decide)
  have t896 := mm887.tg t865 (by decide)
  have t897 := mm887.tg t866 (by decide)
  have t898 := mm887.tg t867 (by decide)
  have t899 := mm887.tg t868 (by decide)
  have t900 := mm887.tg t869 (by decide)
  have t901 := mm887.tg t870 (by decide)
  have t902 := mm887.tg t871 (by decide)
  have t903 := mm887.tg t872 (by decide)
  have t904 := mm887.tg t873 (by decide)
  have t905 := mm887.tg t874 (by decide)
  have t906 := mm887.tg t875 (by decide)
  have t907 := mm887.tg t876 (by decide)
  have t908 := mm887.tg t877 (by decide)
  have t909 := mm887.tg t878 (by decide)
  have t910 := mm887.tg t879 (by decide)
  have t911 := mm887.tg t880 (by decide)
  have t912 := mm887.tg t881 (by decide)
  have t913 := mm887.tg t882 (by decide)
  have t914 := mm887.tg t883 (by decide)
  have t915 := mm887.tg t884 (by decide)
  have t916 := mm887.tg t885 (by decide)
  refine hb_putF (ci := 3) (C := "BigDesk") (T := T_BD) (N := 9) hx hb hts (fun w9 h9 => hT w9 (u_BD w9 h9)) t_BD o_BD n_BD hown hK hW t889 rfl (by decide) 3 (by decide) (hw wd_107) (fun _ h9 => h9) rfl (hin rfl) rfl (ty := t_BD 3) (by decide +kernel) (q := (2, 9)) rfl (by decide) (v := .ref q853) rfl rfl (ah_one_R h886 9 a1 (some q853)) d_BD_init_70 (fun H locs h917 eh917 hW => ?_)
  have w := w h917 eh917
  have mm918 : ah_m h886 h917 := ah_m.rf.st (by rw [eh917]; rfl) (by rw [eh917]; rfl)
  have hm := hm.tr mm918
  have t919 := mm918.tg t888 (by decide)
  have t920 := mm918.tg t889 (by decide)
  have t921 := mm918.tg t890 (by decide)
  have t922 := mm918.tg t891 (by decide)
  have t923 := mm918.tg t892 (by decide)
  have t924 := mm918.tg t893 (by decide)
  have t925 := mm918.tg t894 (by decide)
  have t926 := mm918.tg t895 (by decide)
  have t927 := mm918.tg t896 (by decide)
  have t928 := mm918.tg t897 (by decide)
  have t929 := mm918.tg t898 (by decide)
  have t930 := mm918.tg t899 (by decide)
  have t931 := mm918.tg t900 (by decide)
  have t932 := mm918.tg t901 (by decide)
  have t933 := mm918.tg t902 (by decide)
  have t934 := mm918.tg t903 (by decide)
  have t935 := mm918.tg t904 (by decide)
  have t936 := mm918.tg t905 (by decide)
  have t937 := mm918.tg t906 (by decide)
  have t938 := mm918.tg t907 (by decide)
  have t939 := mm918.tg t908 (by decide)
  have t940 := mm918.tg t909 (by decide)
  have t941 := mm918.tg t910 (by decide)
  have t942 := mm918.tg t911 (by decide)
  have t943 := mm918.tg t912 (by decide)
  have t944 := mm918.tg t913 (by decide)
  have t945 := mm918.tg t914 (by decide)
  have t946 := mm918.tg t915 (by decide)
  have t947 := mm918.tg t916 (by decide)
  refine lv_aload_n hx hb d_BD_init_73 rfl (lv_at hl 1 rfl) ?_
  refine hb_new (ci := 0) (C := "BigDesk$CommonDivisor") (T := T_CD) (N := 6) hx hb hts (fun w9 h9 => hT w9 (u_CD w9 h9)) t_CD o_CD hown (hw wd_77) (hw wd_78) (hw wd_4) hK hW rfl (by decide) f_CD (by show _ ≤ 43; omega) (by show _ ≤ 10048; omega) d_BD_init_74 (fun q948 H z949 hW => ?_)
  obtain ⟨h950, eh950⟩ : ∃ z9, z9 = ah_new h917 q948 1 0 := ⟨_, rfl⟩
  rw [← eh950] at hW
  have w := w q948 z949 h950 eh950
  have mm951 : ah_m h917 h950 := (ah_m.rf.nw z949).eq eh950
  have hm := hm.tr mm951
  have t952 := mm951.tg t919 (by decide)
  have t953 := mm951.tg t920 (by decide)
  have t954 := mm951.tg t921 (by decide)
  have t955 := mm951.tg t922 (by decide)
  have t956 := mm951.tg t923 (by decide)
  have t957 := mm951.tg t924 (by decide)
  have t958 := mm951.tg t925 (by decide)
  have t959 := mm951.tg t926 (by decide)
  have t960 := mm951.tg t927 (by decide)
  have t961 := mm951.tg t928 (by decide)
  have t962 := mm951.tg t929 (by decide)
  have t963 := mm951.tg t930 (by decide)
  have t964 := mm951.tg t931 (by decide)
  have t965 := mm951.tg t932 (by decide)
  have t966 := mm951.tg t933 (by decide)
  have t967 := mm951.tg t934 (by decide)
  have t968 := mm951.tg t935 (by decide)
  have t969 := mm951.tg t936 (by decide)
  have t970 := mm951.tg t937 (by decide)
  have t971 := mm951.tg t938 (by decide)
  have t972 := mm951.tg t939 (by decide)
  have t973 := mm951.tg t940 (by decide)
  have t974 := mm951.tg t941 (by decide)
  have t975 := mm951.tg t942 (by decide)
  have t976 := mm951.tg t943 (by decide)
  have t977 := mm951.tg t944 (by decide)
  have t978 := mm951.tg t945 (by decide)
  have t979 := mm951.tg t946 (by decide)
  have t980 := mm951.tg t947 (by decide)
  have t981 : ah_T h950 q948 = 1 := by rw [eh950]; exact va_up_self _ _ _
  refine lv_dup hx hb d_BD_init_77 rfl ?_
  refine hb_callv (va_runIN (As := []) (rest := [.ref q948, .ref a1]) ⟨hx, hb, hml, hown, hts⟩ (m_CD_init G q948 h950 hst w) ⟨va_cnB 0 hts (zx_gB hT wd_81) rfl rfl rfl (hX.1 _ (zx_nest_BD_32) rfl) (hw wd_4) (by decide +kernel) ⟨Nat.le_of_ble_eq_true rfl, Nat.le_of_ble_eq_true rfl⟩, rfl, hw wd_80⟩ (hb_preS hK hX hW) rfl rfl hl.1 rfl (lv_room (Nat.le_of_ble_eq_true rfl)) d_BD_init_78 ⟨(by show _ ≤ 43; omega), (by show _ ≤ 10048; omega)⟩) hW (fun h982 H locs hk hW => ?_)
  obtain ⟨w, mm983⟩ := hk
  have w := w mm983
  have hm := hm.tr mm983
  have t984 := mm983.tg t952 (by decide)
  have t985 := mm983.tg t953 (by decide)
  have t986 := mm983.tg t954 (by decide)
  have t987 := mm983.tg t955 (by decide)
  have t988 := mm983.tg t956 (by decide)
  have t989 := mm983.tg t957 (by decide)
  have t990 := mm983.tg t958 (by decide)
  have t991 := mm983.tg t959 (by decide)
  have t992 := mm983.tg t960 (by decide)
  have t993 := mm983.tg t961 (by decide)
  have t994 := mm983.tg t962 (by decide)
  have t995 := mm983.tg t963 (by decide)
  have t996 := mm983.tg t964 (by decide)
  have t997 := mm983.tg t965 (by decide)
  have t998 := mm983.tg t966 (by decide)
  have t999 := mm983.tg t967 (by decide)
  have t1000 := mm983.tg t968 (by decide)
  have t1001 := mm983.tg t969 (by decide)
  have t1002 := mm983.tg t970 (by decide)
  have t1003 := mm983.tg t971 (by decide)
  have t1004 := mm983.tg t972 (by decide)
  have t1005 := mm983.tg t973 (by decide)
  have t1006 := mm983.tg t974 (by decide)
  have t1007 := mm983.tg t975 (by decide)
  have t1008 := mm983.tg t976 (by decide)
  have t1009 := mm983.tg t977 (by decide)
  have t1010 := mm983.tg t978 (by decide)
  have t1011 := mm983.tg t979 (by decide)
  have t1012 := mm983.tg t980 (by decide)
  have t1013 := mm983.tg t981 (by decide)
  refine hb_putF (ci := 3) (C := "BigDesk") (T := T_BD) (N := 9) hx hb hts (fun w9 h9 => hT w9 (u_BD w9 h9)) t_BD o_BD n_BD hown hK hW t985 rfl (by decide) 4 (by decide) (hw wd_108) (fun _ h9 => h9) rfl (hin rfl) rfl (ty := t_BD 4) (by decide +kernel) (q := (2, 10)) rfl (by decide) (v := .ref q948) rfl rfl (ah_one_R h982 10 a1 (some q948)) d_BD_init_81 (fun H locs h1014 eh1014 hW => ?_)
  have w := w h1014 eh1014
  have mm1015 : ah_m h982 h1014 := ah_m.rf.st (by rw [eh1014]; rfl) (by rw [eh1014]; rfl)
  have hm := hm.tr mm1015
  have t1016 := mm1015.tg t984 (by decide)
  have t1017 := mm1015.tg t985 (by decide)
  have t1018 := mm1015.tg t986 (by decide)
  have t1019 := mm1015.tg t987 (by decide)
  have t1020 := mm1015.tg t988 (by decide)
  have t1021 := mm1015.tg t989 (by decide)
  have t1022 := mm1015.tg t990 (by decide)
  have t1023 := mm1015.tg t991 (by decide)
  have t1024 := mm1015.tg t992 (by decide)
  have t1025 := mm1015.tg t993 (by decide)
  have t1026 := mm1015.tg t994 (by decide)
  have t1027 := mm1015.tg t995 (by decide)
  have t1028 := mm1015.tg t996 (by decide)
  have t1029 := mm1015.tg t997 (by decide)
  have t1030 := mm1015.tg t998 (by decide)
  have t1031 := mm1015.tg t999 (by decide)
  have t1032 := mm1015.tg t1000 (by decide)
  have t1033 := mm1015.tg t1001 (by decide)
  have t1034 := mm1015.tg t1002 (by decide)
  have t1035 := mm1015.tg t1003 (by decide)
  have t1036 := mm1015.tg t1004 (by decide)
  have t1037 := mm1015.tg t1005 (by decide)
  have t1038 := mm1015.tg t1006 (by decide)
  have t1039 := mm1015.tg t1007 (by decide)
  have t1040 := mm1015.tg t1008 (by decide)
  have t1041 := mm1015.tg t1009 (by decide)
  have t1042 := mm1015.tg t1010 (by decide)
  have t1043 := mm1015.tg t1011 (by decide)
  have t1044 := mm1015.tg t1012 (by decide)
  have t1045 := mm1015.tg t1013 (by decide)
  refine lv_aload_n hx hb d_BD_init_84 rfl (lv_at hl 1 rfl) ?_
  refine lv_sipush (v := 2600) hx hb d_BD_init_85 (by decide) ?_
  refine hb_newa (atype := .byte) (t := 101) (N := 2600) hx hb (hw wd_132) hK hW 1 rfl (by decide) (by decide) (by decide) (ah_nwB _ _) (by show _ ≤ 43; omega) (by show _ ≤ 10048; omega) d_BD_init_88 (fun q1046 H z1047 hW => ?_)
  obtain ⟨h1048, eh1048⟩ : ∃ z9, z9 = ah_new h1014 q1046 101 2600 := ⟨_, rfl⟩
  rw [← eh1048] at hW
  have w := w q1046 z1047 h1048 eh1048
  have mm1049 : ah_m h1014 h1048 := (ah_m.rf.nw z1047).eq eh1048
  have hm := hm.tr mm1049
  have t1050 := mm1049.tg t1016 (by decide)
  have t1051 := mm1049.tg t1017 (by decide)
  have t1052 := mm1049.tg t1018 (by decide)
  have t1053 := mm1049.tg t1019 (by decide)
  have t1054 := mm1049.tg t1020 (by decide)
  have t1055 := mm1049.tg t1021 (by decide)
  have t1056 := mm1049.tg t1022 (by decide)
  have t1057 := mm1049.tg t1023 (by decide)
  have t1058 := mm1049.tg t1024 (by decide)
  have t1059 := mm1049.tg t1025 (by decide)
  have t1060 := mm1049.tg t1026 (by decide)
  have t1061 := mm1049.tg t1027 (by decide)
  have t1062 := mm1049.tg t1028 (by decide)
  have t1063 := mm1049.tg t1029 (by decide)
  have t1064 := mm1049.tg t1030 (by decide)
  have t1065 := mm1049.tg t1031 (by decide)
  have t1066 := mm1049.tg t1032 (by decide)
  have t1067 := mm1049.tg t1033 (by decide)
  have t1068 := mm1049.tg t1034 (by decide)
  have t1069 := mm1049.tg t1035 (by decide)
  have t1070 := mm1049.tg t1036 (by decide)
  have t1071 := mm1049.tg t1037 (by decide)
  have t1072 := mm1049.tg t1038 (by decide)
  have t1073 := mm1049.tg t1039 (by decide)
  have t1074 := mm1049.tg t1040 (by decide)
  have t1075 := mm1049.tg t1041 (by decide)
  have t1076 := mm1049.tg t1042 (by decide)
  have t1077 := mm1049.tg t1043 (by decide)
  have t1078 := mm1049.tg t1044 (by decide)
  have t1079 := mm1049.tg t1045 (by decide)
  have t1080 : ah_T h1048 q1046 = 101 := by rw [eh1048]; exact va_up_self _ _ _
  refine hb_putF (ci := 3) (C := "BigDesk") (T := T_BD) (N := 9) hx hb hts (fun w9 h9 => hT w9 (u_BD w9 h9)) t_BD o_BD n_BD hown hK hW t1051 rfl (by decide) 5 (by decide) (hw wd_109) (fun _ h9 => h9) rfl (hin rfl) rfl (ty := t_BD 5) (by decide +kernel) (q := (2, 11)) rfl (by decide) (v := .ref q1046) rfl rfl (ah_one_R h1048 11 a1 (some q1046)) d_BD_init_90 (fun H locs h1081 eh1081 hW => ?_)
  have w := w h1081 eh1081
  have mm1082 : ah_m h1048 h1081 := ah_m.rf.st (by rw [eh1081]; rfl) (by rw [eh1081]; rfl)
  have hm := hm.tr mm1082
  have t1083 := mm1082.tg t1050 (by decide)
  have t1084 := mm1082.tg t1051 (by decide)
  have t1085 := mm1082.tg t1052 (by decide)
  have t1086 := mm1082.tg t1053 (by decide)
  have t1087 := mm1082.tg t1054 (by decide)
  have t1088 := mm1082.tg t1055 (by decide)
  have t1089 := mm1082.tg t1056 (by decide)
  have t1090 := mm1082.tg t1057 (by decide)
  have t1091 := mm1082.tg t1058 (by decide)
  have t1092 := mm1082.tg t1059 (by decide)
  have t1093 := mm1082.tg t1060 (by decide)
  have t1094 := mm1082.tg t1061 (by decide)
  have t1095 := mm1082.tg t1062 (by decide)
  have t1096 := mm1082.tg t1063 (by decide)
  have t1097 := mm1082.tg t1064 (by decide)
  have t1098 := mm1082.tg t1065 (by decide)
  have t1099 := mm1082.tg t1066 (by decide)
  have t1100 := mm1082.tg t1067 (by decide)
  have t1101 := mm1082.tg t1068 (by decide)
  have t1102 := mm1082.tg t1069 (by decide)
  have t1103 := mm1082.tg t1070 (by decide)
  have t1104 := mm1082.tg t1071 (by decide)
  have t1105 := mm1082.tg t1072 (by decide)
  have t1106 := mm1082.tg t1073 (by decide)
  have t1107 := mm1082.tg t1074 (by decide)
  have t1108 := mm1082.tg t1075 (by decide)
  have t1109 := mm1082.tg t1076 (by decide)
  have t1110 := mm1082.tg t1077 (by decide)
  have t1111 := mm1082.tg t1078 (by decide)
  have t1112 := mm1082.tg t1079 (by decide)
  have t1113 := mm1082.tg t1080 (by decide)
  refine lv_aload_n hx hb d_BD_init_93 rfl (lv_at hl 1 rfl) ?_
  refine lv_iconst (v := 0) hx hb d_BD_init_94 (by decide) ?_
  refine hb_put (ci := 3) (C := "BigDesk") (T := T_BD) (N := 9) hx hb hts (fun w9 h9 => hT w9 (u_BD w9 h9)) t_BD o_BD n_BD hown hK hW t1084 rfl (by decide) 6 (by decide) (hw wd_110) (fun _ h9 => h9) rfl (ty := t_BD 6) (by decide +kernel) (q := (0, 2)) rfl (by decide) (v := .int (0 : Int32)) rfl rfl (ah_one_I h1081 2 a1 (0 : Int32)) d_BD_init_95 (fun H locs h1114 eh1114 hW => ?_)
  have w := w h1114 eh1114
  have mm1115 : ah_m h1081 h1114 := ah_m.rf.st (by rw [eh1114]; rfl) (by rw [eh1114]; rfl)
  have hm := hm.tr mm1115
  have t1116 := mm1115.tg t1083 (by decide)
  have t1117 := mm1115.tg t1084 (by decide)
  have t1118 := mm1115.tg t1085 (by decide)
  have t1119 := mm1115.tg t1086 (by decide)
  have t1120 := mm1115.tg t1087 (by decide)
  have t1121 := mm1115.tg t1088 (by decide)
  have t1122 := mm1115.tg t1089 (by decide)
  have t1123 := mm1115.tg t1090 (by decide)
  have t1124 := mm1115.tg t1091 (by decide)
  have t1125 := mm1115.tg t1092 (by decide)
  have t1126 := mm1115.tg t1093 (by decide)
  have t1127 := mm1115.tg t1094 (by decide)
  have t1128 := mm1115.tg t1095 (by decide)
  have t1129 := mm1115.tg t1096 (by decide)
  have t1130 := mm1115.tg t1097 (by decide)
  have t1131 := mm1115.tg t1098 (by decide)
  have t1132 := mm1115.tg t1099 (by decide)
  have t1133 := mm1115.tg t1100 (by decide)
  have t1134 := mm1115.tg t1101 (by decide)
  have t1135 := mm1115.tg t1102 (by decide)
  have t1136 := mm1115.tg t1103 (by decide)
  have t1137 := mm1115.tg t1104 (by decide)
  have t1138 := mm1115.tg t1105 (by decide)
  have t1139 := mm1115.tg t1106 (by decide)
  have t1140 := mm1115.tg t1107 (by decide)
  have t1141 := mm1115.tg t1108 (by decide)
  have t1142 := mm1115.tg t1109 (by decide)
  have t1143 := mm1115.tg t1110 (by decide)
  have t1144 := mm1115.tg t1111 (by decide)
  have t1145 := mm1115.tg t1112 (by decide)
  have t1146 := mm1115.tg t1113 (by decide)
  refine lv_aload_n hx hb d_BD_init_98 rfl (lv_at hl 1 rfl) ?_
  refine lv_sipush (v := 2468) hx hb d_BD_init_99 (by decide) ?_
  refine hb_newa (atype := .byte) (t := 101) (N := 2468) hx hb (hw wd_132) hK hW 1 rfl (by decide) (by decide) (by decide) (ah_nwB _ _) (by show _ ≤ 43; omega) (by show _ ≤ 10048; omega) d_BD_init_102 (fun q1147 H z1148 hW => ?_)
  obtain ⟨h1149, eh1149⟩ : ∃ z9, z9 = ah_new h1114 q1147 101 2468 := ⟨_, rfl⟩
  rw [← eh1149] at hW
  have w := w q1147 z1148 h1149 eh1149
  have mm1150 : ah_m h1114 h1149 := (ah_m.rf.nw z1148).eq eh1149
  have hm := hm.tr mm1150
  have t1151 := mm1150.tg t1116 (by decide)
  have t1152 := mm1150.tg t1117 (by decide)
  have t1153 := mm1150.tg t1118 (by decide)
  have t1154 := mm1150.tg t1119 (by decide)
  have t1155 := mm1150.tg t1120 (by decide)
  have t1156 := mm1150.tg t1121 (by decide)
  have t1157 := mm1150.tg t1122 (by decide)
  have t1158 := mm1150.tg t1123 (by decide)
  have t1159 := mm1150.tg t1124 (by decide)
  have t1160 := mm1150.tg t1125 (by decide)
  have t1161 := mm1150.tg t1126 (by decide)
  have t1162 := mm1150.tg t1127 (by decide)
  have t1163 := mm1150.tg t1128 (by decide)
  have t1164 := mm1150.tg t1129 (by decide)
  have t1165 := mm1150.tg t1130 (by decide)
  have t1166 := mm1150.tg t1131 (by decide)
  have t1167 := mm1150.tg t1132 (by decide)
  have t1168 := mm1150.tg t1133 (by decide)
  have t1169 := mm1150.tg t1134 (by decide)
  have t1170 := mm1150.tg t1135 (by decide)
  have t1171 := mm1150.tg t1136 (by decide)
  have t1172 := mm1150.tg t1137 (by decide)
  have t1173 := mm1150.tg t1138 (by decide)
  have t1174 := mm1150.tg t1139 (by decide)
  have t1175 := mm1150.tg t1140 (by decide)
  have t1176 := mm1150.tg t1141 (by decide)
  have t1177 := mm1150.tg t1142 (by decide)
  have t1178 := mm1150.tg t1143 (by decide)
  have t1179 := mm1150.tg t1144 (by decide)
  have t1180 := mm1150.tg t1145 (by decide)
  have t1181 := mm1150.tg t1146 (by decide)
  have t1182 : ah_T h1149 q1147 = 101 := by rw [eh1149]; exact va_up_self _ _ _
  refine hb_putF (ci := 3) (C := "BigDesk") (T := T_BD) (N := 9) hx hb hts (fun w9 h9 => hT w9 (u_BD w9 h9)) t_BD o_BD n_BD hown hK hW t1152 rfl (by decide) 7 (by decide) (hw wd_111) (fun _ h9 => h9) rfl (hin rfl) rfl (ty := t_BD 7) (by decide +kernel) (q := (2, 12)) rfl (by decide) (v := .ref q1147) rfl rfl (ah_one_R h1149 12 a1 (some q1147)) d_BD_init_104 (fun H locs h1183 eh1183 hW => ?_)
  have w := w h1183 eh1183
  have mm1184 : ah_m h1149 h1183 := ah_m.rf.st (by rw [eh1183]; rfl) (by rw [eh1183]; rfl)
  have hm := hm.tr mm1184
  have t1185 := mm1184.tg t1151 (by decide)
  have t1186 := mm1184.tg t1152 (by decide)
  have t1187 := mm1184.tg t1153 (by decide)
  have t1188 := mm1184.tg t1154 (by decide)
  have t1189 := mm1184.tg t1155 (by decide)
  have t1190 := mm1184.tg t1156 (by decide)
  have t1191 := mm1184.tg t1157 (by decide)
  have t1192 := mm1184.tg t1158 (by decide)
  have t1193 := mm1184.tg t1159 (by decide)
  have t1194 := mm1184.tg t1160 (by decide)
  have t1195 := mm1184.tg t1161 (by decide)
  have t1196 := mm1184.tg t1162 (by decide)
  have t1197 := mm1184.tg t1163 (by decide)
  have t1198 := mm1184.tg t1164 (by decide)
  have t1199 := mm1184.tg t1165 (by decide)
  have t1200 := mm1184.tg t1166 (by decide)
  have t1201 := mm1184.tg t1167 (by decide)
  have t1202 := mm1184.tg t1168 (by decide)
  have t1203 := mm1184.tg t1169 (by decide)
  have t1204 := mm1184.tg t1170 (by decide)
  have t1205 := mm1184.tg t1171 (by decide)
  have t1206 := mm1184.tg t1172 (by decide)
  have t1207 := mm1184.tg t1173 (by decide)
  have t1208 := mm1184.tg t1174 (by decide)
  have t1209 := mm1184.tg t1175 (by decide)
  have t1210 := mm1184.tg t1176 (by decide)
  have t1211 := mm1184.tg t1177 (by decide)
  have t1212 := mm1184.tg t1178 (by decide)
  have t1213 := mm1184.tg t1179 (by decide)
  have t1214 := mm1184.tg t1180 (by decide)
  have t1215 := mm1184.tg t1181 (by decide)
  have t1216 := mm1184.tg t1182 (by decide)
  refine lv_aload_n hx hb d_BD_init_107 rfl (lv_at hl 1 rfl) ?_
  refine lv_iconst (v := 0) hx hb d_BD_init_108 (by decide) ?_
  refine hb_put (ci := 3) (C := "BigDesk") (T := T_BD) (N := 9) hx hb hts (fun w9 h9 => hT w9 (u_BD w9 h9)) t_BD o_BD n_BD hown hK hW t1186 rfl (by decide) 8 (by decide) (hw wd_112) (fun _ h9 => h9) rfl (ty := t_BD 8) (by decide +kernel) (q := (0, 3)) rfl (by decide) (v := .int (0 : Int32)) rfl rfl (ah_one_I h1183 3 a1 (0 : Int32)) d_BD_init_109 (fun H locs h1217 eh1217 hW => ?_)
  have w := w h1217 eh1217
  have mm1218 : ah_m h1183 h1217 := ah_m.rf.st (by rw [eh1217]; rfl) (by rw [eh1217]; rfl)
  have hm := hm.tr mm1218
  have t1219 := mm1218.tg t1185 (by decide)
  have t1220 := mm1218.tg t1186 (by decide)
  have t1221 := mm1218.tg t1187 (by decide)
  have t1222 := mm1218.tg t1188 (by decide)
  have t1223 := mm1218.tg t1189 (by decide)
  have t1224 := mm1218.tg t1190 (by decide)
  have t1225 := mm1218.tg t1191 (by decide)
  have t1226 := mm1218.tg t1192 (by decide)
  have t1227 := mm1218.tg t1193 (by decide)
  have t1228 := mm1218.tg t1194 (by decide)
  have t1229 := mm1218.tg t1195 (by decide)
  have t1230 := mm1218.tg t1196 (by decide)
  have t1231 := mm1218.tg t1197 (by decide)
  have t1232 := mm1218.tg t1198 (by decide)
  have t1233 := mm1218.tg t1199 (by decide)
  have t1234 := mm1218.tg t1200 (by decide)
  have t1235 := mm1218.tg t1201 (by decide)
  have t1236 := mm1218.tg t1202 (by decide)
  have t1237 := mm1218.tg t1203 (by decide)
  have t1238 := mm1218.tg t1204 (by decide)
  have t1239 := mm1218.tg t1205 (by decide)
  have t1240 := mm1218.tg t1206 (by decide)
  have t1241 := mm1218.tg t1207 (by decide)
  have t1242 := mm1218.tg t1208 (by decide)
  have t1243 := mm1218.tg t1209 (by decide)
  have t1244 := mm1218.tg t1210 (by decide)
  have t1245 := mm1218.tg t1211 (by decide)
  have t1246 := mm1218.tg t1212 (by decide)
  have t1247 := mm1218.tg t1213 (by decide)
  have t1248 := mm1218.tg t1214 (by decide)
  have t1249 := mm1218.tg t1215 (by decide)
  have t1250 := mm1218.tg t1216 (by decide)
  exact hb_vret (K := fun h9 => K h9 ∧ ah_m h0 h9) hx hb hr hlk hK hX hW ⟨w, hm⟩ (by omega) (by omega) d_BD_init_112
set_option maxHeartbeats 4000000 in
set_option maxRecDepth 100000 in
theorem tb_BD_register_10 {p : Program} {l : Launch} {e : Env} {s : State} {m : MethodId} {args : Array Value} {below : List Frame} {meth : Method} {c : Code} {G : zG} (C : cx_C p l s m args meth c G y_BD_register b_BD_register 2 (some (.object "BigDesk$Whole")) "BigDesk" (Cond.code y_BD_register b_BD_register 2 (some (.object "BigDesk$Whole")) :: zx_T) []) {K : Nat → ah_H → Prop} {Ex : String → ah_H → Prop} {h0 : ah_H} {cells slots : Nat} (hcl : cells + 1 ≤ 1) (hsl : slots + 6 ≤ 6)   (h4 : ah_H) (H : Heap) (locs : List Loc) (ls : Array Slot) (w : bk_BD_register_10 K Ex h4) (hm : ah_m h0 h4) (hW : ah_W G s.heap h4 H locs) (hl : lv_has ls 2 []) : W p l e rm_BD_register s m args below meth c H locs cells slots (vx_MQ below (ah_Qr G (fun r9 h9 => K r9 h9 ∧ ah_m h0 h9)) (ah_X G (fun E9 h9 => Ex E9 h9 ∧ ah_m h0 h9)) args s 1 6 (fun q => G.2.2 ≤ q)) (F0 m 10 ls []) := by
  unfold bk_BD_register_10 at w
  obtain ⟨hx, hb, hr, hml, hown, hts, hT, hlk, hK, hX, htb, hin, hst⟩ := id C
  have hw : ∀ {w9 : Cond}, w9 ∈ zx_T → w9.before _ s = true := fun h9 => hts _ (hT _ h9)
  exact hx_throw (Ex := fun E9 h9 => Ex E9 h9 ∧ ah_m h0 h9) hx hb hst hown hts hT hX rfl zx_rtf wd_145 wd_9 (is := 190) (text := "no such register") (by decide) zx_aIllegalArgumentException zx_gIllegalArgumentException hW (by rw [hml]; exact hl.1) d_BD_register_10 d_BD_register_13 d_BD_register_14 d_BD_register_16 d_BD_register_19 (cx_nil htb) (Nat.le_of_ble_eq_true rfl) (Nat.le_of_ble_eq_true rfl) (by show _ ≤ 1; omega) (by show _ ≤ 6; omega) hlk ⟨w, hm⟩ (by omega) (by omega)
set_option maxHeartbeats 4000000 in
set_option maxRecDepth 100000 in
theorem m_BD_register {l : Launch} (G : zG) (a1 : Nat) (a2 : Int32) (h0 : ah_H) {K : Nat → ah_H → Prop} {Ex : String → ah_H → Prop} (hst : l.stackTraces = false) (w : w_BD_register a1 a2 h0 K Ex) : vx_Met l y_BD_register (Cond.code y_BD_register b_BD_register 2 (some (.object "BigDesk$Whole")) :: zx_T) rm_BD_register (va_Pc [.ref a1, .int a2] (ah_B G h0)) (ah_Qr G (fun r9 h9 => K r9 h9 ∧ ah_m h0 h9)) (ah_X G (fun E9 h9 => Ex E9 h9 ∧ ah_m h0 h9)) 1 6 (fun q => G.2.2 ≤ q) := by
  refine vx_ofW (cc := b_BD_register) (maxL := 2) (ret := (some (.object "BigDesk$Whole"))) (by decide) rfl ?_
  intro p e s m args below meth c s₁ B hml hout0 hv
  have htb := cx_out B (atoms_spec B.pre _ List.mem_cons_self)
  obtain ⟨rfl, hB⟩ := hv
  have C : cx_C p l s m _ meth c G y_BD_register b_BD_register 2 (some (.object "BigDesk$Whole")) "BigDesk" (Cond.code y_BD_register b_BD_register 2 (some (.object "BigDesk$Whole")) :: zx_T) [] := ⟨B.exec, B.bytes, B.returns, hml, findClass_of_methodNamed B.named, atoms_spec B.pre, cx_hd, B.notSynchronized, hB.2.2.1, hB.2.2.2, htb, fun z9 => (name_of_methodNamed B.named B.method).1.trans z9, hst⟩
  obtain ⟨hx, hb, hr, hml, hown, hts, hT, hlk, hK, hX, htb, hin, hst⟩ := id C
  have hw : ∀ {w9 : Cond}, w9 ∈ zx_T → w9.before _ s = true := fun h9 => hts _ (hT _ h9)
  have hW : ah_W G s.heap h0 s.heap [] := ⟨hB.1, hB.2.1, va_S.rf⟩
  have hm : ah_m h0 h0 := ah_m.rf
  have hcl : 0 + 1 ≤ 1 := by decide
  have hsl : 0 + 6 ≤ 6 := by decide
  have hl := lv_entry ([.ref a1, .int a2]) (n := 2) (Nat.le_of_ble_eq_true rfl)
  rw [lg_entry_eq]
  generalize (lg_sl ([.ref a1, .int a2]) ++ List.replicate (2 - (lg_sl ([.ref a1, .int a2])).length) Slot.unset).toArray = ls at hl ⊢
  have hl : lv_has ls 2 [(0, .ref a1), (1, .int a2)] := hl
  unfold w_BD_register at w
  refine lv_iload_n hx hb d_BD_register_0 rfl (lv_at hl 1 rfl) ?_
  refine lv_if_lt (tgt := 10) hx hb d_BD_register_1 (by decide) (fun c3 => ?_) (fun c3 => ?_)
  · have w := w.1 c3
    exact tb_BD_register_10 C (by omega) (by omega)   h0 _ _ _ w hm hW (lv_sub hl [] rfl)
  · have w := w.2 c3
    refine lv_iload_n hx hb d_BD_register_4 rfl (lv_at hl 1 rfl) ?_
    refine lv_bipush (v := 12) hx hb d_BD_register_5 (by decide) ?_
    refine lv_icmp_lt (tgt := 20) hx hb d_BD_register_7 (by decide) (fun c5 => ?_) (fun c5 => ?_)
    · have w := w.1 c5
      refine lv_aload_n hx hb d_BD_register_20 rfl (lv_at hl 0 rfl) ?_
      obtain ⟨t6, w⟩ := w
      obtain ⟨q7, e8, w⟩ := w
      refine hb_get (ci := 3) (C := "BigDesk") (T := T_BD) (N := 9) hx hb hts (fun w9 h9 => hT w9 (u_BD w9 h9)) hown hK hW t6 rfl (by decide) 0 (by decide) (hw wd_104) (fun _ h9 => h9) (q := (2, 6)) rfl (v := .ref q7) (ah_f_R e8) d_BD_register_21 ?_
      refine lv_iload_n hx hb d_BD_register_24 rfl (lv_at hl 1 rfl) ?_
      obtain ⟨t9, w⟩ := w
      obtain ⟨i10, w⟩ := w
      obtain ⟨q11, e12, w⟩ := w
      refine hb_aldq hx hb hK hW t9 (by decide) 3 rfl i10 e12 d_BD_register_25 ?_
      exact vx_ret (hb_aret (K := fun r9 h9 => K r9 h9 ∧ ah_m h0 h9) hx hb hr hlk hK hX hW ⟨w, hm⟩ (by omega) (by omega) d_BD_register_26)
    · have w := w.2 c5
      exact tb_BD_register_10 C (by omega) (by omega)   h0 _ _ _ w hm hW (lv_sub hl [] rfl)
set_option maxHeartbeats 4000000 in
set_option maxRecDepth 100000 in
theorem m_BD_set {l : Launch} (G : zG) (a1 : Nat) (a2 : Int32) (a3 : Int64) (h0 : ah_H) {K : ah_H → Prop} {Ex : String → ah_H → Prop} (hst : l.stackTraces = false) (w : w_BD_set a1 a2 a3 h0 K Ex) : vx_Met l y_BD_set (Cond.code y_BD_set b_BD_set 4 none :: zx_T) rm_BD_set (va_Pc [.ref a1, .int a2, .long a3] (ah_B G h0)) (va_Qv (fun h9 => K h9 ∧ ah_m h0 h9) (ah_B G) (fun q => G.2.2 ≤ q)) (ah_X G (fun E9 h9 => Ex E9 h9 ∧ ah_m h0 h9)) 1 6 (fun q => G.2.2 ≤ q) := by
  refine vx_ofW (cc := b_BD_set) (maxL := 4) (ret := none) (by decide) rfl ?_
  intro p e s m args below meth c s₁ B hml hout0 hv
  have htb := cx_out B (atoms_spec B.pre _ List.mem_cons_self)
  obtain ⟨rfl, hB⟩ := hv
  have C : cx_C p l s m _ meth c G y_BD_set b_BD_set 4 none "BigDesk" (Cond.code y_BD_set b_BD_set 4 none :: zx_T) [] := ⟨B.exec, B.bytes, B.returns, hml, findClass_of_methodNamed B.named, atoms_spec B.pre, cx_hd, B.notSynchronized, hB.2.2.1, hB.2.2.2, htb, fun z9 => (name_of_methodNamed B.named B.method).1.trans z9, hst⟩
  obtain ⟨hx, hb, hr, hml, hown, hts, hT, hlk, hK, hX, htb, hin, hst⟩ := id C
  have hw : ∀ {w9 : Cond}, w9 ∈ zx_T → w9.before _ s = true := fun h9 => hts _ (hT _ h9)
  have hW : ah_W G s.heap h0 s.heap [] := ⟨hB.1, hB.2.1, va_S.rf⟩
  have hm : ah_m h0 h0 := ah_m.rf
  have hcl : 0 + 1 ≤ 1 := by decide
  have hsl : 0 + 6 ≤ 6 := by decide
  have hl := lv_entry ([.ref a1, .int a2, .long a3]) (n := 4) (Nat.le_of_ble_eq_true rfl)
  rw [lg_entry_eq]
  generalize (lg_sl ([.ref a1, .int a2, .long a3]) ++ List.replicate (4 - (lg_sl ([.ref a1, .int a2, .long a3])).length) Slot.unset).toArray = ls at hl ⊢
  have hl : lv_has ls 4 [(0, .ref a1), (1, .int a2), (2, .long a3)] := hl
  unfold w_BD_set at w
  refine lv_aload_n hx hb d_BD_set_0 rfl (lv_at hl 0 rfl) ?_
  refine lv_iload_n hx hb d_BD_set_1 rfl (lv_at hl 1 rfl) ?_
  obtain ⟨t4, w⟩ := w
  refine hx_r (vx_runV (As := [.int a2]) (rest := []) ⟨hx, hb, hml, hown, hts⟩ (m_BD_register G a1 a2 h0 hst w) (cwV 1 hts (zx_gV hT wd_141 wd_143 wd_s0 wd_1 wd_144) rfl rfl rfl (by decide +kernel) ⟨Nat.le_of_ble_eq_true rfl, Nat.le_of_ble_eq_true rfl⟩) (hb_preV hK hX hW t4 (by decide) rfl) rfl rfl hl.1 rfl (lv_room (Nat.le_of_ble_eq_true rfl)) d_BD_set_2 ⟨(by show _ ≤ 1; omega), (by show _ ≤ 6; omega)⟩) hW (fun E9 ce9 q9 h9 H locs hE hW c1 c2 c3 => hx_out (Ex := fun E9 h9 => Ex E9 h9 ∧ ah_m h0 h9) (fun x9 h9 => (cx_nil htb x9 h9).elim) hlk hW c1 c2 c3 ⟨hE.1 hE.2, hm.tr hE.2⟩ (by omega) (by omega)) (fun r6 h5 H locs hk hW => ?_)
  obtain ⟨w, mm7⟩ := hk
  have w := w mm7
  have hm := hm.tr mm7
  have t8 := mm7.tg t4 (by decide)
  refine lv_lload_n hx hb d_BD_set_5 rfl (lv_at hl 2 rfl) ?_
  obtain ⟨t9, w⟩ := w
  refine hb_callv (va_runV (As := [.long a3]) (rest := []) ⟨hx, hb, hml, hown, hts⟩ (m_WH_becomeLong G r6 a3 h5 hst w) (cwV 1 hts (zx_gV hT wd_213 wd_214 wd_215 wd_2 wd_216) rfl rfl rfl (by decide +kernel) ⟨Nat.le_of_ble_eq_true rfl, Nat.le_of_ble_eq_true rfl⟩) (hb_preV hK hX hW t9 (by decide) rfl) rfl rfl hl.1 rfl (lv_room (Nat.le_of_ble_eq_true rfl)) d_BD_set_6 ⟨(by show _ ≤ 1; omega), (by show _ ≤ 6; omega)⟩) hW (fun h10 H locs hk hW => ?_)
  obtain ⟨w, mm11⟩ := hk
  have w := w mm11
  have hm := hm.tr mm11
  have t12 := mm11.tg t8 (by decide)
  have t13 := mm11.tg t9 (by decide)
  exact vx_ret (hb_vret (K := fun h9 => K h9 ∧ ah_m h0 h9) hx hb hr hlk hK hX hW ⟨w, hm⟩ (by omega) (by omega) d_BD_set_9)
set_option maxHeartbeats 4000000 in
set_option maxRecDepth 100000 in
theorem m_BD_copy {l : Launch} (G : zG) (a1 : Nat) (a2 : Int32) (a3 : Int32) (h0 : ah_H) {K : ah_H → Prop} {Ex : String → ah_H → Prop} (hst : l.stackTraces = false) (w : w_BD_copy a1 a2 a3 h0 K Ex) : vx_Met l y_BD_copy (Cond.code y_BD_copy b_BD_copy 4 none :: zx_T) rm_BD_copy (va_Pc [.ref a1, .int a2, .int a3] (ah_B G h0)) (va_Qv (fun h9 => K h9 ∧ ah_m h0 h9) (ah_B G) (fun q => G.2.2 ≤ q)) (ah_X G (fun E9 h9 => Ex E9 h9 ∧ ah_m h0 h9)) 2 12 (fun q => G.2.2 ≤ q) := by
  refine vx_ofW (cc := b_BD_copy) (maxL := 4) (ret := none) (by decide) rfl ?_
  intro p e s m args below meth c s₁ B hml hout0 hv
  have htb := cx_out B (atoms_spec B.pre _ List.mem_cons_self)
  obtain ⟨rfl, hB⟩ := hv
  have C : cx_C p l s m _ meth c G y_BD_copy b_BD_copy 4 none "BigDesk" (Cond.code y_BD_copy b_BD_copy 4 none :: zx_T) [] := ⟨B.exec, B.bytes, B.returns, hml, findClass_of_methodNamed B.named, atoms_spec B.pre, cx_hd, B.notSynchronized, hB.2.2.1, hB.2.2.2, htb, fun z9 => (name_of_methodNamed B.named B.method).1.trans z9, hst⟩
  obtain ⟨hx, hb, hr, hml, hown, hts, hT, hlk, hK, hX, htb, hin, hst⟩ := id C
  have hw : ∀ {w9 : Cond}, w9 ∈ zx_T → w9.before _ s = true := fun h9 => hts _ (hT _ h9)
  have hW : ah_W G s.heap h0 s.heap [] := ⟨hB.1, hB.2.1, va_S.rf⟩
  have hm : ah_m h0 h0 := ah_m.rf
  have hcl : 0 + 2 ≤ 2 := by decide
  have hsl : 0 + 12 ≤ 12 := by decide
  have hl := lv_entry ([.ref a1, .int a2, .int a3]) (n := 4) (Nat.le_of_ble_eq_true rfl)
  rw [lg_entry_eq]
  generalize (lg_sl ([.ref a1, .int a2, .int a3]) ++ List.replicate (4 - (lg_sl ([.ref a1, .int a2, .int a3])).length) Slot.unset).toArray = ls at hl ⊢
  have hl : lv_has ls 4 [(0, .ref a1), (1, .int a2), (2, .int a3)] := hl
  unfold w_BD_copy at w
  refine lv_aload_n hx hb d_BD_copy_0 rfl (lv_at hl 0 rfl) ?_
  refine lv_iload_n hx hb d_BD_copy_1 rfl (lv_at hl 1 rfl) ?_
  obtain ⟨t4, w⟩ := w
  refine hx_r (vx_runV (As := [.int a2]) (rest := []) ⟨hx, hb, hml, hown, hts⟩ (m_BD_register G a1 a2 h0 hst w) (cwV 1 hts (zx_gV hT wd_141 wd_143 wd_s0 wd_1 wd_144) rfl rfl rfl (by decide +kernel) ⟨Nat.le_of_ble_eq_true rfl, Nat.le_of_ble_eq_true rfl⟩) (hb_preV hK hX hW t4 (by decide) rfl) rfl rfl hl.1 rfl (lv_room (Nat.le_of_ble_eq_true rfl)) d_BD_copy_2 ⟨(by show _ ≤ 2; omega), (by show _ ≤ 12; omega)⟩) hW (fun E9 ce9 q9 h9 H locs hE hW c1 c2 c3 => hx_out (Ex := fun E9 h9 => Ex E9 h9 ∧ ah_m h0 h9) (fun x9 h9 => (cx_nil htb x9 h9).elim) hlk hW c1 c2 c3 ⟨hE.1 hE.2, hm.tr hE.2⟩ (by omega) (by omega)) (fun r6 h5 H locs hk hW => ?_)
  obtain ⟨w, mm7⟩ := hk
  have w := w mm7
  have hm := hm.tr mm7
  have t8 := mm7.tg t4 (by decide)
  refine lv_astore_n (lv' := [(3, .ref r6), (0, .ref a1), (1, .int a2), (2, .int a3)]) hx hb d_BD_copy_5 rfl hl (by decide) rfl (fun ls hl => ?_)
  refine lv_aload_n hx hb d_BD_copy_6 rfl (lv_at hl 0 rfl) ?_
  refine lv_aload_n hx hb d_BD_copy_7 rfl (lv_at hl 1 rfl) ?_
  refine lv_iload_n hx hb d_BD_copy_8 rfl (lv_at hl 3 rfl) ?_
  refine hx_r (vx_runV (As := [.int a3]) (rest := [.ref r6]) ⟨hx, hb, hml, hown, hts⟩ (m_BD_register G a1 a3 h5 hst w) (cwV 1 hts (zx_gV hT wd_141 wd_143 wd_s0 wd_1 wd_144) rfl rfl rfl (by decide +kernel) ⟨Nat.le_of_ble_eq_true rfl, Nat.le_of_ble_eq_true rfl⟩) (hb_preV hK hX hW t8 (by decide) rfl) rfl rfl hl.1 rfl (lv_room (Nat.le_of_ble_eq_true rfl)) d_BD_copy_9 ⟨(by show _ ≤ 2; omega), (by show _ ≤ 12; omega)⟩) hW (fun E9 ce9 q9 h9 H locs hE hW c1 c2 c3 => hx_out (Ex := fun E9 h9 => Ex E9 h9 ∧ ah_m h0 h9) (fun x9 h9 => (cx_nil htb x9 h9).elim) hlk hW c1 c2 c3 ⟨hE.1 hE.2, hm.tr hE.2⟩ (by omega) (by omega)) (fun r10 h9 H locs hk hW => ?_)
  obtain ⟨w, mm11⟩ := hk
  have w := w mm11
  have hm := hm.tr mm11
  have t12 := mm11.tg t8 (by decide)
  obtain ⟨t13, w⟩ := w
  refine hb_callv (va_runV (As := [.ref r10]) (rest := []) ⟨hx, hb, hml, hown, hts⟩ (m_WH_become G r6 r10 h9 hst w) (cwV 1 hts (zx_gV hT wd_233 wd_234 wd_235 wd_2 wd_236) rfl rfl rfl (by decide +kernel) ⟨Nat.le_of_ble_eq_true rfl, Nat.le_of_ble_eq_true rfl⟩) (hb_preV hK hX hW t13 (by decide) rfl) rfl rfl hl.1 rfl (lv_room (Nat.le_of_ble_eq_true rfl)) d_BD_copy_12 ⟨(by show _ ≤ 2; omega), (by show _ ≤ 12; omega)⟩) hW (fun h14 H locs hk hW => ?_)
  obtain ⟨w, mm15⟩ := hk
  have w := w mm15
  have hm := hm.tr mm15
  have t16 := mm15.tg t12 (by decide)
  have t17 := mm15.tg t13 (by decide)
  exact vx_ret (hb_vret (K := fun h9 => K h9 ∧ ah_m h0 h9) hx hb hr hlk hK hX hW ⟨w, hm⟩ (by omega) (by omega) d_BD_copy_15)
set_option maxHeartbeats 4000000 in
set_option maxRecDepth 100000 in
theorem m_BD_keepMade {l : Launch} (G : zG) (a1 : Nat) (a2 : Nat) (h0 : ah_H) {K : ah_H → Prop} {Ex : String → ah_H → Prop} (hst : l.stackTraces = false) (w : w_BD_keepMade a1 a2 h0 K Ex) : vx_Met l y_BD_keepMade (Cond.code y_BD_keepMade b_BD_keepMade 2 none :: zx_T) rm_BD_keepMade (va_Pc [.ref a1, .ref a2] (ah_B G h0)) (va_Qv (fun h9 => K h9 ∧ ah_m h0 h9) (ah_B G) (fun q => G.2.2 ≤ q)) (ah_X G (fun E9 h9 => Ex E9 h9 ∧ ah_m h0 h9)) 1 6 (fun q => G.2.2 ≤ q) := by
  refine vx_ofW (cc := b_BD_keepMade) (maxL := 2) (ret := none) (by decide) rfl ?_
  intro p e s m args below meth c s₁ B hml hout0 hv
  have htb := cx_out B (atoms_spec B.pre _ List.mem_cons_self)
  obtain ⟨rfl, hB⟩ := hv
  have C : cx_C p l s m _ meth c G y_BD_keepMade b_BD_keepMade 2 none "BigDesk" (Cond.code y_BD_keepMade b_BD_keepMade 2 none :: zx_T) [] := ⟨B.exec, B.bytes, B.returns, hml, findClass_of_methodNamed B.named, atoms_spec B.pre, cx_hd, B.notSynchronized, hB.2.2.1, hB.2.2.2, htb, fun z9 => (name_of_methodNamed B.named B.method).1.trans z9, hst⟩
  obtain ⟨hx, hb, hr, hml, hown, hts, hT, hlk, hK, hX, htb, hin, hst⟩ := id C
  have hw : ∀ {w9 : Cond}, w9 ∈ zx_T → w9.before _ s = true := fun h9 => hts _ (hT _ h9)
  have hW : ah_W G s.heap h0 s.heap [] := ⟨hB.1, hB.2.1, va_S.rf⟩
  have hm : ah_m h0 h0 := ah_m.rf
  have hcl : 0 + 1 ≤ 1 := by decide
  have hsl : 0 + 6 ≤ 6 := by decide
  have hl := lv_entry ([.ref a1, .ref a2]) (n := 2) (Nat.le_of_ble_eq_true rfl)
  rw [lg_entry_eq]
  generalize (lg_sl ([.ref a1, .ref a2]) ++ List.replicate (2 - (lg_sl ([.ref a1, .ref a2])).length) Slot.unset).toArray = ls at hl ⊢
  have hl : lv_has ls 2 [(0, .ref a1), (1, .ref a2)] := hl
  unfold w_BD_keepMade at w
  refine lv_aload_n hx hb d_BD_keepMade_0 rfl (lv_at hl 0 rfl) ?_
  obtain ⟨t3, w⟩ := w
  obtain ⟨q4, e5, w⟩ := w
  refine hb_get (ci := 3) (C := "BigDesk") (T := T_BD) (N := 9) hx hb hts (fun w9 h9 => hT w9 (u_BD w9 h9)) hown hK hW t3 rfl (by decide) 1 (by decide) (hw wd_105) (fun _ h9 => h9) (q := (2, 7)) rfl (v := .ref q4) (ah_f_R e5) d_BD_keepMade_1 ?_
  obtain ⟨t6, w⟩ := w
  refine hb_calli (va_runV (As := []) (rest := []) ⟨hx, hb, hml, hown, hts⟩ (m_WH_bits G q4 h0 hst w) (cwV 0 hts (zx_gV hT wd_273 wd_274 wd_275 wd_2 wd_276) rfl rfl rfl (by decide +kernel) ⟨Nat.le_of_ble_eq_true rfl, Nat.le_of_ble_eq_true rfl⟩) (hb_preV hK hX hW t6 (by decide) rfl) rfl rfl hl.1 rfl (lv_room (Nat.le_of_ble_eq_true rfl)) d_BD_keepMade_4 ⟨(by show _ ≤ 1; omega), (by show _ ≤ 6; omega)⟩) hW (fun r8 h7 H locs hk hW => ?_)
  obtain ⟨w, mm9⟩ := hk
  have w := w mm9
  have hm := hm.tr mm9
  have t10 := mm9.tg t3 (by decide)
  have t11 := mm9.tg t6 (by decide)
  refine lv_sipush (v := 8192) hx hb d_BD_keepMade_7 (by decide) ?_
  refine lv_icmp_le (tgt := 23) hx hb d_BD_keepMade_10 (by decide) (fun c12 => ?_) (fun c12 => ?_)
  · have w := w.1 c12
    refine lv_aload_n hx hb d_BD_keepMade_23 rfl (lv_at hl 1 rfl) ?_
    refine lv_aload_n hx hb d_BD_keepMade_24 rfl (lv_at hl 0 rfl) ?_
    obtain ⟨q13, e14, w⟩ := w
    refine hb_get (ci := 3) (C := "BigDesk") (T := T_BD) (N := 9) hx hb hts (fun w9 h9 => hT w9 (u_BD w9 h9)) hown hK hW t10 rfl (by decide) 1 (by decide) (hw wd_105) (fun _ h9 => h9) (q := (2, 7)) rfl (v := .ref q13) (ah_f_R e14) d_BD_keepMade_25 ?_
    obtain ⟨t15, w⟩ := w
    refine hb_callv (va_runV (As := [.ref q13]) (rest := []) ⟨hx, hb, hml, hown, hts⟩ (m_WH_become G a2 q13 h7 hst w) (cwV 1 hts (zx_gV hT wd_233 wd_234 wd_235 wd_2 wd_236) rfl rfl rfl (by decide +kernel) ⟨Nat.le_of_ble_eq_true rfl, Nat.le_of_ble_eq_true rfl⟩) (hb_preV hK hX hW t15 (by decide) rfl) rfl rfl hl.1 rfl (lv_room (Nat.le_of_ble_eq_true rfl)) d_BD_keepMade_28 ⟨(by show _ ≤ 1; omega), (by show _ ≤ 6; omega)⟩) hW (fun h16 H locs hk hW => ?_)
    obtain ⟨w, mm17⟩ := hk
    have w := w mm17
    have hm := hm.tr mm17
    have t18 := mm17.tg t10 (by decide)
    have t19 := mm17.tg t11 (by decide)
    have t20 := mm17.tg t15 (by decide)
    exact vx_ret (hb_vret (K := fun h9 => K h9 ∧ ah_m h0 h9) hx hb hr hlk hK hX hW ⟨w, hm⟩ (by omega) (by omega) d_BD_keepMade_31)
  · have w := w.2 c12
    exact hx_throw (Ex := fun E9 h9 => Ex E9 h9 ∧ ah_m h0 h9) hx hb hst hown hts hT hX rfl zx_rtf wd_280 wd_13 (is := 86) (text := "more than 8192 bits") (by decide) zx_aIllegalStateException zx_gIllegalStateException hW (by rw [hml]; exact hl.1) d_BD_keepMade_13 d_BD_keepMade_16 d_BD_keepMade_17 d_BD_keepMade_19 d_BD_keepMade_22 (cx_nil htb) (Nat.le_of_ble_eq_true rfl) (Nat.le_of_ble_eq_true rfl) (by show _ ≤ 1; omega) (by show _ ≤ 6; omega) hlk ⟨w, hm⟩ (by omega) (by omega)
set_option maxHeartbeats 4000000 in
set_option maxRecDepth 100000 in
theorem m_BD_add {l : Launch} (G : zG) (a1 : Nat) (a2 : Int32) (a3 : Int32) (a4 : Int32) (h0 : ah_H) {K : ah_H → Prop} {Ex : String → ah_H → Prop} (hst : l.stackTraces = false) (w : w_BD_add a1 a2 a3 a4 h0 K Ex) : vx_Met l y_BD_add (Cond.code y_BD_add b_BD_add 5 none :: zx_T) rm_BD_add (va_Pc [.ref a1, .int a2, .int a3, .int a4] (ah_B G h0)) (va_Qv (fun h9 => K h9 ∧ ah_m h0 h9) (ah_B G) (fun q => G.2.2 ≤ q)) (ah_X G (fun E9 h9 => Ex E9 h9 ∧ ah_m h0 h9)) 4 24 (fun q => G.2.2 ≤ q) := by
  refine vx_ofW (cc := b_BD_add) (maxL := 5) (ret := none) (by decide) rfl ?_
  intro p e s m args below meth c s₁ B hml hout0 hv
  have htb := cx_out B (atoms_spec B.pre _ List.mem_cons_self)
  obtain ⟨rfl, hB⟩ := hv
  have C : cx_C p l s m _ meth c G y_BD_add b_BD_add 5 none "BigDesk" (Cond.code y_BD_add b_BD_add 5 none :: zx_T) [] := ⟨B.exec, B.bytes, B.returns, hml, findClass_of_methodNamed B.named, atoms_spec B.pre, cx_hd, B.notSynchronized, hB.2.2.1, hB.2.2.2, htb, fun z9 => (name_of_methodNamed B.named B.method).1.trans z9, hst⟩
  obtain ⟨hx, hb, hr, hml, hown, hts, hT, hlk, hK, hX, htb, hin, hst⟩ := id C
  have hw : ∀ {w9 : Cond}, w9 ∈ zx_T → w9.before _ s = true := fun h9 => hts _ (hT _ h9)
  have hW : ah_W G s.heap h0 s.heap [] := ⟨hB.1, hB.2.1, va_S.rf⟩
  have hm : ah_m h0 h0 := ah_m.rf
  have hcl : 0 + 4 ≤ 4 := by decide
  have hsl : 0 + 24 ≤ 24 := by decide
  have hl := lv_entry ([.ref a1, .int a2, .int a3, .int a4]) (n := 5) (Nat.le_of_ble_eq_true rfl)
  rw [lg_entry_eq]
  generalize (lg_sl ([.ref a1, .int a2, .int a3, .int a4]) ++ List.replicate (5 - (lg_sl ([.ref a1, .int a2, .int a3, .int a4])).length) Slot.unset).toArray = ls at hl ⊢
  have hl : lv_has ls 5 [(0, .ref a1), (1, .int a2), (2, .int a3), (3, .int a4)] := hl
  unfold w_BD_add at w
  refine lv_aload_n hx hb d_BD_add_0 rfl (lv_at hl 0 rfl) ?_
  refine lv_iload_n hx hb d_BD_add_1 rfl (lv_at hl 1 rfl) ?_
  obtain ⟨t5, w⟩ := w
  refine hx_r (vx_runV (As := [.int a2]) (rest := []) ⟨hx, hb, hml, hown, hts⟩ (m_BD_register G a1 a2 h0 hst w) (cwV 1 hts (zx_gV hT wd_141 wd_143 wd_s0 wd_1 wd_144) rfl rfl rfl (by decide +kernel) ⟨Nat.le_of_ble_eq_true rfl, Nat.le_of_ble_eq_true rfl⟩) (hb_preV hK hX hW t5 (by decide) rfl) rfl rfl hl.1 rfl (lv_room (Nat.le_of_ble_eq_true rfl)) d_BD_add_2 ⟨(by show _ ≤ 4; omega), (by show _ ≤ 24; omega)⟩) hW (fun E9 ce9 q9 h9 H locs hE hW c1 c2 c3 => hx_out (Ex := fun E9 h9 => Ex E9 h9 ∧ ah_m h0 h9) (fun x9 h9 => (cx_nil htb x9 h9).elim) hlk hW c1 c2 c3 ⟨hE.1 hE.2, hm.tr hE.2⟩ (by omega) (by omega)) (fun r7 h6 H locs hk hW => ?_)
  obtain ⟨w, mm8⟩ := hk
  have w := w mm8
  have hm := hm.tr mm8
  have t9 := mm8.tg t5 (by decide)
  refine lv_astore (lv' := [(4, .ref r7), (0, .ref a1), (1, .int a2), (2, .int a3), (3, .int a4)]) hx hb d_BD_add_5 hl (by decide) rfl (fun ls hl => ?_)
  refine lv_aload_n hx hb d_BD_add_7 rfl (lv_at hl 1 rfl) ?_
  obtain ⟨q10, e11, w⟩ := w
  refine hb_get (ci := 3) (C := "BigDesk") (T := T_BD) (N := 9) hx hb hts (fun w9 h9 => hT w9 (u_BD w9 h9)) hown hK hW t9 rfl (by decide) 1 (by decide) (hw wd_105) (fun _ h9 => h9) (q := (2, 7)) rfl (v := .ref q10) (ah_f_R e11) d_BD_add_8 ?_
  refine lv_aload_n hx hb d_BD_add_11 rfl (lv_at hl 1 rfl) ?_
  refine lv_iload_n hx hb d_BD_add_12 rfl (lv_at hl 3 rfl) ?_
  refine hx_r (vx_runV (As := [.int a3]) (rest := [.ref q10]) ⟨hx, hb, hml, hown, hts⟩ (m_BD_register G a1 a3 h6 hst w) (cwV 1 hts (zx_gV hT wd_141 wd_143 wd_s0 wd_1 wd_144) rfl rfl rfl (by decide +kernel) ⟨Nat.le_of_ble_eq_true rfl, Nat.le_of_ble_eq_true rfl⟩) (hb_preV hK hX hW t9 (by decide) rfl) rfl rfl hl.1 rfl (lv_room (Nat.le_of_ble_eq_true rfl)) d_BD_add_13 ⟨(by show _ ≤ 4; omega), (by show _ ≤ 24; omega)⟩) hW (fun E9 ce9 q9 h9 H locs hE hW c1 c2 c3 => hx_out (Ex := fun E9 h9 => Ex E9 h9 ∧ ah_m h0 h9) (fun x9 h9 => (cx_nil htb x9 h9).elim) hlk hW c1 c2 c3 ⟨hE.1 hE.2, hm.tr hE.2⟩ (by omega) (by omega)) (fun r13 h12 H locs hk hW => ?_)
  obtain ⟨w, mm14⟩ := hk
  have w := w mm14
  have hm := hm.tr mm14
  have t15 := mm14.tg t9 (by decide)
  refine lv_aload_n hx hb d_BD_add_16 rfl (lv_at hl 1 rfl) ?_
  refine lv_iload_n hx hb d_BD_add_17 rfl (lv_at hl 4 rfl) ?_
  refine hx_r (vx_runV (As := [.int a4]) (rest := [.ref r13, .ref q10]) ⟨hx, hb, hml, hown, hts⟩ (m_BD_register G a1 a4 h12 hst w) (cwV 1 hts (zx_gV hT wd_141 wd_143 wd_s0 wd_1 wd_144) rfl rfl rfl (by decide +kernel) ⟨Nat.le_of_ble_eq_true rfl, Nat.le_of_ble_eq_true rfl⟩) (hb_preV hK hX hW t15 (by decide) rfl) rfl rfl hl.1 rfl (lv_room (Nat.le_of_ble_eq_true rfl)) d_BD_add_18 ⟨(by show _ ≤ 4; omega), (by show _ ≤ 24; omega)⟩) hW (fun E9 ce9 q9 h9 H locs hE hW c1 c2 c3 => hx_out (Ex := fun E9 h9 => Ex E9 h9 ∧ ah_m h0 h9) (fun x9 h9 => (cx_nil htb x9 h9).elim) hlk hW c1 c2 c3 ⟨hE.1 hE.2, hm.tr hE.2⟩ (by omega) (by omega)) (fun r17 h16 H locs hk hW => ?_)
  obtain ⟨w, mm18⟩ := hk
  have w := w mm18
  have hm := hm.tr mm18
  have t19 := mm18.tg t15 (by decide)
  refine lv_iconst (v := 0) hx hb d_BD_add_21 (by decide) ?_
  refine hb_callv (va_runS (As := [.ref q10, .ref r13, .ref r17, .int (0 : Int32)]) (rest := []) ⟨hx, hb, hml, hown, hts⟩ (m_SU_total G q10 r13 r17 (0 : Int32) h16 hst w) (va_cwS 4 hts (zx_gS hT wd_248 wd_249 wd_11 wd_250) rfl rfl rfl (by decide +kernel) ⟨Nat.le_of_ble_eq_true rfl, Nat.le_of_ble_eq_true rfl⟩) (hb_preS hK hX hW) rfl rfl hl.1 rfl (lv_room (Nat.le_of_ble_eq_true rfl)) d_BD_add_22 ⟨(by show _ ≤ 4; omega), (by show _ ≤ 24; omega)⟩) hW (fun h20 H locs hk hW => ?_)
  obtain ⟨w, mm21⟩ := hk
  have w := w mm21
  have hm := hm.tr mm21
  have t22 := mm21.tg t19 (by decide)
  refine lv_aload_n hx hb d_BD_add_25 rfl (lv_at hl 1 rfl) ?_
  refine lv_aload hx hb d_BD_add_26 (lv_at hl 0 rfl) ?_
  refine hx_v (vx_runV (As := [.ref r7]) (rest := []) ⟨hx, hb, hml, hown, hts⟩ (m_BD_keepMade G a1 r7 h20 hst w) (cwV 1 hts (zx_gV hT wd_269 wd_271 wd_s2 wd_1 wd_272) rfl rfl rfl (by decide +kernel) ⟨Nat.le_of_ble_eq_true rfl, Nat.le_of_ble_eq_true rfl⟩) (hb_preV hK hX hW t22 (by decide) rfl) rfl rfl hl.1 rfl (lv_room (Nat.le_of_ble_eq_true rfl)) d_BD_add_28 ⟨(by show _ ≤ 4; omega), (by show _ ≤ 24; omega)⟩) hW (fun E9 ce9 q9 h9 H locs hE hW c1 c2 c3 => hx_out (Ex := fun E9 h9 => Ex E9 h9 ∧ ah_m h0 h9) (fun x9 h9 => (cx_nil htb x9 h9).elim) hlk hW c1 c2 c3 ⟨hE.1 hE.2, hm.tr hE.2⟩ (by omega) (by omega)) (fun h23 H locs hk hW => ?_)
  obtain ⟨w, mm24⟩ := hk
  have w := w mm24
  have hm := hm.tr mm24
  have t25 := mm24.tg t22 (by decide)
  exact vx_ret (hb_vret (K := fun h9 => K h9 ∧ ah_m h0 h9) hx hb hr hlk hK hX hW ⟨w, hm⟩ (by omega) (by omega) d_BD_add_31)
set_option maxHeartbeats 4000000 in
set_option maxRecDepth 100000 in
theorem m_BD_subtract {l : Launch} (G : zG) (a1 : Nat) (a2 : Int32) (a3 : Int32) (a4 : Int32) (h0 : ah_H) {K : ah_H → Prop} {Ex : String → ah_H → Prop} (hst : l.stackTraces = false) (w : w_BD_subtract a1 a2 a3 a4 h0 K Ex) : vx_Met l y_BD_subtract (Cond.code y_BD_subtract b_BD_subtract 5 none :: zx_T) rm_BD_subtract (va_Pc [.ref a1, .int a2, .int a3, .int a4] (ah_B G h0)) (va_Qv (fun h9 => K h9 ∧ ah_m h0 h9) (ah_B G) (fun q => G.2.2 ≤ q)) (ah_X G (fun E9 h9 => Ex E9 h9 ∧ ah_m h0 h9)) 4 24 (fun q => G.2.2 ≤ q) := by
  refine vx_ofW (cc := b_BD_subtract) (maxL := 5) (ret := none) (by decide) rfl ?_
  intro p e s m args below meth c s₁ B hml hout0 hv
  have htb := cx_out B (atoms_spec B.pre _ List.mem_cons_self)
  obtain ⟨rfl, hB⟩ := hv
  have C : cx_C p l s m _ meth c G y_BD_subtract b_BD_subtract 5 none "BigDesk" (Cond.code y_BD_subtract b_BD_subtract 5 none :: zx_T) [] := ⟨B.exec, B.bytes, B.returns, hml, findClass_of_methodNamed B.named, atoms_spec B.pre, cx_hd, B.notSynchronized, hB.2.2.1, hB.2.2.2, htb, fun z9 => (name_of_methodNamed B.named B.method).1.trans z9, hst⟩
  obtain ⟨hx, hb, hr, hml, hown, hts, hT, hlk, hK, hX, htb, hin, hst⟩ := id C
  have hw : ∀ {w9 : Cond}, w9 ∈ zx_T → w9.before _ s = true := fun h9 => hts _ (hT _ h9)
  have hW : ah_W G s.heap h0 s.heap [] := ⟨hB.1, hB.2.1, va_S.rf⟩
  have hm : ah_m h0 h0 := ah_m.rf
  have hcl : 0 + 4 ≤ 4 := by decide
  have hsl : 0 + 24 ≤ 24 := by decide
  have hl := lv_entry ([.ref a1, .int a2, .int a3, .int a4]) (n := 5) (Nat.le_of_ble_eq_true rfl)
  rw [lg_entry_eq]
  generalize (lg_sl ([.ref a1, .int a2, .int a3, .int a4]) ++ List.replicate (5 - (lg_sl ([.ref a1, .int a2, .int a3, .int a4])).length) Slot.unset).toArray = ls at hl ⊢
  have hl : lv_has ls 5 [(0, .ref a1), (1, .int a2), (2, .int a3), (3, .int a4)] := hl
  unfold w_BD_subtract at w
  refine lv_aload_n hx hb d_BD_subtract_0 rfl (lv_at hl 0 rfl) ?_
  refine lv_iload_n hx hb d_BD_subtract_1 rfl (lv_at hl 1 rfl) ?_
  obtain ⟨t5, w⟩ := w
  refine hx_r (vx_runV (As := [.int a2]) (rest := []) ⟨hx, hb, hml, hown, hts⟩ (m_BD_register G a1 a2 h0 hst w) (cwV 1 hts (zx_gV hT wd_141 wd_143 wd_s0 wd_1 wd_144) rfl rfl rfl (by decide +kernel) ⟨Nat.le_of_ble_eq_true rfl, Nat.le_of_ble_eq_true rfl⟩) (hb_preV hK hX hW t5 (by decide) rfl) rfl rfl hl.1 rfl (lv_room (Nat.le_of_ble_eq_true rfl)) d_BD_subtract_2 ⟨(by show _ ≤ 4; omega), (by show _ ≤ 24; omega)⟩) hW (fun E9 ce9 q9 h9 H locs hE hW c1 c2 c3 => hx_out (Ex := fun E9 h9 => Ex E9 h9 ∧ ah_m h0 h9) (fun x9 h9 => (cx_nil htb x9 h9).elim) hlk hW c1 c2 c3 ⟨hE.1 hE.2, hm.tr hE.2⟩ (by omega) (by omega)) (fun r7 h6 H locs hk hW => ?_)
  obtain ⟨w, mm8⟩ := hk
  have w := w mm8
  have hm := hm.tr mm8
  have t9 := mm8.tg t5 (by decide)
  refine lv_astore (lv' := [(4, .ref r7), (0, .ref a1), (1, .int a2), (2, .int a3), (3, .int a4)]) hx hb d_BD_subtract_5 hl (by decide) rfl (fun ls hl => ?_)
  refine lv_aload_n hx hb d_BD_subtract_7 rfl (lv_at hl 1 rfl) ?_
  obtain ⟨q10, e11, w⟩ := w
  refine hb_get (ci := 3) (C := "BigDesk") (T := T_BD) (N := 9) hx hb hts (fun w9 h9 => hT w9 (u_BD w9 h9)) hown hK hW t9 rfl (by decide) 1 (by decide) (hw wd_105) (fun _ h9 => h9) (q := (2, 7)) rfl (v := .ref q10) (ah_f_R e11) d_BD_subtract_8 ?_
  refine lv_aload_n hx hb d_BD_subtract_11 rfl (lv_at hl 1 rfl) ?_
  refine lv_iload_n hx hb d_BD_subtract_12 rfl (lv_at hl 3 rfl) ?_
  refine hx_r (vx_runV (As := [.int a3]) (rest := [.ref q10]) ⟨hx, hb, hml, hown, hts⟩ (m_BD_register G a1 a3 h6 hst w) (cwV 1 hts (zx_gV hT wd_141 wd_143 wd_s0 wd_1 wd_144) rfl rfl rfl (by decide +kernel) ⟨Nat.le_of_ble_eq_true rfl, Nat.le_of_ble_eq_true rfl⟩) (hb_preV hK hX hW t9 (by decide) rfl) rfl rfl hl.1 rfl (lv_room (Nat.le_of_ble_eq_true rfl)) d_BD_subtract_13 ⟨(by show _ ≤ 4; omega), (by show _ ≤ 24; omega)⟩) hW (fun E9 ce9 q9 h9 H locs hE hW c1 c2 c3 => hx_out (Ex := fun E9 h9 => Ex E9 h9 ∧ ah_m h0 h9) (fun x9 h9 => (cx_nil htb x9 h9).elim) hlk hW c1 c2 c3 ⟨hE.1 hE.2, hm.tr hE.2⟩ (by omega) (by omega)) (fun r13 h12 H locs hk hW => ?_)
  obtain ⟨w, mm14⟩ := hk
  have w := w mm14
  have hm := hm.tr mm14
  have t15 := mm14.tg t9 (by decide)
  refine lv_aload_n hx hb d_BD_subtract_16 rfl (lv_at hl 1 rfl) ?_
  refine lv_iload_n hx hb d_BD_subtract_17 rfl (lv_at hl 4 rfl) ?_
  refine hx_r (vx_runV (As := [.int a4]) (rest := [.ref r13, .ref q10]) ⟨hx, hb, hml, hown, hts⟩ (m_BD_register G a1 a4 h12 hst w) (cwV 1 hts (zx_gV hT wd_141 wd_143 wd_s0 wd_1 wd_144) rfl rfl rfl (by decide +kernel) ⟨Nat.le_of_ble_eq_true rfl, Nat.le_of_ble_eq_true rfl⟩) (hb_preV hK hX hW t15 (by decide) rfl) rfl rfl hl.1 rfl (lv_room (Nat.le_of_ble_eq_true rfl)) d_BD_subtract_18 ⟨(by show _ ≤ 4; omega), (by show _ ≤ 24; omega)⟩) hW (fun E9 ce9 q9 h9 H locs hE hW c1 c2 c3 => hx_out (Ex := fun E9 h9 => Ex E9 h9 ∧ ah_m h0 h9) (fun x9 h9 => (cx_nil htb x9 h9).elim) hlk hW c1 c2 c3 ⟨hE.1 hE.2, hm.tr hE.2⟩ (by omega) (by omega)) (fun r17 h16 H locs hk hW => ?_)
  obtain ⟨w, mm18⟩ := hk
  have w := w mm18
  have hm := hm.tr mm18
  have t19 := mm18.tg t15 (by decide)
  refine lv_iconst (v := 1) hx hb d_BD_subtract_21 (by decide) ?_
  refine hb_callv (va_runS (As := [.ref q10, .ref r13, .ref r17, .int (1 : Int32)]) (rest := []) ⟨hx, hb, hml, hown, hts⟩ (m_SU_total G q10 r13 r17 (1 : Int32) h16 hst w) (va_cwS 4 hts (zx_gS hT wd_248 wd_249 wd_11 wd_250) rfl rfl rfl (by decide +kernel) ⟨Nat.le_of_ble_eq_true rfl, Nat.le_of_ble_eq_true rfl⟩) (hb_preS hK hX hW) rfl rfl hl.1 rfl (lv_room (Nat.le_of_ble_eq_true rfl)) d_BD_subtract_22 ⟨(by show _ ≤ 4; omega), (by show _ ≤ 24; omega)⟩) hW (fun h20 H locs hk hW => ?_)
  obtain ⟨w, mm21⟩ := hk
  have w := w mm21
  have hm := hm.tr mm21
  have t22 := mm21.tg t19 (by decide)
  refine lv_aload_n hx hb d_BD_subtract_25 rfl (lv_at hl 1 rfl) ?_
  refine lv_aload hx hb d_BD_subtract_26 (lv_at hl 0 rfl) ?_
  refine hx_v (vx_runV (As := [.ref r7]) (rest := []) ⟨hx, hb, hml, hown, hts⟩ (m_BD_keepMade G a1 r7 h20 hst w) (cwV 1 hts (zx_gV hT wd_269 wd_271 wd_s2 wd_1 wd_272) rfl rfl rfl (by decide +kernel) ⟨Nat.le_of_ble_eq_true rfl, Nat.le_of_ble_eq_true rfl⟩) (hb_preV hK hX hW t22 (by decide) rfl) rfl rfl hl.1 rfl (lv_room (Nat.le_of_ble_eq_true rfl)) d_BD_subtract_28 ⟨(by show _ ≤ 4; omega), (by show _ ≤ 24; omega)⟩) hW (fun E9 ce9 q9 h9 H locs hE hW c1 c2 c3 => hx_out (Ex := fun E9 h9 => Ex E9 h9 ∧ ah_m h0 h9) (fun x9 h9 => (cx_nil htb x9 h9).elim) hlk hW c1 c2 c3 ⟨hE.1 hE.2, hm.tr hE.2⟩ (by omega) (by omega)) (fun h23 H locs hk hW => ?_)
  obtain ⟨w, mm24⟩ := hk
  have w := w mm24
  have hm := hm.tr mm24
  have t25 := mm24.tg t22 (by decide)
  exact vx_ret (hb_vret (K := fun h9 => K h9 ∧ ah_m h0 h9) hx hb hr hlk hK hX hW ⟨w, hm⟩ (by omega) (by omega) d_BD_subtract_31)
set_option maxHeartbeats 4000000 in
set_option maxRecDepth 100000 in
theorem m_BD_keepProduct {l : Launch} (G : zG) (a1 : Nat) (a2 : Nat) (a3 : Nat) (a4 : Nat) (h0 : ah_H) {K : ah_H → Prop} {Ex : String → ah_H → Prop} (hst : l.stackTraces = false) (w : w_BD_keepProduct a1 a2 a3 a4 h0 K Ex) : vx_Met l y_BD_keepProduct (Cond.code y_BD_keepProduct b_BD_keepProduct 4 none :: zx_T) rm_BD_keepProduct (va_Pc [.ref a1, .ref a2, .ref a3, .ref a4] (ah_B G h0)) (va_Qv (fun h9 => K h9 ∧ ah_m h0 h9) (ah_B G) (fun q => G.2.2 ≤ q)) (ah_X G (fun E9 h9 => Ex E9 h9 ∧ ah_m h0 h9)) 1 6 (fun q => G.2.2 ≤ q) := by
  refine vx_ofW (cc := b_BD_keepProduct) (maxL := 4) (ret := none) (by decide) rfl ?_
  intro p e s m args below meth c s₁ B hml hout0 hv
  have htb := cx_out B (atoms_spec B.pre _ List.mem_cons_self)
  obtain ⟨rfl, hB⟩ := hv
  have C : cx_C p l s m _ meth c G y_BD_keepProduct b_BD_keepProduct 4 none "BigDesk" (Cond.code y_BD_keepProduct b_BD_keepProduct 4 none :: zx_T) [] := ⟨B.exec, B.bytes, B.returns, hml, findClass_of_methodNamed B.named, atoms_spec B.pre, cx_hd, B.notSynchronized, hB.2.2.1, hB.2.2.2, htb, fun z9 => (name_of_methodNamed B.named B.method).1.trans z9, hst⟩
  obtain ⟨hx, hb, hr, hml, hown, hts, hT, hlk, hK, hX, htb, hin, hst⟩ := id C
  have hw : ∀ {w9 : Cond}, w9 ∈ zx_T → w9.before _ s = true := fun h9 => hts _ (hT _ h9)
  have hW : ah_W G s.heap h0 s.heap [] := ⟨hB.1, hB.2.1, va_S.rf⟩
  have hm : ah_m h0 h0 := ah_m.rf
  have hcl : 0 + 1 ≤ 1 := by decide
  have hsl : 0 + 6 ≤ 6 := by decide
  have hl := lv_entry ([.ref a1, .ref a2, .ref a3, .ref a4]) (n := 4) (Nat.le_of_ble_eq_true rfl)
  rw [lg_entry_eq]
  generalize (lg_sl ([.ref a1, .ref a2, .ref a3, .ref a4]) ++ List.replicate (4 - (lg_sl ([.ref a1, .ref a2, .ref a3, .ref a4])).length) Slot.unset).toArray = ls at hl ⊢
  have hl : lv_has ls 4 [(0, .ref a1), (1, .ref a2), (2, .ref a3), (3, .ref a4)] := hl
  unfold w_BD_keepProduct at w
  refine lv_aload_n hx hb d_BD_keepProduct_0 rfl (lv_at hl 0 rfl) ?_
  obtain ⟨t5, w⟩ := w
  obtain ⟨q6, e7, w⟩ := w
  refine hb_get (ci := 3) (C := "BigDesk") (T := T_BD) (N := 9) hx hb hts (fun w9 h9 => hT w9 (u_BD w9 h9)) hown hK hW t5 rfl (by decide) 1 (by decide) (hw wd_105) (fun _ h9 => h9) (q := (2, 7)) rfl (v := .ref q6) (ah_f_R e7) d_BD_keepProduct_1 ?_
  refine lv_aload_n hx hb d_BD_keepProduct_4 rfl (lv_at hl 2 rfl) ?_
  refine lv_aload_n hx hb d_BD_keepProduct_5 rfl (lv_at hl 3 rfl) ?_
  refine hb_calli (va_runS (As := [.ref q6, .ref a3, .ref a4]) (rest := []) ⟨hx, hb, hml, hown, hts⟩ (m_SU_product G q6 a3 a4 h0 hst w) (va_cwS 3 hts (zx_gS hT wd_314 wd_315 wd_11 wd_316) rfl rfl rfl (by decide +kernel) ⟨Nat.le_of_ble_eq_true rfl, Nat.le_of_ble_eq_true rfl⟩) (hb_preS hK hX hW) rfl rfl hl.1 rfl (lv_room (Nat.le_of_ble_eq_true rfl)) d_BD_keepProduct_6 ⟨(by show _ ≤ 1; omega), (by show _ ≤ 6; omega)⟩) hW (fun r9 h8 H locs hk hW => ?_)
  obtain ⟨w, mm10⟩ := hk
  have w := w mm10
  have hm := hm.tr mm10
  have t11 := mm10.tg t5 (by decide)
  refine lv_if_ne (tgt := 22) hx hb d_BD_keepProduct_9 (by decide) (fun c12 => ?_) (fun c12 => ?_)
  · have w := w.1 c12
    refine lv_aload_n hx hb d_BD_keepProduct_22 rfl (lv_at hl 0 rfl) ?_
    refine lv_aload_n hx hb d_BD_keepProduct_23 rfl (lv_at hl 1 rfl) ?_
    refine hx_v (vx_runV (As := [.ref a2]) (rest := []) ⟨hx, hb, hml, hown, hts⟩ (m_BD_keepMade G a1 a2 h8 hst w) (cwV 1 hts (zx_gV hT wd_269 wd_271 wd_s2 wd_1 wd_272) rfl rfl rfl (by decide +kernel) ⟨Nat.le_of_ble_eq_true rfl, Nat.le_of_ble_eq_true rfl⟩) (hb_preV hK hX hW t11 (by decide) rfl) rfl rfl hl.1 rfl (lv_room (Nat.le_of_ble_eq_true rfl)) d_BD_keepProduct_24 ⟨(by show _ ≤ 1; omega), (by show _ ≤ 6; omega)⟩) hW (fun E9 ce9 q9 h9 H locs hE hW c1 c2 c3 => hx_out (Ex := fun E9 h9 => Ex E9 h9 ∧ ah_m h0 h9) (fun x9 h9 => (cx_nil htb x9 h9).elim) hlk hW c1 c2 c3 ⟨hE.1 hE.2, hm.tr hE.2⟩ (by omega) (by omega)) (fun h13 H locs hk hW => ?_)
    obtain ⟨w, mm14⟩ := hk
    have w := w mm14
    have hm := hm.tr mm14
    have t15 := mm14.tg t11 (by decide)
    exact vx_ret (hb_vret (K := fun h9 => K h9 ∧ ah_m h0 h9) hx hb hr hlk hK hX hW ⟨w, hm⟩ (by omega) (by omega) d_BD_keepProduct_27)
  · have w := w.2 c12
    exact hx_throw (Ex := fun E9 h9 => Ex E9 h9 ∧ ah_m h0 h9) hx hb hst hown hts hT hX rfl zx_rtf wd_280 wd_13 (is := 86) (text := "more than 8192 bits") (by decide) zx_aIllegalStateException zx_gIllegalStateException hW (by rw [hml]; exact hl.1) d_BD_keepProduct_12 d_BD_keepProduct_15 d_BD_keepProduct_16 d_BD_keepProduct_18 d_BD_keepProduct_21 (cx_nil htb) (Nat.le_of_ble_eq_true rfl) (Nat.le_of_ble_eq_true rfl) (by show _ ≤ 1; omega) (by show _ ≤ 6; omega) hlk ⟨w, hm⟩ (by omega) (by omega)
set_option maxHeartbeats 4000000 in
set_option maxRecDepth 100000 in
theorem m_BD_multiply {l : Launch} (G : zG) (a1 : Nat) (a2 : Int32) (a3 : Int32) (a4 : Int32) (h0 : ah_H) {K : ah_H → Prop} {Ex : String → ah_H → Prop} (hst : l.stackTraces = false) (w : w_BD_multiply a1 a2 a3 a4 h0 K Ex) : vx_Met l y_BD_multiply (Cond.code y_BD_multiply b_BD_multiply 5 none :: zx_T) rm_BD_multiply (va_Pc [.ref a1, .int a2, .int a3, .int a4] (ah_B G h0)) (va_Qv (fun h9 => K h9 ∧ ah_m h0 h9) (ah_B G) (fun q => G.2.2 ≤ q)) (ah_X G (fun E9 h9 => Ex E9 h9 ∧ ah_m h0 h9)) 4 24 (fun q => G.2.2 ≤ q) := by
  refine vx_ofW (cc := b_BD_multiply) (maxL := 5) (ret := none) (by decide) rfl ?_
  intro p e s m args below meth c s₁ B hml hout0 hv
  have htb := cx_out B (atoms_spec B.pre _ List.mem_cons_self)
  obtain ⟨rfl, hB⟩ := hv
  have C : cx_C p l s m _ meth c G y_BD_multiply b_BD_multiply 5 none "BigDesk" (Cond.code y_BD_multiply b_BD_multiply 5 none :: zx_T) [] := ⟨B.exec, B.bytes, B.returns, hml, findClass_of_methodNamed B.named, atoms_spec B.pre, cx_hd, B.notSynchronized, hB.2.2.1, hB.2.2.2, htb, fun z9 => (name_of_methodNamed B.named B.method).1.trans z9, hst⟩
  obtain ⟨hx, hb, hr, hml, hown, hts, hT, hlk, hK, hX, htb, hin, hst⟩ := id C
  have hw : ∀ {w9 : Cond}, w9 ∈ zx_T → w9.before _ s = true := fun h9 => hts _ (hT _ h9)
  have hW : ah_W G s.heap h0 s.heap [] := ⟨hB.1, hB.2.1, va_S.rf⟩
  have hm : ah_m h0 h0 := ah_m.rf
  have hcl : 0 + 4 ≤ 4 := by decide
  have hsl : 0 + 24 ≤ 24 := by decide
  have hl := lv_entry ([.ref a1, .int a2, .int a3, .int a4]) (n := 5) (Nat.le_of_ble_eq_true rfl)
  rw [lg_entry_eq]
  generalize (lg_sl ([.ref a1, .int a2, .int a3, .int a4]) ++ List.replicate (5 - (lg_sl ([.ref a1, .int a2, .int a3, .int a4])).length) Slot.unset).toArray = ls at hl ⊢
  have hl : lv_has ls 5 [(0, .ref a1), (1, .int a2), (2, .int a3), (3, .int a4)] := hl
  unfold w_BD_multiply at w
  refine lv_aload_n hx hb d_BD_multiply_0 rfl (lv_at hl 0 rfl) ?_
  refine lv_iload_n hx hb d_BD_multiply_1 rfl (lv_at hl 1 rfl) ?_
  obtain ⟨t5, w⟩ := w
  refine hx_r (vx_runV (As := [.int a2]) (rest := []) ⟨hx, hb, hml, hown, hts⟩ (m_BD_register G a1 a2 h0 hst w) (cwV 1 hts (zx_gV hT wd_141 wd_143 wd_s0 wd_1 wd_144) rfl rfl rfl (by decide +kernel) ⟨Nat.le_of_ble_eq_true rfl, Nat.le_of_ble_eq_true rfl⟩) (hb_preV hK hX hW t5 (by decide) rfl) rfl rfl hl.1 rfl (lv_room (Nat.le_of_ble_eq_true rfl)) d_BD_multiply_2 ⟨(by show _ ≤ 4; omega), (by show _ ≤ 24; omega)⟩) hW (fun E9 ce9 q9 h9 H locs hE hW c1 c2 c3 => hx_out (Ex := fun E9 h9 => Ex E9 h9 ∧ ah_m h0 h9) (fun x9 h9 => (cx_nil htb x9 h9).elim) hlk hW c1 c2 c3 ⟨hE.1 hE.2, hm.tr hE.2⟩ (by omega) (by omega)) (fun r7 h6 H locs hk hW => ?_)
  obtain ⟨w, mm8⟩ := hk
  have w := w mm8
  have hm := hm.tr mm8
  have t9 := mm8.tg t5 (by decide)
  refine lv_astore (lv' := [(4, .ref r7), (0, .ref a1), (1, .int a2), (2, .int a3), (3, .int a4)]) hx hb d_BD_multiply_5 hl (by decide) rfl (fun ls hl => ?_)
  refine lv_aload_n hx hb d_BD_multiply_7 rfl (lv_at hl 1 rfl) ?_
  refine lv_aload hx hb d_BD_multiply_8 (lv_at hl 0 rfl) ?_
  refine lv_aload_n hx hb d_BD_multiply_10 rfl (lv_at hl 1 rfl) ?_
  refine lv_iload_n hx hb d_BD_multiply_11 rfl (lv_at hl 3 rfl) ?_
  refine hx_r (vx_runV (As := [.int a3]) (rest := [.ref r7, .ref a1]) ⟨hx, hb, hml, hown, hts⟩ (m_BD_register G a1 a3 h6 hst w) (cwV 1 hts (zx_gV hT wd_141 wd_143 wd_s0 wd_1 wd_144) rfl rfl rfl (by decide +kernel) ⟨Nat.le_of_ble_eq_true rfl, Nat.le_of_ble_eq_true rfl⟩) (hb_preV hK hX hW t9 (by decide) rfl) rfl rfl hl.1 rfl (lv_room (Nat.le_of_ble_eq_true rfl)) d_BD_multiply_12 ⟨(by show _ ≤ 4; omega), (by show _ ≤ 24; omega)⟩) hW (fun E9 ce9 q9 h9 H locs hE hW c1 c2 c3 => hx_out (Ex := fun E9 h9 => Ex E9 h9 ∧ ah_m h0 h9) (fun x9 h9 => (cx_nil htb x9 h9).elim) hlk hW c1 c2 c3 ⟨hE.1 hE.2, hm.tr hE.2⟩ (by omega) (by omega)) (fun r11 h10 H locs hk hW => ?_)
  obtain ⟨w, mm12⟩ := hk
  have w := w mm12
  have hm := hm.tr mm12
  have t13 := mm12.tg t9 (by decide)
  refine lv_aload_n hx hb d_BD_multiply_15 rfl (lv_at hl 1 rfl) ?_
  refine lv_iload_n hx hb d_BD_multiply_16 rfl (lv_at hl 4 rfl) ?_
  refine hx_r (vx_runV (As := [.int a4]) (rest := [.ref r11, .ref r7, .ref a1]) ⟨hx, hb, hml, hown, hts⟩ (m_BD_register G a1 a4 h10 hst w) (cwV 1 hts (zx_gV hT wd_141 wd_143 wd_s0 wd_1 wd_144) rfl rfl rfl (by decide +kernel) ⟨Nat.le_of_ble_eq_true rfl, Nat.le_of_ble_eq_true rfl⟩) (hb_preV hK hX hW t13 (by decide) rfl) rfl rfl hl.1 rfl (lv_room (Nat.le_of_ble_eq_true rfl)) d_BD_multiply_17 ⟨(by show _ ≤ 4; omega), (by show _ ≤ 24; omega)⟩) hW (fun E9 ce9 q9 h9 H locs hE hW c1 c2 c3 => hx_out (Ex := fun E9 h9 => Ex E9 h9 ∧ ah_m h0 h9) (fun x9 h9 => (cx_nil htb x9 h9).elim) hlk hW c1 c2 c3 ⟨hE.1 hE.2, hm.tr hE.2⟩ (by omega) (by omega)) (fun r15 h14 H locs hk hW => ?_)
  obtain ⟨w, mm16⟩ := hk
  have w := w mm16
  have hm := hm.tr mm16
  have t17 := mm16.tg t13 (by decide)
  refine hx_v (vx_runV (As := [.ref r7, .ref r11, .ref r15]) (rest := []) ⟨hx, hb, hml, hown, hts⟩ (m_BD_keepProduct G a1 r7 r11 r15 h14 hst w) (cwV 3 hts (zx_gV hT wd_310 wd_312 wd_s3 wd_1 wd_313) rfl rfl rfl (by decide +kernel) ⟨Nat.le_of_ble_eq_true rfl, Nat.le_of_ble_eq_true rfl⟩) (hb_preV hK hX hW t17 (by decide) rfl) rfl rfl hl.1 rfl (lv_room (Nat.le_of_ble_eq_true rfl)) d_BD_multiply_20 ⟨(by show _ ≤ 4; omega), (by show _ ≤ 24; omega)⟩) hW (fun E9 ce9 q9 h9 H locs hE hW c1 c2 c3 => hx_out (Ex := fun E9 h9 => Ex E9 h9 ∧ ah_m h0 h9) (fun x9 h9 => (cx_nil htb x9 h9).elim) hlk hW c1 c2 c3 ⟨hE.1 hE.2, hm.tr hE.2⟩ (by omega) (by omega)) (fun h18 H locs hk hW => ?_)
  obtain ⟨w, mm19⟩ := hk
  have w := w mm19
  have hm := hm.tr mm19
  have t20 := mm19.tg t17 (by decide)
  exact vx_ret (hb_vret (K := fun h9 => K h9 ∧ ah_m h0 h9) hx hb hr hlk hK hX hW ⟨w, hm⟩ (by omega) (by omega) d_BD_multiply_23)
set_option maxHeartbeats 4000000 in
set_option maxRecDepth 100000 in
theorem m_BD_times {l : Launch} (G : zG) (a1 : Nat) (a2 : Int32) (a3 : Int32) (a4 : Int64) (h0 : ah_H) {K : ah_H → Prop} {Ex : String → ah_H → Prop} (hst : l.stackTraces = false) (w : w_BD_times a1 a2 a3 a4 h0 K Ex) : vx_Met l y_BD_times (Cond.code y_BD_times b_BD_times 7 none :: zx_T) rm_BD_times (va_Pc [.ref a1, .int a2, .int a3, .long a4] (ah_B G h0)) (va_Qv (fun h9 => K h9 ∧ ah_m h0 h9) (ah_B G) (fun q => G.2.2 ≤ q)) (ah_X G (fun E9 h9 => Ex E9 h9 ∧ ah_m h0 h9)) 3 18 (fun q => G.2.2 ≤ q) := by
  refine vx_ofW (cc := b_BD_times) (maxL := 7) (ret := none) (by decide) rfl ?_
  intro p e s m args below meth c s₁ B hml hout0 hv
  have htb := cx_out B (atoms_spec B.pre _ List.mem_cons_self)
  obtain ⟨rfl, hB⟩ := hv
  have C : cx_C p l s m _ meth c G y_BD_times b_BD_times 7 none "BigDesk" (Cond.code y_BD_times b_BD_times 7 none :: zx_T) [] := ⟨B.exec, B.bytes, B.returns, hml, findClass_of_methodNamed B.named, atoms_spec B.pre, cx_hd, B.notSynchronized, hB.2.2.1, hB.2.2.2, htb, fun z9 => (name_of_methodNamed B.named B.method).1.trans z9, hst⟩
  obtain ⟨hx, hb, hr, hml, hown, hts, hT, hlk, hK, hX, htb, hin, hst⟩ := id C
  have hw : ∀ {w9 : Cond}, w9 ∈ zx_T → w9.before _ s = true := fun h9 => hts _ (hT _ h9)
  have hW : ah_W G s.heap h0 s.heap [] := ⟨hB.1, hB.2.1, va_S.rf⟩
  have hm : ah_m h0 h0 := ah_m.rf
  have hcl : 0 + 3 ≤ 3 := by decide
  have hsl : 0 + 18 ≤ 18 := by decide
  have hl := lv_entry ([.ref a1, .int a2, .int a3, .long a4]) (n := 7) (Nat.le_of_ble_eq_true rfl)
  rw [lg_entry_eq]
  generalize (lg_sl ([.ref a1, .int a2, .int a3, .long a4]) ++ List.replicate (7 - (lg_sl ([.ref a1, .int a2, .int a3, .long a4])).length) Slot.unset).toArray = ls at hl ⊢
  have hl : lv_has ls 7 [(0, .ref a1), (1, .int a2), (2, .int a3), (3, .long a4)] := hl
  unfold w_BD_times at w
  refine lv_aload_n hx hb d_BD_times_0 rfl (lv_at hl 0 rfl) ?_
  refine lv_iload_n hx hb d_BD_times_1 rfl (lv_at hl 1 rfl) ?_
  obtain ⟨t5, w⟩ := w
  refine hx_r (vx_runV (As := [.int a2]) (rest := []) ⟨hx, hb, hml, hown, hts⟩ (m_BD_register G a1 a2 h0 hst w) (cwV 1 hts (zx_gV hT wd_141 wd_143 wd_s0 wd_1 wd_144) rfl rfl rfl (by decide +kernel) ⟨Nat.le_of_ble_eq_true rfl, Nat.le_of_ble_eq_true rfl⟩) (hb_preV hK hX hW t5 (by decide) rfl) rfl rfl hl.1 rfl (lv_room (Nat.le_of_ble_eq_true rfl)) d_BD_times_2 ⟨(by show _ ≤ 3; omega), (by show _ ≤ 18; omega)⟩) hW (fun E9 ce9 q9 h9 H locs hE hW c1 c2 c3 => hx_out (Ex := fun E9 h9 => Ex E9 h9 ∧ ah_m h0 h9) (fun x9 h9 => (cx_nil htb x9 h9).elim) hlk hW c1 c2 c3 ⟨hE.1 hE.2, hm.tr hE.2⟩ (by omega) (by omega)) (fun r7 h6 H locs hk hW => ?_)
  obtain ⟨w, mm8⟩ := hk
  have w := w mm8
  have hm := hm.tr mm8
  have t9 := mm8.tg t5 (by decide)
  refine lv_astore (lv' := [(5, .ref r7), (0, .ref a1), (1, .int a2), (2, .int a3), (3, .long a4)]) hx hb d_BD_times_5 hl (by decide) rfl (fun ls hl => ?_)
  refine lv_aload_n hx hb d_BD_times_7 rfl (lv_at hl 1 rfl) ?_
  refine lv_iload_n hx hb d_BD_times_8 rfl (lv_at hl 3 rfl) ?_
  refine hx_r (vx_runV (As := [.int a3]) (rest := []) ⟨hx, hb, hml, hown, hts⟩ (m_BD_register G a1 a3 h6 hst w) (cwV 1 hts (zx_gV hT wd_141 wd_143 wd_s0 wd_1 wd_144) rfl rfl rfl (by decide +kernel) ⟨Nat.le_of_ble_eq_true rfl, Nat.le_of_ble_eq_true rfl⟩) (hb_preV hK hX hW t9 (by decide) rfl) rfl rfl hl.1 rfl (lv_room (Nat.le_of_ble_eq_true rfl)) d_BD_times_9 ⟨(by show _ ≤ 3; omega), (by show _ ≤ 18; omega)⟩) hW (fun E9 ce9 q9 h9 H locs hE hW c1 c2 c3 => hx_out (Ex := fun E9 h9 => Ex E9 h9 ∧ ah_m h0 h9) (fun x9 h9 => (cx_nil htb x9 h9).elim) hlk hW c1 c2 c3 ⟨hE.1 hE.2, hm.tr hE.2⟩ (by omega) (by omega)) (fun r11 h10 H locs hk hW => ?_)
  obtain ⟨w, mm12⟩ := hk
  have w := w mm12
  have hm := hm.tr mm12
  have t13 := mm12.tg t9 (by decide)
  refine lv_astore (lv' := [(6, .ref r11), (5, .ref r7), (0, .ref a1), (1, .int a2), (2, .int a3), (3, .long a4)]) hx hb d_BD_times_12 hl (by decide) rfl (fun ls hl => ?_)
  refine lv_aload_n hx hb d_BD_times_14 rfl (lv_at hl 2 rfl) ?_
  obtain ⟨q14, e15, w⟩ := w
  refine hb_get (ci := 3) (C := "BigDesk") (T := T_BD) (N := 9) hx hb hts (fun w9 h9 => hT w9 (u_BD w9 h9)) hown hK hW t13 rfl (by decide) 2 (by decide) (hw wd_106) (fun _ h9 => h9) (q := (2, 8)) rfl (v := .ref q14) (ah_f_R e15) d_BD_times_15 ?_
  refine lv_lload_n hx hb d_BD_times_18 rfl (lv_at hl 5 rfl) ?_
  obtain ⟨t16, w⟩ := w
  refine hb_callv (va_runV (As := [.long a4]) (rest := []) ⟨hx, hb, hml, hown, hts⟩ (m_WH_becomeLong G q14 a4 h10 hst w) (cwV 1 hts (zx_gV hT wd_213 wd_214 wd_215 wd_2 wd_216) rfl rfl rfl (by decide +kernel) ⟨Nat.le_of_ble_eq_true rfl, Nat.le_of_ble_eq_true rfl⟩) (hb_preV hK hX hW t16 (by decide) rfl) rfl rfl hl.1 rfl (lv_room (Nat.le_of_ble_eq_true rfl)) d_BD_times_19 ⟨(by show _ ≤ 3; omega), (by show _ ≤ 18; omega)⟩) hW (fun h17 H locs hk hW => ?_)
  obtain ⟨w, mm18⟩ := hk
  have w := w mm18
  have hm := hm.tr mm18
  have t19 := mm18.tg t13 (by decide)
  have t20 := mm18.tg t16 (by decide)
  refine lv_aload_n hx hb d_BD_times_22 rfl (lv_at hl 2 rfl) ?_
  refine lv_aload hx hb d_BD_times_23 (lv_at hl 1 rfl) ?_
  refine lv_aload hx hb d_BD_times_25 (lv_at hl 0 rfl) ?_
  refine lv_aload_n hx hb d_BD_times_27 rfl (lv_at hl 2 rfl) ?_
  obtain ⟨q21, e22, w⟩ := w
  refine hb_get (ci := 3) (C := "BigDesk") (T := T_BD) (N := 9) hx hb hts (fun w9 h9 => hT w9 (u_BD w9 h9)) hown hK hW t19 rfl (by decide) 2 (by decide) (hw wd_106) (fun _ h9 => h9) (q := (2, 8)) rfl (v := .ref q21) (ah_f_R e22) d_BD_times_28 ?_
  refine hx_v (vx_runV (As := [.ref r7, .ref r11, .ref q21]) (rest := []) ⟨hx, hb, hml, hown, hts⟩ (m_BD_keepProduct G a1 r7 r11 q21 h17 hst w) (cwV 3 hts (zx_gV hT wd_310 wd_312 wd_s3 wd_1 wd_313) rfl rfl rfl (by decide +kernel) ⟨Nat.le_of_ble_eq_true rfl, Nat.le_of_ble_eq_true rfl⟩) (hb_preV hK hX hW t19 (by decide) rfl) rfl rfl hl.1 rfl (lv_room (Nat.le_of_ble_eq_true rfl)) d_BD_times_31 ⟨(by show _ ≤ 3; omega), (by show _ ≤ 18; omega)⟩) hW (fun E9 ce9 q9 h9 H locs hE hW c1 c2 c3 => hx_out (Ex := fun E9 h9 => Ex E9 h9 ∧ ah_m h0 h9) (fun x9 h9 => (cx_nil htb x9 h9).elim) hlk hW c1 c2 c3 ⟨hE.1 hE.2, hm.tr hE.2⟩ (by omega) (by omega)) (fun h23 H locs hk hW => ?_)
  obtain ⟨w, mm24⟩ := hk
  have w := w mm24
  have hm := hm.tr mm24
  have t25 := mm24.tg t19 (by decide)
  have t26 := mm24.tg t20 (by decide)
  exact vx_ret (hb_vret (K := fun h9 => K h9 ∧ ah_m h0 h9) hx hb hr hlk hK hX hW ⟨w, hm⟩ (by omega) (by omega) d_BD_times_34)
set_option maxHeartbeats 4000000 in
set_option maxRecDepth 100000 in
theorem tb_BD_requireShift_11 {p : Program} {l : Launch} {e : Env} {s : State} {m : MethodId} {args : Array Value} {below : List Frame} {meth : Method} {c : Code} {G : zG} (C : cx_C p l s m args meth c G y_BD_requireShift b_BD_requireShift 1 none "BigDesk" (Cond.code y_BD_requireShift b_BD_requireShift 1 none :: zx_T) []) {K : ah_H → Prop} {Ex : String → ah_H → Prop} {h0 : ah_H} {cells slots : Nat} (hcl : cells + 1 ≤ 1) (hsl : slots + 6 ≤ 6)   (h3 : ah_H) (H : Heap) (locs : List Loc) (ls : Array Slot) (w : bk_BD_requireShift_11 K Ex h3) (hm : ah_m h0 h3) (hW : ah_W G s.heap h3 H locs) (hl : lv_has ls 1 []) : W p l e rm_BD_requireShift s m args below meth c H locs cells slots (vx_MQ below (va_Qv (fun h9 => K h9 ∧ ah_m h0 h9) (ah_B G) (fun q => G.2.2 ≤ q)) (ah_X G (fun E9 h9 => Ex E9 h9 ∧ ah_m h0 h9)) args s 1 6 (fun q => G.2.2 ≤ q)) (F0 m 11 ls []) := by
  unfold bk_BD_requireShift_11 at w
  obtain ⟨hx, hb, hr, hml, hown, hts, hT, hlk, hK, hX, htb, hin, hst⟩ := id C
  have hw : ∀ {w9 : Cond}, w9 ∈ zx_T → w9.before _ s = true := fun h9 => hts _ (hT _ h9)
  exact hx_throw (Ex := fun E9 h9 => Ex E9 h9 ∧ ah_m h0 h9) hx hb hst hown hts hT hX rfl zx_rtf wd_145 wd_9 (is := 192) (text := "not 0 to 8192 bits") (by decide) zx_aIllegalArgumentException zx_gIllegalArgumentException hW (by rw [hml]; exact hl.1) d_BD_requireShift_11 d_BD_requireShift_14 d_BD_requireShift_15 d_BD_requireShift_17 d_BD_requireShift_20 (cx_nil htb) (Nat.le_of_ble_eq_true rfl) (Nat.le_of_ble_eq_true rfl) (by show _ ≤ 1; omega) (by show _ ≤ 6; omega) hlk ⟨w, hm⟩ (by omega) (by omega)
set_option maxHeartbeats 4000000 in
set_option maxRecDepth 100000 in
theorem m_BD_requireShift {l : Launch} (G : zG) (a1 : Int32) (h0 : ah_H) {K : ah_H → Prop} {Ex : String → ah_H → Prop} (hst : l.stackTraces = false) (w : w_BD_requireShift a1 h0 K Ex) : vx_Met l y_BD_requireShift (Cond.code y_BD_requireShift b_BD_requireShift 1 none :: zx_T) rm_BD_requireShift (va_Pc [.int a1] (ah_B G h0)) (va_Qv (fun h9 => K h9 ∧ ah_m h0 h9) (ah_B G) (fun q => G.2.2 ≤ q)) (ah_X G (fun E9 h9 => Ex E9 h9 ∧ ah_m h0 h9)) 1 6 (fun q => G.2.2 ≤ q) := by
  refine vx_ofW (cc := b_BD_requireShift) (maxL := 1) (ret := none) (by decide) rfl ?_
  intro p e s m args below meth c s₁ B hml hout0 hv
  have htb := cx_out B (atoms_spec B.pre _ List.mem_cons_self)
  obtain ⟨rfl, hB⟩ := hv
  have C : cx_C p l s m _ meth c G y_BD_requireShift b_BD_requireShift 1 none "BigDesk" (Cond.code y_BD_requireShift b_BD_requireShift 1 none :: zx_T) [] := ⟨B.exec, B.bytes, B.returns, hml, findClass_of_methodNamed B.named, atoms_spec B.pre, cx_hd, B.notSynchronized, hB.2.2.1, hB.2.2.2, htb, fun z9 => (name_of_methodNamed B.named B.method).1.trans z9, hst⟩
  obtain ⟨hx, hb, hr, hml, hown, hts, hT, hlk, hK, hX, htb, hin, hst⟩ := id C
  have hw : ∀ {w9 : Cond}, w9 ∈ zx_T → w9.before _ s = true := fun h9 => hts _ (hT _ h9)
  have hW : ah_W G s.heap h0 s.heap [] := ⟨hB.1, hB.2.1, va_S.rf⟩
  have hm : ah_m h0 h0 := ah_m.rf
  have hcl : 0 + 1 ≤ 1 := by decide
  have hsl : 0 + 6 ≤ 6 := by decide
  have hl := lv_entry ([.int a1]) (n := 1) (Nat.le_of_ble_eq_true rfl)
  rw [lg_entry_eq]
  generalize (lg_sl ([.int a1]) ++ List.replicate (1 - (lg_sl ([.int a1])).length) Slot.unset).toArray = ls at hl ⊢
  have hl : lv_has ls 1 [(0, .int a1)] := hl
  unfold w_BD_requireShift at w
  refine lv_iload_n hx hb d_BD_requireShift_0 rfl (lv_at hl 0 rfl) ?_
  refine lv_if_lt (tgt := 11) hx hb d_BD_requireShift_1 (by decide) (fun c2 => ?_) (fun c2 => ?_)
  · have w := w.1 c2
    exact tb_BD_requireShift_11 C (by omega) (by omega)   h0 _ _ _ w hm hW (lv_sub hl [] rfl)
  · have w := w.2 c2
    refine lv_iload_n hx hb d_BD_requireShift_4 rfl (lv_at hl 0 rfl) ?_
    refine lv_sipush (v := 8192) hx hb d_BD_requireShift_5 (by decide) ?_
    refine lv_icmp_le (tgt := 21) hx hb d_BD_requireShift_8 (by decide) (fun c4 => ?_) (fun c4 => ?_)
    · have w := w.1 c4
      exact vx_ret (hb_vret (K := fun h9 => K h9 ∧ ah_m h0 h9) hx hb hr hlk hK hX hW ⟨w, hm⟩ (by omega) (by omega) d_BD_requireShift_21)
    · have w := w.2 c4
      exact tb_BD_requireShift_11 C (by omega) (by omega)   h0 _ _ _ w hm hW (lv_sub hl [] rfl)
set_option maxHeartbeats 4000000 in
set_option maxRecDepth 100000 in
theorem m_BD_shift {l : Launch} (G : zG) (a1 : Nat) (a2 : Int32) (a3 : Int32) (a4 : Int32) (h0 : ah_H) {K : ah_H → Prop} {Ex : String → ah_H → Prop} (hst : l.stackTraces = false) (w : w_BD_shift a1 a2 a3 a4 h0 K Ex) : vx_Met l y_BD_shift (Cond.code y_BD_shift b_BD_shift 6 none :: zx_T) rm_BD_shift (va_Pc [.ref a1, .int a2, .int a3, .int a4] (ah_B G h0)) (va_Qv (fun h9 => K h9 ∧ ah_m h0 h9) (ah_B G) (fun q => G.2.2 ≤ q)) (ah_X G (fun E9 h9 => Ex E9 h9 ∧ ah_m h0 h9)) 4 24 (fun q => G.2.2 ≤ q) := by
  refine vx_ofW (cc := b_BD_shift) (maxL := 6) (ret := none) (by decide) rfl ?_
  intro p e s m args below meth c s₁ B hml hout0 hv
  have htb := cx_out B (atoms_spec B.pre _ List.mem_cons_self)
  obtain ⟨rfl, hB⟩ := hv
  have C : cx_C p l s m _ meth c G y_BD_shift b_BD_shift 6 none "BigDesk" (Cond.code y_BD_shift b_BD_shift 6 none :: zx_T) [] := ⟨B.exec, B.bytes, B.returns, hml, findClass_of_methodNamed B.named, atoms_spec B.pre, cx_hd, B.notSynchronized, hB.2.2.1, hB.2.2.2, htb, fun z9 => (name_of_methodNamed B.named B.method).1.trans z9, hst⟩
  obtain ⟨hx, hb, hr, hml, hown, hts, hT, hlk, hK, hX, htb, hin, hst⟩ := id C
  have hw : ∀ {w9 : Cond}, w9 ∈ zx_T → w9.before _ s = true := fun h9 => hts _ (hT _ h9)
  have hW : ah_W G s.heap h0 s.heap [] := ⟨hB.1, hB.2.1, va_S.rf⟩
  have hm : ah_m h0 h0 := ah_m.rf
  have hcl : 0 + 4 ≤ 4 := by decide
  have hsl : 0 + 24 ≤ 24 := by decide
  have hl := lv_entry ([.ref a1, .int a2, .int a3, .int a4]) (n := 6) (Nat.le_of_ble_eq_true rfl)
  rw [lg_entry_eq]
  generalize (lg_sl ([.ref a1, .int a2, .int a3, .int a4]) ++ List.replicate (6 - (lg_sl ([.ref a1, .int a2, .int a3, .int a4])).length) Slot.unset).toArray = ls at hl ⊢
  have hl : lv_has ls 6 [(0, .ref a1), (1, .int a2), (2, .int a3), (3, .int a4)] := hl
  unfold w_BD_shift at w
  refine lv_aload_n hx hb d_BD_shift_0 rfl (lv_at hl 0 rfl) ?_
  refine lv_iload_n hx hb d_BD_shift_1 rfl (lv_at hl 1 rfl) ?_
  obtain ⟨t5, w⟩ := w
  refine hx_r (vx_runV (As := [.int a2]) (rest := []) ⟨hx, hb, hml, hown, hts⟩ (m_BD_register G a1 a2 h0 hst w) (cwV 1 hts (zx_gV hT wd_141 wd_143 wd_s0 wd_1 wd_144) rfl rfl rfl (by decide +kernel) ⟨Nat.le_of_ble_eq_true rfl, Nat.le_of_ble_eq_true rfl⟩) (hb_preV hK hX hW t5 (by decide) rfl) rfl rfl hl.1 rfl (lv_room (Nat.le_of_ble_eq_true rfl)) d_BD_shift_2 ⟨(by show _ ≤ 4; omega), (by show _ ≤ 24; omega)⟩) hW (fun E9 ce9 q9 h9 H locs hE hW c1 c2 c3 => hx_out (Ex := fun E9 h9 => Ex E9 h9 ∧ ah_m h0 h9) (fun x9 h9 => (cx_nil htb x9 h9).elim) hlk hW c1 c2 c3 ⟨hE.1 hE.2, hm.tr hE.2⟩ (by omega) (by omega)) (fun r7 h6 H locs hk hW => ?_)
  obtain ⟨w, mm8⟩ := hk
  have w := w mm8
  have hm := hm.tr mm8
  have t9 := mm8.tg t5 (by decide)
  refine lv_astore (lv' := [(4, .ref r7), (0, .ref a1), (1, .int a2), (2, .int a3), (3, .int a4)]) hx hb d_BD_shift_5 hl (by decide) rfl (fun ls hl => ?_)
  refine lv_aload_n hx hb d_BD_shift_7 rfl (lv_at hl 1 rfl) ?_
  refine lv_iload_n hx hb d_BD_shift_8 rfl (lv_at hl 3 rfl) ?_
  refine hx_r (vx_runV (As := [.int a3]) (rest := []) ⟨hx, hb, hml, hown, hts⟩ (m_BD_register G a1 a3 h6 hst w) (cwV 1 hts (zx_gV hT wd_141 wd_143 wd_s0 wd_1 wd_144) rfl rfl rfl (by decide +kernel) ⟨Nat.le_of_ble_eq_true rfl, Nat.le_of_ble_eq_true rfl⟩) (hb_preV hK hX hW t9 (by decide) rfl) rfl rfl hl.1 rfl (lv_room (Nat.le_of_ble_eq_true rfl)) d_BD_shift_9 ⟨(by show _ ≤ 4; omega), (by show _ ≤ 24; omega)⟩) hW (fun E9 ce9 q9 h9 H locs hE hW c1 c2 c3 => hx_out (Ex := fun E9 h9 => Ex E9 h9 ∧ ah_m h0 h9) (fun x9 h9 => (cx_nil htb x9 h9).elim) hlk hW c1 c2 c3 ⟨hE.1 hE.2, hm.tr hE.2⟩ (by omega) (by omega)) (fun r11 h10 H locs hk hW => ?_)
  obtain ⟨w, mm12⟩ := hk
  have w := w mm12
  have hm := hm.tr mm12
  have t13 := mm12.tg t9 (by decide)
  refine lv_astore (lv' := [(5, .ref r11), (4, .ref r7), (0, .ref a1), (1, .int a2), (2, .int a3), (3, .int a4)]) hx hb d_BD_shift_12 hl (by decide) rfl (fun ls hl => ?_)
  refine lv_iload_n hx hb d_BD_shift_14 rfl (lv_at hl 5 rfl) ?_
  refine hx_v (vx_runS (As := [.int a4]) (rest := []) ⟨hx, hb, hml, hown, hts⟩ (m_BD_requireShift G a4 h10 hst w) (va_cwS 1 hts (zx_gS hT wd_334 wd_335 wd_1 wd_336) rfl rfl rfl (by decide +kernel) ⟨Nat.le_of_ble_eq_true rfl, Nat.le_of_ble_eq_true rfl⟩) (hb_preS hK hX hW) rfl rfl hl.1 rfl (lv_room (Nat.le_of_ble_eq_true rfl)) d_BD_shift_15 ⟨(by show _ ≤ 4; omega), (by show _ ≤ 24; omega)⟩) hW (fun E9 ce9 q9 h9 H locs hE hW c1 c2 c3 => hx_out (Ex := fun E9 h9 => Ex E9 h9 ∧ ah_m h0 h9) (fun x9 h9 => (cx_nil htb x9 h9).elim) hlk hW c1 c2 c3 ⟨hE.1 hE.2, hm.tr hE.2⟩ (by omega) (by omega)) (fun h14 H locs hk hW => ?_)
  obtain ⟨w, mm15⟩ := hk
  have w := w mm15
  have hm := hm.tr mm15
  have t16 := mm15.tg t13 (by decide)
  refine lv_aload hx hb d_BD_shift_18 (lv_at hl 0 rfl) ?_
  obtain ⟨t17, w⟩ := w
  refine hb_calli (va_runV (As := []) (rest := []) ⟨hx, hb, hml, hown, hts⟩ (m_WH_bits G r11 h14 hst w) (cwV 0 hts (zx_gV hT wd_273 wd_274 wd_275 wd_2 wd_276) rfl rfl rfl (by decide +kernel) ⟨Nat.le_of_ble_eq_true rfl, Nat.le_of_ble_eq_true rfl⟩) (hb_preV hK hX hW t17 (by decide) rfl) rfl rfl hl.1 rfl (lv_room (Nat.le_of_ble_eq_true rfl)) d_BD_shift_20 ⟨(by show _ ≤ 4; omega), (by show _ ≤ 24; omega)⟩) hW (fun r19 h18 H locs hk hW => ?_)
  obtain ⟨w, mm20⟩ := hk
  have w := w mm20
  have hm := hm.tr mm20
  have t21 := mm20.tg t16 (by decide)
  have t22 := mm20.tg t17 (by decide)
  refine lv_iload_n hx hb d_BD_shift_23 rfl (lv_at hl 5 rfl) ?_
  refine lv_iadd hx hb d_BD_shift_24 ?_
  refine lv_sipush (v := 8192) hx hb d_BD_shift_25 (by decide) ?_
  refine lv_icmp_le (tgt := 41) hx hb d_BD_shift_28 (by decide) (fun c23 => ?_) (fun c23 => ?_)
  · have w := w.1 c23
    refine lv_aload_n hx hb d_BD_shift_41 rfl (lv_at hl 2 rfl) ?_
    obtain ⟨q24, e25, w⟩ := w
    refine hb_get (ci := 3) (C := "BigDesk") (T := T_BD) (N := 9) hx hb hts (fun w9 h9 => hT w9 (u_BD w9 h9)) hown hK hW t21 rfl (by decide) 1 (by decide) (hw wd_105) (fun _ h9 => h9) (q := (2, 7)) rfl (v := .ref q24) (ah_f_R e25) d_BD_shift_42 ?_
    refine lv_aload hx hb d_BD_shift_45 (lv_at hl 0 rfl) ?_
    refine lv_iload_n hx hb d_BD_shift_47 rfl (lv_at hl 5 rfl) ?_
    obtain ⟨t26, w⟩ := w
    refine hb_callv (va_runV (As := [.ref r11, .int a4]) (rest := []) ⟨hx, hb, hml, hown, hts⟩ (m_WH_becomeShiftedUp G q24 r11 a4 h18 hst w) (cwV 2 hts (zx_gV hT wd_338 wd_339 wd_340 wd_2 wd_341) rfl rfl rfl (by decide +kernel) ⟨Nat.le_of_ble_eq_true rfl, Nat.le_of_ble_eq_true rfl⟩) (hb_preV hK hX hW t26 (by decide) rfl) rfl rfl hl.1 rfl (lv_room (Nat.le_of_ble_eq_true rfl)) d_BD_shift_48 ⟨(by show _ ≤ 4; omega), (by show _ ≤ 24; omega)⟩) hW (fun h27 H locs hk hW => ?_)
    obtain ⟨w, mm28⟩ := hk
    have w := w mm28
    have hm := hm.tr mm28
    have t29 := mm28.tg t21 (by decide)
    have t30 := mm28.tg t22 (by decide)
    have t31 := mm28.tg t26 (by decide)
    refine lv_aload_n hx hb d_BD_shift_51 rfl (lv_at hl 2 rfl) ?_
    obtain ⟨q32, e33, w⟩ := w
    refine hb_get (ci := 3) (C := "BigDesk") (T := T_BD) (N := 9) hx hb hts (fun w9 h9 => hT w9 (u_BD w9 h9)) hown hK hW t29 rfl (by decide) 1 (by decide) (hw wd_105) (fun _ h9 => h9) (q := (2, 7)) rfl (v := .ref q32) (ah_f_R e33) d_BD_shift_52 ?_
    refine lv_aload hx hb d_BD_shift_55 (lv_at hl 0 rfl) ?_
    refine hb_get (ci := 2) (C := "BigDesk$Whole") (T := T_WH) (N := 3) hx hb hts (fun w9 h9 => hT w9 (u_WH w9 h9)) hown hK hW t30 rfl (by decide) 2 (by decide) (hw wd_47) (fun _ h9 => h9) (q := (0, 1)) rfl (v := .int (ah_I h27 1 r11)) rfl d_BD_shift_57 ?_
    obtain ⟨t34, w⟩ := w
    refine hb_callv (va_runV (As := [.int (ah_I h27 1 r11)]) (rest := []) ⟨hx, hb, hml, hown, hts⟩ (m_WH_markSign G q32 (ah_I h27 1 r11) h27 hst w) (cwV 1 hts (zx_gV hT wd_347 wd_223 wd_224 wd_2 wd_225) rfl rfl rfl (by decide +kernel) ⟨Nat.le_of_ble_eq_true rfl, Nat.le_of_ble_eq_true rfl⟩) (hb_preV hK hX hW t34 (by decide) rfl) rfl rfl hl.1 rfl (lv_room (Nat.le_of_ble_eq_true rfl)) d_BD_shift_60 ⟨(by show _ ≤ 4; omega), (by show _ ≤ 24; omega)⟩) hW (fun h35 H locs hk hW => ?_)
    obtain ⟨w, mm36⟩ := hk
    have w := w mm36
    have hm := hm.tr mm36
    have t37 := mm36.tg t29 (by decide)
    have t38 := mm36.tg t30 (by decide)
    have t39 := mm36.tg t31 (by decide)
    have t40 := mm36.tg t34 (by decide)
    refine lv_aload_n hx hb d_BD_shift_63 rfl (lv_at hl 2 rfl) ?_
    refine lv_aload hx hb d_BD_shift_64 (lv_at hl 1 rfl) ?_
    refine hx_v (vx_runV (As := [.ref r7]) (rest := []) ⟨hx, hb, hml, hown, hts⟩ (m_BD_keepMade G a1 r7 h35 hst w) (cwV 1 hts (zx_gV hT wd_269 wd_271 wd_s2 wd_1 wd_272) rfl rfl rfl (by decide +kernel) ⟨Nat.le_of_ble_eq_true rfl, Nat.le_of_ble_eq_true rfl⟩) (hb_preV hK hX hW t37 (by decide) rfl) rfl rfl hl.1 rfl (lv_room (Nat.le_of_ble_eq_true rfl)) d_BD_shift_66 ⟨(by show _ ≤ 4; omega), (by show _ ≤ 24; omega)⟩) hW (fun E9 ce9 q9 h9 H locs hE hW c1 c2 c3 => hx_out (Ex := fun E9 h9 => Ex E9 h9 ∧ ah_m h0 h9) (fun x9 h9 => (cx_nil htb x9 h9).elim) hlk hW c1 c2 c3 ⟨hE.1 hE.2, hm.tr hE.2⟩ (by omega) (by omega)) (fun h41 H locs hk hW => ?_)
    obtain ⟨w, mm42⟩ := hk
    have w := w mm42
    have hm := hm.tr mm42
    have t43 := mm42.tg t37 (by decide)
    have t44 := mm42.tg t38 (by decide)
    have t45 := mm42.tg t39 (by decide)
    have t46 := mm42.tg t40 (by decide)
    exact vx_ret (hb_vret (K := fun h9 => K h9 ∧ ah_m h0 h9) hx hb hr hlk hK hX hW ⟨w, hm⟩ (by omega) (by omega) d_BD_shift_69)
  · have w := w.2 c23
    exact hx_throw (Ex := fun E9 h9 => Ex E9 h9 ∧ ah_m h0 h9) hx hb hst hown hts hT hX rfl zx_rtf wd_280 wd_13 (is := 86) (text := "more than 8192 bits") (by decide) zx_aIllegalStateException zx_gIllegalStateException hW (by rw [hml]; exact hl.1) d_BD_shift_31 d_BD_shift_34 d_BD_shift_35 d_BD_shift_37 d_BD_shift_40 (cx_nil htb) (Nat.le_of_ble_eq_true rfl) (Nat.le_of_ble_eq_true rfl) (by show _ ≤ 4; omega) (by show _ ≤ 24; omega) hlk ⟨w, hm⟩ (by omega) (by omega)
set_option maxHeartbeats 4000000 in
set_option maxRecDepth 100000 in
theorem tb_BD_half_52 {p : Program} {l : Launch} {e : Env} {s : State} {m : MethodId} {args : Array Value} {below : List Frame} {meth : Method} {c : Code} {G : zG} (C : cx_C p l s m args meth c G y_BD_half b_BD_half 6 none "BigDesk" (Cond.code y_BD_half b_BD_half 6 none :: zx_T) []) {K : ah_H → Prop} {Ex : String → ah_H → Prop} {h0 : ah_H} {cells slots : Nat} (hcl : cells + 0 ≤ 3) (hsl : slots + 0 ≤ 18)  (x26 : Nat) (x27 : Nat) (x28 : Nat) (h29 : ah_H) (H : Heap) (locs : List Loc) (ls : Array Slot) (w : bk_BD_half_52 K Ex x26 x27 x28 h29) (hm : ah_m h0 h29) (hW : ah_W G s.heap h29 H locs) (hl : lv_has ls 6 [(0, .ref x26), (4, .ref x27), (5, .ref x28)]) : W p l e rm_BD_half s m args below meth c H locs cells slots (vx_MQ below (va_Qv (fun h9 => K h9 ∧ ah_m h0 h9) (ah_B G) (fun q => G.2.2 ≤ q)) (ah_X G (fun E9 h9 => Ex E9 h9 ∧ ah_m h0 h9)) args s 3 18 (fun q => G.2.2 ≤ q)) (F0 m 52 ls []) := by
  unfold bk_BD_half_52 at w
  obtain ⟨hx, hb, hr, hml, hown, hts, hT, hlk, hK, hX, htb, hin, hst⟩ := id C
  have hw : ∀ {w9 : Cond}, w9 ∈ zx_T → w9.before _ s = true := fun h9 => hts _ (hT _ h9)
  refine lv_aload_n hx hb d_BD_half_52 rfl (lv_at hl 0 rfl) ?_
  obtain ⟨t30, w⟩ := w
  obtain ⟨q31, e32, w⟩ := w
  refine hb_get (ci := 3) (C := "BigDesk") (T := T_BD) (N := 9) hx hb hts (fun w9 h9 => hT w9 (u_BD w9 h9)) hown hK hW t30 rfl (by decide) 1 (by decide) (hw wd_105) (fun _ h9 => h9) (q := (2, 7)) rfl (v := .ref q31) (ah_f_R e32) d_BD_half_53 ?_
  refine lv_aload hx hb d_BD_half_56 (lv_at hl 2 rfl) ?_
  obtain ⟨t33, w⟩ := w
  refine hb_get (ci := 2) (C := "BigDesk$Whole") (T := T_WH) (N := 3) hx hb hts (fun w9 h9 => hT w9 (u_WH w9 h9)) hown hK hW t33 rfl (by decide) 2 (by decide) (hw wd_47) (fun _ h9 => h9) (q := (0, 1)) rfl (v := .int (ah_I h29 1 x28)) rfl d_BD_half_58 ?_
  obtain ⟨t34, w⟩ := w
  refine hb_callv (va_runV (As := [.int (ah_I h29 1 x28)]) (rest := []) ⟨hx, hb, hml, hown, hts⟩ (m_WH_markSign G q31 (ah_I h29 1 x28) h29 hst w) (cwV 1 hts (zx_gV hT wd_347 wd_223 wd_224 wd_2 wd_225) rfl rfl rfl (by decide +kernel) ⟨Nat.le_of_ble_eq_true rfl, Nat.le_of_ble_eq_true rfl⟩) (hb_preV hK hX hW t34 (by decide) rfl) rfl rfl hl.1 rfl (lv_room (Nat.le_of_ble_eq_true rfl)) d_BD_half_61 ⟨(by show _ ≤ 3; omega), (by show _ ≤ 18; omega)⟩) hW (fun h35 H locs hk hW => ?_)
  obtain ⟨w, mm36⟩ := hk
  have w := w mm36
  have hm := hm.tr mm36
  have t37 := mm36.tg t30 (by decide)
  have t38 := mm36.tg t33 (by decide)
  have t39 := mm36.tg t34 (by decide)
  refine lv_aload hx hb d_BD_half_64 (lv_at hl 1 rfl) ?_
  refine lv_aload_n hx hb d_BD_half_66 rfl (lv_at hl 0 rfl) ?_
  obtain ⟨q40, e41, w⟩ := w
  refine hb_get (ci := 3) (C := "BigDesk") (T := T_BD) (N := 9) hx hb hts (fun w9 h9 => hT w9 (u_BD w9 h9)) hown hK hW t37 rfl (by decide) 1 (by decide) (hw wd_105) (fun _ h9 => h9) (q := (2, 7)) rfl (v := .ref q40) (ah_f_R e41) d_BD_half_67 ?_
  obtain ⟨t42, w⟩ := w
  refine hb_callv (va_runV (As := [.ref q40]) (rest := []) ⟨hx, hb, hml, hown, hts⟩ (m_WH_become G x27 q40 h35 hst w) (cwV 1 hts (zx_gV hT wd_233 wd_234 wd_235 wd_2 wd_236) rfl rfl rfl (by decide +kernel) ⟨Nat.le_of_ble_eq_true rfl, Nat.le_of_ble_eq_true rfl⟩) (hb_preV hK hX hW t42 (by decide) rfl) rfl rfl hl.1 rfl (lv_room (Nat.le_of_ble_eq_true rfl)) d_BD_half_70 ⟨(by show _ ≤ 3; omega), (by show _ ≤ 18; omega)⟩) hW (fun h43 H locs hk hW => ?_)
  obtain ⟨w, mm44⟩ := hk
  have w := w mm44
  have hm := hm.tr mm44
  have t45 := mm44.tg t37 (by decide)
  have t46 := mm44.tg t38 (by decide)
  have t47 := mm44.tg t39 (by decide)
  have t48 := mm44.tg t42 (by decide)
  exact vx_ret (hb_vret (K := fun h9 => K h9 ∧ ah_m h0 h9) hx hb hr hlk hK hX hW ⟨w, hm⟩ (by omega) (by omega) d_BD_half_73)
set_option maxHeartbeats 4000000 in
set_option maxRecDepth 100000 in
theorem m_BD_half {l : Launch} (G : zG) (a1 : Nat) (a2 : Int32) (a3 : Int32) (a4 : Int32) (h0 : ah_H) {K : ah_H → Prop} {Ex : String → ah_H → Prop} (hst : l.stackTraces = false) (w : w_BD_half a1 a2 a3 a4 h0 K Ex) : vx_Met l y_BD_half (Cond.code y_BD_half b_BD_half 6 none :: zx_T) rm_BD_half (va_Pc [.ref a1, .int a2, .int a3, .int a4] (ah_B G h0)) (va_Qv (fun h9 => K h9 ∧ ah_m h0 h9) (ah_B G) (fun q => G.2.2 ≤ q)) (ah_X G (fun E9 h9 => Ex E9 h9 ∧ ah_m h0 h9)) 3 18 (fun q => G.2.2 ≤ q) := by
  refine vx_ofW (cc := b_BD_half) (maxL := 6) (ret := none) (by decide) rfl ?_
  intro p e s m args below meth c s₁ B hml hout0 hv
  have htb := cx_out B (atoms_spec B.pre _ List.mem_cons_self)
  obtain ⟨rfl, hB⟩ := hv
  have C : cx_C p l s m _ meth c G y_BD_half b_BD_half 6 none "BigDesk" (Cond.code y_BD_half b_BD_half 6 none :: zx_T) [] := ⟨B.exec, B.bytes, B.returns, hml, findClass_of_methodNamed B.named, atoms_spec B.pre, cx_hd, B.notSynchronized, hB.2.2.1, hB.2.2.2, htb, fun z9 => (name_of_methodNamed B.named B.method).1.trans z9, hst⟩
  obtain ⟨hx, hb, hr, hml, hown, hts, hT, hlk, hK, hX, htb, hin, hst⟩ := id C
  have hw : ∀ {w9 : Cond}, w9 ∈ zx_T → w9.before _ s = true := fun h9 => hts _ (hT _ h9)
  have hW : ah_W G s.heap h0 s.heap [] := ⟨hB.1, hB.2.1, va_S.rf⟩
  have hm : ah_m h0 h0 := ah_m.rf
  have hcl : 0 + 3 ≤ 3 := by decide
  have hsl : 0 + 18 ≤ 18 := by decide
  have hl := lv_entry ([.ref a1, .int a2, .int a3, .int a4]) (n := 6) (Nat.le_of_ble_eq_true rfl)
  rw [lg_entry_eq]
  generalize (lg_sl ([.ref a1, .int a2, .int a3, .int a4]) ++ List.replicate (6 - (lg_sl ([.ref a1, .int a2, .int a3, .int a4])).length) Slot.unset).toArray = ls at hl ⊢
  have hl : lv_has ls 6 [(0, .ref a1), (1, .int a2), (2, .int a3), (3, .int a4)] := hl
  unfold w_BD_half at w
  refine lv_aload_n hx hb d_BD_half_0 rfl (lv_at hl 0 rfl) ?_
  refine lv_iload_n hx hb d_BD_half_1 rfl (lv_at hl 1 rfl) ?_
  obtain ⟨t5, w⟩ := w
  refine hx_r (vx_runV (As := [.int a2]) (rest := []) ⟨hx, hb, hml, hown, hts⟩ (m_BD_register G a1 a2 h0 hst w) (cwV 1 hts (zx_gV hT wd_141 wd_143 wd_s0 wd_1 wd_144) rfl rfl rfl (by decide +kernel) ⟨Nat.le_of_ble_eq_true rfl, Nat.le_of_ble_eq_true rfl⟩) (hb_preV hK hX hW t5 (by decide) rfl) rfl rfl hl.1 rfl (lv_room (Nat.le_of_ble_eq_true rfl)) d_BD_half_2 ⟨(by show _ ≤ 3; omega), (by show _ ≤ 18; omega)⟩) hW (fun E9 ce9 q9 h9 H locs hE hW c1 c2 c3 => hx_out (Ex := fun E9 h9 => Ex E9 h9 ∧ ah_m h0 h9) (fun x9 h9 => (cx_nil htb x9 h9).elim) hlk hW c1 c2 c3 ⟨hE.1 hE.2, hm.tr hE.2⟩ (by omega) (by omega)) (fun r7 h6 H locs hk hW => ?_)
  obtain ⟨w, mm8⟩ := hk
  have w := w mm8
  have hm := hm.tr mm8
  have t9 := mm8.tg t5 (by decide)
  refine lv_astore (lv' := [(4, .ref r7), (0, .ref a1), (1, .int a2), (2, .int a3), (3, .int a4)]) hx hb d_BD_half_5 hl (by decide) rfl (fun ls hl => ?_)
  refine lv_aload_n hx hb d_BD_half_7 rfl (lv_at hl 1 rfl) ?_
  refine lv_iload_n hx hb d_BD_half_8 rfl (lv_at hl 3 rfl) ?_
  refine hx_r (vx_runV (As := [.int a3]) (rest := []) ⟨hx, hb, hml, hown, hts⟩ (m_BD_register G a1 a3 h6 hst w) (cwV 1 hts (zx_gV hT wd_141 wd_143 wd_s0 wd_1 wd_144) rfl rfl rfl (by decide +kernel) ⟨Nat.le_of_ble_eq_true rfl, Nat.le_of_ble_eq_true rfl⟩) (hb_preV hK hX hW t9 (by decide) rfl) rfl rfl hl.1 rfl (lv_room (Nat.le_of_ble_eq_true rfl)) d_BD_half_9 ⟨(by show _ ≤ 3; omega), (by show _ ≤ 18; omega)⟩) hW (fun E9 ce9 q9 h9 H locs hE hW c1 c2 c3 => hx_out (Ex := fun E9 h9 => Ex E9 h9 ∧ ah_m h0 h9) (fun x9 h9 => (cx_nil htb x9 h9).elim) hlk hW c1 c2 c3 ⟨hE.1 hE.2, hm.tr hE.2⟩ (by omega) (by omega)) (fun r11 h10 H locs hk hW => ?_)
  obtain ⟨w, mm12⟩ := hk
  have w := w mm12
  have hm := hm.tr mm12
  have t13 := mm12.tg t9 (by decide)
  refine lv_astore (lv' := [(5, .ref r11), (4, .ref r7), (0, .ref a1), (1, .int a2), (2, .int a3), (3, .int a4)]) hx hb d_BD_half_12 hl (by decide) rfl (fun ls hl => ?_)
  refine lv_iload_n hx hb d_BD_half_14 rfl (lv_at hl 5 rfl) ?_
  refine hx_v (vx_runS (As := [.int a4]) (rest := []) ⟨hx, hb, hml, hown, hts⟩ (m_BD_requireShift G a4 h10 hst w) (va_cwS 1 hts (zx_gS hT wd_334 wd_335 wd_1 wd_336) rfl rfl rfl (by decide +kernel) ⟨Nat.le_of_ble_eq_true rfl, Nat.le_of_ble_eq_true rfl⟩) (hb_preS hK hX hW) rfl rfl hl.1 rfl (lv_room (Nat.le_of_ble_eq_true rfl)) d_BD_half_15 ⟨(by show _ ≤ 3; omega), (by show _ ≤ 18; omega)⟩) hW (fun E9 ce9 q9 h9 H locs hE hW c1 c2 c3 => hx_out (Ex := fun E9 h9 => Ex E9 h9 ∧ ah_m h0 h9) (fun x9 h9 => (cx_nil htb x9 h9).elim) hlk hW c1 c2 c3 ⟨hE.1 hE.2, hm.tr hE.2⟩ (by omega) (by omega)) (fun h14 H locs hk hW => ?_)
  obtain ⟨w, mm15⟩ := hk
  have w := w mm15
  have hm := hm.tr mm15
  have t16 := mm15.tg t13 (by decide)
  refine lv_aload_n hx hb d_BD_half_18 rfl (lv_at hl 2 rfl) ?_
  obtain ⟨q17, e18, w⟩ := w
  refine hb_get (ci := 3) (C := "BigDesk") (T := T_BD) (N := 9) hx hb hts (fun w9 h9 => hT w9 (u_BD w9 h9)) hown hK hW t16 rfl (by decide) 1 (by decide) (hw wd_105) (fun _ h9 => h9) (q := (2, 7)) rfl (v := .ref q17) (ah_f_R e18) d_BD_half_19 ?_
  refine lv_aload hx hb d_BD_half_22 (lv_at hl 0 rfl) ?_
  refine lv_iload_n hx hb d_BD_half_24 rfl (lv_at hl 5 rfl) ?_
  obtain ⟨t19, w⟩ := w
  refine hb_callv (va_runV (As := [.ref r11, .int a4]) (rest := []) ⟨hx, hb, hml, hown, hts⟩ (m_WH_becomeShiftedDown G q17 r11 a4 h14 hst w) (cwV 2 hts (zx_gV hT wd_355 wd_356 wd_357 wd_2 wd_358) rfl rfl rfl (by decide +kernel) ⟨Nat.le_of_ble_eq_true rfl, Nat.le_of_ble_eq_true rfl⟩) (hb_preV hK hX hW t19 (by decide) rfl) rfl rfl hl.1 rfl (lv_room (Nat.le_of_ble_eq_true rfl)) d_BD_half_25 ⟨(by show _ ≤ 3; omega), (by show _ ≤ 18; omega)⟩) hW (fun h20 H locs hk hW => ?_)
  obtain ⟨w, mm21⟩ := hk
  have w := w mm21
  have hm := hm.tr mm21
  have t22 := mm21.tg t16 (by decide)
  have t23 := mm21.tg t19 (by decide)
  refine lv_aload hx hb d_BD_half_28 (lv_at hl 0 rfl) ?_
  obtain ⟨t24, w⟩ := w
  refine hb_get (ci := 2) (C := "BigDesk$Whole") (T := T_WH) (N := 3) hx hb hts (fun w9 h9 => hT w9 (u_WH w9 h9)) hown hK hW t24 rfl (by decide) 2 (by decide) (hw wd_47) (fun _ h9 => h9) (q := (0, 1)) rfl (v := .int (ah_I h20 1 r11)) rfl d_BD_half_30 ?_
  refine lv_if_eq (tgt := 52) hx hb d_BD_half_33 (by decide) (fun c25 => ?_) (fun c25 => ?_)
  · have w := w.1 c25
    exact tb_BD_half_52 C (by omega) (by omega)  a1 r7 r11 h20 _ _ _ w hm hW (lv_sub hl [2, 1, 0] rfl)
  · have w := w.2 c25
    refine lv_aload hx hb d_BD_half_36 (lv_at hl 0 rfl) ?_
    refine hb_calli (va_runV (As := []) (rest := []) ⟨hx, hb, hml, hown, hts⟩ (m_WH_endingZeros G r11 h20 hst w) (cwV 0 hts (zx_gV hT wd_360 wd_361 wd_362 wd_2 wd_363) rfl rfl rfl (by decide +kernel) ⟨Nat.le_of_ble_eq_true rfl, Nat.le_of_ble_eq_true rfl⟩) (hb_preV hK hX hW t24 (by decide) rfl) rfl rfl hl.1 rfl (lv_room (Nat.le_of_ble_eq_true rfl)) d_BD_half_38 ⟨(by show _ ≤ 3; omega), (by show _ ≤ 18; omega)⟩) hW (fun r50 h49 H locs hk hW => ?_)
    obtain ⟨w, mm51⟩ := hk
    have w := w mm51
    have hm := hm.tr mm51
    have t52 := mm51.tg t22 (by decide)
    have t53 := mm51.tg t23 (by decide)
    have t54 := mm51.tg t24 (by decide)
    refine lv_iload_n hx hb d_BD_half_41 rfl (lv_at hl 5 rfl) ?_
    refine lv_icmp_ge (tgt := 52) hx hb d_BD_half_42 (by decide) (fun c55 => ?_) (fun c55 => ?_)
    · have w := w.1 c55
      exact tb_BD_half_52 C (by omega) (by omega)  a1 r7 r11 h49 _ _ _ w hm hW (lv_sub hl [2, 1, 0] rfl)
    · have w := w.2 c55
      refine lv_aload_n hx hb d_BD_half_45 rfl (lv_at hl 2 rfl) ?_
      obtain ⟨q56, e57, w⟩ := w
      refine hb_get (ci := 3) (C := "BigDesk") (T := T_BD) (N := 9) hx hb hts (fun w9 h9 => hT w9 (u_BD w9 h9)) hown hK hW t52 rfl (by decide) 1 (by decide) (hw wd_105) (fun _ h9 => h9) (q := (2, 7)) rfl (v := .ref q56) (ah_f_R e57) d_BD_half_46 ?_
      obtain ⟨t58, w⟩ := w
      refine hb_callv (va_runV (As := []) (rest := []) ⟨hx, hb, hml, hown, hts⟩ (m_WH_addOne G q56 h49 hst w) (cwV 0 hts (zx_gV hT wd_371 wd_372 wd_373 wd_2 wd_374) rfl rfl rfl (by decide +kernel) ⟨Nat.le_of_ble_eq_true rfl, Nat.le_of_ble_eq_true rfl⟩) (hb_preV hK hX hW t58 (by decide) rfl) rfl rfl hl.1 rfl (lv_room (Nat.le_of_ble_eq_true rfl)) d_BD_half_49 ⟨(by show _ ≤ 3; omega), (by show _ ≤ 18; omega)⟩) hW (fun h59 H locs hk hW => ?_)
      obtain ⟨w, mm60⟩ := hk
      have w := w mm60
      have hm := hm.tr mm60
      have t61 := mm60.tg t52 (by decide)
      have t62 := mm60.tg t53 (by decide)
      have t63 := mm60.tg t54 (by decide)
      have t64 := mm60.tg t58 (by decide)
      exact tb_BD_half_52 C (by omega) (by omega)  a1 r7 r11 h59 _ _ _ w hm hW (lv_sub hl [2, 1, 0] rfl)
set_option maxHeartbeats 4000000 in
set_option maxRecDepth 100000 in
theorem m_BD_divide {l : Launch} (G : zG) (a1 : Nat) (a2 : Int32) (a3 : Int32) (a4 : Int32) (a5 : Int32) (h0 : ah_H) {K : ah_H → Prop} {Ex : String → ah_H → Prop} (hst : l.stackTraces = false) (w : w_BD_divide a1 a2 a3 a4 a5 h0 K Ex) : vx_Met l y_BD_divide (Cond.code y_BD_divide b_BD_divide 9 none :: zx_T) rm_BD_divide (va_Pc [.ref a1, .int a2, .int a3, .int a4, .int a5] (ah_B G h0)) (va_Qv (fun h9 => K h9 ∧ ah_m h0 h9) (ah_B G) (fun q => G.2.2 ≤ q)) (ah_X G (fun E9 h9 => Ex E9 h9 ∧ ah_m h0 h9)) 5 30 (fun q => G.2.2 ≤ q) := by
  refine vx_ofW (cc := b_BD_divide) (maxL := 9) (ret := none) (by decide) rfl ?_
  intro p e s m args below meth c s₁ B hml hout0 hv
  have htb := cx_out B (atoms_spec B.pre _ List.mem_cons_self)
  obtain ⟨rfl, hB⟩ := hv
  have C : cx_C p l s m _ meth c G y_BD_divide b_BD_divide 9 none "BigDesk" (Cond.code y_BD_divide b_BD_divide 9 none :: zx_T) [] := ⟨B.exec, B.bytes, B.returns, hml, findClass_of_methodNamed B.named, atoms_spec B.pre, cx_hd, B.notSynchronized, hB.2.2.1, hB.2.2.2, htb, fun z9 => (name_of_methodNamed B.named B.method).1.trans z9, hst⟩
  obtain ⟨hx, hb, hr, hml, hown, hts, hT, hlk, hK, hX, htb, hin, hst⟩ := id C
  have hw : ∀ {w9 : Cond}, w9 ∈ zx_T → w9.before _ s = true := fun h9 => hts _ (hT _ h9)
  have hW : ah_W G s.heap h0 s.heap [] := ⟨hB.1, hB.2.1, va_S.rf⟩
  have hm : ah_m h0 h0 := ah_m.rf
  have hcl : 0 + 5 ≤ 5 := by decide
  have hsl : 0 + 30 ≤ 30 := by decide
  have hl := lv_entry ([.ref a1, .int a2, .int a3, .int a4, .int a5]) (n := 9) (Nat.le_of_ble_eq_true rfl)
  rw [lg_entry_eq]
  generalize (lg_sl ([.ref a1, .int a2, .int a3, .int a4, .int a5]) ++ List.replicate (9 - (lg_sl ([.ref a1, .int a2, .int a3, .int a4, .int a5])).length) Slot.unset).toArray = ls at hl ⊢
  have hl : lv_has ls 9 [(0, .ref a1), (1, .int a2), (2, .int a3), (3, .int a4), (4, .int a5)] := hl
  unfold w_BD_divide at w
  refine lv_aload_n hx hb d_BD_divide_0 rfl (lv_at hl 0 rfl) ?_
  refine lv_iload_n hx hb d_BD_divide_1 rfl (lv_at hl 1 rfl) ?_
  obtain ⟨t6, w⟩ := w
  refine hx_r (vx_runV (As := [.int a2]) (rest := []) ⟨hx, hb, hml, hown, hts⟩ (m_BD_register G a1 a2 h0 hst w) (cwV 1 hts (zx_gV hT wd_141 wd_143 wd_s0 wd_1 wd_144) rfl rfl rfl (by decide +kernel) ⟨Nat.le_of_ble_eq_true rfl, Nat.le_of_ble_eq_true rfl⟩) (hb_preV hK hX hW t6 (by decide) rfl) rfl rfl hl.1 rfl (lv_room (Nat.le_of_ble_eq_true rfl)) d_BD_divide_2 ⟨(by show _ ≤ 5; omega), (by show _ ≤ 30; omega)⟩) hW (fun E9 ce9 q9 h9 H locs hE hW c1 c2 c3 => hx_out (Ex := fun E9 h9 => Ex E9 h9 ∧ ah_m h0 h9) (fun x9 h9 => (cx_nil htb x9 h9).elim) hlk hW c1 c2 c3 ⟨hE.1 hE.2, hm.tr hE.2⟩ (by omega) (by omega)) (fun r8 h7 H locs hk hW => ?_)
  obtain ⟨w, mm9⟩ := hk
  have w := w mm9
  have hm := hm.tr mm9
  have t10 := mm9.tg t6 (by decide)
  refine lv_astore (lv' := [(5, .ref r8), (0, .ref a1), (1, .int a2), (2, .int a3), (3, .int a4), (4, .int a5)]) hx hb d_BD_divide_5 hl (by decide) rfl (fun ls hl => ?_)
  refine lv_aload_n hx hb d_BD_divide_7 rfl (lv_at hl 1 rfl) ?_
  refine lv_iload_n hx hb d_BD_divide_8 rfl (lv_at hl 3 rfl) ?_
  refine hx_r (vx_runV (As := [.int a3]) (rest := []) ⟨hx, hb, hml, hown, hts⟩ (m_BD_register G a1 a3 h7 hst w) (cwV 1 hts (zx_gV hT wd_141 wd_143 wd_s0 wd_1 wd_144) rfl rfl rfl (by decide +kernel) ⟨Nat.le_of_ble_eq_true rfl, Nat.le_of_ble_eq_true rfl⟩) (hb_preV hK hX hW t10 (by decide) rfl) rfl rfl hl.1 rfl (lv_room (Nat.le_of_ble_eq_true rfl)) d_BD_divide_9 ⟨(by show _ ≤ 5; omega), (by show _ ≤ 30; omega)⟩) hW (fun E9 ce9 q9 h9 H locs hE hW c1 c2 c3 => hx_out (Ex := fun E9 h9 => Ex E9 h9 ∧ ah_m h0 h9) (fun x9 h9 => (cx_nil htb x9 h9).elim) hlk hW c1 c2 c3 ⟨hE.1 hE.2, hm.tr hE.2⟩ (by omega) (by omega)) (fun r12 h11 H locs hk hW => ?_)
  obtain ⟨w, mm13⟩ := hk
  have w := w mm13
  have hm := hm.tr mm13
  have t14 := mm13.tg t10 (by decide)
  refine lv_astore (lv' := [(6, .ref r12), (5, .ref r8), (0, .ref a1), (1, .int a2), (2, .int a3), (3, .int a4), (4, .int a5)]) hx hb d_BD_divide_12 hl (by decide) rfl (fun ls hl => ?_)
  refine lv_aload_n hx hb d_BD_divide_14 rfl (lv_at hl 2 rfl) ?_
  refine lv_iload_n hx hb d_BD_divide_15 rfl (lv_at hl 5 rfl) ?_
  refine hx_r (vx_runV (As := [.int a4]) (rest := []) ⟨hx, hb, hml, hown, hts⟩ (m_BD_register G a1 a4 h11 hst w) (cwV 1 hts (zx_gV hT wd_141 wd_143 wd_s0 wd_1 wd_144) rfl rfl rfl (by decide +kernel) ⟨Nat.le_of_ble_eq_true rfl, Nat.le_of_ble_eq_true rfl⟩) (hb_preV hK hX hW t14 (by decide) rfl) rfl rfl hl.1 rfl (lv_room (Nat.le_of_ble_eq_true rfl)) d_BD_divide_16 ⟨(by show _ ≤ 5; omega), (by show _ ≤ 30; omega)⟩) hW (fun E9 ce9 q9 h9 H locs hE hW c1 c2 c3 => hx_out (Ex := fun E9 h9 => Ex E9 h9 ∧ ah_m h0 h9) (fun x9 h9 => (cx_nil htb x9 h9).elim) hlk hW c1 c2 c3 ⟨hE.1 hE.2, hm.tr hE.2⟩ (by omega) (by omega)) (fun r16 h15 H locs hk hW => ?_)
  obtain ⟨w, mm17⟩ := hk
  have w := w mm17
  have hm := hm.tr mm17
  have t18 := mm17.tg t14 (by decide)
  refine lv_astore (lv' := [(7, .ref r16), (6, .ref r12), (5, .ref r8), (0, .ref a1), (1, .int a2), (2, .int a3), (3, .int a4), (4, .int a5)]) hx hb d_BD_divide_19 hl (by decide) rfl (fun ls hl => ?_)
  refine lv_aload_n hx hb d_BD_divide_21 rfl (lv_at hl 3 rfl) ?_
  refine lv_iload hx hb d_BD_divide_22 (lv_at hl 7 rfl) ?_
  refine hx_r (vx_runV (As := [.int a5]) (rest := []) ⟨hx, hb, hml, hown, hts⟩ (m_BD_register G a1 a5 h15 hst w) (cwV 1 hts (zx_gV hT wd_141 wd_143 wd_s0 wd_1 wd_144) rfl rfl rfl (by decide +kernel) ⟨Nat.le_of_ble_eq_true rfl, Nat.le_of_ble_eq_true rfl⟩) (hb_preV hK hX hW t18 (by decide) rfl) rfl rfl hl.1 rfl (lv_room (Nat.le_of_ble_eq_true rfl)) d_BD_divide_24 ⟨(by show _ ≤ 5; omega), (by show _ ≤ 30; omega)⟩) hW (fun E9 ce9 q9 h9 H locs hE hW c1 c2 c3 => hx_out (Ex := fun E9 h9 => Ex E9 h9 ∧ ah_m h0 h9) (fun x9 h9 => (cx_nil htb x9 h9).elim) hlk hW c1 c2 c3 ⟨hE.1 hE.2, hm.tr hE.2⟩ (by omega) (by omega)) (fun r20 h19 H locs hk hW => ?_)
  obtain ⟨w, mm21⟩ := hk
  have w := w mm21
  have hm := hm.tr mm21
  have t22 := mm21.tg t18 (by decide)
  refine lv_astore (lv' := [(8, .ref r20), (7, .ref r16), (6, .ref r12), (5, .ref r8), (0, .ref a1), (1, .int a2), (2, .int a3), (3, .int a4), (4, .int a5)]) hx hb d_BD_divide_27 hl (by decide) rfl (fun ls hl => ?_)
  refine lv_iload_n hx hb d_BD_divide_29 rfl (lv_at hl 5 rfl) ?_
  refine lv_iload_n hx hb d_BD_divide_30 rfl (lv_at hl 6 rfl) ?_
  refine lv_icmp_ne (tgt := 44) hx hb d_BD_divide_31 (by decide) (fun c23 => ?_) (fun c23 => ?_)
  · have w := w.1 c23
    refine lv_aload hx hb d_BD_divide_44 (lv_at hl 0 rfl) ?_
    obtain ⟨t24, w⟩ := w
    refine hb_get (ci := 2) (C := "BigDesk$Whole") (T := T_WH) (N := 3) hx hb hts (fun w9 h9 => hT w9 (u_WH w9 h9)) hown hK hW t24 rfl (by decide) 1 (by decide) (hw wd_42) (fun _ h9 => h9) (q := (0, 0)) rfl (v := .int (ah_I h19 0 r20)) rfl d_BD_divide_46 ?_
    refine lv_if_ne (tgt := 62) hx hb d_BD_divide_49 (by decide) (fun c25 => ?_) (fun c25 => ?_)
    · have w := w.1 c25
      refine lv_aload_n hx hb d_BD_divide_62 rfl (lv_at hl 4 rfl) ?_
      obtain ⟨q26, e27, w⟩ := w
      refine hb_get (ci := 3) (C := "BigDesk") (T := T_BD) (N := 9) hx hb hts (fun w9 h9 => hT w9 (u_BD w9 h9)) hown hK hW t22 rfl (by decide) 3 (by decide) (hw wd_107) (fun _ h9 => h9) (q := (2, 9)) rfl (v := .ref q26) (ah_f_R e27) d_BD_divide_63 ?_
      refine lv_aload hx hb d_BD_divide_66 (lv_at hl 1 rfl) ?_
      refine lv_aload hx hb d_BD_divide_68 (lv_at hl 0 rfl) ?_
      obtain ⟨t28, w⟩ := w
      refine hb_callv (va_runV (As := [.ref r16, .ref r20]) (rest := []) ⟨hx, hb, hml, hown, hts⟩ (m_DV_downwards G q26 r16 r20 h19 hst w) (cwV 2 hts (zx_gV hT wd_400 wd_401 wd_402 wd_3 wd_403) rfl rfl rfl (by decide +kernel) ⟨Nat.le_of_ble_eq_true rfl, Nat.le_of_ble_eq_true rfl⟩) (hb_preV hK hX hW t28 (by decide) rfl) rfl rfl hl.1 rfl (lv_room (Nat.le_of_ble_eq_true rfl)) d_BD_divide_70 ⟨(by show _ ≤ 5; omega), (by show _ ≤ 30; omega)⟩) hW (fun h29 H locs hk hW => ?_)
      obtain ⟨w, mm30⟩ := hk
      have w := w mm30
      have hm := hm.tr mm30
      have t31 := mm30.tg t22 (by decide)
      have t32 := mm30.tg t24 (by decide)
      have t33 := mm30.tg t28 (by decide)
      refine lv_aload hx hb d_BD_divide_73 (lv_at hl 3 rfl) ?_
      refine lv_aload_n hx hb d_BD_divide_75 rfl (lv_at hl 4 rfl) ?_
      obtain ⟨q34, e35, w⟩ := w
      refine hb_get (ci := 3) (C := "BigDesk") (T := T_BD) (N := 9) hx hb hts (fun w9 h9 => hT w9 (u_BD w9 h9)) hown hK hW t31 rfl (by decide) 3 (by decide) (hw wd_107) (fun _ h9 => h9) (q := (2, 9)) rfl (v := .ref q34) (ah_f_R e35) d_BD_divide_76 ?_
      obtain ⟨t36, w⟩ := w
      obtain ⟨q37, e38, w⟩ := w
      refine hb_get (ci := 1) (C := "BigDesk$Division") (T := T_DV) (N := 3) hx hb hts (fun w9 h9 => hT w9 (u_DV w9 h9)) hown hK hW t36 rfl (by decide) 0 (by decide) (hw wd_65) (fun _ h9 => h9) (q := (2, 2)) rfl (v := .ref q37) (ah_f_R e38) d_BD_divide_79 ?_
      obtain ⟨t39, w⟩ := w
      refine hb_callv (va_runV (As := [.ref q37]) (rest := []) ⟨hx, hb, hml, hown, hts⟩ (m_WH_become G r8 q37 h29 hst w) (cwV 1 hts (zx_gV hT wd_233 wd_234 wd_235 wd_2 wd_236) rfl rfl rfl (by decide +kernel) ⟨Nat.le_of_ble_eq_true rfl, Nat.le_of_ble_eq_true rfl⟩) (hb_preV hK hX hW t39 (by decide) rfl) rfl rfl hl.1 rfl (lv_room (Nat.le_of_ble_eq_true rfl)) d_BD_divide_82 ⟨(by show _ ≤ 5; omega), (by show _ ≤ 30; omega)⟩) hW (fun h40 H locs hk hW => ?_)
      obtain ⟨w, mm41⟩ := hk
      have w := w mm41
      have hm := hm.tr mm41
      have t42 := mm41.tg t31 (by decide)
      have t43 := mm41.tg t32 (by decide)
      have t44 := mm41.tg t33 (by decide)
      have t45 := mm41.tg t36 (by decide)
      have t46 := mm41.tg t39 (by decide)
      refine lv_aload hx hb d_BD_divide_85 (lv_at hl 2 rfl) ?_
      refine lv_aload_n hx hb d_BD_divide_87 rfl (lv_at hl 4 rfl) ?_
      obtain ⟨q47, e48, w⟩ := w
      refine hb_get (ci := 3) (C := "BigDesk") (T := T_BD) (N := 9) hx hb hts (fun w9 h9 => hT w9 (u_BD w9 h9)) hown hK hW t42 rfl (by decide) 3 (by decide) (hw wd_107) (fun _ h9 => h9) (q := (2, 9)) rfl (v := .ref q47) (ah_f_R e48) d_BD_divide_88 ?_
      obtain ⟨t49, w⟩ := w
      obtain ⟨q50, e51, w⟩ := w
      refine hb_get (ci := 1) (C := "BigDesk$Division") (T := T_DV) (N := 3) hx hb hts (fun w9 h9 => hT w9 (u_DV w9 h9)) hown hK hW t49 rfl (by decide) 1 (by decide) (hw wd_68) (fun _ h9 => h9) (q := (2, 3)) rfl (v := .ref q50) (ah_f_R e51) d_BD_divide_91 ?_
      obtain ⟨t52, w⟩ := w
      refine hb_callv (va_runV (As := [.ref q50]) (rest := []) ⟨hx, hb, hml, hown, hts⟩ (m_WH_become G r12 q50 h40 hst w) (cwV 1 hts (zx_gV hT wd_233 wd_234 wd_235 wd_2 wd_236) rfl rfl rfl (by decide +kernel) ⟨Nat.le_of_ble_eq_true rfl, Nat.le_of_ble_eq_true rfl⟩) (hb_preV hK hX hW t52 (by decide) rfl) rfl rfl hl.1 rfl (lv_room (Nat.le_of_ble_eq_true rfl)) d_BD_divide_94 ⟨(by show _ ≤ 5; omega), (by show _ ≤ 30; omega)⟩) hW (fun h53 H locs hk hW => ?_)
      obtain ⟨w, mm54⟩ := hk
      have w := w mm54
      have hm := hm.tr mm54
      have t55 := mm54.tg t42 (by decide)
      have t56 := mm54.tg t43 (by decide)
      have t57 := mm54.tg t44 (by decide)
      have t58 := mm54.tg t45 (by decide)
      have t59 := mm54.tg t46 (by decide)
      have t60 := mm54.tg t49 (by decide)
      have t61 := mm54.tg t52 (by decide)
      exact vx_ret (hb_vret (K := fun h9 => K h9 ∧ ah_m h0 h9) hx hb hr hlk hK hX hW ⟨w, hm⟩ (by omega) (by omega) d_BD_divide_97)
    · have w := w.2 c25
      exact hx_throw (Ex := fun E9 h9 => Ex E9 h9 ∧ ah_m h0 h9) hx hb hst hown hts hT hX rfl zx_rtf wd_384 wd_15 (is := 122) (text := "division by 0") (by decide) zx_aArithmeticException zx_gArithmeticException hW (by rw [hml]; exact hl.1) d_BD_divide_52 d_BD_divide_55 d_BD_divide_56 d_BD_divide_58 d_BD_divide_61 (cx_nil htb) (Nat.le_of_ble_eq_true rfl) (Nat.le_of_ble_eq_true rfl) (by show _ ≤ 5; omega) (by show _ ≤ 30; omega) hlk ⟨w, hm⟩ (by omega) (by omega)
  · have w := w.2 c23
    exact hx_throw (Ex := fun E9 h9 => Ex E9 h9 ∧ ah_m h0 h9) hx hb hst hown hts hT hX rfl zx_rtf wd_145 wd_9 (is := 114) (text := "quotient and rest in one register") (by decide) zx_aIllegalArgumentException zx_gIllegalArgumentException hW (by rw [hml]; exact hl.1) d_BD_divide_34 d_BD_divide_37 d_BD_divide_38 d_BD_divide_40 d_BD_divide_43 (cx_nil htb) (Nat.le_of_ble_eq_true rfl) (Nat.le_of_ble_eq_true rfl) (by show _ ≤ 5; omega) (by show _ ≤ 30; omega) hlk ⟨w, hm⟩ (by omega) (by omega)
set_option maxHeartbeats 4000000 in
set_option maxRecDepth 100000 in
theorem m_BD_gcd {l : Launch} (G : zG) (a1 : Nat) (a2 : Int32) (a3 : Int32) (a4 : Int32) (h0 : ah_H) {K : ah_H → Prop} {Ex : String → ah_H → Prop} (hst : l.stackTraces = false) (w : w_BD_gcd a1 a2 a3 a4 h0 K Ex) : vx_Met l y_BD_gcd (Cond.code y_BD_gcd b_BD_gcd 5 none :: zx_T) rm_BD_gcd (va_Pc [.ref a1, .int a2, .int a3, .int a4] (ah_B G h0)) (va_Qv (fun h9 => K h9 ∧ ah_m h0 h9) (ah_B G) (fun q => G.2.2 ≤ q)) (ah_X G (fun E9 h9 => Ex E9 h9 ∧ ah_m h0 h9)) 3 18 (fun q => G.2.2 ≤ q) := by
  refine vx_ofW (cc := b_BD_gcd) (maxL := 5) (ret := none) (by decide) rfl ?_
  intro p e s m args below meth c s₁ B hml hout0 hv
  have htb := cx_out B (atoms_spec B.pre _ List.mem_cons_self)
  obtain ⟨rfl, hB⟩ := hv
  have C : cx_C p l s m _ meth c G y_BD_gcd b_BD_gcd 5 none "BigDesk" (Cond.code y_BD_gcd b_BD_gcd 5 none :: zx_T) [] := ⟨B.exec, B.bytes, B.returns, hml, findClass_of_methodNamed B.named, atoms_spec B.pre, cx_hd, B.notSynchronized, hB.2.2.1, hB.2.2.2, htb, fun z9 => (name_of_methodNamed B.named B.method).1.trans z9, hst⟩
  obtain ⟨hx, hb, hr, hml, hown, hts, hT, hlk, hK, hX, htb, hin, hst⟩ := id C
  have hw : ∀ {w9 : Cond}, w9 ∈ zx_T → w9.before _ s = true := fun h9 => hts _ (hT _ h9)
  have hW : ah_W G s.heap h0 s.heap [] := ⟨hB.1, hB.2.1, va_S.rf⟩
  have hm : ah_m h0 h0 := ah_m.rf
  have hcl : 0 + 3 ≤ 3 := by decide
  have hsl : 0 + 18 ≤ 18 := by decide
  have hl := lv_entry ([.ref a1, .int a2, .int a3, .int a4]) (n := 5) (Nat.le_of_ble_eq_true rfl)
  rw [lg_entry_eq]
  generalize (lg_sl ([.ref a1, .int a2, .int a3, .int a4]) ++ List.replicate (5 - (lg_sl ([.ref a1, .int a2, .int a3, .int a4])).length) Slot.unset).toArray = ls at hl ⊢
  have hl : lv_has ls 5 [(0, .ref a1), (1, .int a2), (2, .int a3), (3, .int a4)] := hl
  unfold w_BD_gcd at w
  refine lv_aload_n hx hb d_BD_gcd_0 rfl (lv_at hl 0 rfl) ?_
  refine lv_iload_n hx hb d_BD_gcd_1 rfl (lv_at hl 1 rfl) ?_
  obtain ⟨t5, w⟩ := w
  refine hx_r (vx_runV (As := [.int a2]) (rest := []) ⟨hx, hb, hml, hown, hts⟩ (m_BD_register G a1 a2 h0 hst w) (cwV 1 hts (zx_gV hT wd_141 wd_143 wd_s0 wd_1 wd_144) rfl rfl rfl (by decide +kernel) ⟨Nat.le_of_ble_eq_true rfl, Nat.le_of_ble_eq_true rfl⟩) (hb_preV hK hX hW t5 (by decide) rfl) rfl rfl hl.1 rfl (lv_room (Nat.le_of_ble_eq_true rfl)) d_BD_gcd_2 ⟨(by show _ ≤ 3; omega), (by show _ ≤ 18; omega)⟩) hW (fun E9 ce9 q9 h9 H locs hE hW c1 c2 c3 => hx_out (Ex := fun E9 h9 => Ex E9 h9 ∧ ah_m h0 h9) (fun x9 h9 => (cx_nil htb x9 h9).elim) hlk hW c1 c2 c3 ⟨hE.1 hE.2, hm.tr hE.2⟩ (by omega) (by omega)) (fun r7 h6 H locs hk hW => ?_)
  obtain ⟨w, mm8⟩ := hk
  have w := w mm8
  have hm := hm.tr mm8
  have t9 := mm8.tg t5 (by decide)
  refine lv_astore (lv' := [(4, .ref r7), (0, .ref a1), (1, .int a2), (2, .int a3), (3, .int a4)]) hx hb d_BD_gcd_5 hl (by decide) rfl (fun ls hl => ?_)
  refine lv_aload hx hb d_BD_gcd_7 (lv_at hl 0 rfl) ?_
  refine lv_aload_n hx hb d_BD_gcd_9 rfl (lv_at hl 1 rfl) ?_
  obtain ⟨q10, e11, w⟩ := w
  refine hb_get (ci := 3) (C := "BigDesk") (T := T_BD) (N := 9) hx hb hts (fun w9 h9 => hT w9 (u_BD w9 h9)) hown hK hW t9 rfl (by decide) 4 (by decide) (hw wd_108) (fun _ h9 => h9) (q := (2, 10)) rfl (v := .ref q10) (ah_f_R e11) d_BD_gcd_10 ?_
  refine lv_aload_n hx hb d_BD_gcd_13 rfl (lv_at hl 1 rfl) ?_
  refine lv_iload_n hx hb d_BD_gcd_14 rfl (lv_at hl 3 rfl) ?_
  refine hx_r (vx_runV (As := [.int a3]) (rest := [.ref q10, .ref r7]) ⟨hx, hb, hml, hown, hts⟩ (m_BD_register G a1 a3 h6 hst w) (cwV 1 hts (zx_gV hT wd_141 wd_143 wd_s0 wd_1 wd_144) rfl rfl rfl (by decide +kernel) ⟨Nat.le_of_ble_eq_true rfl, Nat.le_of_ble_eq_true rfl⟩) (hb_preV hK hX hW t9 (by decide) rfl) rfl rfl hl.1 rfl (lv_room (Nat.le_of_ble_eq_true rfl)) d_BD_gcd_15 ⟨(by show _ ≤ 3; omega), (by show _ ≤ 18; omega)⟩) hW (fun E9 ce9 q9 h9 H locs hE hW c1 c2 c3 => hx_out (Ex := fun E9 h9 => Ex E9 h9 ∧ ah_m h0 h9) (fun x9 h9 => (cx_nil htb x9 h9).elim) hlk hW c1 c2 c3 ⟨hE.1 hE.2, hm.tr hE.2⟩ (by omega) (by omega)) (fun r13 h12 H locs hk hW => ?_)
  obtain ⟨w, mm14⟩ := hk
  have w := w mm14
  have hm := hm.tr mm14
  have t15 := mm14.tg t9 (by decide)
  refine lv_aload_n hx hb d_BD_gcd_18 rfl (lv_at hl 1 rfl) ?_
  refine lv_iload_n hx hb d_BD_gcd_19 rfl (lv_at hl 4 rfl) ?_
  refine hx_r (vx_runV (As := [.int a4]) (rest := [.ref r13, .ref q10, .ref r7]) ⟨hx, hb, hml, hown, hts⟩ (m_BD_register G a1 a4 h12 hst w) (cwV 1 hts (zx_gV hT wd_141 wd_143 wd_s0 wd_1 wd_144) rfl rfl rfl (by decide +kernel) ⟨Nat.le_of_ble_eq_true rfl, Nat.le_of_ble_eq_true rfl⟩) (hb_preV hK hX hW t15 (by decide) rfl) rfl rfl hl.1 rfl (lv_room (Nat.le_of_ble_eq_true rfl)) d_BD_gcd_20 ⟨(by show _ ≤ 3; omega), (by show _ ≤ 18; omega)⟩) hW (fun E9 ce9 q9 h9 H locs hE hW c1 c2 c3 => hx_out (Ex := fun E9 h9 => Ex E9 h9 ∧ ah_m h0 h9) (fun x9 h9 => (cx_nil htb x9 h9).elim) hlk hW c1 c2 c3 ⟨hE.1 hE.2, hm.tr hE.2⟩ (by omega) (by omega)) (fun r17 h16 H locs hk hW => ?_)
  obtain ⟨w, mm18⟩ := hk
  have w := w mm18
  have hm := hm.tr mm18
  have t19 := mm18.tg t15 (by decide)
  refine lv_aload_n hx hb d_BD_gcd_23 rfl (lv_at hl 1 rfl) ?_
  obtain ⟨q20, e21, w⟩ := w
  refine hb_get (ci := 3) (C := "BigDesk") (T := T_BD) (N := 9) hx hb hts (fun w9 h9 => hT w9 (u_BD w9 h9)) hown hK hW t19 rfl (by decide) 3 (by decide) (hw wd_107) (fun _ h9 => h9) (q := (2, 9)) rfl (v := .ref q20) (ah_f_R e21) d_BD_gcd_24 ?_
  obtain ⟨t22, w⟩ := w
  refine hb_callr (va_runV (As := [.ref r13, .ref r17, .ref q20]) (rest := [.ref r7]) ⟨hx, hb, hml, hown, hts⟩ (m_CD_greatest G q10 r13 r17 q20 h16 hst w) (cwV 3 hts (zx_gV hT wd_449 wd_450 wd_451 wd_4 wd_452) rfl rfl rfl (by decide +kernel) ⟨Nat.le_of_ble_eq_true rfl, Nat.le_of_ble_eq_true rfl⟩) (hb_preV hK hX hW t22 (by decide) rfl) rfl rfl hl.1 rfl (lv_room (Nat.le_of_ble_eq_true rfl)) d_BD_gcd_27 ⟨(by show _ ≤ 3; omega), (by show _ ≤ 18; omega)⟩) hW (fun r24 h23 H locs hk hW => ?_)
  obtain ⟨w, mm25⟩ := hk
  have w := w mm25
  have hm := hm.tr mm25
  have t26 := mm25.tg t19 (by decide)
  have t27 := mm25.tg t22 (by decide)
  obtain ⟨t28, w⟩ := w
  refine hb_callv (va_runV (As := [.ref r24]) (rest := []) ⟨hx, hb, hml, hown, hts⟩ (m_WH_become G r7 r24 h23 hst w) (cwV 1 hts (zx_gV hT wd_233 wd_234 wd_235 wd_2 wd_236) rfl rfl rfl (by decide +kernel) ⟨Nat.le_of_ble_eq_true rfl, Nat.le_of_ble_eq_true rfl⟩) (hb_preV hK hX hW t28 (by decide) rfl) rfl rfl hl.1 rfl (lv_room (Nat.le_of_ble_eq_true rfl)) d_BD_gcd_30 ⟨(by show _ ≤ 3; omega), (by show _ ≤ 18; omega)⟩) hW (fun h29 H locs hk hW => ?_)
  obtain ⟨w, mm30⟩ := hk
  have w := w mm30
  have hm := hm.tr mm30
  have t31 := mm30.tg t26 (by decide)
  have t32 := mm30.tg t27 (by decide)
  have t33 := mm30.tg t28 (by decide)
  exact vx_ret (hb_vret (K := fun h9 => K h9 ∧ ah_m h0 h9) hx hb hr hlk hK hX hW ⟨w, hm⟩ (by omega) (by omega) d_BD_gcd_33)
set_option maxHeartbeats 4000000 in
set_option maxRecDepth 100000 in
theorem tb_BD_negate_26 {p : Program} {l : Launch} {e : Env} {s : State} {m : MethodId} {args : Array Value} {below : List Frame} {meth : Method} {c : Code} {G : zG} (C : cx_C p l s m args meth c G y_BD_negate b_BD_negate 6 none "BigDesk" (Cond.code y_BD_negate b_BD_negate 6 none :: zx_T) []) {K : ah_H → Prop} {Ex : String → ah_H → Prop} {h0 : ah_H} {cells slots : Nat} (hcl : cells + 0 ≤ 2) (hsl : slots + 0 ≤ 12)  (x15 : Nat) (x16 : Nat) (s17 : Int32) (h18 : ah_H) (H : Heap) (locs : List Loc) (ls : Array Slot) (w : bk_BD_negate_26 K Ex x15 x16 s17 h18) (hm : ah_m h0 h18) (hW : ah_W G s.heap h18 H locs) (hl : lv_has ls 6 [(3, .ref x15), (4, .ref x16)]) : W p l e rm_BD_negate s m args below meth c H locs cells slots (vx_MQ below (va_Qv (fun h9 => K h9 ∧ ah_m h0 h9) (ah_B G) (fun q => G.2.2 ≤ q)) (ah_X G (fun E9 h9 => Ex E9 h9 ∧ ah_m h0 h9)) args s 2 12 (fun q => G.2.2 ≤ q)) (F0 m 26 ls [.int s17]) := by
  unfold bk_BD_negate_26 at w
  obtain ⟨hx, hb, hr, hml, hown, hts, hT, hlk, hK, hX, htb, hin, hst⟩ := id C
  have hw : ∀ {w9 : Cond}, w9 ∈ zx_T → w9.before _ s = true := fun h9 => hts _ (hT _ h9)
  refine lv_istore (lv' := [(5, .int s17), (3, .ref x15), (4, .ref x16)]) hx hb d_BD_negate_26 hl (by decide) rfl (fun ls hl => ?_)
  refine lv_aload_n hx hb d_BD_negate_28 rfl (lv_at hl 1 rfl) ?_
  refine lv_aload hx hb d_BD_negate_29 (lv_at hl 2 rfl) ?_
  obtain ⟨t19, w⟩ := w
  refine hb_callv (va_runV (As := [.ref x16]) (rest := []) ⟨hx, hb, hml, hown, hts⟩ (m_WH_become G x15 x16 h18 hst w) (cwV 1 hts (zx_gV hT wd_233 wd_234 wd_235 wd_2 wd_236) rfl rfl rfl (by decide +kernel) ⟨Nat.le_of_ble_eq_true rfl, Nat.le_of_ble_eq_true rfl⟩) (hb_preV hK hX hW t19 (by decide) rfl) rfl rfl hl.1 rfl (lv_room (Nat.le_of_ble_eq_true rfl)) d_BD_negate_31 ⟨(by show _ ≤ 2; omega), (by show _ ≤ 12; omega)⟩) hW (fun h20 H locs hk hW => ?_)
  obtain ⟨w, mm21⟩ := hk
  have w := w mm21
  have hm := hm.tr mm21
  have t22 := mm21.tg t19 (by decide)
  refine lv_aload_n hx hb d_BD_negate_34 rfl (lv_at hl 1 rfl) ?_
  refine lv_iload hx hb d_BD_negate_35 (lv_at hl 0 rfl) ?_
  refine hb_callv (va_runV (As := [.int s17]) (rest := []) ⟨hx, hb, hml, hown, hts⟩ (m_WH_markSign G x15 s17 h20 hst w) (cwV 1 hts (zx_gV hT wd_347 wd_223 wd_224 wd_2 wd_225) rfl rfl rfl (by decide +kernel) ⟨Nat.le_of_ble_eq_true rfl, Nat.le_of_ble_eq_true rfl⟩) (hb_preV hK hX hW t22 (by decide) rfl) rfl rfl hl.1 rfl (lv_room (Nat.le_of_ble_eq_true rfl)) d_BD_negate_37 ⟨(by show _ ≤ 2; omega), (by show _ ≤ 12; omega)⟩) hW (fun h23 H locs hk hW => ?_)
  obtain ⟨w, mm24⟩ := hk
  have w := w mm24
  have hm := hm.tr mm24
  have t25 := mm24.tg t22 (by decide)
  exact vx_ret (hb_vret (K := fun h9 => K h9 ∧ ah_m h0 h9) hx hb hr hlk hK hX hW ⟨w, hm⟩ (by omega) (by omega) d_BD_negate_40)
set_option maxHeartbeats 4000000 in
set_option maxRecDepth 100000 in
theorem m_BD_negate {l : Launch} (G : zG) (a1 : Nat) (a2 : Int32) (a3 : Int32) (h0 : ah_H) {K : ah_H → Prop} {Ex : String → ah_H → Prop} (hst : l.stackTraces = false) (w : w_BD_negate a1 a2 a3 h0 K Ex) : vx_Met l y_BD_negate (Cond.code y_BD_negate b_BD_negate 6 none :: zx_T) rm_BD_negate (va_Pc [.ref a1, .int a2, .int a3] (ah_B G h0)) (va_Qv (fun h9 => K h9 ∧ ah_m h0 h9) (ah_B G) (fun q => G.2.2 ≤ q)) (ah_X G (fun E9 h9 => Ex E9 h9 ∧ ah_m h0 h9)) 2 12 (fun q => G.2.2 ≤ q) := by
  refine vx_ofW (cc := b_BD_negate) (maxL := 6) (ret := none) (by decide) rfl ?_
  intro p e s m args below meth c s₁ B hml hout0 hv
  have htb := cx_out B (atoms_spec B.pre _ List.mem_cons_self)
  obtain ⟨rfl, hB⟩ := hv
  have C : cx_C p l s m _ meth c G y_BD_negate b_BD_negate 6 none "BigDesk" (Cond.code y_BD_negate b_BD_negate 6 none :: zx_T) [] := ⟨B.exec, B.bytes, B.returns, hml, findClass_of_methodNamed B.named, atoms_spec B.pre, cx_hd, B.notSynchronized, hB.2.2.1, hB.2.2.2, htb, fun z9 => (name_of_methodNamed B.named B.method).1.trans z9, hst⟩
  obtain ⟨hx, hb, hr, hml, hown, hts, hT, hlk, hK, hX, htb, hin, hst⟩ := id C
  have hw : ∀ {w9 : Cond}, w9 ∈ zx_T → w9.before _ s = true := fun h9 => hts _ (hT _ h9)
  have hW : ah_W G s.heap h0 s.heap [] := ⟨hB.1, hB.2.1, va_S.rf⟩
  have hm : ah_m h0 h0 := ah_m.rf
  have hcl : 0 + 2 ≤ 2 := by decide
  have hsl : 0 + 12 ≤ 12 := by decide
  have hl := lv_entry ([.ref a1, .int a2, .int a3]) (n := 6) (Nat.le_of_ble_eq_true rfl)
  rw [lg_entry_eq]
  generalize (lg_sl ([.ref a1, .int a2, .int a3]) ++ List.replicate (6 - (lg_sl ([.ref a1, .int a2, .int a3])).length) Slot.unset).toArray = ls at hl ⊢
  have hl : lv_has ls 6 [(0, .ref a1), (1, .int a2), (2, .int a3)] := hl
  unfold w_BD_negate at w
  refine lv_aload_n hx hb d_BD_negate_0 rfl (lv_at hl 0 rfl) ?_
  refine lv_iload_n hx hb d_BD_negate_1 rfl (lv_at hl 1 rfl) ?_
  obtain ⟨t4, w⟩ := w
  refine hx_r (vx_runV (As := [.int a2]) (rest := []) ⟨hx, hb, hml, hown, hts⟩ (m_BD_register G a1 a2 h0 hst w) (cwV 1 hts (zx_gV hT wd_141 wd_143 wd_s0 wd_1 wd_144) rfl rfl rfl (by decide +kernel) ⟨Nat.le_of_ble_eq_true rfl, Nat.le_of_ble_eq_true rfl⟩) (hb_preV hK hX hW t4 (by decide) rfl) rfl rfl hl.1 rfl (lv_room (Nat.le_of_ble_eq_true rfl)) d_BD_negate_2 ⟨(by show _ ≤ 2; omega), (by show _ ≤ 12; omega)⟩) hW (fun E9 ce9 q9 h9 H locs hE hW c1 c2 c3 => hx_out (Ex := fun E9 h9 => Ex E9 h9 ∧ ah_m h0 h9) (fun x9 h9 => (cx_nil htb x9 h9).elim) hlk hW c1 c2 c3 ⟨hE.1 hE.2, hm.tr hE.2⟩ (by omega) (by omega)) (fun r6 h5 H locs hk hW => ?_)
  obtain ⟨w, mm7⟩ := hk
  have w := w mm7
  have hm := hm.tr mm7
  have t8 := mm7.tg t4 (by decide)
  refine lv_astore_n (lv' := [(3, .ref r6), (0, .ref a1), (1, .int a2), (2, .int a3)]) hx hb d_BD_negate_5 rfl hl (by decide) rfl (fun ls hl => ?_)
  refine lv_aload_n hx hb d_BD_negate_6 rfl (lv_at hl 1 rfl) ?_
  refine lv_iload_n hx hb d_BD_negate_7 rfl (lv_at hl 3 rfl) ?_
  refine hx_r (vx_runV (As := [.int a3]) (rest := []) ⟨hx, hb, hml, hown, hts⟩ (m_BD_register G a1 a3 h5 hst w) (cwV 1 hts (zx_gV hT wd_141 wd_143 wd_s0 wd_1 wd_144) rfl rfl rfl (by decide +kernel) ⟨Nat.le_of_ble_eq_true rfl, Nat.le_of_ble_eq_true rfl⟩) (hb_preV hK hX hW t8 (by decide) rfl) rfl rfl hl.1 rfl (lv_room (Nat.le_of_ble_eq_true rfl)) d_BD_negate_8 ⟨(by show _ ≤ 2; omega), (by show _ ≤ 12; omega)⟩) hW (fun E9 ce9 q9 h9 H locs hE hW c1 c2 c3 => hx_out (Ex := fun E9 h9 => Ex E9 h9 ∧ ah_m h0 h9) (fun x9 h9 => (cx_nil htb x9 h9).elim) hlk hW c1 c2 c3 ⟨hE.1 hE.2, hm.tr hE.2⟩ (by omega) (by omega)) (fun r10 h9 H locs hk hW => ?_)
  obtain ⟨w, mm11⟩ := hk
  have w := w mm11
  have hm := hm.tr mm11
  have t12 := mm11.tg t8 (by decide)
  refine lv_astore (lv' := [(4, .ref r10), (3, .ref r6), (0, .ref a1), (1, .int a2), (2, .int a3)]) hx hb d_BD_negate_11 hl (by decide) rfl (fun ls hl => ?_)
  refine lv_aload hx hb d_BD_negate_13 (lv_at hl 0 rfl) ?_
  obtain ⟨t13, w⟩ := w
  refine hb_get (ci := 2) (C := "BigDesk$Whole") (T := T_WH) (N := 3) hx hb hts (fun w9 h9 => hT w9 (u_WH w9 h9)) hown hK hW t13 rfl (by decide) 2 (by decide) (hw wd_47) (fun _ h9 => h9) (q := (0, 1)) rfl (v := .int (ah_I h9 1 r10)) rfl d_BD_negate_15 ?_
  refine lv_if_ne (tgt := 25) hx hb d_BD_negate_18 (by decide) (fun c14 => ?_) (fun c14 => ?_)
  · have w := w.1 c14
    refine lv_iconst (v := 0) hx hb d_BD_negate_25 (by decide) ?_
    exact tb_BD_negate_26 C (by omega) (by omega)  r6 r10 (0 : Int32) h9 _ _ _ w hm hW (lv_sub hl [1, 0] rfl)
  · have w := w.2 c14
    refine lv_iconst (v := 1) hx hb d_BD_negate_21 (by decide) ?_
    refine lv_goto (tgt := 26) hx hb d_BD_negate_22 (by decide) ?_
    exact tb_BD_negate_26 C (by omega) (by omega)  r6 r10 (1 : Int32) h9 _ _ _ w hm hW (lv_sub hl [1, 0] rfl)
set_option maxHeartbeats 4000000 in
set_option maxRecDepth 100000 in
theorem tb_BD_compare_61 {p : Program} {l : Launch} {e : Env} {s : State} {m : MethodId} {args : Array Value} {below : List Frame} {meth : Method} {c : Code} {G : zG} (C : cx_C p l s m args meth c G y_BD_compare b_BD_compare 6 (some .int) "BigDesk" (Cond.code y_BD_compare b_BD_compare 6 (some .int) :: zx_T) []) {K : Int32 → ah_H → Prop} {Ex : String → ah_H → Prop} {h0 : ah_H} {cells slots : Nat} (hcl : cells + 0 ≤ 2) (hsl : slots + 0 ≤ 12)  (s23 : Int32) (h24 : ah_H) (H : Heap) (locs : List Loc) (ls : Array Slot) (w : bk_BD_compare_61 K Ex s23 h24) (hm : ah_m h0 h24) (hW : ah_W G s.heap h24 H locs) (hl : lv_has ls 6 []) : W p l e rm_BD_compare s m args below meth c H locs cells slots (vx_MQ below (va_Qi (fun r9 h9 => K r9 h9 ∧ ah_m h0 h9) (ah_B G) (fun q => G.2.2 ≤ q)) (ah_X G (fun E9 h9 => Ex E9 h9 ∧ ah_m h0 h9)) args s 2 12 (fun q => G.2.2 ≤ q)) (F0 m 61 ls [.int s23]) := by
  unfold bk_BD_compare_61 at w
  obtain ⟨hx, hb, hr, hml, hown, hts, hT, hlk, hK, hX, htb, hin, hst⟩ := id C
  have hw : ∀ {w9 : Cond}, w9 ∈ zx_T → w9.before _ s = true := fun h9 => hts _ (hT _ h9)
  exact vx_ret (hb_iret (K := fun r9 h9 => K r9 h9 ∧ ah_m h0 h9) hx hb hr hlk hK hX hW ⟨w, hm⟩ (by omega) (by omega) d_BD_compare_61)
set_option maxHeartbeats 4000000 in
set_option maxRecDepth 100000 in
theorem tb_BD_compare_37 {p : Program} {l : Launch} {e : Env} {s : State} {m : MethodId} {args : Array Value} {below : List Frame} {meth : Method} {c : Code} {G : zG} (C : cx_C p l s m args meth c G y_BD_compare b_BD_compare 6 (some .int) "BigDesk" (Cond.code y_BD_compare b_BD_compare 6 (some .int) :: zx_T) []) {K : Int32 → ah_H → Prop} {Ex : String → ah_H → Prop} {h0 : ah_H} {cells slots : Nat} (hcl : cells + 0 ≤ 2) (hsl : slots + 0 ≤ 12)  (s26 : Int32) (h27 : ah_H) (H : Heap) (locs : List Loc) (ls : Array Slot) (w : bk_BD_compare_37 K Ex s26 h27) (hm : ah_m h0 h27) (hW : ah_W G s.heap h27 H locs) (hl : lv_has ls 6 []) : W p l e rm_BD_compare s m args below meth c H locs cells slots (vx_MQ below (va_Qi (fun r9 h9 => K r9 h9 ∧ ah_m h0 h9) (ah_B G) (fun q => G.2.2 ≤ q)) (ah_X G (fun E9 h9 => Ex E9 h9 ∧ ah_m h0 h9)) args s 2 12 (fun q => G.2.2 ≤ q)) (F0 m 37 ls [.int s26]) := by
  unfold bk_BD_compare_37 at w
  obtain ⟨hx, hb, hr, hml, hown, hts, hT, hlk, hK, hX, htb, hin, hst⟩ := id C
  have hw : ∀ {w9 : Cond}, w9 ∈ zx_T → w9.before _ s = true := fun h9 => hts _ (hT _ h9)
  exact vx_ret (hb_iret (K := fun r9 h9 => K r9 h9 ∧ ah_m h0 h9) hx hb hr hlk hK hX hW ⟨w, hm⟩ (by omega) (by omega) d_BD_compare_37)
set_option maxHeartbeats 4000000 in
set_option maxRecDepth 100000 in
theorem m_BD_compare {l : Launch} (G : zG) (a1 : Nat) (a2 : Int32) (a3 : Int32) (h0 : ah_H) {K : Int32 → ah_H → Prop} {Ex : String → ah_H → Prop} (hst : l.stackTraces = false) (w : w_BD_compare a1 a2 a3 h0 K Ex) : vx_Met l y_BD_compare (Cond.code y_BD_compare b_BD_compare 6 (some .int) :: zx_T) rm_BD_compare (va_Pc [.ref a1, .int a2, .int a3] (ah_B G h0)) (va_Qi (fun r9 h9 => K r9 h9 ∧ ah_m h0 h9) (ah_B G) (fun q => G.2.2 ≤ q)) (ah_X G (fun E9 h9 => Ex E9 h9 ∧ ah_m h0 h9)) 2 12 (fun q => G.2.2 ≤ q) := by
  refine vx_ofW (cc := b_BD_compare) (maxL := 6) (ret := (some .int)) (by decide) rfl ?_
  intro p e s m args below meth c s₁ B hml hout0 hv
  have htb := cx_out B (atoms_spec B.pre _ List.mem_cons_self)
  obtain ⟨rfl, hB⟩ := hv
  have C : cx_C p l s m _ meth c G y_BD_compare b_BD_compare 6 (some .int) "BigDesk" (Cond.code y_BD_compare b_BD_compare 6 (some .int) :: zx_T) [] := ⟨B.exec, B.bytes, B.returns, hml, findClass_of_methodNamed B.named, atoms_spec B.pre, cx_hd, B.notSynchronized, hB.2.2.1, hB.2.2.2, htb, fun z9 => (name_of_methodNamed B.named B.method).1.trans z9, hst⟩
  obtain ⟨hx, hb, hr, hml, hown, hts, hT, hlk, hK, hX, htb, hin, hst⟩ := id C
  have hw : ∀ {w9 : Cond}, w9 ∈ zx_T → w9.before _ s = true := fun h9 => hts _ (hT _ h9)
  have hW : ah_W G s.heap h0 s.heap [] := ⟨hB.1, hB.2.1, va_S.rf⟩
  have hm : ah_m h0 h0 := ah_m.rf
  have hcl : 0 + 2 ≤ 2 := by decide
  have hsl : 0 + 12 ≤ 12 := by decide
  have hl := lv_entry ([.ref a1, .int a2, .int a3]) (n := 6) (Nat.le_of_ble_eq_true rfl)
  rw [lg_entry_eq]
  generalize (lg_sl ([.ref a1, .int a2, .int a3]) ++ List.replicate (6 - (lg_sl ([.ref a1, .int a2, .int a3])).length) Slot.unset).toArray = ls at hl ⊢
  have hl : lv_has ls 6 [(0, .ref a1), (1, .int a2), (2, .int a3)] := hl
  unfold w_BD_compare at w
  refine lv_aload_n hx hb d_BD_compare_0 rfl (lv_at hl 0 rfl) ?_
  refine lv_iload_n hx hb d_BD_compare_1 rfl (lv_at hl 1 rfl) ?_
  obtain ⟨t4, w⟩ := w
  refine hx_r (vx_runV (As := [.int a2]) (rest := []) ⟨hx, hb, hml, hown, hts⟩ (m_BD_register G a1 a2 h0 hst w) (cwV 1 hts (zx_gV hT wd_141 wd_143 wd_s0 wd_1 wd_144) rfl rfl rfl (by decide +kernel) ⟨Nat.le_of_ble_eq_true rfl, Nat.le_of_ble_eq_true rfl⟩) (hb_preV hK hX hW t4 (by decide) rfl) rfl rfl hl.1 rfl (lv_room (Nat.le_of_ble_eq_true rfl)) d_BD_compare_2 ⟨(by show _ ≤ 2; omega), (by show _ ≤ 12; omega)⟩) hW (fun E9 ce9 q9 h9 H locs hE hW c1 c2 c3 => hx_out (Ex := fun E9 h9 => Ex E9 h9 ∧ ah_m h0 h9) (fun x9 h9 => (cx_nil htb x9 h9).elim) hlk hW c1 c2 c3 ⟨hE.1 hE.2, hm.tr hE.2⟩ (by omega) (by omega)) (fun r6 h5 H locs hk hW => ?_)
  obtain ⟨w, mm7⟩ := hk
  have w := w mm7
  have hm := hm.tr mm7
  have t8 := mm7.tg t4 (by decide)
  refine lv_astore_n (lv' := [(3, .ref r6), (0, .ref a1), (1, .int a2), (2, .int a3)]) hx hb d_BD_compare_5 rfl hl (by decide) rfl (fun ls hl => ?_)
  refine lv_aload_n hx hb d_BD_compare_6 rfl (lv_at hl 1 rfl) ?_
  refine lv_iload_n hx hb d_BD_compare_7 rfl (lv_at hl 3 rfl) ?_
  refine hx_r (vx_runV (As := [.int a3]) (rest := []) ⟨hx, hb, hml, hown, hts⟩ (m_BD_register G a1 a3 h5 hst w) (cwV 1 hts (zx_gV hT wd_141 wd_143 wd_s0 wd_1 wd_144) rfl rfl rfl (by decide +kernel) ⟨Nat.le_of_ble_eq_true rfl, Nat.le_of_ble_eq_true rfl⟩) (hb_preV hK hX hW t8 (by decide) rfl) rfl rfl hl.1 rfl (lv_room (Nat.le_of_ble_eq_true rfl)) d_BD_compare_8 ⟨(by show _ ≤ 2; omega), (by show _ ≤ 12; omega)⟩) hW (fun E9 ce9 q9 h9 H locs hE hW c1 c2 c3 => hx_out (Ex := fun E9 h9 => Ex E9 h9 ∧ ah_m h0 h9) (fun x9 h9 => (cx_nil htb x9 h9).elim) hlk hW c1 c2 c3 ⟨hE.1 hE.2, hm.tr hE.2⟩ (by omega) (by omega)) (fun r10 h9 H locs hk hW => ?_)
  obtain ⟨w, mm11⟩ := hk
  have w := w mm11
  have hm := hm.tr mm11
  have t12 := mm11.tg t8 (by decide)
  refine lv_astore (lv' := [(4, .ref r10), (3, .ref r6), (0, .ref a1), (1, .int a2), (2, .int a3)]) hx hb d_BD_compare_11 hl (by decide) rfl (fun ls hl => ?_)
  refine lv_aload_n hx hb d_BD_compare_13 rfl (lv_at hl 1 rfl) ?_
  obtain ⟨t13, w⟩ := w
  refine hb_get (ci := 2) (C := "BigDesk$Whole") (T := T_WH) (N := 3) hx hb hts (fun w9 h9 => hT w9 (u_WH w9 h9)) hown hK hW t13 rfl (by decide) 2 (by decide) (hw wd_47) (fun _ h9 => h9) (q := (0, 1)) rfl (v := .int (ah_I h9 1 r6)) rfl d_BD_compare_14 ?_
  refine lv_aload hx hb d_BD_compare_17 (lv_at hl 0 rfl) ?_
  obtain ⟨t14, w⟩ := w
  refine hb_get (ci := 2) (C := "BigDesk$Whole") (T := T_WH) (N := 3) hx hb hts (fun w9 h9 => hT w9 (u_WH w9 h9)) hown hK hW t14 rfl (by decide) 2 (by decide) (hw wd_47) (fun _ h9 => h9) (q := (0, 1)) rfl (v := .int (ah_I h9 1 r10)) rfl d_BD_compare_19 ?_
  refine lv_icmp_eq (tgt := 38) hx hb d_BD_compare_22 (by decide) (fun c15 => ?_) (fun c15 => ?_)
  · have w := w.1 c15
    refine lv_aload_n hx hb d_BD_compare_38 rfl (lv_at hl 1 rfl) ?_
    refine lv_aload hx hb d_BD_compare_39 (lv_at hl 0 rfl) ?_
    refine hb_calli (va_runS (As := [.ref r6, .ref r10]) (rest := []) ⟨hx, hb, hml, hown, hts⟩ (m_SU_orderOfAbsolutes G r6 r10 h9 hst w) (va_cwS 2 hts (zx_gS hT wd_495 wd_264 wd_11 wd_265) rfl rfl rfl (by decide +kernel) ⟨Nat.le_of_ble_eq_true rfl, Nat.le_of_ble_eq_true rfl⟩) (hb_preS hK hX hW) rfl rfl hl.1 rfl (lv_room (Nat.le_of_ble_eq_true rfl)) d_BD_compare_41 ⟨(by show _ ≤ 2; omega), (by show _ ≤ 12; omega)⟩) hW (fun r17 h16 H locs hk hW => ?_)
    obtain ⟨w, mm18⟩ := hk
    have w := w mm18
    have hm := hm.tr mm18
    have t19 := mm18.tg t12 (by decide)
    have t20 := mm18.tg t13 (by decide)
    have t21 := mm18.tg t14 (by decide)
    refine lv_istore (lv' := [(5, .int r17), (4, .ref r10), (3, .ref r6), (0, .ref a1), (1, .int a2), (2, .int a3)]) hx hb d_BD_compare_44 hl (by decide) rfl (fun ls hl => ?_)
    refine lv_aload_n hx hb d_BD_compare_46 rfl (lv_at hl 2 rfl) ?_
    refine hb_get (ci := 2) (C := "BigDesk$Whole") (T := T_WH) (N := 3) hx hb hts (fun w9 h9 => hT w9 (u_WH w9 h9)) hown hK hW t20 rfl (by decide) 2 (by decide) (hw wd_47) (fun _ h9 => h9) (q := (0, 1)) rfl (v := .int (ah_I h16 1 r6)) rfl d_BD_compare_47 ?_
    refine lv_if_eq (tgt := 59) hx hb d_BD_compare_50 (by decide) (fun c22 => ?_) (fun c22 => ?_)
    · have w := w.1 c22
      refine lv_iload hx hb d_BD_compare_59 (lv_at hl 0 rfl) ?_
      exact tb_BD_compare_61 C (by omega) (by omega)  r17 h16 _ _ _ w hm hW (lv_sub hl [] rfl)
    · have w := w.2 c22
      refine lv_iload hx hb d_BD_compare_53 (lv_at hl 0 rfl) ?_
      refine lv_ineg hx hb d_BD_compare_55 ?_
      refine lv_goto (tgt := 61) hx hb d_BD_compare_56 (by decide) ?_
      exact tb_BD_compare_61 C (by omega) (by omega)  (-r17) h16 _ _ _ w hm hW (lv_sub hl [] rfl)
  · have w := w.2 c15
    refine lv_aload_n hx hb d_BD_compare_25 rfl (lv_at hl 1 rfl) ?_
    refine hb_get (ci := 2) (C := "BigDesk$Whole") (T := T_WH) (N := 3) hx hb hts (fun w9 h9 => hT w9 (u_WH w9 h9)) hown hK hW t13 rfl (by decide) 2 (by decide) (hw wd_47) (fun _ h9 => h9) (q := (0, 1)) rfl (v := .int (ah_I h9 1 r6)) rfl d_BD_compare_26 ?_
    refine lv_if_eq (tgt := 36) hx hb d_BD_compare_29 (by decide) (fun c25 => ?_) (fun c25 => ?_)
    · have w := w.1 c25
      refine lv_iconst (v := 1) hx hb d_BD_compare_36 (by decide) ?_
      exact tb_BD_compare_37 C (by omega) (by omega)  (1 : Int32) h9 _ _ _ w hm hW (lv_sub hl [] rfl)
    · have w := w.2 c25
      refine lv_iconst (v := -1) hx hb d_BD_compare_32 (by decide) ?_
      refine lv_goto (tgt := 37) hx hb d_BD_compare_33 (by decide) ?_
      exact tb_BD_compare_37 C (by omega) (by omega)  (-1 : Int32) h9 _ _ _ w hm hW (lv_sub hl [] rfl)
set_option maxHeartbeats 4000000 in
set_option maxRecDepth 100000 in
theorem m_BD_rest {l : Launch} (G : zG) (a1 : Nat) (a2 : Int32) (a3 : Int64) (h0 : ah_H) {K : Int64 → ah_H → Prop} {Ex : String → ah_H → Prop} (hst : l.stackTraces = false) (w : w_BD_rest a1 a2 a3 h0 K Ex) : vx_Met l y_BD_rest (Cond.code y_BD_rest b_BD_rest 5 (some .long) :: zx_T) rm_BD_rest (va_Pc [.ref a1, .int a2, .long a3] (ah_B G h0)) (va_Ql (fun r9 h9 => K r9 h9 ∧ ah_m h0 h9) (ah_B G) (fun q => G.2.2 ≤ q)) (ah_X G (fun E9 h9 => Ex E9 h9 ∧ ah_m h0 h9)) 2 12 (fun q => G.2.2 ≤ q) := by
  refine vx_ofW (cc := b_BD_rest) (maxL := 5) (ret := (some .long)) (by decide) rfl ?_
  intro p e s m args below meth c s₁ B hml hout0 hv
  have htb := cx_out B (atoms_spec B.pre _ List.mem_cons_self)
  obtain ⟨rfl, hB⟩ := hv
  have C : cx_C p l s m _ meth c G y_BD_rest b_BD_rest 5 (some .long) "BigDesk" (Cond.code y_BD_rest b_BD_rest 5 (some .long) :: zx_T) [] := ⟨B.exec, B.bytes, B.returns, hml, findClass_of_methodNamed B.named, atoms_spec B.pre, cx_hd, B.notSynchronized, hB.2.2.1, hB.2.2.2, htb, fun z9 => (name_of_methodNamed B.named B.method).1.trans z9, hst⟩
  obtain ⟨hx, hb, hr, hml, hown, hts, hT, hlk, hK, hX, htb, hin, hst⟩ := id C
  have hw : ∀ {w9 : Cond}, w9 ∈ zx_T → w9.before _ s = true := fun h9 => hts _ (hT _ h9)
  have hW : ah_W G s.heap h0 s.heap [] := ⟨hB.1, hB.2.1, va_S.rf⟩
  have hm : ah_m h0 h0 := ah_m.rf
  have hcl : 0 + 2 ≤ 2 := by decide
  have hsl : 0 + 12 ≤ 12 := by decide
  have hl := lv_entry ([.ref a1, .int a2, .long a3]) (n := 5) (Nat.le_of_ble_eq_true rfl)
  rw [lg_entry_eq]
  generalize (lg_sl ([.ref a1, .int a2, .long a3]) ++ List.replicate (5 - (lg_sl ([.ref a1, .int a2, .long a3])).length) Slot.unset).toArray = ls at hl ⊢
  have hl : lv_has ls 5 [(0, .ref a1), (1, .int a2), (2, .long a3)] := hl
  unfold w_BD_rest at w
  refine lv_aload_n hx hb d_BD_rest_0 rfl (lv_at hl 0 rfl) ?_
  refine lv_iload_n hx hb d_BD_rest_1 rfl (lv_at hl 1 rfl) ?_
  obtain ⟨t4, w⟩ := w
  refine hx_r (vx_runV (As := [.int a2]) (rest := []) ⟨hx, hb, hml, hown, hts⟩ (m_BD_register G a1 a2 h0 hst w) (cwV 1 hts (zx_gV hT wd_141 wd_143 wd_s0 wd_1 wd_144) rfl rfl rfl (by decide +kernel) ⟨Nat.le_of_ble_eq_true rfl, Nat.le_of_ble_eq_true rfl⟩) (hb_preV hK hX hW t4 (by decide) rfl) rfl rfl hl.1 rfl (lv_room (Nat.le_of_ble_eq_true rfl)) d_BD_rest_2 ⟨(by show _ ≤ 2; omega), (by show _ ≤ 12; omega)⟩) hW (fun E9 ce9 q9 h9 H locs hE hW c1 c2 c3 => hx_out (Ex := fun E9 h9 => Ex E9 h9 ∧ ah_m h0 h9) (fun x9 h9 => (cx_nil htb x9 h9).elim) hlk hW c1 c2 c3 ⟨hE.1 hE.2, hm.tr hE.2⟩ (by omega) (by omega)) (fun r6 h5 H locs hk hW => ?_)
  obtain ⟨w, mm7⟩ := hk
  have w := w mm7
  have hm := hm.tr mm7
  have t8 := mm7.tg t4 (by decide)
  refine lv_astore (lv' := [(4, .ref r6), (0, .ref a1), (1, .int a2), (2, .long a3)]) hx hb d_BD_rest_5 hl (by decide) rfl (fun ls hl => ?_)
  refine lv_lload_n hx hb d_BD_rest_7 rfl (lv_at hl 3 rfl) ?_
  refine lv_lconst (v := 1) hx hb d_BD_rest_8 (by decide) ?_
  refine hb_lcmp_ge (tgt := 23) hx hb d_BD_rest_9 d_BD_rest_10 (by decide) (fun c9 => ?_) (fun c9 => ?_)
  · have w := w.1 c9
    refine lv_aload_n hx hb d_BD_rest_23 rfl (lv_at hl 1 rfl) ?_
    obtain ⟨q10, e11, w⟩ := w
    refine hb_get (ci := 3) (C := "BigDesk") (T := T_BD) (N := 9) hx hb hts (fun w9 h9 => hT w9 (u_BD w9 h9)) hown hK hW t8 rfl (by decide) 2 (by decide) (hw wd_106) (fun _ h9 => h9) (q := (2, 8)) rfl (v := .ref q10) (ah_f_R e11) d_BD_rest_24 ?_
    refine lv_lload_n hx hb d_BD_rest_27 rfl (lv_at hl 3 rfl) ?_
    obtain ⟨t12, w⟩ := w
    refine hb_callv (va_runV (As := [.long a3]) (rest := []) ⟨hx, hb, hml, hown, hts⟩ (m_WH_becomeLong G q10 a3 h5 hst w) (cwV 1 hts (zx_gV hT wd_213 wd_214 wd_215 wd_2 wd_216) rfl rfl rfl (by decide +kernel) ⟨Nat.le_of_ble_eq_true rfl, Nat.le_of_ble_eq_true rfl⟩) (hb_preV hK hX hW t12 (by decide) rfl) rfl rfl hl.1 rfl (lv_room (Nat.le_of_ble_eq_true rfl)) d_BD_rest_28 ⟨(by show _ ≤ 2; omega), (by show _ ≤ 12; omega)⟩) hW (fun h13 H locs hk hW => ?_)
    obtain ⟨w, mm14⟩ := hk
    have w := w mm14
    have hm := hm.tr mm14
    have t15 := mm14.tg t8 (by decide)
    have t16 := mm14.tg t12 (by decide)
    refine lv_aload_n hx hb d_BD_rest_31 rfl (lv_at hl 1 rfl) ?_
    obtain ⟨q17, e18, w⟩ := w
    refine hb_get (ci := 3) (C := "BigDesk") (T := T_BD) (N := 9) hx hb hts (fun w9 h9 => hT w9 (u_BD w9 h9)) hown hK hW t15 rfl (by decide) 3 (by decide) (hw wd_107) (fun _ h9 => h9) (q := (2, 9)) rfl (v := .ref q17) (ah_f_R e18) d_BD_rest_32 ?_
    refine lv_aload hx hb d_BD_rest_35 (lv_at hl 0 rfl) ?_
    refine lv_aload_n hx hb d_BD_rest_37 rfl (lv_at hl 1 rfl) ?_
    obtain ⟨q19, e20, w⟩ := w
    refine hb_get (ci := 3) (C := "BigDesk") (T := T_BD) (N := 9) hx hb hts (fun w9 h9 => hT w9 (u_BD w9 h9)) hown hK hW t15 rfl (by decide) 2 (by decide) (hw wd_106) (fun _ h9 => h9) (q := (2, 8)) rfl (v := .ref q19) (ah_f_R e20) d_BD_rest_38 ?_
    obtain ⟨t21, w⟩ := w
    refine hb_callv (va_runV (As := [.ref r6, .ref q19]) (rest := []) ⟨hx, hb, hml, hown, hts⟩ (m_DV_downwards G q17 r6 q19 h13 hst w) (cwV 2 hts (zx_gV hT wd_400 wd_401 wd_402 wd_3 wd_403) rfl rfl rfl (by decide +kernel) ⟨Nat.le_of_ble_eq_true rfl, Nat.le_of_ble_eq_true rfl⟩) (hb_preV hK hX hW t21 (by decide) rfl) rfl rfl hl.1 rfl (lv_room (Nat.le_of_ble_eq_true rfl)) d_BD_rest_41 ⟨(by show _ ≤ 2; omega), (by show _ ≤ 12; omega)⟩) hW (fun h22 H locs hk hW => ?_)
    obtain ⟨w, mm23⟩ := hk
    have w := w mm23
    have hm := hm.tr mm23
    have t24 := mm23.tg t15 (by decide)
    have t25 := mm23.tg t16 (by decide)
    have t26 := mm23.tg t21 (by decide)
    refine lv_aload_n hx hb d_BD_rest_44 rfl (lv_at hl 1 rfl) ?_
    obtain ⟨q27, e28, w⟩ := w
    refine hb_get (ci := 3) (C := "BigDesk") (T := T_BD) (N := 9) hx hb hts (fun w9 h9 => hT w9 (u_BD w9 h9)) hown hK hW t24 rfl (by decide) 3 (by decide) (hw wd_107) (fun _ h9 => h9) (q := (2, 9)) rfl (v := .ref q27) (ah_f_R e28) d_BD_rest_45 ?_
    obtain ⟨t29, w⟩ := w
    obtain ⟨q30, e31, w⟩ := w
    refine hb_get (ci := 1) (C := "BigDesk$Division") (T := T_DV) (N := 3) hx hb hts (fun w9 h9 => hT w9 (u_DV w9 h9)) hown hK hW t29 rfl (by decide) 1 (by decide) (hw wd_68) (fun _ h9 => h9) (q := (2, 3)) rfl (v := .ref q30) (ah_f_R e31) d_BD_rest_48 ?_
    obtain ⟨t32, w⟩ := w
    refine hb_calll (va_runV (As := []) (rest := []) ⟨hx, hb, hml, hown, hts⟩ (m_WH_asLong G q30 h22 hst w) (cwV 0 hts (zx_gV hT wd_504 wd_505 wd_506 wd_2 wd_507) rfl rfl rfl (by decide +kernel) ⟨Nat.le_of_ble_eq_true rfl, Nat.le_of_ble_eq_true rfl⟩) (hb_preV hK hX hW t32 (by decide) rfl) rfl rfl hl.1 rfl (lv_room (Nat.le_of_ble_eq_true rfl)) d_BD_rest_51 ⟨(by show _ ≤ 2; omega), (by show _ ≤ 12; omega)⟩) hW (fun r34 h33 H locs hk hW => ?_)
    obtain ⟨w, mm35⟩ := hk
    have w := w mm35
    have hm := hm.tr mm35
    have t36 := mm35.tg t24 (by decide)
    have t37 := mm35.tg t25 (by decide)
    have t38 := mm35.tg t26 (by decide)
    have t39 := mm35.tg t29 (by decide)
    have t40 := mm35.tg t32 (by decide)
    exact vx_ret (hb_lret (K := fun r9 h9 => K r9 h9 ∧ ah_m h0 h9) hx hb hr hlk hK hX hW ⟨w, hm⟩ (by omega) (by omega) d_BD_rest_54)
  · have w := w.2 c9
    exact hx_throw (Ex := fun E9 h9 => Ex E9 h9 ∧ ah_m h0 h9) hx hb hst hown hts hT hX rfl zx_rtf wd_145 wd_9 (is := 143) (text := "the divisor is below 1") (by decide) zx_aIllegalArgumentException zx_gIllegalArgumentException hW (by rw [hml]; exact hl.1) d_BD_rest_13 d_BD_rest_16 d_BD_rest_17 d_BD_rest_19 d_BD_rest_22 (cx_nil htb) (Nat.le_of_ble_eq_true rfl) (Nat.le_of_ble_eq_true rfl) (by show _ ≤ 2; omega) (by show _ ≤ 12; omega) hlk ⟨w, hm⟩ (by omega) (by omega)
set_option maxHeartbeats 4000000 in
set_option maxRecDepth 100000 in
theorem m_BD_value {l : Launch} (G : zG) (a1 : Nat) (a2 : Int32) (h0 : ah_H) {K : Int64 → ah_H → Prop} {Ex : String → ah_H → Prop} (hst : l.stackTraces = false) (w : w_BD_value a1 a2 h0 K Ex) : vx_Met l y_BD_value (Cond.code y_BD_value b_BD_value 3 (some .long) :: zx_T) rm_BD_value (va_Pc [.ref a1, .int a2] (ah_B G h0)) (va_Ql (fun r9 h9 => K r9 h9 ∧ ah_m h0 h9) (ah_B G) (fun q => G.2.2 ≤ q)) (ah_X G (fun E9 h9 => Ex E9 h9 ∧ ah_m h0 h9)) 2 12 (fun q => G.2.2 ≤ q) := by
  refine vx_ofW (cc := b_BD_value) (maxL := 3) (ret := (some .long)) (by decide) rfl ?_
  intro p e s m args below meth c s₁ B hml hout0 hv
  have htb := cx_out B (atoms_spec B.pre _ List.mem_cons_self)
  obtain ⟨rfl, hB⟩ := hv
  have C : cx_C p l s m _ meth c G y_BD_value b_BD_value 3 (some .long) "BigDesk" (Cond.code y_BD_value b_BD_value 3 (some .long) :: zx_T) [] := ⟨B.exec, B.bytes, B.returns, hml, findClass_of_methodNamed B.named, atoms_spec B.pre, cx_hd, B.notSynchronized, hB.2.2.1, hB.2.2.2, htb, fun z9 => (name_of_methodNamed B.named B.method).1.trans z9, hst⟩
  obtain ⟨hx, hb, hr, hml, hown, hts, hT, hlk, hK, hX, htb, hin, hst⟩ := id C
  have hw : ∀ {w9 : Cond}, w9 ∈ zx_T → w9.before _ s = true := fun h9 => hts _ (hT _ h9)
  have hW : ah_W G s.heap h0 s.heap [] := ⟨hB.1, hB.2.1, va_S.rf⟩
  have hm : ah_m h0 h0 := ah_m.rf
  have hcl : 0 + 2 ≤ 2 := by decide
  have hsl : 0 + 12 ≤ 12 := by decide
  have hl := lv_entry ([.ref a1, .int a2]) (n := 3) (Nat.le_of_ble_eq_true rfl)
  rw [lg_entry_eq]
  generalize (lg_sl ([.ref a1, .int a2]) ++ List.replicate (3 - (lg_sl ([.ref a1, .int a2])).length) Slot.unset).toArray = ls at hl ⊢
  have hl : lv_has ls 3 [(0, .ref a1), (1, .int a2)] := hl
  unfold w_BD_value at w
  refine lv_aload_n hx hb d_BD_value_0 rfl (lv_at hl 0 rfl) ?_
  refine lv_iload_n hx hb d_BD_value_1 rfl (lv_at hl 1 rfl) ?_
  obtain ⟨t3, w⟩ := w
  refine hx_r (vx_runV (As := [.int a2]) (rest := []) ⟨hx, hb, hml, hown, hts⟩ (m_BD_register G a1 a2 h0 hst w) (cwV 1 hts (zx_gV hT wd_141 wd_143 wd_s0 wd_1 wd_144) rfl rfl rfl (by decide +kernel) ⟨Nat.le_of_ble_eq_true rfl, Nat.le_of_ble_eq_true rfl⟩) (hb_preV hK hX hW t3 (by decide) rfl) rfl rfl hl.1 rfl (lv_room (Nat.le_of_ble_eq_true rfl)) d_BD_value_2 ⟨(by show _ ≤ 2; omega), (by show _ ≤ 12; omega)⟩) hW (fun E9 ce9 q9 h9 H locs hE hW c1 c2 c3 => hx_out (Ex := fun E9 h9 => Ex E9 h9 ∧ ah_m h0 h9) (fun x9 h9 => (cx_nil htb x9 h9).elim) hlk hW c1 c2 c3 ⟨hE.1 hE.2, hm.tr hE.2⟩ (by omega) (by omega)) (fun r5 h4 H locs hk hW => ?_)
  obtain ⟨w, mm6⟩ := hk
  have w := w mm6
  have hm := hm.tr mm6
  have t7 := mm6.tg t3 (by decide)
  refine lv_astore_n (lv' := [(2, .ref r5), (0, .ref a1), (1, .int a2)]) hx hb d_BD_value_5 rfl hl (by decide) rfl (fun ls hl => ?_)
  refine lv_aload_n hx hb d_BD_value_6 rfl (lv_at hl 0 rfl) ?_
  obtain ⟨t8, w⟩ := w
  refine hb_calli (va_runV (As := []) (rest := []) ⟨hx, hb, hml, hown, hts⟩ (m_WH_isLong G r5 h4 hst w) (cwV 0 hts (zx_gV hT wd_519 wd_520 wd_521 wd_2 wd_522) rfl rfl rfl (by decide +kernel) ⟨Nat.le_of_ble_eq_true rfl, Nat.le_of_ble_eq_true rfl⟩) (hb_preV hK hX hW t8 (by decide) rfl) rfl rfl hl.1 rfl (lv_room (Nat.le_of_ble_eq_true rfl)) d_BD_value_7 ⟨(by show _ ≤ 2; omega), (by show _ ≤ 12; omega)⟩) hW (fun r10 h9 H locs hk hW => ?_)
  obtain ⟨w, mm11⟩ := hk
  have w := w mm11
  have hm := hm.tr mm11
  have t12 := mm11.tg t7 (by decide)
  have t13 := mm11.tg t8 (by decide)
  refine lv_if_ne (tgt := 23) hx hb d_BD_value_10 (by decide) (fun c14 => ?_) (fun c14 => ?_)
  · have w := w.1 c14
    refine lv_aload_n hx hb d_BD_value_23 rfl (lv_at hl 0 rfl) ?_
    refine hb_calll (va_runV (As := []) (rest := []) ⟨hx, hb, hml, hown, hts⟩ (m_WH_asLong G r5 h9 hst w) (cwV 0 hts (zx_gV hT wd_504 wd_505 wd_506 wd_2 wd_507) rfl rfl rfl (by decide +kernel) ⟨Nat.le_of_ble_eq_true rfl, Nat.le_of_ble_eq_true rfl⟩) (hb_preV hK hX hW t13 (by decide) rfl) rfl rfl hl.1 rfl (lv_room (Nat.le_of_ble_eq_true rfl)) d_BD_value_24 ⟨(by show _ ≤ 2; omega), (by show _ ≤ 12; omega)⟩) hW (fun r16 h15 H locs hk hW => ?_)
    obtain ⟨w, mm17⟩ := hk
    have w := w mm17
    have hm := hm.tr mm17
    have t18 := mm17.tg t12 (by decide)
    have t19 := mm17.tg t13 (by decide)
    exact vx_ret (hb_lret (K := fun r9 h9 => K r9 h9 ∧ ah_m h0 h9) hx hb hr hlk hK hX hW ⟨w, hm⟩ (by omega) (by omega) d_BD_value_27)
  · have w := w.2 c14
    exact hx_throw (Ex := fun E9 h9 => Ex E9 h9 ∧ ah_m h0 h9) hx hb hst hown hts hT hX rfl zx_rtf wd_280 wd_13 (is := 153) (text := "no long") (by decide) zx_aIllegalStateException zx_gIllegalStateException hW (by rw [hml]; exact hl.1) d_BD_value_13 d_BD_value_16 d_BD_value_17 d_BD_value_19 d_BD_value_22 (cx_nil htb) (Nat.le_of_ble_eq_true rfl) (Nat.le_of_ble_eq_true rfl) (by show _ ≤ 2; omega) (by show _ ≤ 12; omega) hlk ⟨w, hm⟩ (by omega) (by omega)
set_option maxHeartbeats 4000000 in
set_option maxRecDepth 100000 in
theorem tb_BD_limb_17 {p : Program} {l : Launch} {e : Env} {s : State} {m : MethodId} {args : Array Value} {below : List Frame} {meth : Method} {c : Code} {G : zG} (C : cx_C p l s m args meth c G y_BD_limb b_BD_limb 4 (some .long) "BigDesk" (Cond.code y_BD_limb b_BD_limb 4 (some .long) :: zx_T) []) {K : Int64 → ah_H → Prop} {Ex : String → ah_H → Prop} {h0 : ah_H} {cells slots : Nat} (hcl : cells + 1 ≤ 2) (hsl : slots + 6 ≤ 12)   (h10 : ah_H) (H : Heap) (locs : List Loc) (ls : Array Slot) (w : bk_BD_limb_17 K Ex h10) (hm : ah_m h0 h10) (hW : ah_W G s.heap h10 H locs) (hl : lv_has ls 4 []) : W p l e rm_BD_limb s m args below meth c H locs cells slots (vx_MQ below (va_Ql (fun r9 h9 => K r9 h9 ∧ ah_m h0 h9) (ah_B G) (fun q => G.2.2 ≤ q)) (ah_X G (fun E9 h9 => Ex E9 h9 ∧ ah_m h0 h9)) args s 2 12 (fun q => G.2.2 ≤ q)) (F0 m 17 ls []) := by
  unfold bk_BD_limb_17 at w
  obtain ⟨hx, hb, hr, hml, hown, hts, hT, hlk, hK, hX, htb, hin, hst⟩ := id C
  have hw : ∀ {w9 : Cond}, w9 ∈ zx_T → w9.before _ s = true := fun h9 => hts _ (hT _ h9)
  exact hx_throw (Ex := fun E9 h9 => Ex E9 h9 ∧ ah_m h0 h9) hx hb hst hown hts hT hX rfl zx_rtf wd_145 wd_9 (is := 155) (text := "no such limb") (by decide) zx_aIllegalArgumentException zx_gIllegalArgumentException hW (by rw [hml]; exact hl.1) d_BD_limb_17 d_BD_limb_20 d_BD_limb_21 d_BD_limb_23 d_BD_limb_26 (cx_nil htb) (Nat.le_of_ble_eq_true rfl) (Nat.le_of_ble_eq_true rfl) (by show _ ≤ 2; omega) (by show _ ≤ 12; omega) hlk ⟨w, hm⟩ (by omega) (by omega)
set_option maxHeartbeats 4000000 in
set_option maxRecDepth 100000 in
theorem m_BD_limb {l : Launch} (G : zG) (a1 : Nat) (a2 : Int32) (a3 : Int32) (h0 : ah_H) {K : Int64 → ah_H → Prop} {Ex : String → ah_H → Prop} (hst : l.stackTraces = false) (w : w_BD_limb a1 a2 a3 h0 K Ex) : vx_Met l y_BD_limb (Cond.code y_BD_limb b_BD_limb 4 (some .long) :: zx_T) rm_BD_limb (va_Pc [.ref a1, .int a2, .int a3] (ah_B G h0)) (va_Ql (fun r9 h9 => K r9 h9 ∧ ah_m h0 h9) (ah_B G) (fun q => G.2.2 ≤ q)) (ah_X G (fun E9 h9 => Ex E9 h9 ∧ ah_m h0 h9)) 2 12 (fun q => G.2.2 ≤ q) := by
  refine vx_ofW (cc := b_BD_limb) (maxL := 4) (ret := (some .long)) (by decide) rfl ?_
  intro p e s m args below meth c s₁ B hml hout0 hv
  have htb := cx_out B (atoms_spec B.pre _ List.mem_cons_self)
  obtain ⟨rfl, hB⟩ := hv
  have C : cx_C p l s m _ meth c G y_BD_limb b_BD_limb 4 (some .long) "BigDesk" (Cond.code y_BD_limb b_BD_limb 4 (some .long) :: zx_T) [] := ⟨B.exec, B.bytes, B.returns, hml, findClass_of_methodNamed B.named, atoms_spec B.pre, cx_hd, B.notSynchronized, hB.2.2.1, hB.2.2.2, htb, fun z9 => (name_of_methodNamed B.named B.method).1.trans z9, hst⟩
  obtain ⟨hx, hb, hr, hml, hown, hts, hT, hlk, hK, hX, htb, hin, hst⟩ := id C
  have hw : ∀ {w9 : Cond}, w9 ∈ zx_T → w9.before _ s = true := fun h9 => hts _ (hT _ h9)
  have hW : ah_W G s.heap h0 s.heap [] := ⟨hB.1, hB.2.1, va_S.rf⟩
  have hm : ah_m h0 h0 := ah_m.rf
  have hcl : 0 + 2 ≤ 2 := by decide
  have hsl : 0 + 12 ≤ 12 := by decide
  have hl := lv_entry ([.ref a1, .int a2, .int a3]) (n := 4) (Nat.le_of_ble_eq_true rfl)
  rw [lg_entry_eq]
  generalize (lg_sl ([.ref a1, .int a2, .int a3]) ++ List.replicate (4 - (lg_sl ([.ref a1, .int a2, .int a3])).length) Slot.unset).toArray = ls at hl ⊢
  have hl : lv_has ls 4 [(0, .ref a1), (1, .int a2), (2, .int a3)] := hl
  unfold w_BD_limb at w
  refine lv_aload_n hx hb d_BD_limb_0 rfl (lv_at hl 0 rfl) ?_
  refine lv_iload_n hx hb d_BD_limb_1 rfl (lv_at hl 1 rfl) ?_
  obtain ⟨t4, w⟩ := w
  refine hx_r (vx_runV (As := [.int a2]) (rest := []) ⟨hx, hb, hml, hown, hts⟩ (m_BD_register G a1 a2 h0 hst w) (cwV 1 hts (zx_gV hT wd_141 wd_143 wd_s0 wd_1 wd_144) rfl rfl rfl (by decide +kernel) ⟨Nat.le_of_ble_eq_true rfl, Nat.le_of_ble_eq_true rfl⟩) (hb_preV hK hX hW t4 (by decide) rfl) rfl rfl hl.1 rfl (lv_room (Nat.le_of_ble_eq_true rfl)) d_BD_limb_2 ⟨(by show _ ≤ 2; omega), (by show _ ≤ 12; omega)⟩) hW (fun E9 ce9 q9 h9 H locs hE hW c1 c2 c3 => hx_out (Ex := fun E9 h9 => Ex E9 h9 ∧ ah_m h0 h9) (fun x9 h9 => (cx_nil htb x9 h9).elim) hlk hW c1 c2 c3 ⟨hE.1 hE.2, hm.tr hE.2⟩ (by omega) (by omega)) (fun r6 h5 H locs hk hW => ?_)
  obtain ⟨w, mm7⟩ := hk
  have w := w mm7
  have hm := hm.tr mm7
  have t8 := mm7.tg t4 (by decide)
  refine lv_astore_n (lv' := [(3, .ref r6), (0, .ref a1), (1, .int a2), (2, .int a3)]) hx hb d_BD_limb_5 rfl hl (by decide) rfl (fun ls hl => ?_)
  refine lv_iload_n hx hb d_BD_limb_6 rfl (lv_at hl 3 rfl) ?_
  refine lv_if_lt (tgt := 17) hx hb d_BD_limb_7 (by decide) (fun c9 => ?_) (fun c9 => ?_)
  · have w := w.1 c9
    exact tb_BD_limb_17 C (by omega) (by omega)   h5 _ _ _ w hm hW (lv_sub hl [] rfl)
  · have w := w.2 c9
    refine lv_iload_n hx hb d_BD_limb_10 rfl (lv_at hl 3 rfl) ?_
    refine lv_sipush (v := 255) hx hb d_BD_limb_11 (by decide) ?_
    refine lv_icmp_le (tgt := 27) hx hb d_BD_limb_14 (by decide) (fun c11 => ?_) (fun c11 => ?_)
    · have w := w.1 c11
      refine lv_aload_n hx hb d_BD_limb_27 rfl (lv_at hl 0 rfl) ?_
      refine lv_iload_n hx hb d_BD_limb_28 rfl (lv_at hl 3 rfl) ?_
      obtain ⟨t12, w⟩ := w
      refine hb_calll (va_runV (As := [.int a3]) (rest := []) ⟨hx, hb, hml, hown, hts⟩ (m_WH_at G r6 a3 h5 hst w) (cwV 1 hts (zx_gV hT wd_533 wd_344 wd_345 wd_2 wd_346) rfl rfl rfl (by decide +kernel) ⟨Nat.le_of_ble_eq_true rfl, Nat.le_of_ble_eq_true rfl⟩) (hb_preV hK hX hW t12 (by decide) rfl) rfl rfl hl.1 rfl (lv_room (Nat.le_of_ble_eq_true rfl)) d_BD_limb_29 ⟨(by show _ ≤ 2; omega), (by show _ ≤ 12; omega)⟩) hW (fun r14 h13 H locs hk hW => ?_)
      obtain ⟨w, mm15⟩ := hk
      have w := w mm15
      have hm := hm.tr mm15
      have t16 := mm15.tg t8 (by decide)
      have t17 := mm15.tg t12 (by decide)
      exact vx_ret (hb_lret (K := fun r9 h9 => K r9 h9 ∧ ah_m h0 h9) hx hb hr hlk hK hX hW ⟨w, hm⟩ (by omega) (by omega) d_BD_limb_32)
    · have w := w.2 c11
      exact tb_BD_limb_17 C (by omega) (by omega)   h5 _ _ _ w hm hW (lv_sub hl [] rfl)
set_option maxHeartbeats 4000000 in
set_option maxRecDepth 100000 in
theorem tb_BD_look_59 {p : Program} {l : Launch} {e : Env} {s : State} {m : MethodId} {args : Array Value} {below : List Frame} {meth : Method} {c : Code} {G : zG} (C : cx_C p l s m args meth c G y_BD_look b_BD_look 4 (some .int) "BigDesk" (Cond.code y_BD_look b_BD_look 4 (some .int) :: zx_T) []) {K : Int32 → ah_H → Prop} {Ex : String → ah_H → Prop} {h0 : ah_H} {cells slots : Nat} (hcl : cells + 0 ≤ 2) (hsl : slots + 0 ≤ 12)  (s13 : Int32) (h14 : ah_H) (H : Heap) (locs : List Loc) (ls : Array Slot) (w : bk_BD_look_59 K Ex s13 h14) (hm : ah_m h0 h14) (hW : ah_W G s.heap h14 H locs) (hl : lv_has ls 4 []) : W p l e rm_BD_look s m args below meth c H locs cells slots (vx_MQ below (va_Qi (fun r9 h9 => K r9 h9 ∧ ah_m h0 h9) (ah_B G) (fun q => G.2.2 ≤ q)) (ah_X G (fun E9 h9 => Ex E9 h9 ∧ ah_m h0 h9)) args s 2 12 (fun q => G.2.2 ≤ q)) (F0 m 59 ls [.int s13]) := by
  unfold bk_BD_look_59 at w
  obtain ⟨hx, hb, hr, hml, hown, hts, hT, hlk, hK, hX, htb, hin, hst⟩ := id C
  have hw : ∀ {w9 : Cond}, w9 ∈ zx_T → w9.before _ s = true := fun h9 => hts _ (hT _ h9)
  exact vx_ret (hb_iret (K := fun r9 h9 => K r9 h9 ∧ ah_m h0 h9) hx hb hr hlk hK hX hW ⟨w, hm⟩ (by omega) (by omega) d_BD_look_59)
set_option maxHeartbeats 4000000 in
set_option maxRecDepth 100000 in
theorem tb_BD_look_77 {p : Program} {l : Launch} {e : Env} {s : State} {m : MethodId} {args : Array Value} {below : List Frame} {meth : Method} {c : Code} {G : zG} (C : cx_C p l s m args meth c G y_BD_look b_BD_look 4 (some .int) "BigDesk" (Cond.code y_BD_look b_BD_look 4 (some .int) :: zx_T) []) {K : Int32 → ah_H → Prop} {Ex : String → ah_H → Prop} {h0 : ah_H} {cells slots : Nat} (hcl : cells + 0 ≤ 2) (hsl : slots + 0 ≤ 12)  (s28 : Int32) (h29 : ah_H) (H : Heap) (locs : List Loc) (ls : Array Slot) (w : bk_BD_look_77 K Ex s28 h29) (hm : ah_m h0 h29) (hW : ah_W G s.heap h29 H locs) (hl : lv_has ls 4 []) : W p l e rm_BD_look s m args below meth c H locs cells slots (vx_MQ below (va_Qi (fun r9 h9 => K r9 h9 ∧ ah_m h0 h9) (ah_B G) (fun q => G.2.2 ≤ q)) (ah_X G (fun E9 h9 => Ex E9 h9 ∧ ah_m h0 h9)) args s 2 12 (fun q => G.2.2 ≤ q)) (F0 m 77 ls [.int s28]) := by
  unfold bk_BD_look_77 at w
  obtain ⟨hx, hb, hr, hml, hown, hts, hT, hlk, hK, hX, htb, hin, hst⟩ := id C
  have hw : ∀ {w9 : Cond}, w9 ∈ zx_T → w9.before _ s = true := fun h9 => hts _ (hT _ h9)
  exact vx_ret (hb_iret (K := fun r9 h9 => K r9 h9 ∧ ah_m h0 h9) hx hb hr hlk hK hX hW ⟨w, hm⟩ (by omega) (by omega) d_BD_look_77)
set_option maxHeartbeats 4000000 in
set_option maxRecDepth 100000 in
theorem m_BD_look {l : Launch} (G : zG) (a1 : Nat) (a2 : Int32) (a3 : Int32) (h0 : ah_H) {K : Int32 → ah_H → Prop} {Ex : String → ah_H → Prop} (hst : l.stackTraces = false) (w : w_BD_look a1 a2 a3 h0 K Ex) : vx_Met l y_BD_look (Cond.code y_BD_look b_BD_look 4 (some .int) :: zx_T) rm_BD_look (va_Pc [.ref a1, .int a2, .int a3] (ah_B G h0)) (va_Qi (fun r9 h9 => K r9 h9 ∧ ah_m h0 h9) (ah_B G) (fun q => G.2.2 ≤ q)) (ah_X G (fun E9 h9 => Ex E9 h9 ∧ ah_m h0 h9)) 2 12 (fun q => G.2.2 ≤ q) := by
  refine vx_ofW (cc := b_BD_look) (maxL := 4) (ret := (some .int)) (by decide) rfl ?_
  intro p e s m args below meth c s₁ B hml hout0 hv
  have htb := cx_out B (atoms_spec B.pre _ List.mem_cons_self)
  obtain ⟨rfl, hB⟩ := hv
  have C : cx_C p l s m _ meth c G y_BD_look b_BD_look 4 (some .int) "BigDesk" (Cond.code y_BD_look b_BD_look 4 (some .int) :: zx_T) [] := ⟨B.exec, B.bytes, B.returns, hml, findClass_of_methodNamed B.named, atoms_spec B.pre, cx_hd, B.notSynchronized, hB.2.2.1, hB.2.2.2, htb, fun z9 => (name_of_methodNamed B.named B.method).1.trans z9, hst⟩
  obtain ⟨hx, hb, hr, hml, hown, hts, hT, hlk, hK, hX, htb, hin, hst⟩ := id C
  have hw : ∀ {w9 : Cond}, w9 ∈ zx_T → w9.before _ s = true := fun h9 => hts _ (hT _ h9)
  have hW : ah_W G s.heap h0 s.heap [] := ⟨hB.1, hB.2.1, va_S.rf⟩
  have hm : ah_m h0 h0 := ah_m.rf
  have hcl : 0 + 2 ≤ 2 := by decide
  have hsl : 0 + 12 ≤ 12 := by decide
  have hl := lv_entry ([.ref a1, .int a2, .int a3]) (n := 4) (Nat.le_of_ble_eq_true rfl)
  rw [lg_entry_eq]
  generalize (lg_sl ([.ref a1, .int a2, .int a3]) ++ List.replicate (4 - (lg_sl ([.ref a1, .int a2, .int a3])).length) Slot.unset).toArray = ls at hl ⊢
  have hl : lv_has ls 4 [(0, .ref a1), (1, .int a2), (2, .int a3)] := hl
  unfold w_BD_look at w
  refine lv_aload_n hx hb d_BD_look_0 rfl (lv_at hl 0 rfl) ?_
  refine lv_iload_n hx hb d_BD_look_1 rfl (lv_at hl 1 rfl) ?_
  obtain ⟨t4, w⟩ := w
  refine hx_r (vx_runV (As := [.int a2]) (rest := []) ⟨hx, hb, hml, hown, hts⟩ (m_BD_register G a1 a2 h0 hst w) (cwV 1 hts (zx_gV hT wd_141 wd_143 wd_s0 wd_1 wd_144) rfl rfl rfl (by decide +kernel) ⟨Nat.le_of_ble_eq_true rfl, Nat.le_of_ble_eq_true rfl⟩) (hb_preV hK hX hW t4 (by decide) rfl) rfl rfl hl.1 rfl (lv_room (Nat.le_of_ble_eq_true rfl)) d_BD_look_2 ⟨(by show _ ≤ 2; omega), (by show _ ≤ 12; omega)⟩) hW (fun E9 ce9 q9 h9 H locs hE hW c1 c2 c3 => hx_out (Ex := fun E9 h9 => Ex E9 h9 ∧ ah_m h0 h9) (fun x9 h9 => (cx_nil htb x9 h9).elim) hlk hW c1 c2 c3 ⟨hE.1 hE.2, hm.tr hE.2⟩ (by omega) (by omega)) (fun r6 h5 H locs hk hW => ?_)
  obtain ⟨w, mm7⟩ := hk
  have w := w mm7
  have hm := hm.tr mm7
  have t8 := mm7.tg t4 (by decide)
  refine lv_astore_n (lv' := [(3, .ref r6), (0, .ref a1), (1, .int a2), (2, .int a3)]) hx hb d_BD_look_5 rfl hl (by decide) rfl (fun ls hl => ?_)
  refine lv_iload_n hx hb d_BD_look_6 rfl (lv_at hl 3 rfl) ?_
  by_cases c9 : a3.toInt < 0 ∨ 3 < a3.toInt
  · have w := w.1 c9
    refine lv_tableOut (tgt := 83) hx hb d_BD_look_7 c9 (by decide) ?_
    exact hx_throw (Ex := fun E9 h9 => Ex E9 h9 ∧ ah_m h0 h9) hx hb hst hown hts hT hX rfl zx_rtf wd_145 wd_9 (is := 161) (text := "nothing such to look at") (by decide) zx_aIllegalArgumentException zx_gIllegalArgumentException hW (by rw [hml]; exact hl.1) d_BD_look_83 d_BD_look_86 d_BD_look_87 d_BD_look_89 d_BD_look_92 (cx_nil htb) (Nat.le_of_ble_eq_true rfl) (Nat.le_of_ble_eq_true rfl) (by show _ ≤ 2; omega) (by show _ ≤ 12; omega) hlk ⟨w, hm⟩ (by omega) (by omega)
  · have w := w.2
    rcases (show a3.toInt = 0 ∨ a3.toInt = 1 ∨ a3.toInt = 2 ∨ a3.toInt = 3 by omega) with c9a | c9a | c9a | c9a
    · have w := w.1 c9a
      refine lv_tableIn (tgt := 36) hx hb d_BD_look_7 (by omega) (by omega) (by rw [c9a]; rfl) (by decide) ?_
      refine lv_aload_n hx hb d_BD_look_36 rfl (lv_at hl 0 rfl) ?_
      obtain ⟨t10, w⟩ := w
      refine hb_get (ci := 2) (C := "BigDesk$Whole") (T := T_WH) (N := 3) hx hb hts (fun w9 h9 => hT w9 (u_WH w9 h9)) hown hK hW t10 rfl (by decide) 2 (by decide) (hw wd_47) (fun _ h9 => h9) (q := (0, 1)) rfl (v := .int (ah_I h5 1 r6)) rfl d_BD_look_37 ?_
      refine lv_if_eq (tgt := 47) hx hb d_BD_look_40 (by decide) (fun c11 => ?_) (fun c11 => ?_)
      · have w := w.1 c11
        refine lv_aload_n hx hb d_BD_look_47 rfl (lv_at hl 0 rfl) ?_
        refine hb_get (ci := 2) (C := "BigDesk$Whole") (T := T_WH) (N := 3) hx hb hts (fun w9 h9 => hT w9 (u_WH w9 h9)) hown hK hW t10 rfl (by decide) 1 (by decide) (hw wd_42) (fun _ h9 => h9) (q := (0, 0)) rfl (v := .int (ah_I h5 0 r6)) rfl d_BD_look_48 ?_
        refine lv_if_le (tgt := 58) hx hb d_BD_look_51 (by decide) (fun c12 => ?_) (fun c12 => ?_)
        · have w := w.1 c12
          refine lv_iconst (v := 0) hx hb d_BD_look_58 (by decide) ?_
          exact tb_BD_look_59 C (by omega) (by omega)  (0 : Int32) h5 _ _ _ w hm hW (lv_sub hl [] rfl)
        · have w := w.2 c12
          refine lv_iconst (v := 1) hx hb d_BD_look_54 (by decide) ?_
          refine lv_goto (tgt := 59) hx hb d_BD_look_55 (by decide) ?_
          exact tb_BD_look_59 C (by omega) (by omega)  (1 : Int32) h5 _ _ _ w hm hW (lv_sub hl [] rfl)
      · have w := w.2 c11
        refine lv_iconst (v := -1) hx hb d_BD_look_43 (by decide) ?_
        refine lv_goto (tgt := 59) hx hb d_BD_look_44 (by decide) ?_
        exact tb_BD_look_59 C (by omega) (by omega)  (-1 : Int32) h5 _ _ _ w hm hW (lv_sub hl [] rfl)
    · have w := w.2.1 c9a
      refine lv_tableIn (tgt := 60) hx hb d_BD_look_7 (by omega) (by omega) (by rw [c9a]; rfl) (by decide) ?_
      refine lv_aload_n hx hb d_BD_look_60 rfl (lv_at hl 0 rfl) ?_
      obtain ⟨t15, w⟩ := w
      refine hb_calli (va_runV (As := []) (rest := []) ⟨hx, hb, hml, hown, hts⟩ (m_WH_bits G r6 h5 hst w) (cwV 0 hts (zx_gV hT wd_273 wd_274 wd_275 wd_2 wd_276) rfl rfl rfl (by decide +kernel) ⟨Nat.le_of_ble_eq_true rfl, Nat.le_of_ble_eq_true rfl⟩) (hb_preV hK hX hW t15 (by decide) rfl) rfl rfl hl.1 rfl (lv_room (Nat.le_of_ble_eq_true rfl)) d_BD_look_61 ⟨(by show _ ≤ 2; omega), (by show _ ≤ 12; omega)⟩) hW (fun r17 h16 H locs hk hW => ?_)
      obtain ⟨w, mm18⟩ := hk
      have w := w mm18
      have hm := hm.tr mm18
      have t19 := mm18.tg t8 (by decide)
      have t20 := mm18.tg t15 (by decide)
      exact vx_ret (hb_iret (K := fun r9 h9 => K r9 h9 ∧ ah_m h0 h9) hx hb hr hlk hK hX hW ⟨w, hm⟩ (by omega) (by omega) d_BD_look_64)
    · have w := w.2.2.1 c9a
      refine lv_tableIn (tgt := 65) hx hb d_BD_look_7 (by omega) (by omega) (by rw [c9a]; rfl) (by decide) ?_
      refine lv_aload_n hx hb d_BD_look_65 rfl (lv_at hl 0 rfl) ?_
      obtain ⟨t21, w⟩ := w
      refine hb_calli (va_runV (As := []) (rest := []) ⟨hx, hb, hml, hown, hts⟩ (m_WH_isLong G r6 h5 hst w) (cwV 0 hts (zx_gV hT wd_519 wd_520 wd_521 wd_2 wd_522) rfl rfl rfl (by decide +kernel) ⟨Nat.le_of_ble_eq_true rfl, Nat.le_of_ble_eq_true rfl⟩) (hb_preV hK hX hW t21 (by decide) rfl) rfl rfl hl.1 rfl (lv_room (Nat.le_of_ble_eq_true rfl)) d_BD_look_66 ⟨(by show _ ≤ 2; omega), (by show _ ≤ 12; omega)⟩) hW (fun r23 h22 H locs hk hW => ?_)
      obtain ⟨w, mm24⟩ := hk
      have w := w mm24
      have hm := hm.tr mm24
      have t25 := mm24.tg t8 (by decide)
      have t26 := mm24.tg t21 (by decide)
      refine lv_if_eq (tgt := 76) hx hb d_BD_look_69 (by decide) (fun c27 => ?_) (fun c27 => ?_)
      · have w := w.1 c27
        refine lv_iconst (v := 0) hx hb d_BD_look_76 (by decide) ?_
        exact tb_BD_look_77 C (by omega) (by omega)  (0 : Int32) h22 _ _ _ w hm hW (lv_sub hl [] rfl)
      · have w := w.2 c27
        refine lv_iconst (v := 1) hx hb d_BD_look_72 (by decide) ?_
        refine lv_goto (tgt := 77) hx hb d_BD_look_73 (by decide) ?_
        exact tb_BD_look_77 C (by omega) (by omega)  (1 : Int32) h22 _ _ _ w hm hW (lv_sub hl [] rfl)
    · have w := w.2.2.2 c9a
      refine lv_tableIn (tgt := 78) hx hb d_BD_look_7 (by omega) (by omega) (by rw [c9a]; rfl) (by decide) ?_
      refine lv_aload_n hx hb d_BD_look_78 rfl (lv_at hl 0 rfl) ?_
      obtain ⟨t30, w⟩ := w
      refine hb_calli (va_runV (As := []) (rest := []) ⟨hx, hb, hml, hown, hts⟩ (m_WH_endingZeros G r6 h5 hst w) (cwV 0 hts (zx_gV hT wd_360 wd_361 wd_362 wd_2 wd_363) rfl rfl rfl (by decide +kernel) ⟨Nat.le_of_ble_eq_true rfl, Nat.le_of_ble_eq_true rfl⟩) (hb_preV hK hX hW t30 (by decide) rfl) rfl rfl hl.1 rfl (lv_room (Nat.le_of_ble_eq_true rfl)) d_BD_look_79 ⟨(by show _ ≤ 2; omega), (by show _ ≤ 12; omega)⟩) hW (fun r32 h31 H locs hk hW => ?_)
      obtain ⟨w, mm33⟩ := hk
      have w := w mm33
      have hm := hm.tr mm33
      have t34 := mm33.tg t8 (by decide)
      have t35 := mm33.tg t30 (by decide)
      exact vx_ret (hb_iret (K := fun r9 h9 => K r9 h9 ∧ ah_m h0 h9) hx hb hr hlk hK hX hW ⟨w, hm⟩ (by omega) (by omega) d_BD_look_82)
set_option maxHeartbeats 4000000 in
set_option maxRecDepth 100000 in
theorem tb_BD_feed_11 {p : Program} {l : Launch} {e : Env} {s : State} {m : MethodId} {args : Array Value} {below : List Frame} {meth : Method} {c : Code} {G : zG} (C : cx_C p l s m args meth c G y_BD_feed b_BD_feed 5 (some .int) "BigDesk" (Cond.code y_BD_feed b_BD_feed 5 (some .int) :: zx_T) []) {K : Int32 → ah_H → Prop} {Ex : String → ah_H → Prop} {h0 : ah_H} {cells slots : Nat} (hcl : cells + 1 ≤ 1) (hsl : slots + 6 ≤ 6)   (h5 : ah_H) (H : Heap) (locs : List Loc) (ls : Array Slot) (w : bk_BD_feed_11 K Ex h5) (hm : ah_m h0 h5) (hW : ah_W G s.heap h5 H locs) (hl : lv_has ls 5 []) : W p l e rm_BD_feed s m args below meth c H locs cells slots (vx_MQ below (va_Qi (fun r9 h9 => K r9 h9 ∧ ah_m h0 h9) (ah_B G) (fun q => G.2.2 ≤ q)) (ah_X G (fun E9 h9 => Ex E9 h9 ∧ ah_m h0 h9)) args s 1 6 (fun q => G.2.2 ≤ q)) (F0 m 11 ls []) := by
  unfold bk_BD_feed_11 at w
  obtain ⟨hx, hb, hr, hml, hown, hts, hT, hlk, hK, hX, htb, hin, hst⟩ := id C
  have hw : ∀ {w9 : Cond}, w9 ∈ zx_T → w9.before _ s = true := fun h9 => hts _ (hT _ h9)
  exact hx_throw (Ex := fun E9 h9 => Ex E9 h9 ∧ ah_m h0 h9) hx hb hst hown hts hT hX rfl zx_rtf wd_145 wd_9 (is := 163) (text := "not 1 to 8 bytes") (by decide) zx_aIllegalArgumentException zx_gIllegalArgumentException hW (by rw [hml]; exact hl.1) d_BD_feed_11 d_BD_feed_14 d_BD_feed_15 d_BD_feed_17 d_BD_feed_20 (cx_nil htb) (Nat.le_of_ble_eq_true rfl) (Nat.le_of_ble_eq_true rfl) (by show _ ≤ 1; omega) (by show _ ≤ 6; omega) hlk ⟨w, hm⟩ (by omega) (by omega)
set_option maxHeartbeats 4000000 in
set_option maxRecDepth 100000 in
theorem tl_BD_feed_46 {p : Program} {l : Launch} {e : Env} {s : State} {m : MethodId} {args : Array Value} {below : List Frame} {meth : Method} {c : Code} {G : zG} (C : cx_C p l s m args meth c G y_BD_feed b_BD_feed 5 (some .int) "BigDesk" (Cond.code y_BD_feed b_BD_feed 5 (some .int) :: zx_T) []) {K : Int32 → ah_H → Prop} {Ex : String → ah_H → Prop} {h0 : ah_H} {cells slots : Nat} (hcl : cells + 0 ≤ 1) (hsl : slots + 0 ≤ 6) {xt_79 : Nat → Int32 → ah_H → Prop} (hc_xt_79 : ∀ (z0 : Nat) (z1 : Int32) (hz : ah_H) (H : Heap) (locs : List Loc) (ls : Array Slot), xt_79 z0 z1 hz → ah_m h0 hz → ah_W G s.heap hz H locs → lv_has ls 5 [(0, .ref z0), (1, .int z1)] → W p l e rm_BD_feed s m args below meth c H locs cells slots (vx_MQ below (va_Qi (fun r9 h9 => K r9 h9 ∧ ah_m h0 h9) (ah_B G) (fun q => G.2.2 ≤ q)) (ah_X G (fun E9 h9 => Ex E9 h9 ∧ ah_m h0 h9)) args s 1 6 (fun q => G.2.2 ≤ q)) (F0 m 79 ls [])) : ∀ (n : Nat) (x9 : Nat) (x10 : Int32) (x11 : Int64) (x12 : Int32) (h13 : ah_H) (H : Heap) (locs : List Loc) (ls : Array Slot), lp_BD_feed_46 xt_79 K Ex n x9 x10 x11 x12 h13 → ah_m h0 h13 → ah_W G s.heap h13 H locs → lv_has ls 5 [(0, .ref x9), (1, .int x10), (2, .long x11), (4, .int x12)] → W p l e rm_BD_feed s m args below meth c H locs cells slots (vx_MQ below (va_Qi (fun r9 h9 => K r9 h9 ∧ ah_m h0 h9) (ah_B G) (fun q => G.2.2 ≤ q)) (ah_X G (fun E9 h9 => Ex E9 h9 ∧ ah_m h0 h9)) args s 1 6 (fun q => G.2.2 ≤ q)) (F0 m 46 ls []) := by
  obtain ⟨hx, hb, hr, hml, hown, hts, hT, hlk, hK, hX, htb, hin, hst⟩ := id C
  have hw : ∀ {w9 : Cond}, w9 ∈ zx_T → w9.before _ s = true := fun h9 => hts _ (hT _ h9)
  intro n
  induction n with
  | zero =>
    intro x9 x10 x11 x12 h13 H locs ls w
    exact absurd w (by intro z9; exact z9)
  | succ n ih =>
    intro x9 x10 x11 x12 h13 H locs ls w hm hW hl
    unfold lp_BD_feed_46 at w
    refine lv_iload hx hb d_BD_feed_46 (lv_at hl 3 rfl) ?_
    refine lv_iload_n hx hb d_BD_feed_48 rfl (lv_at hl 1 rfl) ?_
    refine lv_icmp_ge (tgt := 79) hx hb d_BD_feed_49 (by decide) (fun c14 => ?_) (fun c14 => ?_)
    · have w := w.1 c14
      exact hc_xt_79 x9 x10 h13 _ _ _ w hm hW (lv_sub hl [0, 1] rfl)
    · have w := w.2 c14
      refine lv_aload_n hx hb d_BD_feed_52 rfl (lv_at hl 0 rfl) ?_
      obtain ⟨t15, w⟩ := w
      obtain ⟨q16, e17, w⟩ := w
      refine hb_get (ci := 3) (C := "BigDesk") (T := T_BD) (N := 9) hx hb hts (fun w9 h9 => hT w9 (u_BD w9 h9)) hown hK hW t15 rfl (by decide) 5 (by decide) (hw wd_109) (fun _ h9 => h9) (q := (2, 11)) rfl (v := .ref q16) (ah_f_R e17) d_BD_feed_53 ?_
      refine lv_aload_n hx hb d_BD_feed_56 rfl (lv_at hl 0 rfl) ?_
      refine hb_get (ci := 3) (C := "BigDesk") (T := T_BD) (N := 9) hx hb hts (fun w9 h9 => hT w9 (u_BD w9 h9)) hown hK hW t15 rfl (by decide) 6 (by decide) (hw wd_110) (fun _ h9 => h9) (q := (0, 2)) rfl (v := .int (ah_I h13 2 x9)) rfl d_BD_feed_57 ?_
      refine lv_iload hx hb d_BD_feed_60 (lv_at hl 3 rfl) ?_
      refine lv_iadd hx hb d_BD_feed_62 ?_
      refine lv_lload_n hx hb d_BD_feed_63 rfl (lv_at hl 2 rfl) ?_
      refine lv_bipush (v := 8) hx hb d_BD_feed_64 (by decide) ?_
      refine lv_iload hx hb d_BD_feed_66 (lv_at hl 3 rfl) ?_
      refine lv_imul hx hb d_BD_feed_68 ?_
      refine lv_lushr hx hb d_BD_feed_69 rfl ?_
      refine lv_l2i hx hb d_BD_feed_70 rfl ?_
      refine lv_i2b hx hb d_BD_feed_71 rfl ?_
      refine lv_topi (fun v18 ev18 => ?_)
      have w := w v18 ev18
      obtain ⟨t19, w⟩ := w
      obtain ⟨i20, w⟩ := w
      refine hb_bast hx hb hK hW t19 (by decide) (by decide) 1 rfl i20 d_BD_feed_72 (fun H locs h21 eh21 hW => ?_)
      have w := w h21 eh21
      have mm22 : ah_m h13 h21 := ah_m.rf.st (by rw [eh21]; rfl) (by rw [eh21]; rfl)
      have hm := hm.tr mm22
      have t23 := mm22.tg t15 (by decide)
      have t24 := mm22.tg t19 (by decide)
      obtain ⟨v25, ev25⟩ : ∃ y9 : Int32, y9 = x12 + 1 := ⟨_, rfl⟩
      have w := w v25 ev25
      refine lv_iinc (v := v25) (lv' := [(4, .int v25), (0, .ref x9), (1, .int x10), (2, .long x11)]) hx hb d_BD_feed_73 hl (k := 3) rfl (by rw [ev25]; rfl) (by decide) rfl (fun ls hl => ?_)
      refine lv_goto (tgt := 46) hx hb d_BD_feed_76 (by decide) ?_
      exact ih x9 x10 x11 v25 h21 _ _ _ w hm hW (lv_sub hl [1, 2, 3, 0] rfl)
set_option maxHeartbeats 4000000 in
set_option maxRecDepth 100000 in
theorem m_BD_feed {l : Launch} (G : zG) (a1 : Nat) (a2 : Int32) (a3 : Int64) (h0 : ah_H) {K : Int32 → ah_H → Prop} {Ex : String → ah_H → Prop} (hst : l.stackTraces = false) (w : w_BD_feed a1 a2 a3 h0 K Ex) : vx_Met l y_BD_feed (Cond.code y_BD_feed b_BD_feed 5 (some .int) :: zx_T) rm_BD_feed (va_Pc [.ref a1, .int a2, .long a3] (ah_B G h0)) (va_Qi (fun r9 h9 => K r9 h9 ∧ ah_m h0 h9) (ah_B G) (fun q => G.2.2 ≤ q)) (ah_X G (fun E9 h9 => Ex E9 h9 ∧ ah_m h0 h9)) 1 6 (fun q => G.2.2 ≤ q) := by
  refine vx_ofW (cc := b_BD_feed) (maxL := 5) (ret := (some .int)) (by decide) rfl ?_
  intro p e s m args below meth c s₁ B hml hout0 hv
  have htb := cx_out B (atoms_spec B.pre _ List.mem_cons_self)
  obtain ⟨rfl, hB⟩ := hv
  have C : cx_C p l s m _ meth c G y_BD_feed b_BD_feed 5 (some .int) "BigDesk" (Cond.code y_BD_feed b_BD_feed 5 (some .int) :: zx_T) [] := ⟨B.exec, B.bytes, B.returns, hml, findClass_of_methodNamed B.named, atoms_spec B.pre, cx_hd, B.notSynchronized, hB.2.2.1, hB.2.2.2, htb, fun z9 => (name_of_methodNamed B.named B.method).1.trans z9, hst⟩
  obtain ⟨hx, hb, hr, hml, hown, hts, hT, hlk, hK, hX, htb, hin, hst⟩ := id C
  have hw : ∀ {w9 : Cond}, w9 ∈ zx_T → w9.before _ s = true := fun h9 => hts _ (hT _ h9)
  have hW : ah_W G s.heap h0 s.heap [] := ⟨hB.1, hB.2.1, va_S.rf⟩
  have hm : ah_m h0 h0 := ah_m.rf
  have hcl : 0 + 1 ≤ 1 := by decide
  have hsl : 0 + 6 ≤ 6 := by decide
  have hl := lv_entry ([.ref a1, .int a2, .long a3]) (n := 5) (Nat.le_of_ble_eq_true rfl)
  rw [lg_entry_eq]
  generalize (lg_sl ([.ref a1, .int a2, .long a3]) ++ List.replicate (5 - (lg_sl ([.ref a1, .int a2, .long a3])).length) Slot.unset).toArray = ls at hl ⊢
  have hl : lv_has ls 5 [(0, .ref a1), (1, .int a2), (2, .long a3)] := hl
  unfold w_BD_feed at w
  refine lv_iload_n hx hb d_BD_feed_0 rfl (lv_at hl 1 rfl) ?_
  refine lv_iconst (v := 1) hx hb d_BD_feed_1 (by decide) ?_
  refine lv_icmp_lt (tgt := 11) hx hb d_BD_feed_2 (by decide) (fun c4 => ?_) (fun c4 => ?_)
  · have w := w.1 c4
    exact tb_BD_feed_11 C (by omega) (by omega)   h0 _ _ _ w hm hW (lv_sub hl [] rfl)
  · have w := w.2 c4
    refine lv_iload_n hx hb d_BD_feed_5 rfl (lv_at hl 1 rfl) ?_
    refine lv_bipush (v := 8) hx hb d_BD_feed_6 (by decide) ?_
    refine lv_icmp_le (tgt := 21) hx hb d_BD_feed_8 (by decide) (fun c6 => ?_) (fun c6 => ?_)
    · have w := w.1 c6
      refine lv_aload_n hx hb d_BD_feed_21 rfl (lv_at hl 0 rfl) ?_
      obtain ⟨t7, w⟩ := w
      refine hb_get (ci := 3) (C := "BigDesk") (T := T_BD) (N := 9) hx hb hts (fun w9 h9 => hT w9 (u_BD w9 h9)) hown hK hW t7 rfl (by decide) 6 (by decide) (hw wd_110) (fun _ h9 => h9) (q := (0, 2)) rfl (v := .int (ah_I h0 2 a1)) rfl d_BD_feed_22 ?_
      refine lv_iload_n hx hb d_BD_feed_25 rfl (lv_at hl 1 rfl) ?_
      refine lv_iadd hx hb d_BD_feed_26 ?_
      refine lv_sipush (v := 2600) hx hb d_BD_feed_27 (by decide) ?_
      refine lv_icmp_le (tgt := 43) hx hb d_BD_feed_30 (by decide) (fun c8 => ?_) (fun c8 => ?_)
      · have w := w.1 c8
        refine lv_iconst (v := 0) hx hb d_BD_feed_43 (by decide) ?_
        refine lv_istore (lv' := [(4, .int (0 : Int32)), (0, .ref a1), (1, .int a2), (2, .long a3)]) hx hb d_BD_feed_44 hl (by decide) rfl (fun ls hl => ?_)
        obtain ⟨k34, w⟩ := w
        refine tl_BD_feed_46 C (by omega) (by omega) (fun x26 x27 h28 H locs ls w hm hW hl => ?_) k34 a1 a2 a3 (0 : Int32) h0 _ _ _ w hm hW (lv_sub hl [1, 2, 3, 0] rfl)
        · refine lv_aload_n hx hb d_BD_feed_79 rfl (lv_at hl 0 rfl) ?_
          refine lv_dup hx hb d_BD_feed_80 rfl ?_
          obtain ⟨t29, w⟩ := w
          refine hb_get (ci := 3) (C := "BigDesk") (T := T_BD) (N := 9) hx hb hts (fun w9 h9 => hT w9 (u_BD w9 h9)) hown hK hW t29 rfl (by decide) 6 (by decide) (hw wd_110) (fun _ h9 => h9) (q := (0, 2)) rfl (v := .int (ah_I h28 2 x26)) rfl d_BD_feed_81 ?_
          refine lv_iload_n hx hb d_BD_feed_84 rfl (lv_at hl 1 rfl) ?_
          refine lv_iadd hx hb d_BD_feed_85 ?_
          refine lv_topi (fun v30 ev30 => ?_)
          have w := w v30 ev30
          refine hb_put (ci := 3) (C := "BigDesk") (T := T_BD) (N := 9) hx hb hts (fun w9 h9 => hT w9 (u_BD w9 h9)) t_BD o_BD n_BD hown hK hW t29 rfl (by decide) 6 (by decide) (hw wd_110) (fun _ h9 => h9) rfl (ty := t_BD 6) (by decide +kernel) (q := (0, 2)) rfl (by decide) (v := .int v30) rfl rfl (ah_one_I h28 2 x26 v30) d_BD_feed_86 (fun H locs h31 eh31 hW => ?_)
          have w := w h31 eh31
          have mm32 : ah_m h28 h31 := ah_m.rf.st (by rw [eh31]; rfl) (by rw [eh31]; rfl)
          have hm := hm.tr mm32
          have t33 := mm32.tg t29 (by decide)
          refine lv_aload_n hx hb d_BD_feed_89 rfl (lv_at hl 0 rfl) ?_
          refine hb_get (ci := 3) (C := "BigDesk") (T := T_BD) (N := 9) hx hb hts (fun w9 h9 => hT w9 (u_BD w9 h9)) hown hK hW t33 rfl (by decide) 6 (by decide) (hw wd_110) (fun _ h9 => h9) (q := (0, 2)) rfl (v := .int (ah_I h31 2 x26)) rfl d_BD_feed_90 ?_
          exact vx_ret (hb_iret (K := fun r9 h9 => K r9 h9 ∧ ah_m h0 h9) hx hb hr hlk hK hX hW ⟨w, hm⟩ (by omega) (by omega) d_BD_feed_93)
      · have w := w.2 c8
        exact hx_throw (Ex := fun E9 h9 => Ex E9 h9 ∧ ah_m h0 h9) hx hb hst hown hts hT hX rfl zx_rtf wd_280 wd_13 (is := 165) (text := "the tape is full") (by decide) zx_aIllegalStateException zx_gIllegalStateException hW (by rw [hml]; exact hl.1) d_BD_feed_33 d_BD_feed_36 d_BD_feed_37 d_BD_feed_39 d_BD_feed_42 (cx_nil htb) (Nat.le_of_ble_eq_true rfl) (Nat.le_of_ble_eq_true rfl) (by show _ ≤ 1; omega) (by show _ ≤ 6; omega) hlk ⟨w, hm⟩ (by omega) (by omega)
    · have w := w.2 c6
      exact tb_BD_feed_11 C (by omega) (by omega)   h0 _ _ _ w hm hW (lv_sub hl [] rfl)
set_option maxHeartbeats 4000000 in
set_option maxRecDepth 100000 in
theorem tb_BD_read_44 {p : Program} {l : Launch} {e : Env} {s : State} {m : MethodId} {args : Array Value} {below : List Frame} {meth : Method} {c : Code} {G : zG} (C : cx_C p l s m args meth c G y_BD_read b_BD_read 4 (some .boolean) "BigDesk" (Cond.code y_BD_read b_BD_read 4 (some .boolean) :: zx_T) []) {K : Int32 → ah_H → Prop} {Ex : String → ah_H → Prop} {h0 : ah_H} {cells slots : Nat} (hcl : cells + 0 ≤ 1) (hsl : slots + 0 ≤ 6)   (h21 : ah_H) (H : Heap) (locs : List Loc) (ls : Array Slot) (w : bk_BD_read_44 K Ex h21) (hm : ah_m h0 h21) (hW : ah_W G s.heap h21 H locs) (hl : lv_has ls 4 []) : W p l e rm_BD_read s m args below meth c H locs cells slots (vx_MQ below (va_Qi (fun r9 h9 => K r9 h9 ∧ ah_m h0 h9) (ah_B G) (fun q => G.2.2 ≤ q)) (ah_X G (fun E9 h9 => Ex E9 h9 ∧ ah_m h0 h9)) args s 1 6 (fun q => G.2.2 ≤ q)) (F0 m 44 ls []) := by
  unfold bk_BD_read_44 at w
  obtain ⟨hx, hb, hr, hml, hown, hts, hT, hlk, hK, hX, htb, hin, hst⟩ := id C
  have hw : ∀ {w9 : Cond}, w9 ∈ zx_T → w9.before _ s = true := fun h9 => hts _ (hT _ h9)
  refine lv_iconst (v := 0) hx hb d_BD_read_44 (by decide) ?_
  exact vx_ret (hb_zret (K := fun r9 h9 => K r9 h9 ∧ ah_m h0 h9) hx hb hr hlk (by decide) hK hX hW ⟨w, hm⟩ (by omega) (by omega) d_BD_read_45)
set_option maxHeartbeats 4000000 in
set_option maxRecDepth 100000 in
theorem m_BD_read {l : Launch} (G : zG) (a1 : Nat) (a2 : Int32) (h0 : ah_H) {K : Int32 → ah_H → Prop} {Ex : String → ah_H → Prop} (hst : l.stackTraces = false) (w : w_BD_read a1 a2 h0 K Ex) : vx_Met l y_BD_read (Cond.code y_BD_read b_BD_read 4 (some .boolean) :: zx_T) rm_BD_read (va_Pc [.ref a1, .int a2] (ah_B G h0)) (va_Qi (fun r9 h9 => K r9 h9 ∧ ah_m h0 h9) (ah_B G) (fun q => G.2.2 ≤ q)) (ah_X G (fun E9 h9 => Ex E9 h9 ∧ ah_m h0 h9)) 1 6 (fun q => G.2.2 ≤ q) := by
  refine vx_ofW (cc := b_BD_read) (maxL := 4) (ret := (some .boolean)) (by decide) rfl ?_
  intro p e s m args below meth c s₁ B hml hout0 hv
  have htb := cx_out B (atoms_spec B.pre _ List.mem_cons_self)
  obtain ⟨rfl, hB⟩ := hv
  have C : cx_C p l s m _ meth c G y_BD_read b_BD_read 4 (some .boolean) "BigDesk" (Cond.code y_BD_read b_BD_read 4 (some .boolean) :: zx_T) [] := ⟨B.exec, B.bytes, B.returns, hml, findClass_of_methodNamed B.named, atoms_spec B.pre, cx_hd, B.notSynchronized, hB.2.2.1, hB.2.2.2, htb, fun z9 => (name_of_methodNamed B.named B.method).1.trans z9, hst⟩
  obtain ⟨hx, hb, hr, hml, hown, hts, hT, hlk, hK, hX, htb, hin, hst⟩ := id C
  have hw : ∀ {w9 : Cond}, w9 ∈ zx_T → w9.before _ s = true := fun h9 => hts _ (hT _ h9)
  have hW : ah_W G s.heap h0 s.heap [] := ⟨hB.1, hB.2.1, va_S.rf⟩
  have hm : ah_m h0 h0 := ah_m.rf
  have hcl : 0 + 1 ≤ 1 := by decide
  have hsl : 0 + 6 ≤ 6 := by decide
  have hl := lv_entry ([.ref a1, .int a2]) (n := 4) (Nat.le_of_ble_eq_true rfl)
  rw [lg_entry_eq]
  generalize (lg_sl ([.ref a1, .int a2]) ++ List.replicate (4 - (lg_sl ([.ref a1, .int a2])).length) Slot.unset).toArray = ls at hl ⊢
  have hl : lv_has ls 4 [(0, .ref a1), (1, .int a2)] := hl
  unfold w_BD_read at w
  refine lv_aload_n hx hb d_BD_read_0 rfl (lv_at hl 0 rfl) ?_
  refine lv_iload_n hx hb d_BD_read_1 rfl (lv_at hl 1 rfl) ?_
  obtain ⟨t3, w⟩ := w
  refine hx_r (vx_runV (As := [.int a2]) (rest := []) ⟨hx, hb, hml, hown, hts⟩ (m_BD_register G a1 a2 h0 hst w) (cwV 1 hts (zx_gV hT wd_141 wd_143 wd_s0 wd_1 wd_144) rfl rfl rfl (by decide +kernel) ⟨Nat.le_of_ble_eq_true rfl, Nat.le_of_ble_eq_true rfl⟩) (hb_preV hK hX hW t3 (by decide) rfl) rfl rfl hl.1 rfl (lv_room (Nat.le_of_ble_eq_true rfl)) d_BD_read_2 ⟨(by show _ ≤ 1; omega), (by show _ ≤ 6; omega)⟩) hW (fun E9 ce9 q9 h9 H locs hE hW c1 c2 c3 => hx_out (Ex := fun E9 h9 => Ex E9 h9 ∧ ah_m h0 h9) (fun x9 h9 => (cx_nil htb x9 h9).elim) hlk hW c1 c2 c3 ⟨hE.1 hE.2, hm.tr hE.2⟩ (by omega) (by omega)) (fun r5 h4 H locs hk hW => ?_)
  obtain ⟨w, mm6⟩ := hk
  have w := w mm6
  have hm := hm.tr mm6
  have t7 := mm6.tg t3 (by decide)
  refine lv_astore_n (lv' := [(2, .ref r5), (0, .ref a1), (1, .int a2)]) hx hb d_BD_read_5 rfl hl (by decide) rfl (fun ls hl => ?_)
  refine lv_aload_n hx hb d_BD_read_6 rfl (lv_at hl 1 rfl) ?_
  refine hb_get (ci := 3) (C := "BigDesk") (T := T_BD) (N := 9) hx hb hts (fun w9 h9 => hT w9 (u_BD w9 h9)) hown hK hW t7 rfl (by decide) 6 (by decide) (hw wd_110) (fun _ h9 => h9) (q := (0, 2)) rfl (v := .int (ah_I h4 2 a1)) rfl d_BD_read_7 ?_
  refine lv_topi (fun v8 ev8 => ?_)
  have w := w v8 ev8
  refine lv_istore_n (lv' := [(3, .int v8), (2, .ref r5), (0, .ref a1), (1, .int a2)]) hx hb d_BD_read_10 rfl hl (by decide) rfl (fun ls hl => ?_)
  refine lv_aload_n hx hb d_BD_read_11 rfl (lv_at hl 2 rfl) ?_
  refine lv_iconst (v := 0) hx hb d_BD_read_12 (by decide) ?_
  refine hb_put (ci := 3) (C := "BigDesk") (T := T_BD) (N := 9) hx hb hts (fun w9 h9 => hT w9 (u_BD w9 h9)) t_BD o_BD n_BD hown hK hW t7 rfl (by decide) 6 (by decide) (hw wd_110) (fun _ h9 => h9) rfl (ty := t_BD 6) (by decide +kernel) (q := (0, 2)) rfl (by decide) (v := .int (0 : Int32)) rfl rfl (ah_one_I h4 2 a1 (0 : Int32)) d_BD_read_13 (fun H locs h9 eh9 hW => ?_)
  have w := w h9 eh9
  have mm10 : ah_m h4 h9 := ah_m.rf.st (by rw [eh9]; rfl) (by rw [eh9]; rfl)
  have hm := hm.tr mm10
  have t11 := mm10.tg t7 (by decide)
  refine lv_aload_n hx hb d_BD_read_16 rfl (lv_at hl 2 rfl) ?_
  obtain ⟨q12, e13, w⟩ := w
  refine hb_get (ci := 3) (C := "BigDesk") (T := T_BD) (N := 9) hx hb hts (fun w9 h9 => hT w9 (u_BD w9 h9)) hown hK hW t11 rfl (by decide) 1 (by decide) (hw wd_105) (fun _ h9 => h9) (q := (2, 7)) rfl (v := .ref q12) (ah_f_R e13) d_BD_read_17 ?_
  refine lv_aload_n hx hb d_BD_read_20 rfl (lv_at hl 2 rfl) ?_
  obtain ⟨q14, e15, w⟩ := w
  refine hb_get (ci := 3) (C := "BigDesk") (T := T_BD) (N := 9) hx hb hts (fun w9 h9 => hT w9 (u_BD w9 h9)) hown hK hW t11 rfl (by decide) 5 (by decide) (hw wd_109) (fun _ h9 => h9) (q := (2, 11)) rfl (v := .ref q14) (ah_f_R e15) d_BD_read_21 ?_
  refine lv_iload_n hx hb d_BD_read_24 rfl (lv_at hl 0 rfl) ?_
  refine hb_calli (va_runS (As := [.ref q12, .ref q14, .int v8]) (rest := []) ⟨hx, hb, hml, hown, hts⟩ (m_TX_numberOf G q12 q14 v8 h9 hst w) (va_cwS 3 hts (zx_gS hT wd_558 wd_559 wd_16 wd_560) rfl rfl rfl (by decide +kernel) ⟨Nat.le_of_ble_eq_true rfl, Nat.le_of_ble_eq_true rfl⟩) (hb_preS hK hX hW) rfl rfl hl.1 rfl (lv_room (Nat.le_of_ble_eq_true rfl)) d_BD_read_25 ⟨(by show _ ≤ 1; omega), (by show _ ≤ 6; omega)⟩) hW (fun r17 h16 H locs hk hW => ?_)
  obtain ⟨w, mm18⟩ := hk
  have w := w mm18
  have hm := hm.tr mm18
  have t19 := mm18.tg t11 (by decide)
  refine lv_if_eq (tgt := 44) hx hb d_BD_read_28 (by decide) (fun c20 => ?_) (fun c20 => ?_)
  · have w := w.1 c20
    exact tb_BD_read_44 C (by omega) (by omega)   h16 _ _ _ w hm hW (lv_sub hl [] rfl)
  · have w := w.2 c20
    refine lv_aload_n hx hb d_BD_read_31 rfl (lv_at hl 2 rfl) ?_
    obtain ⟨q22, e23, w⟩ := w
    refine hb_get (ci := 3) (C := "BigDesk") (T := T_BD) (N := 9) hx hb hts (fun w9 h9 => hT w9 (u_BD w9 h9)) hown hK hW t19 rfl (by decide) 1 (by decide) (hw wd_105) (fun _ h9 => h9) (q := (2, 7)) rfl (v := .ref q22) (ah_f_R e23) d_BD_read_32 ?_
    obtain ⟨t24, w⟩ := w
    refine hb_calli (va_runV (As := []) (rest := []) ⟨hx, hb, hml, hown, hts⟩ (m_WH_bits G q22 h16 hst w) (cwV 0 hts (zx_gV hT wd_273 wd_274 wd_275 wd_2 wd_276) rfl rfl rfl (by decide +kernel) ⟨Nat.le_of_ble_eq_true rfl, Nat.le_of_ble_eq_true rfl⟩) (hb_preV hK hX hW t24 (by decide) rfl) rfl rfl hl.1 rfl (lv_room (Nat.le_of_ble_eq_true rfl)) d_BD_read_35 ⟨(by show _ ≤ 1; omega), (by show _ ≤ 6; omega)⟩) hW (fun r26 h25 H locs hk hW => ?_)
    obtain ⟨w, mm27⟩ := hk
    have w := w mm27
    have hm := hm.tr mm27
    have t28 := mm27.tg t19 (by decide)
    have t29 := mm27.tg t24 (by decide)
    refine lv_sipush (v := 8192) hx hb d_BD_read_38 (by decide) ?_
    refine lv_icmp_le (tgt := 46) hx hb d_BD_read_41 (by decide) (fun c30 => ?_) (fun c30 => ?_)
    · have w := w.1 c30
      refine lv_aload_n hx hb d_BD_read_46 rfl (lv_at hl 1 rfl) ?_
      refine lv_aload_n hx hb d_BD_read_47 rfl (lv_at hl 2 rfl) ?_
      obtain ⟨q31, e32, w⟩ := w
      refine hb_get (ci := 3) (C := "BigDesk") (T := T_BD) (N := 9) hx hb hts (fun w9 h9 => hT w9 (u_BD w9 h9)) hown hK hW t28 rfl (by decide) 1 (by decide) (hw wd_105) (fun _ h9 => h9) (q := (2, 7)) rfl (v := .ref q31) (ah_f_R e32) d_BD_read_48 ?_
      obtain ⟨t33, w⟩ := w
      refine hb_callv (va_runV (As := [.ref q31]) (rest := []) ⟨hx, hb, hml, hown, hts⟩ (m_WH_become G r5 q31 h25 hst w) (cwV 1 hts (zx_gV hT wd_233 wd_234 wd_235 wd_2 wd_236) rfl rfl rfl (by decide +kernel) ⟨Nat.le_of_ble_eq_true rfl, Nat.le_of_ble_eq_true rfl⟩) (hb_preV hK hX hW t33 (by decide) rfl) rfl rfl hl.1 rfl (lv_room (Nat.le_of_ble_eq_true rfl)) d_BD_read_51 ⟨(by show _ ≤ 1; omega), (by show _ ≤ 6; omega)⟩) hW (fun h34 H locs hk hW => ?_)
      obtain ⟨w, mm35⟩ := hk
      have w := w mm35
      have hm := hm.tr mm35
      have t36 := mm35.tg t28 (by decide)
      have t37 := mm35.tg t29 (by decide)
      have t38 := mm35.tg t33 (by decide)
      refine lv_iconst (v := 1) hx hb d_BD_read_54 (by decide) ?_
      exact vx_ret (hb_zret (K := fun r9 h9 => K r9 h9 ∧ ah_m h0 h9) hx hb hr hlk (by decide) hK hX hW ⟨w, hm⟩ (by omega) (by omega) d_BD_read_55)
    · have w := w.2 c30
      exact tb_BD_read_44 C (by omega) (by omega)   h25 _ _ _ w hm hW (lv_sub hl [] rfl)
set_option maxHeartbeats 4000000 in
set_option maxRecDepth 100000 in
theorem m_BD_write {l : Launch} (G : zG) (a1 : Nat) (a2 : Int32) (h0 : ah_H) {K : Int32 → ah_H → Prop} {Ex : String → ah_H → Prop} (hst : l.stackTraces = false) (w : w_BD_write a1 a2 h0 K Ex) : vx_Met l y_BD_write (Cond.code y_BD_write b_BD_write 2 (some .int) :: zx_T) rm_BD_write (va_Pc [.ref a1, .int a2] (ah_B G h0)) (va_Qi (fun r9 h9 => K r9 h9 ∧ ah_m h0 h9) (ah_B G) (fun q => G.2.2 ≤ q)) (ah_X G (fun E9 h9 => Ex E9 h9 ∧ ah_m h0 h9)) 1 6 (fun q => G.2.2 ≤ q) := by
  refine vx_ofW (cc := b_BD_write) (maxL := 2) (ret := (some .int)) (by decide) rfl ?_
  intro p e s m args below meth c s₁ B hml hout0 hv
  have htb := cx_out B (atoms_spec B.pre _ List.mem_cons_self)
  obtain ⟨rfl, hB⟩ := hv
  have C : cx_C p l s m _ meth c G y_BD_write b_BD_write 2 (some .int) "BigDesk" (Cond.code y_BD_write b_BD_write 2 (some .int) :: zx_T) [] := ⟨B.exec, B.bytes, B.returns, hml, findClass_of_methodNamed B.named, atoms_spec B.pre, cx_hd, B.notSynchronized, hB.2.2.1, hB.2.2.2, htb, fun z9 => (name_of_methodNamed B.named B.method).1.trans z9, hst⟩
  obtain ⟨hx, hb, hr, hml, hown, hts, hT, hlk, hK, hX, htb, hin, hst⟩ := id C
  have hw : ∀ {w9 : Cond}, w9 ∈ zx_T → w9.before _ s = true := fun h9 => hts _ (hT _ h9)
  have hW : ah_W G s.heap h0 s.heap [] := ⟨hB.1, hB.2.1, va_S.rf⟩
  have hm : ah_m h0 h0 := ah_m.rf
  have hcl : 0 + 1 ≤ 1 := by decide
  have hsl : 0 + 6 ≤ 6 := by decide
  have hl := lv_entry ([.ref a1, .int a2]) (n := 2) (Nat.le_of_ble_eq_true rfl)
  rw [lg_entry_eq]
  generalize (lg_sl ([.ref a1, .int a2]) ++ List.replicate (2 - (lg_sl ([.ref a1, .int a2])).length) Slot.unset).toArray = ls at hl ⊢
  have hl : lv_has ls 2 [(0, .ref a1), (1, .int a2)] := hl
  unfold w_BD_write at w
  refine lv_aload_n hx hb d_BD_write_0 rfl (lv_at hl 0 rfl) ?_
  obtain ⟨t3, w⟩ := w
  obtain ⟨q4, e5, w⟩ := w
  refine hb_get (ci := 3) (C := "BigDesk") (T := T_BD) (N := 9) hx hb hts (fun w9 h9 => hT w9 (u_BD w9 h9)) hown hK hW t3 rfl (by decide) 1 (by decide) (hw wd_105) (fun _ h9 => h9) (q := (2, 7)) rfl (v := .ref q4) (ah_f_R e5) d_BD_write_1 ?_
  refine lv_aload_n hx hb d_BD_write_4 rfl (lv_at hl 0 rfl) ?_
  refine lv_iload_n hx hb d_BD_write_5 rfl (lv_at hl 1 rfl) ?_
  refine hx_r (vx_runV (As := [.int a2]) (rest := [.ref q4]) ⟨hx, hb, hml, hown, hts⟩ (m_BD_register G a1 a2 h0 hst w) (cwV 1 hts (zx_gV hT wd_141 wd_143 wd_s0 wd_1 wd_144) rfl rfl rfl (by decide +kernel) ⟨Nat.le_of_ble_eq_true rfl, Nat.le_of_ble_eq_true rfl⟩) (hb_preV hK hX hW t3 (by decide) rfl) rfl rfl hl.1 rfl (lv_room (Nat.le_of_ble_eq_true rfl)) d_BD_write_6 ⟨(by show _ ≤ 1; omega), (by show _ ≤ 6; omega)⟩) hW (fun E9 ce9 q9 h9 H locs hE hW c1 c2 c3 => hx_out (Ex := fun E9 h9 => Ex E9 h9 ∧ ah_m h0 h9) (fun x9 h9 => (cx_nil htb x9 h9).elim) hlk hW c1 c2 c3 ⟨hE.1 hE.2, hm.tr hE.2⟩ (by omega) (by omega)) (fun r7 h6 H locs hk hW => ?_)
  obtain ⟨w, mm8⟩ := hk
  have w := w mm8
  have hm := hm.tr mm8
  have t9 := mm8.tg t3 (by decide)
  obtain ⟨t10, w⟩ := w
  refine hb_callv (va_runV (As := [.ref r7]) (rest := []) ⟨hx, hb, hml, hown, hts⟩ (m_WH_become G q4 r7 h6 hst w) (cwV 1 hts (zx_gV hT wd_233 wd_234 wd_235 wd_2 wd_236) rfl rfl rfl (by decide +kernel) ⟨Nat.le_of_ble_eq_true rfl, Nat.le_of_ble_eq_true rfl⟩) (hb_preV hK hX hW t10 (by decide) rfl) rfl rfl hl.1 rfl (lv_room (Nat.le_of_ble_eq_true rfl)) d_BD_write_9 ⟨(by show _ ≤ 1; omega), (by show _ ≤ 6; omega)⟩) hW (fun h11 H locs hk hW => ?_)
  obtain ⟨w, mm12⟩ := hk
  have w := w mm12
  have hm := hm.tr mm12
  have t13 := mm12.tg t9 (by decide)
  have t14 := mm12.tg t10 (by decide)
  refine lv_aload_n hx hb d_BD_write_12 rfl (lv_at hl 0 rfl) ?_
  refine lv_aload_n hx hb d_BD_write_13 rfl (lv_at hl 0 rfl) ?_
  obtain ⟨q15, e16, w⟩ := w
  refine hb_get (ci := 3) (C := "BigDesk") (T := T_BD) (N := 9) hx hb hts (fun w9 h9 => hT w9 (u_BD w9 h9)) hown hK hW t13 rfl (by decide) 1 (by decide) (hw wd_105) (fun _ h9 => h9) (q := (2, 7)) rfl (v := .ref q15) (ah_f_R e16) d_BD_write_14 ?_
  refine lv_aload_n hx hb d_BD_write_17 rfl (lv_at hl 0 rfl) ?_
  obtain ⟨q17, e18, w⟩ := w
  refine hb_get (ci := 3) (C := "BigDesk") (T := T_BD) (N := 9) hx hb hts (fun w9 h9 => hT w9 (u_BD w9 h9)) hown hK hW t13 rfl (by decide) 7 (by decide) (hw wd_111) (fun _ h9 => h9) (q := (2, 12)) rfl (v := .ref q17) (ah_f_R e18) d_BD_write_18 ?_
  refine hb_calli (va_runS (As := [.ref q15, .ref q17]) (rest := [.ref a1]) ⟨hx, hb, hml, hown, hts⟩ (m_TX_textOf G q15 q17 h11 hst w) (va_cwS 2 hts (zx_gS hT wd_580 wd_581 wd_16 wd_582) rfl rfl rfl (by decide +kernel) ⟨Nat.le_of_ble_eq_true rfl, Nat.le_of_ble_eq_true rfl⟩) (hb_preS hK hX hW) rfl rfl hl.1 rfl (lv_room (Nat.le_of_ble_eq_true rfl)) d_BD_write_21 ⟨(by show _ ≤ 1; omega), (by show _ ≤ 6; omega)⟩) hW (fun r20 h19 H locs hk hW => ?_)
  obtain ⟨w, mm21⟩ := hk
  have w := w mm21
  have hm := hm.tr mm21
  have t22 := mm21.tg t13 (by decide)
  have t23 := mm21.tg t14 (by decide)
  refine hb_put (ci := 3) (C := "BigDesk") (T := T_BD) (N := 9) hx hb hts (fun w9 h9 => hT w9 (u_BD w9 h9)) t_BD o_BD n_BD hown hK hW t22 rfl (by decide) 8 (by decide) (hw wd_112) (fun _ h9 => h9) rfl (ty := t_BD 8) (by decide +kernel) (q := (0, 3)) rfl (by decide) (v := .int r20) rfl rfl (ah_one_I h19 3 a1 r20) d_BD_write_24 (fun H locs h24 eh24 hW => ?_)
  have w := w h24 eh24
  have mm25 : ah_m h19 h24 := ah_m.rf.st (by rw [eh24]; rfl) (by rw [eh24]; rfl)
  have hm := hm.tr mm25
  have t26 := mm25.tg t22 (by decide)
  have t27 := mm25.tg t23 (by decide)
  refine lv_aload_n hx hb d_BD_write_27 rfl (lv_at hl 0 rfl) ?_
  refine hb_get (ci := 3) (C := "BigDesk") (T := T_BD) (N := 9) hx hb hts (fun w9 h9 => hT w9 (u_BD w9 h9)) hown hK hW t26 rfl (by decide) 8 (by decide) (hw wd_112) (fun _ h9 => h9) (q := (0, 3)) rfl (v := .int (ah_I h24 3 a1)) rfl d_BD_write_28 ?_
  exact vx_ret (hb_iret (K := fun r9 h9 => K r9 h9 ∧ ah_m h0 h9) hx hb hr hlk hK hX hW ⟨w, hm⟩ (by omega) (by omega) d_BD_write_31)
set_option maxHeartbeats 4000000 in
set_option maxRecDepth 100000 in
theorem m_BD_text {l : Launch} (G : zG) (a1 : Nat) (a2 : Int32) (h0 : ah_H) {K : Int32 → ah_H → Prop} {Ex : String → ah_H → Prop} (hst : l.stackTraces = false) (w : w_BD_text a1 a2 h0 K Ex) : vx_Met l y_BD_text (Cond.code y_BD_text b_BD_text 2 (some .int) :: zx_T) rm_BD_text (va_Pc [.ref a1, .int a2] (ah_B G h0)) (va_Qi (fun r9 h9 => K r9 h9 ∧ ah_m h0 h9) (ah_B G) (fun q => G.2.2 ≤ q)) (ah_X G (fun E9 h9 => Ex E9 h9 ∧ ah_m h0 h9)) 1 6 (fun q => G.2.2 ≤ q) := by
  refine vx_ofW (cc := b_BD_text) (maxL := 2) (ret := (some .int)) (by decide) rfl ?_
  intro p e s m args below meth c s₁ B hml hout0 hv
  have htb := cx_out B (atoms_spec B.pre _ List.mem_cons_self)
  obtain ⟨rfl, hB⟩ := hv
  have C : cx_C p l s m _ meth c G y_BD_text b_BD_text 2 (some .int) "BigDesk" (Cond.code y_BD_text b_BD_text 2 (some .int) :: zx_T) [] := ⟨B.exec, B.bytes, B.returns, hml, findClass_of_methodNamed B.named, atoms_spec B.pre, cx_hd, B.notSynchronized, hB.2.2.1, hB.2.2.2, htb, fun z9 => (name_of_methodNamed B.named B.method).1.trans z9, hst⟩
  obtain ⟨hx, hb, hr, hml, hown, hts, hT, hlk, hK, hX, htb, hin, hst⟩ := id C
  have hw : ∀ {w9 : Cond}, w9 ∈ zx_T → w9.before _ s = true := fun h9 => hts _ (hT _ h9)
  have hW : ah_W G s.heap h0 s.heap [] := ⟨hB.1, hB.2.1, va_S.rf⟩
  have hm : ah_m h0 h0 := ah_m.rf
  have hcl : 0 + 1 ≤ 1 := by decide
  have hsl : 0 + 6 ≤ 6 := by decide
  have hl := lv_entry ([.ref a1, .int a2]) (n := 2) (Nat.le_of_ble_eq_true rfl)
  rw [lg_entry_eq]
  generalize (lg_sl ([.ref a1, .int a2]) ++ List.replicate (2 - (lg_sl ([.ref a1, .int a2])).length) Slot.unset).toArray = ls at hl ⊢
  have hl : lv_has ls 2 [(0, .ref a1), (1, .int a2)] := hl
  unfold w_BD_text at w
  refine lv_iload_n hx hb d_BD_text_0 rfl (lv_at hl 1 rfl) ?_
  refine lv_if_ne (tgt := 9) hx hb d_BD_text_1 (by decide) (fun c3 => ?_) (fun c3 => ?_)
  · have w := w.1 c3
    refine lv_iload_n hx hb d_BD_text_9 rfl (lv_at hl 1 rfl) ?_
    refine lv_iconst (v := 1) hx hb d_BD_text_10 (by decide) ?_
    refine lv_icmp_ne (tgt := 19) hx hb d_BD_text_11 (by decide) (fun c4 => ?_) (fun c4 => ?_)
    · have w := w.1 c4
      exact hx_throw (Ex := fun E9 h9 => Ex E9 h9 ∧ ah_m h0 h9) hx hb hst hown hts hT hX rfl zx_rtf wd_145 wd_9 (is := 188) (text := "no such text") (by decide) zx_aIllegalArgumentException zx_gIllegalArgumentException hW (by rw [hml]; exact hl.1) d_BD_text_19 d_BD_text_22 d_BD_text_23 d_BD_text_25 d_BD_text_28 (cx_nil htb) (Nat.le_of_ble_eq_true rfl) (Nat.le_of_ble_eq_true rfl) (by show _ ≤ 1; omega) (by show _ ≤ 6; omega) hlk ⟨w, hm⟩ (by omega) (by omega)
    · have w := w.2 c4
      refine lv_aload_n hx hb d_BD_text_14 rfl (lv_at hl 0 rfl) ?_
      obtain ⟨t5, w⟩ := w
      refine hb_get (ci := 3) (C := "BigDesk") (T := T_BD) (N := 9) hx hb hts (fun w9 h9 => hT w9 (u_BD w9 h9)) hown hK hW t5 rfl (by decide) 8 (by decide) (hw wd_112) (fun _ h9 => h9) (q := (0, 3)) rfl (v := .int (ah_I h0 3 a1)) rfl d_BD_text_15 ?_
      exact vx_ret (hb_iret (K := fun r9 h9 => K r9 h9 ∧ ah_m h0 h9) hx hb hr hlk hK hX hW ⟨w, hm⟩ (by omega) (by omega) d_BD_text_18)
  · have w := w.2 c3
    refine lv_aload_n hx hb d_BD_text_4 rfl (lv_at hl 0 rfl) ?_
    obtain ⟨t6, w⟩ := w
    refine hb_get (ci := 3) (C := "BigDesk") (T := T_BD) (N := 9) hx hb hts (fun w9 h9 => hT w9 (u_BD w9 h9)) hown hK hW t6 rfl (by decide) 6 (by decide) (hw wd_110) (fun _ h9 => h9) (q := (0, 2)) rfl (v := .int (ah_I h0 2 a1)) rfl d_BD_text_5 ?_
    exact vx_ret (hb_iret (K := fun r9 h9 => K r9 h9 ∧ ah_m h0 h9) hx hb hr hlk hK hX hW ⟨w, hm⟩ (by omega) (by omega) d_BD_text_8)
