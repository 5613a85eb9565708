theorem d_LW_set_0 : decode b_LW_set 0 = .ok (.aload_n 0, 1) := by decide +kernel
theorem d_LW_set_1 : decode b_LW_set 1 = .ok (.iload_n 1, 1) := by decide +kernel
theorem d_LW_set_2 : decode b_LW_set 2 = .ok (.lload_n 2, 1) := by decide +kernel
theorem d_LW_set_3 : decode b_LW_set 3 = .ok (.invokevirtual 7, 3) := by decide +kernel
theorem d_LW_set_6 : decode b_LW_set 6 = .ok (.goto 7, 3) := by decide +kernel
theorem d_LW_set_9 : decode b_LW_set 9 = .ok (.astore 4, 2) := by decide +kernel
theorem d_LW_set_11 : decode b_LW_set 11 = .ok (.iconst 1, 1) := by decide +kernel
theorem d_LW_set_12 : decode b_LW_set 12 = .ok (.ireturn, 1) := by decide +kernel
theorem d_LW_set_13 : decode b_LW_set 13 = .ok (.iconst 0, 1) := by decide +kernel
theorem d_LW_set_14 : decode b_LW_set 14 = .ok (.ireturn, 1) := by decide +kernel
theorem d_LW_copy_0 : decode b_LW_copy 0 = .ok (.aload_n 0, 1) := by decide +kernel
theorem d_LW_copy_1 : decode b_LW_copy 1 = .ok (.iload_n 1, 1) := by decide +kernel
theorem d_LW_copy_2 : decode b_LW_copy 2 = .ok (.iload_n 2, 1) := by decide +kernel
theorem d_LW_copy_3 : decode b_LW_copy 3 = .ok (.invokevirtual 15, 3) := by decide +kernel
theorem d_LW_copy_6 : decode b_LW_copy 6 = .ok (.goto 6, 3) := by decide +kernel
theorem d_LW_copy_9 : decode b_LW_copy 9 = .ok (.astore_n 3, 1) := by decide +kernel
theorem d_LW_copy_10 : decode b_LW_copy 10 = .ok (.iconst 1, 1) := by decide +kernel
theorem d_LW_copy_11 : decode b_LW_copy 11 = .ok (.ireturn, 1) := by decide +kernel
theorem d_LW_copy_12 : decode b_LW_copy 12 = .ok (.iconst 0, 1) := by decide +kernel
theorem d_LW_copy_13 : decode b_LW_copy 13 = .ok (.ireturn, 1) := by decide +kernel
theorem d_LW_add_0 : decode b_LW_add 0 = .ok (.aload_n 0, 1) := by decide +kernel
theorem d_LW_add_1 : decode b_LW_add 1 = .ok (.iload_n 1, 1) := by decide +kernel
theorem d_LW_add_2 : decode b_LW_add 2 = .ok (.iload_n 2, 1) := by decide +kernel
theorem d_LW_add_3 : decode b_LW_add 3 = .ok (.iload_n 3, 1) := by decide +kernel
theorem d_LW_add_4 : decode b_LW_add 4 = .ok (.invokevirtual 19, 3) := by decide +kernel
theorem d_LW_add_7 : decode b_LW_add 7 = .ok (.goto 11, 3) := by decide +kernel
theorem d_LW_add_10 : decode b_LW_add 10 = .ok (.astore 4, 2) := by decide +kernel
theorem d_LW_add_12 : decode b_LW_add 12 = .ok (.iconst 1, 1) := by decide +kernel
theorem d_LW_add_13 : decode b_LW_add 13 = .ok (.ireturn, 1) := by decide +kernel
theorem d_LW_add_14 : decode b_LW_add 14 = .ok (.astore 4, 2) := by decide +kernel
theorem d_LW_add_16 : decode b_LW_add 16 = .ok (.iconst 2, 1) := by decide +kernel
theorem d_LW_add_17 : decode b_LW_add 17 = .ok (.ireturn, 1) := by decide +kernel
theorem d_LW_add_18 : decode b_LW_add 18 = .ok (.iconst 0, 1) := by decide +kernel
theorem d_LW_add_19 : decode b_LW_add 19 = .ok (.ireturn, 1) := by decide +kernel
theorem d_LW_subtract_0 : decode b_LW_subtract 0 = .ok (.aload_n 0, 1) := by decide +kernel
theorem d_LW_subtract_1 : decode b_LW_subtract 1 = .ok (.iload_n 1, 1) := by decide +kernel
theorem d_LW_subtract_2 : decode b_LW_subtract 2 = .ok (.iload_n 2, 1) := by decide +kernel
theorem d_LW_subtract_3 : decode b_LW_subtract 3 = .ok (.iload_n 3, 1) := by decide +kernel
theorem d_LW_subtract_4 : decode b_LW_subtract 4 = .ok (.invokevirtual 25, 3) := by decide +kernel
theorem d_LW_subtract_7 : decode b_LW_subtract 7 = .ok (.goto 11, 3) := by decide +kernel
theorem d_LW_subtract_10 : decode b_LW_subtract 10 = .ok (.astore 4, 2) := by decide +kernel
theorem d_LW_subtract_12 : decode b_LW_subtract 12 = .ok (.iconst 1, 1) := by decide +kernel
theorem d_LW_subtract_13 : decode b_LW_subtract 13 = .ok (.ireturn, 1) := by decide +kernel
theorem d_LW_subtract_14 : decode b_LW_subtract 14 = .ok (.astore 4, 2) := by decide +kernel
theorem d_LW_subtract_16 : decode b_LW_subtract 16 = .ok (.iconst 2, 1) := by decide +kernel
theorem d_LW_subtract_17 : decode b_LW_subtract 17 = .ok (.ireturn, 1) := by decide +kernel
theorem d_LW_subtract_18 : decode b_LW_subtract 18 = .ok (.iconst 0, 1) := by decide +kernel
theorem d_LW_subtract_19 : decode b_LW_subtract 19 = .ok (.ireturn, 1) := by decide +kernel
theorem d_LW_multiply_0 : decode b_LW_multiply 0 = .ok (.aload_n 0, 1) := by decide +kernel
theorem d_LW_multiply_1 : decode b_LW_multiply 1 = .ok (.iload_n 1, 1) := by decide +kernel
theorem d_LW_multiply_2 : decode b_LW_multiply 2 = .ok (.iload_n 2, 1) := by decide +kernel
theorem d_LW_multiply_3 : decode b_LW_multiply 3 = .ok (.iload_n 3, 1) := by decide +kernel
theorem d_LW_multiply_4 : decode b_LW_multiply 4 = .ok (.invokevirtual 28, 3) := by decide +kernel
theorem d_LW_multiply_7 : decode b_LW_multiply 7 = .ok (.goto 11, 3) := by decide +kernel
theorem d_LW_multiply_10 : decode b_LW_multiply 10 = .ok (.astore 4, 2) := by decide +kernel
theorem d_LW_multiply_12 : decode b_LW_multiply 12 = .ok (.iconst 1, 1) := by decide +kernel
theorem d_LW_multiply_13 : decode b_LW_multiply 13 = .ok (.ireturn, 1) := by decide +kernel
theorem d_LW_multiply_14 : decode b_LW_multiply 14 = .ok (.astore 4, 2) := by decide +kernel
theorem d_LW_multiply_16 : decode b_LW_multiply 16 = .ok (.iconst 2, 1) := by decide +kernel
theorem d_LW_multiply_17 : decode b_LW_multiply 17 = .ok (.ireturn, 1) := by decide +kernel
theorem d_LW_multiply_18 : decode b_LW_multiply 18 = .ok (.iconst 0, 1) := by decide +kernel
theorem d_LW_multiply_19 : decode b_LW_multiply 19 = .ok (.ireturn, 1) := by decide +kernel
theorem d_LW_times_0 : decode b_LW_times 0 = .ok (.aload_n 0, 1) := by decide +kernel
theorem d_LW_times_1 : decode b_LW_times 1 = .ok (.iload_n 1, 1) := by decide +kernel
theorem d_LW_times_2 : decode b_LW_times 2 = .ok (.iload_n 2, 1) := by decide +kernel
theorem d_LW_times_3 : decode b_LW_times 3 = .ok (.lload_n 3, 1) := by decide +kernel
theorem d_LW_times_4 : decode b_LW_times 4 = .ok (.invokevirtual 31, 3) := by decide +kernel
theorem d_LW_times_7 : decode b_LW_times 7 = .ok (.goto 11, 3) := by decide +kernel
theorem d_LW_times_10 : decode b_LW_times 10 = .ok (.astore 5, 2) := by decide +kernel
theorem d_LW_times_12 : decode b_LW_times 12 = .ok (.iconst 1, 1) := by decide +kernel
theorem d_LW_times_13 : decode b_LW_times 13 = .ok (.ireturn, 1) := by decide +kernel
theorem d_LW_times_14 : decode b_LW_times 14 = .ok (.astore 5, 2) := by decide +kernel
theorem d_LW_times_16 : decode b_LW_times 16 = .ok (.iconst 2, 1) := by decide +kernel
theorem d_LW_times_17 : decode b_LW_times 17 = .ok (.ireturn, 1) := by decide +kernel
theorem d_LW_times_18 : decode b_LW_times 18 = .ok (.iconst 0, 1) := by decide +kernel
theorem d_LW_times_19 : decode b_LW_times 19 = .ok (.ireturn, 1) := by decide +kernel
theorem d_LW_shift_0 : decode b_LW_shift 0 = .ok (.aload_n 0, 1) := by decide +kernel
theorem d_LW_shift_1 : decode b_LW_shift 1 = .ok (.iload_n 1, 1) := by decide +kernel
theorem d_LW_shift_2 : decode b_LW_shift 2 = .ok (.iload_n 2, 1) := by decide +kernel
theorem d_LW_shift_3 : decode b_LW_shift 3 = .ok (.iload_n 3, 1) := by decide +kernel
theorem d_LW_shift_4 : decode b_LW_shift 4 = .ok (.invokevirtual 35, 3) := by decide +kernel
theorem d_LW_shift_7 : decode b_LW_shift 7 = .ok (.goto 11, 3) := by decide +kernel
theorem d_LW_shift_10 : decode b_LW_shift 10 = .ok (.astore 4, 2) := by decide +kernel
theorem d_LW_shift_12 : decode b_LW_shift 12 = .ok (.iconst 1, 1) := by decide +kernel
theorem d_LW_shift_13 : decode b_LW_shift 13 = .ok (.ireturn, 1) := by decide +kernel
theorem d_LW_shift_14 : decode b_LW_shift 14 = .ok (.astore 4, 2) := by decide +kernel
theorem d_LW_shift_16 : decode b_LW_shift 16 = .ok (.iconst 2, 1) := by decide +kernel
theorem d_LW_shift_17 : decode b_LW_shift 17 = .ok (.ireturn, 1) := by decide +kernel
theorem d_LW_shift_18 : decode b_LW_shift 18 = .ok (.iconst 0, 1) := by decide +kernel
theorem d_LW_shift_19 : decode b_LW_shift 19 = .ok (.ireturn, 1) := by decide +kernel
theorem d_LW_half_0 : decode b_LW_half 0 = .ok (.aload_n 0, 1) := by decide +kernel
theorem d_LW_half_1 : decode b_LW_half 1 = .ok (.iload_n 1, 1) := by decide +kernel
theorem d_LW_half_2 : decode b_LW_half 2 = .ok (.iload_n 2, 1) := by decide +kernel
theorem d_LW_half_3 : decode b_LW_half 3 = .ok (.iload_n 3, 1) := by decide +kernel
theorem d_LW_half_4 : decode b_LW_half 4 = .ok (.invokevirtual 38, 3) := by decide +kernel
theorem d_LW_half_7 : decode b_LW_half 7 = .ok (.goto 7, 3) := by decide +kernel
theorem d_LW_half_10 : decode b_LW_half 10 = .ok (.astore 4, 2) := by decide +kernel
theorem d_LW_half_12 : decode b_LW_half 12 = .ok (.iconst 1, 1) := by decide +kernel
theorem d_LW_half_13 : decode b_LW_half 13 = .ok (.ireturn, 1) := by decide +kernel
theorem d_LW_half_14 : decode b_LW_half 14 = .ok (.iconst 0, 1) := by decide +kernel
theorem d_LW_half_15 : decode b_LW_half 15 = .ok (.ireturn, 1) := by decide +kernel
theorem d_LW_divide_0 : decode b_LW_divide 0 = .ok (.aload_n 0, 1) := by decide +kernel
theorem d_LW_divide_1 : decode b_LW_divide 1 = .ok (.iload_n 1, 1) := by decide +kernel
theorem d_LW_divide_2 : decode b_LW_divide 2 = .ok (.iload_n 2, 1) := by decide +kernel
theorem d_LW_divide_3 : decode b_LW_divide 3 = .ok (.iload_n 3, 1) := by decide +kernel
theorem d_LW_divide_4 : decode b_LW_divide 4 = .ok (.iload 4, 2) := by decide +kernel
theorem d_LW_divide_6 : decode b_LW_divide 6 = .ok (.invokevirtual 41, 3) := by decide +kernel
theorem d_LW_divide_9 : decode b_LW_divide 9 = .ok (.goto 11, 3) := by decide +kernel
theorem d_LW_divide_12 : decode b_LW_divide 12 = .ok (.astore 5, 2) := by decide +kernel
theorem d_LW_divide_14 : decode b_LW_divide 14 = .ok (.iconst 1, 1) := by decide +kernel
theorem d_LW_divide_15 : decode b_LW_divide 15 = .ok (.ireturn, 1) := by decide +kernel
theorem d_LW_divide_16 : decode b_LW_divide 16 = .ok (.astore 5, 2) := by decide +kernel
theorem d_LW_divide_18 : decode b_LW_divide 18 = .ok (.iconst 2, 1) := by decide +kernel
theorem d_LW_divide_19 : decode b_LW_divide 19 = .ok (.ireturn, 1) := by decide +kernel
theorem d_LW_divide_20 : decode b_LW_divide 20 = .ok (.iconst 0, 1) := by decide +kernel
theorem d_LW_divide_21 : decode b_LW_divide 21 = .ok (.ireturn, 1) := by decide +kernel
theorem d_LW_gcd_0 : decode b_LW_gcd 0 = .ok (.aload_n 0, 1) := by decide +kernel
theorem d_LW_gcd_1 : decode b_LW_gcd 1 = .ok (.iload_n 1, 1) := by decide +kernel
theorem d_LW_gcd_2 : decode b_LW_gcd 2 = .ok (.iload_n 2, 1) := by decide +kernel
theorem d_LW_gcd_3 : decode b_LW_gcd 3 = .ok (.iload_n 3, 1) := by decide +kernel
theorem d_LW_gcd_4 : decode b_LW_gcd 4 = .ok (.invokevirtual 47, 3) := by decide +kernel
theorem d_LW_gcd_7 : decode b_LW_gcd 7 = .ok (.goto 7, 3) := by decide +kernel
theorem d_LW_gcd_10 : decode b_LW_gcd 10 = .ok (.astore 4, 2) := by decide +kernel
theorem d_LW_gcd_12 : decode b_LW_gcd 12 = .ok (.iconst 1, 1) := by decide +kernel
theorem d_LW_gcd_13 : decode b_LW_gcd 13 = .ok (.ireturn, 1) := by decide +kernel
theorem d_LW_gcd_14 : decode b_LW_gcd 14 = .ok (.iconst 0, 1) := by decide +kernel
theorem d_LW_gcd_15 : decode b_LW_gcd 15 = .ok (.ireturn, 1) := by decide +kernel
theorem d_LW_negate_0 : decode b_LW_negate 0 = .ok (.aload_n 0, 1) := by decide +kernel
theorem d_LW_negate_1 : decode b_LW_negate 1 = .ok (.iload_n 1, 1) := by decide +kernel
theorem d_LW_negate_2 : decode b_LW_negate 2 = .ok (.iload_n 2, 1) := by decide +kernel
theorem d_LW_negate_3 : decode b_LW_negate 3 = .ok (.invokevirtual 50, 3) := by decide +kernel
theorem d_LW_negate_6 : decode b_LW_negate 6 = .ok (.goto 6, 3) := by decide +kernel
theorem d_LW_negate_9 : decode b_LW_negate 9 = .ok (.astore_n 3, 1) := by decide +kernel
theorem d_LW_negate_10 : decode b_LW_negate 10 = .ok (.iconst 1, 1) := by decide +kernel
theorem d_LW_negate_11 : decode b_LW_negate 11 = .ok (.ireturn, 1) := by decide +kernel
theorem d_LW_negate_12 : decode b_LW_negate 12 = .ok (.iconst 0, 1) := by decide +kernel
theorem d_LW_negate_13 : decode b_LW_negate 13 = .ok (.ireturn, 1) := by decide +kernel
theorem d_LW_compare_0 : decode b_LW_compare 0 = .ok (.aload_n 3, 1) := by decide +kernel
theorem d_LW_compare_1 : decode b_LW_compare 1 = .ok (.iconst 0, 1) := by decide +kernel
theorem d_LW_compare_2 : decode b_LW_compare 2 = .ok (.aload_n 0, 1) := by decide +kernel
theorem d_LW_compare_3 : decode b_LW_compare 3 = .ok (.iload_n 1, 1) := by decide +kernel
theorem d_LW_compare_4 : decode b_LW_compare 4 = .ok (.iload_n 2, 1) := by decide +kernel
theorem d_LW_compare_5 : decode b_LW_compare 5 = .ok (.invokevirtual 53, 3) := by decide +kernel
theorem d_LW_compare_8 : decode b_LW_compare 8 = .ok (.i2l, 1) := by decide +kernel
theorem d_LW_compare_9 : decode b_LW_compare 9 = .ok (.lastore, 1) := by decide +kernel
theorem d_LW_compare_10 : decode b_LW_compare 10 = .ok (.goto 7, 3) := by decide +kernel
theorem d_LW_compare_13 : decode b_LW_compare 13 = .ok (.astore 4, 2) := by decide +kernel
theorem d_LW_compare_15 : decode b_LW_compare 15 = .ok (.iconst 1, 1) := by decide +kernel
theorem d_LW_compare_16 : decode b_LW_compare 16 = .ok (.ireturn, 1) := by decide +kernel
theorem d_LW_compare_17 : decode b_LW_compare 17 = .ok (.iconst 0, 1) := by decide +kernel
theorem d_LW_compare_18 : decode b_LW_compare 18 = .ok (.ireturn, 1) := by decide +kernel
theorem d_LW_rest_0 : decode b_LW_rest 0 = .ok (.aload 4, 2) := by decide +kernel
theorem d_LW_rest_2 : decode b_LW_rest 2 = .ok (.iconst 0, 1) := by decide +kernel
theorem d_LW_rest_3 : decode b_LW_rest 3 = .ok (.aload_n 0, 1) := by decide +kernel
theorem d_LW_rest_4 : decode b_LW_rest 4 = .ok (.iload_n 1, 1) := by decide +kernel
theorem d_LW_rest_5 : decode b_LW_rest 5 = .ok (.lload_n 2, 1) := by decide +kernel
theorem d_LW_rest_6 : decode b_LW_rest 6 = .ok (.invokevirtual 57, 3) := by decide +kernel
theorem d_LW_rest_9 : decode b_LW_rest 9 = .ok (.lastore, 1) := by decide +kernel
theorem d_LW_rest_10 : decode b_LW_rest 10 = .ok (.goto 7, 3) := by decide +kernel
theorem d_LW_rest_13 : decode b_LW_rest 13 = .ok (.astore 5, 2) := by decide +kernel
theorem d_LW_rest_15 : decode b_LW_rest 15 = .ok (.iconst 1, 1) := by decide +kernel
theorem d_LW_rest_16 : decode b_LW_rest 16 = .ok (.ireturn, 1) := by decide +kernel
theorem d_LW_rest_17 : decode b_LW_rest 17 = .ok (.iconst 0, 1) := by decide +kernel
theorem d_LW_rest_18 : decode b_LW_rest 18 = .ok (.ireturn, 1) := by decide +kernel
theorem d_LW_value_0 : decode b_LW_value 0 = .ok (.aload_n 2, 1) := by decide +kernel
theorem d_LW_value_1 : decode b_LW_value 1 = .ok (.iconst 0, 1) := by decide +kernel
theorem d_LW_value_2 : decode b_LW_value 2 = .ok (.aload_n 0, 1) := by decide +kernel
theorem d_LW_value_3 : decode b_LW_value 3 = .ok (.iload_n 1, 1) := by decide +kernel
theorem d_LW_value_4 : decode b_LW_value 4 = .ok (.invokevirtual 61, 3) := by decide +kernel
theorem d_LW_value_7 : decode b_LW_value 7 = .ok (.lastore, 1) := by decide +kernel
theorem d_LW_value_8 : decode b_LW_value 8 = .ok (.goto 9, 3) := by decide +kernel
theorem d_LW_value_11 : decode b_LW_value 11 = .ok (.astore_n 3, 1) := by decide +kernel
theorem d_LW_value_12 : decode b_LW_value 12 = .ok (.iconst 1, 1) := by decide +kernel
theorem d_LW_value_13 : decode b_LW_value 13 = .ok (.ireturn, 1) := by decide +kernel
theorem d_LW_value_14 : decode b_LW_value 14 = .ok (.astore_n 3, 1) := by decide +kernel
theorem d_LW_value_15 : decode b_LW_value 15 = .ok (.iconst 2, 1) := by decide +kernel
theorem d_LW_value_16 : decode b_LW_value 16 = .ok (.ireturn, 1) := by decide +kernel
theorem d_LW_value_17 : decode b_LW_value 17 = .ok (.iconst 0, 1) := by decide +kernel
theorem d_LW_value_18 : decode b_LW_value 18 = .ok (.ireturn, 1) := by decide +kernel
theorem d_LW_limb_0 : decode b_LW_limb 0 = .ok (.aload_n 3, 1) := by decide +kernel
theorem d_LW_limb_1 : decode b_LW_limb 1 = .ok (.iconst 0, 1) := by decide +kernel
theorem d_LW_limb_2 : decode b_LW_limb 2 = .ok (.aload_n 0, 1) := by decide +kernel
theorem d_LW_limb_3 : decode b_LW_limb 3 = .ok (.iload_n 1, 1) := by decide +kernel
theorem d_LW_limb_4 : decode b_LW_limb 4 = .ok (.iload_n 2, 1) := by decide +kernel
theorem d_LW_limb_5 : decode b_LW_limb 5 = .ok (.invokevirtual 65, 3) := by decide +kernel
theorem d_LW_limb_8 : decode b_LW_limb 8 = .ok (.lastore, 1) := by decide +kernel
theorem d_LW_limb_9 : decode b_LW_limb 9 = .ok (.goto 7, 3) := by decide +kernel
theorem d_LW_limb_12 : decode b_LW_limb 12 = .ok (.astore 4, 2) := by decide +kernel
theorem d_LW_limb_14 : decode b_LW_limb 14 = .ok (.iconst 1, 1) := by decide +kernel
theorem d_LW_limb_15 : decode b_LW_limb 15 = .ok (.ireturn, 1) := by decide +kernel
theorem d_LW_limb_16 : decode b_LW_limb 16 = .ok (.iconst 0, 1) := by decide +kernel
theorem d_LW_limb_17 : decode b_LW_limb 17 = .ok (.ireturn, 1) := by decide +kernel
theorem d_LW_look_0 : decode b_LW_look 0 = .ok (.aload_n 3, 1) := by decide +kernel
theorem d_LW_look_1 : decode b_LW_look 1 = .ok (.iconst 0, 1) := by decide +kernel
theorem d_LW_look_2 : decode b_LW_look 2 = .ok (.aload_n 0, 1) := by decide +kernel
theorem d_LW_look_3 : decode b_LW_look 3 = .ok (.iload_n 1, 1) := by decide +kernel
theorem d_LW_look_4 : decode b_LW_look 4 = .ok (.iload_n 2, 1) := by decide +kernel
theorem d_LW_look_5 : decode b_LW_look 5 = .ok (.invokevirtual 69, 3) := by decide +kernel
theorem d_LW_look_8 : decode b_LW_look 8 = .ok (.i2l, 1) := by decide +kernel
theorem d_LW_look_9 : decode b_LW_look 9 = .ok (.lastore, 1) := by decide +kernel
theorem d_LW_look_10 : decode b_LW_look 10 = .ok (.goto 7, 3) := by decide +kernel
theorem d_LW_look_13 : decode b_LW_look 13 = .ok (.astore 4, 2) := by decide +kernel
theorem d_LW_look_15 : decode b_LW_look 15 = .ok (.iconst 1, 1) := by decide +kernel
theorem d_LW_look_16 : decode b_LW_look 16 = .ok (.ireturn, 1) := by decide +kernel
theorem d_LW_look_17 : decode b_LW_look 17 = .ok (.iconst 0, 1) := by decide +kernel
theorem d_LW_look_18 : decode b_LW_look 18 = .ok (.ireturn, 1) := by decide +kernel
theorem d_LW_feed_0 : decode b_LW_feed 0 = .ok (.aload 4, 2) := by decide +kernel
theorem d_LW_feed_2 : decode b_LW_feed 2 = .ok (.iconst 0, 1) := by decide +kernel
theorem d_LW_feed_3 : decode b_LW_feed 3 = .ok (.aload_n 0, 1) := by decide +kernel
theorem d_LW_feed_4 : decode b_LW_feed 4 = .ok (.iload_n 1, 1) := by decide +kernel
theorem d_LW_feed_5 : decode b_LW_feed 5 = .ok (.lload_n 2, 1) := by decide +kernel
theorem d_LW_feed_6 : decode b_LW_feed 6 = .ok (.invokevirtual 72, 3) := by decide +kernel
theorem d_LW_feed_9 : decode b_LW_feed 9 = .ok (.i2l, 1) := by decide +kernel
theorem d_LW_feed_10 : decode b_LW_feed 10 = .ok (.lastore, 1) := by decide +kernel
theorem d_LW_feed_11 : decode b_LW_feed 11 = .ok (.goto 11, 3) := by decide +kernel
theorem d_LW_feed_14 : decode b_LW_feed 14 = .ok (.astore 5, 2) := by decide +kernel
theorem d_LW_feed_16 : decode b_LW_feed 16 = .ok (.iconst 1, 1) := by decide +kernel
theorem d_LW_feed_17 : decode b_LW_feed 17 = .ok (.ireturn, 1) := by decide +kernel
theorem d_LW_feed_18 : decode b_LW_feed 18 = .ok (.astore 5, 2) := by decide +kernel
theorem d_LW_feed_20 : decode b_LW_feed 20 = .ok (.iconst 2, 1) := by decide +kernel
theorem d_LW_feed_21 : decode b_LW_feed 21 = .ok (.ireturn, 1) := by decide +kernel
theorem d_LW_feed_22 : decode b_LW_feed 22 = .ok (.iconst 0, 1) := by decide +kernel
theorem d_LW_feed_23 : decode b_LW_feed 23 = .ok (.ireturn, 1) := by decide +kernel
theorem d_LW_read_0 : decode b_LW_read 0 = .ok (.aload_n 2, 1) := by decide +kernel
theorem d_LW_read_1 : decode b_LW_read 1 = .ok (.iconst 0, 1) := by decide +kernel
theorem d_LW_read_2 : decode b_LW_read 2 = .ok (.aload_n 0, 1) := by decide +kernel
theorem d_LW_read_3 : decode b_LW_read 3 = .ok (.iload_n 1, 1) := by decide +kernel
theorem d_LW_read_4 : decode b_LW_read 4 = .ok (.invokevirtual 76, 3) := by decide +kernel
theorem d_LW_read_7 : decode b_LW_read 7 = .ok (.ifCond .eq 7, 3) := by decide +kernel
theorem d_LW_read_10 : decode b_LW_read 10 = .ok (.lconst 1, 1) := by decide +kernel
theorem d_LW_read_11 : decode b_LW_read 11 = .ok (.goto 4, 3) := by decide +kernel
theorem d_LW_read_14 : decode b_LW_read 14 = .ok (.lconst 0, 1) := by decide +kernel
theorem d_LW_read_15 : decode b_LW_read 15 = .ok (.lastore, 1) := by decide +kernel
theorem d_LW_read_16 : decode b_LW_read 16 = .ok (.goto 6, 3) := by decide +kernel
theorem d_LW_read_19 : decode b_LW_read 19 = .ok (.astore_n 3, 1) := by decide +kernel
theorem d_LW_read_20 : decode b_LW_read 20 = .ok (.iconst 1, 1) := by decide +kernel
theorem d_LW_read_21 : decode b_LW_read 21 = .ok (.ireturn, 1) := by decide +kernel
theorem d_LW_read_22 : decode b_LW_read 22 = .ok (.iconst 0, 1) := by decide +kernel
theorem d_LW_read_23 : decode b_LW_read 23 = .ok (.ireturn, 1) := by decide +kernel
theorem d_LW_write_0 : decode b_LW_write 0 = .ok (.aload_n 2, 1) := by decide +kernel
theorem d_LW_write_1 : decode b_LW_write 1 = .ok (.iconst 0, 1) := by decide +kernel
theorem d_LW_write_2 : decode b_LW_write 2 = .ok (.aload_n 0, 1) := by decide +kernel
theorem d_LW_write_3 : decode b_LW_write 3 = .ok (.iload_n 1, 1) := by decide +kernel
theorem d_LW_write_4 : decode b_LW_write 4 = .ok (.invokevirtual 80, 3) := by decide +kernel
theorem d_LW_write_7 : decode b_LW_write 7 = .ok (.i2l, 1) := by decide +kernel
theorem d_LW_write_8 : decode b_LW_write 8 = .ok (.lastore, 1) := by decide +kernel
theorem d_LW_write_9 : decode b_LW_write 9 = .ok (.goto 6, 3) := by decide +kernel
theorem d_LW_write_12 : decode b_LW_write 12 = .ok (.astore_n 3, 1) := by decide +kernel
theorem d_LW_write_13 : decode b_LW_write 13 = .ok (.iconst 1, 1) := by decide +kernel
theorem d_LW_write_14 : decode b_LW_write 14 = .ok (.ireturn, 1) := by decide +kernel
theorem d_LW_write_15 : decode b_LW_write 15 = .ok (.iconst 0, 1) := by decide +kernel
theorem d_LW_write_16 : decode b_LW_write 16 = .ok (.ireturn, 1) := by decide +kernel
theorem d_LW_text_0 : decode b_LW_text 0 = .ok (.aload_n 2, 1) := by decide +kernel
theorem d_LW_text_1 : decode b_LW_text 1 = .ok (.iconst 0, 1) := by decide +kernel
theorem d_LW_text_2 : decode b_LW_text 2 = .ok (.aload_n 0, 1) := by decide +kernel
theorem d_LW_text_3 : decode b_LW_text 3 = .ok (.iload_n 1, 1) := by decide +kernel
theorem d_LW_text_4 : decode b_LW_text 4 = .ok (.invokevirtual 89, 3) := by decide +kernel
theorem d_LW_text_7 : decode b_LW_text 7 = .ok (.i2l, 1) := by decide +kernel
theorem d_LW_text_8 : decode b_LW_text 8 = .ok (.lastore, 1) := by decide +kernel
theorem d_LW_text_9 : decode b_LW_text 9 = .ok (.goto 6, 3) := by decide +kernel
theorem d_LW_text_12 : decode b_LW_text 12 = .ok (.astore_n 3, 1) := by decide +kernel
theorem d_LW_text_13 : decode b_LW_text 13 = .ok (.iconst 1, 1) := by decide +kernel
theorem d_LW_text_14 : decode b_LW_text 14 = .ok (.ireturn, 1) := by decide +kernel
theorem d_LW_text_15 : decode b_LW_text 15 = .ok (.iconst 0, 1) := by decide +kernel
theorem d_LW_text_16 : decode b_LW_text 16 = .ok (.ireturn, 1) := by decide +kernel
abbrev rm_LW_set : Room := { frames := 8, cells := 1, slots := 6, locals := 134 }
def w_LW_set (a1 : Nat) (a2 : Int32) (a3 : Int64) (h0 : ah_H) (K : Int32 → ah_H → Prop) : Prop :=
  ah_T h0 a1 = 4 ∧ w_BD_set a1 a2 a3 h0 (fun h5 => ah_m h0 h5 → K (0 : Int32) h5) (fun E6 h7 => ah_m h0 h7 → ((E6 = "java/lang/IllegalArgumentException" ∧ (K (1 : Int32) h7))))
abbrev rm_LW_copy : Room := { frames := 8, cells := 2, slots := 12, locals := 134 }
def w_LW_copy (a1 : Nat) (a2 : Int32) (a3 : Int32) (h0 : ah_H) (K : Int32 → ah_H → Prop) : Prop :=
  ah_T h0 a1 = 4 ∧ w_BD_copy a1 a2 a3 h0 (fun h5 => ah_m h0 h5 → K (0 : Int32) h5) (fun E6 h7 => ah_m h0 h7 → ((E6 = "java/lang/IllegalArgumentException" ∧ (K (1 : Int32) h7))))
abbrev rm_LW_add : Room := { frames := 8, cells := 4, slots := 24, locals := 135 }
def w_LW_add (a1 : Nat) (a2 : Int32) (a3 : Int32) (a4 : Int32) (h0 : ah_H) (K : Int32 → ah_H → Prop) : Prop :=
  ah_T h0 a1 = 4 ∧ w_BD_add a1 a2 a3 a4 h0 (fun h6 => ah_m h0 h6 → K (0 : Int32) h6) (fun E7 h8 => ah_m h0 h8 → ((E7 = "java/lang/IllegalArgumentException" ∧ (K (1 : Int32) h8)) ∨ (E7 = "java/lang/IllegalStateException" ∧ (K (2 : Int32) h8))))
abbrev rm_LW_subtract : Room := { frames := 8, cells := 4, slots := 24, locals := 135 }
def w_LW_subtract (a1 : Nat) (a2 : Int32) (a3 : Int32) (a4 : Int32) (h0 : ah_H) (K : Int32 → ah_H → Prop) : Prop :=
  ah_T h0 a1 = 4 ∧ w_BD_subtract a1 a2 a3 a4 h0 (fun h6 => ah_m h0 h6 → K (0 : Int32) h6) (fun E7 h8 => ah_m h0 h8 → ((E7 = "java/lang/IllegalArgumentException" ∧ (K (1 : Int32) h8)) ∨ (E7 = "java/lang/IllegalStateException" ∧ (K (2 : Int32) h8))))
abbrev rm_LW_multiply : Room := { frames := 9, cells := 4, slots := 24, locals := 158 }
def w_LW_multiply (a1 : Nat) (a2 : Int32) (a3 : Int32) (a4 : Int32) (h0 : ah_H) (K : Int32 → ah_H → Prop) : Prop :=
  ah_T h0 a1 = 4 ∧ w_BD_multiply a1 a2 a3 a4 h0 (fun h6 => ah_m h0 h6 → K (0 : Int32) h6) (fun E7 h8 => ah_m h0 h8 → ((E7 = "java/lang/IllegalArgumentException" ∧ (K (1 : Int32) h8)) ∨ (E7 = "java/lang/IllegalStateException" ∧ (K (2 : Int32) h8))))
abbrev rm_LW_times : Room := { frames := 9, cells := 3, slots := 18, locals := 160 }
def w_LW_times (a1 : Nat) (a2 : Int32) (a3 : Int32) (a4 : Int64) (h0 : ah_H) (K : Int32 → ah_H → Prop) : Prop :=
  ah_T h0 a1 = 4 ∧ w_BD_times a1 a2 a3 a4 h0 (fun h6 => ah_m h0 h6 → K (0 : Int32) h6) (fun E7 h8 => ah_m h0 h8 → ((E7 = "java/lang/IllegalArgumentException" ∧ (K (1 : Int32) h8)) ∨ (E7 = "java/lang/IllegalStateException" ∧ (K (2 : Int32) h8))))
abbrev rm_LW_shift : Room := { frames := 8, cells := 4, slots := 24, locals := 136 }
def w_LW_shift (a1 : Nat) (a2 : Int32) (a3 : Int32) (a4 : Int32) (h0 : ah_H) (K : Int32 → ah_H → Prop) : Prop :=
  ah_T h0 a1 = 4 ∧ w_BD_shift a1 a2 a3 a4 h0 (fun h6 => ah_m h0 h6 → K (0 : Int32) h6) (fun E7 h8 => ah_m h0 h8 → ((E7 = "java/lang/IllegalArgumentException" ∧ (K (1 : Int32) h8)) ∨ (E7 = "java/lang/IllegalStateException" ∧ (K (2 : Int32) h8))))
abbrev rm_LW_half : Room := { frames := 8, cells := 3, slots := 18, locals := 136 }
def w_LW_half (a1 : Nat) (a2 : Int32) (a3 : Int32) (a4 : Int32) (h0 : ah_H) (K : Int32 → ah_H → Prop) : Prop :=
  ah_T h0 a1 = 4 ∧ w_BD_half a1 a2 a3 a4 h0 (fun h6 => ah_m h0 h6 → K (0 : Int32) h6) (fun E7 h8 => ah_m h0 h8 → ((E7 = "java/lang/IllegalArgumentException" ∧ (K (1 : Int32) h8))))
abbrev rm_LW_divide : Room := { frames := 8, cells := 5, slots := 30, locals := 161 }
def w_LW_divide (a1 : Nat) (a2 : Int32) (a3 : Int32) (a4 : Int32) (a5 : Int32) (h0 : ah_H) (K : Int32 → ah_H → Prop) : Prop :=
  ah_T h0 a1 = 4 ∧ w_BD_divide a1 a2 a3 a4 a5 h0 (fun h7 => ah_m h0 h7 → K (0 : Int32) h7) (fun E8 h9 => ah_m h0 h9 → ((E8 = "java/lang/IllegalArgumentException" ∧ (K (1 : Int32) h9)) ∨ (E8 = "java/lang/ArithmeticException" ∧ (K (2 : Int32) h9))))
abbrev rm_LW_gcd : Room := { frames := 8, cells := 3, slots := 18, locals := 158 }
def w_LW_gcd (a1 : Nat) (a2 : Int32) (a3 : Int32) (a4 : Int32) (h0 : ah_H) (K : Int32 → ah_H → Prop) : Prop :=
  ah_T h0 a1 = 4 ∧ w_BD_gcd a1 a2 a3 a4 h0 (fun h6 => ah_m h0 h6 → K (0 : Int32) h6) (fun E7 h8 => ah_m h0 h8 → ((E7 = "java/lang/IllegalArgumentException" ∧ (K (1 : Int32) h8))))
abbrev rm_LW_negate : Room := { frames := 8, cells := 2, slots := 12, locals := 136 }
def w_LW_negate (a1 : Nat) (a2 : Int32) (a3 : Int32) (h0 : ah_H) (K : Int32 → ah_H → Prop) : Prop :=
  ah_T h0 a1 = 4 ∧ w_BD_negate a1 a2 a3 h0 (fun h5 => ah_m h0 h5 → K (0 : Int32) h5) (fun E6 h7 => ah_m h0 h7 → ((E6 = "java/lang/IllegalArgumentException" ∧ (K (1 : Int32) h7))))
abbrev rm_LW_compare : Room := { frames := 8, cells := 2, slots := 12, locals := 136 }
def w_LW_compare (a1 : Nat) (a2 : Int32) (a3 : Int32) (a4 : Nat) (h0 : ah_H) (K : Int32 → ah_H → Prop) : Prop :=
  ah_T h0 a1 = 4 ∧ w_BD_compare a1 a2 a3 h0 (fun r7 h6 => ah_m h0 h6 → ∀ v14 : Int64, v14 = r7.toInt64 → ah_T h6 a4 = 110 ∧ vp_in (0 : Int32) (ah_N h6 a4) ∧ ∀ h17 : ah_H, h17 = ah_cL h6 a4 (vp_updL (ah_bL h6 a4) (0 : Int32).toNatClampNeg v14) → K (0 : Int32) h17) (fun E8 h9 => ah_m h0 h9 → ((E8 = "java/lang/IllegalArgumentException" ∧ (K (1 : Int32) h9))))
abbrev rm_LW_rest : Room := { frames := 8, cells := 2, slots := 12, locals := 157 }
def w_LW_rest (a1 : Nat) (a2 : Int32) (a3 : Int64) (a4 : Nat) (h0 : ah_H) (K : Int32 → ah_H → Prop) : Prop :=
  ah_T h0 a1 = 4 ∧ w_BD_rest a1 a2 a3 h0 (fun r7 h6 => ah_m h0 h6 → ah_T h6 a4 = 110 ∧ vp_in (0 : Int32) (ah_N h6 a4) ∧ ∀ h16 : ah_H, h16 = ah_cL h6 a4 (vp_updL (ah_bL h6 a4) (0 : Int32).toNatClampNeg r7) → K (0 : Int32) h16) (fun E8 h9 => ah_m h0 h9 → ((E8 = "java/lang/IllegalArgumentException" ∧ (K (1 : Int32) h9))))
abbrev rm_LW_value : Room := { frames := 8, cells := 2, slots := 12, locals := 133 }
def w_LW_value (a1 : Nat) (a2 : Int32) (a3 : Nat) (h0 : ah_H) (K : Int32 → ah_H → Prop) : Prop :=
  ah_T h0 a1 = 4 ∧ w_BD_value a1 a2 h0 (fun r6 h5 => ah_m h0 h5 → ah_T h5 a3 = 110 ∧ vp_in (0 : Int32) (ah_N h5 a3) ∧ ∀ h15 : ah_H, h15 = ah_cL h5 a3 (vp_updL (ah_bL h5 a3) (0 : Int32).toNatClampNeg r6) → K (0 : Int32) h15) (fun E7 h8 => ah_m h0 h8 → ((E7 = "java/lang/IllegalArgumentException" ∧ (K (1 : Int32) h8)) ∨ (E7 = "java/lang/IllegalStateException" ∧ (K (2 : Int32) h8))))
abbrev rm_LW_limb : Room := { frames := 8, cells := 2, slots := 12, locals := 134 }
def w_LW_limb (a1 : Nat) (a2 : Int32) (a3 : Int32) (a4 : Nat) (h0 : ah_H) (K : Int32 → ah_H → Prop) : Prop :=
  ah_T h0 a1 = 4 ∧ w_BD_limb a1 a2 a3 h0 (fun r7 h6 => ah_m h0 h6 → ah_T h6 a4 = 110 ∧ vp_in (0 : Int32) (ah_N h6 a4) ∧ ∀ h16 : ah_H, h16 = ah_cL h6 a4 (vp_updL (ah_bL h6 a4) (0 : Int32).toNatClampNeg r7) → K (0 : Int32) h16) (fun E8 h9 => ah_m h0 h9 → ((E8 = "java/lang/IllegalArgumentException" ∧ (K (1 : Int32) h9))))
abbrev rm_LW_look : Room := { frames := 8, cells := 2, slots := 12, locals := 134 }
def w_LW_look (a1 : Nat) (a2 : Int32) (a3 : Int32) (a4 : Nat) (h0 : ah_H) (K : Int32 → ah_H → Prop) : Prop :=
  ah_T h0 a1 = 4 ∧ w_BD_look a1 a2 a3 h0 (fun r7 h6 => ah_m h0 h6 → ∀ v14 : Int64, v14 = r7.toInt64 → ah_T h6 a4 = 110 ∧ vp_in (0 : Int32) (ah_N h6 a4) ∧ ∀ h17 : ah_H, h17 = ah_cL h6 a4 (vp_updL (ah_bL h6 a4) (0 : Int32).toNatClampNeg v14) → K (0 : Int32) h17) (fun E8 h9 => ah_m h0 h9 → ((E8 = "java/lang/IllegalArgumentException" ∧ (K (1 : Int32) h9))))
abbrev rm_LW_feed : Room := { frames := 7, cells := 1, slots := 6, locals := 114 }
def w_LW_feed (a1 : Nat) (a2 : Int32) (a3 : Int64) (a4 : Nat) (h0 : ah_H) (K : Int32 → ah_H → Prop) : Prop :=
  ah_T h0 a1 = 4 ∧ w_BD_feed a1 a2 a3 h0 (fun r7 h6 => ah_m h0 h6 → ∀ v14 : Int64, v14 = r7.toInt64 → ah_T h6 a4 = 110 ∧ vp_in (0 : Int32) (ah_N h6 a4) ∧ ∀ h17 : ah_H, h17 = ah_cL h6 a4 (vp_updL (ah_bL h6 a4) (0 : Int32).toNatClampNeg v14) → K (0 : Int32) h17) (fun E8 h9 => ah_m h0 h9 → ((E8 = "java/lang/IllegalArgumentException" ∧ (K (1 : Int32) h9)) ∨ (E8 = "java/lang/IllegalStateException" ∧ (K (2 : Int32) h9))))
abbrev rm_LW_read : Room := { frames := 8, cells := 1, slots := 6, locals := 134 }
def bk_LW_read_15  (K : Int32 → ah_H → Prop) (s14 : Int64) (s15 : Int32) (s16 : Nat) (h17 : ah_H) : Prop :=
  ah_T h17 s16 = 110 ∧ vp_in s15 (ah_N h17 s16) ∧ ∀ h20 : ah_H, h20 = ah_cL h17 s16 (vp_updL (ah_bL h17 s16) s15.toNatClampNeg s14) → K (0 : Int32) h20
def w_LW_read (a1 : Nat) (a2 : Int32) (a3 : Nat) (h0 : ah_H) (K : Int32 → ah_H → Prop) : Prop :=
  ah_T h0 a1 = 4 ∧ w_BD_read a1 a2 h0 (fun r6 h5 => ah_m h0 h5 → (r6 = 0 → (bk_LW_read_15 K (0 : Int64) (0 : Int32) a3 h5)) ∧ (¬ r6 = 0 → (bk_LW_read_15 K (1 : Int64) (0 : Int32) a3 h5))) (fun E7 h8 => ah_m h0 h8 → ((E7 = "java/lang/IllegalArgumentException" ∧ (K (1 : Int32) h8))))
abbrev rm_LW_write : Room := { frames := 8, cells := 1, slots := 6, locals := 132 }
def w_LW_write (a1 : Nat) (a2 : Int32) (a3 : Nat) (h0 : ah_H) (K : Int32 → ah_H → Prop) : Prop :=
  ah_T h0 a1 = 4 ∧ w_BD_write a1 a2 h0 (fun r6 h5 => ah_m h0 h5 → ∀ v13 : Int64, v13 = r6.toInt64 → ah_T h5 a3 = 110 ∧ vp_in (0 : Int32) (ah_N h5 a3) ∧ ∀ h16 : ah_H, h16 = ah_cL h5 a3 (vp_updL (ah_bL h5 a3) (0 : Int32).toNatClampNeg v13) → K (0 : Int32) h16) (fun E7 h8 => ah_m h0 h8 → ((E7 = "java/lang/IllegalArgumentException" ∧ (K (1 : Int32) h8))))
abbrev rm_LW_text : Room := { frames := 7, cells := 1, slots := 6, locals := 111 }
def w_LW_text (a1 : Nat) (a2 : Int32) (a3 : Nat) (h0 : ah_H) (K : Int32 → ah_H → Prop) : Prop :=
  ah_T h0 a1 = 4 ∧ w_BD_text a1 a2 h0 (fun r6 h5 => ah_m h0 h5 → ∀ v13 : Int64, v13 = r6.toInt64 → ah_T h5 a3 = 110 ∧ vp_in (0 : Int32) (ah_N h5 a3) ∧ ∀ h16 : ah_H, h16 = ah_cL h5 a3 (vp_updL (ah_bL h5 a3) (0 : Int32).toNatClampNeg v13) → K (0 : Int32) h16) (fun E7 h8 => ah_m h0 h8 → ((E7 = "java/lang/IllegalArgumentException" ∧ (K (1 : Int32) h8))))
set_option maxHeartbeats 4000000 in
set_option maxRecDepth 100000 in
theorem m_LW_set {l : Launch} (G : zG) (a1 : Nat) (a2 : Int32) (a3 : Int64) (h0 : ah_H) {K : Int32 → ah_H → Prop} (hst : l.stackTraces = false) (w : w_LW_set a1 a2 a3 h0 K) : Met l y_LW_set (Cond.codeWith y_LW_set b_LW_set 5 (some .int) [((0 : Nat), (6 : Nat), (9 : Nat), (13 : Nat))] :: zx_T) rm_LW_set (va_Pc [.ref a1, .int a2, .long a3] (ah_B G h0)) (va_Qi (fun r9 h9 => K r9 h9 ∧ ah_m h0 h9) (ah_B G) (fun q => G.2.2 ≤ q)) 1 6 (fun q => G.2.2 ≤ q) := by
  refine va_MetW (cc := b_LW_set) (maxL := 5) (ret := (some .int)) (hh :=  [((0 : Nat), (6 : Nat), (9 : Nat), (13 : Nat))]) (by decide) rfl ?_
  intro p e s m args below meth c s₁ B hml hv
  have htb := vx_table (x := y_LW_set) B (atoms_spec B.pre _ List.mem_cons_self)
  obtain ⟨rfl, hB⟩ := hv
  have C : cx_C p l s m _ meth c G y_LW_set b_LW_set 5 (some .int) "BigDeskLaw" (Cond.codeWith y_LW_set b_LW_set 5 (some .int) [((0 : Nat), (6 : Nat), (9 : Nat), (13 : Nat))] :: zx_T) (tableOf [((0 : Nat), (6 : Nat), (9 : Nat), (13 : Nat))]) := ⟨B.exec, B.bytes, B.returns, hml, findClass_of_methodNamed B.named, atoms_spec B.pre, cx_hd, B.notSynchronized, hB.2.2.1, hB.2.2.2, htb, fun z9 => (name_of_methodNamed B.named B.method).1.trans z9, hst⟩
  obtain ⟨hx, hb, hr, hml, hown, hts, hT, hlk, hK, hX, htb, hin, hst⟩ := id C
  have hw : ∀ {w9 : Cond}, w9 ∈ zx_T → w9.before _ s = true := fun h9 => hts _ (hT _ h9)
  have hW : ah_W G s.heap h0 s.heap [] := ⟨hB.1, hB.2.1, va_S.rf⟩
  have hm : ah_m h0 h0 := ah_m.rf
  have hcl : 0 + 1 ≤ 1 := by decide
  have hsl : 0 + 6 ≤ 6 := by decide
  have hl := lv_entry ([.ref a1, .int a2, .long a3]) (n := 5) (Nat.le_of_ble_eq_true rfl)
  rw [lg_entry_eq]
  generalize (lg_sl ([.ref a1, .int a2, .long a3]) ++ List.replicate (5 - (lg_sl ([.ref a1, .int a2, .long a3])).length) Slot.unset).toArray = ls at hl ⊢
  have hl : lv_has ls 5 [(0, .ref a1), (1, .int a2), (2, .long a3)] := hl
  unfold w_LW_set at w
  refine lv_aload_n hx hb d_LW_set_0 rfl (lv_at hl 0 rfl) ?_
  refine lv_iload_n hx hb d_LW_set_1 rfl (lv_at hl 1 rfl) ?_
  refine lv_lload_n hx hb d_LW_set_2 rfl (lv_at hl 2 rfl) ?_
  obtain ⟨t4, w⟩ := w
  refine hx_v (vx_runV (As := [.int a2, .long a3]) (rest := []) ⟨hx, hb, hml, hown, hts⟩ (m_BD_set G a1 a2 a3 h0 hst w) (cwV 2 hts (zx_gV hT wd_137 wd_138 wd_139 wd_1 wd_140) rfl rfl rfl (by decide +kernel) ⟨Nat.le_of_ble_eq_true rfl, Nat.le_of_ble_eq_true rfl⟩) (hb_preV hK hX hW t4 (by decide) rfl) rfl rfl hl.1 rfl (lv_room (Nat.le_of_ble_eq_true rfl)) d_LW_set_3 ⟨(by show _ ≤ 1; omega), (by show _ ≤ 6; omega)⟩) hW (fun E6 ce9 q8 h7 H locs hE hW c1 c2 c3 => ?_) (fun h5 H locs hk hW => ?_)
  · obtain ⟨wE, mm9⟩ := hE
    have hm := hm.tr mm9
    rcases wE mm9 with ⟨rfl, w⟩
    · refine vx_catch (name := "java/lang/IllegalArgumentException") hown [] ⟨0, 6, 9, 13⟩ [] (by rw [htb]; rfl) (fun _ h9 => nomatch h9) rfl (by decide) (hw wd_136) (zx_use hts hT hX zx_cast_IllegalArgumentException rfl) c1 c2 c3 ?_
      refine W.eq (g2 := F0 m 9 ls [.ref q8]) rfl ?_
      refine lv_astore (lv' := [(4, .ref q8), (0, .ref a1), (1, .int a2), (2, .long a3)]) hx hb d_LW_set_9 hl (by decide) rfl (fun ls hl => ?_)
      refine lv_iconst (v := 1) hx hb d_LW_set_11 (by decide) ?_
      exact hb_iret (K := fun r9 h9 => K r9 h9 ∧ ah_m h0 h9) hx hb hr hlk hK hX hW ⟨w, hm⟩ (by omega) (by omega) d_LW_set_12
  · skip
    obtain ⟨w, mm10⟩ := hk
    have w := w mm10
    have hm := hm.tr mm10
    have t11 := mm10.tg t4 (by decide)
    refine lv_goto (tgt := 13) hx hb d_LW_set_6 (by decide) ?_
    refine lv_iconst (v := 0) hx hb d_LW_set_13 (by decide) ?_
    exact hb_iret (K := fun r9 h9 => K r9 h9 ∧ ah_m h0 h9) hx hb hr hlk hK hX hW ⟨w, hm⟩ (by omega) (by omega) d_LW_set_14
set_option maxHeartbeats 4000000 in
set_option maxRecDepth 100000 in
theorem m_LW_copy {l : Launch} (G : zG) (a1 : Nat) (a2 : Int32) (a3 : Int32) (h0 : ah_H) {K : Int32 → ah_H → Prop} (hst : l.stackTraces = false) (w : w_LW_copy a1 a2 a3 h0 K) : Met l y_LW_copy (Cond.codeWith y_LW_copy b_LW_copy 4 (some .int) [((0 : Nat), (6 : Nat), (9 : Nat), (13 : Nat))] :: zx_T) rm_LW_copy (va_Pc [.ref a1, .int a2, .int a3] (ah_B G h0)) (va_Qi (fun r9 h9 => K r9 h9 ∧ ah_m h0 h9) (ah_B G) (fun q => G.2.2 ≤ q)) 2 12 (fun q => G.2.2 ≤ q) := by
  refine va_MetW (cc := b_LW_copy) (maxL := 4) (ret := (some .int)) (hh :=  [((0 : Nat), (6 : Nat), (9 : Nat), (13 : Nat))]) (by decide) rfl ?_
  intro p e s m args below meth c s₁ B hml hv
  have htb := vx_table (x := y_LW_copy) B (atoms_spec B.pre _ List.mem_cons_self)
  obtain ⟨rfl, hB⟩ := hv
  have C : cx_C p l s m _ meth c G y_LW_copy b_LW_copy 4 (some .int) "BigDeskLaw" (Cond.codeWith y_LW_copy b_LW_copy 4 (some .int) [((0 : Nat), (6 : Nat), (9 : Nat), (13 : Nat))] :: zx_T) (tableOf [((0 : Nat), (6 : Nat), (9 : Nat), (13 : Nat))]) := ⟨B.exec, B.bytes, B.returns, hml, findClass_of_methodNamed B.named, atoms_spec B.pre, cx_hd, B.notSynchronized, hB.2.2.1, hB.2.2.2, htb, fun z9 => (name_of_methodNamed B.named B.method).1.trans z9, hst⟩
  obtain ⟨hx, hb, hr, hml, hown, hts, hT, hlk, hK, hX, htb, hin, hst⟩ := id C
  have hw : ∀ {w9 : Cond}, w9 ∈ zx_T → w9.before _ s = true := fun h9 => hts _ (hT _ h9)
  have hW : ah_W G s.heap h0 s.heap [] := ⟨hB.1, hB.2.1, va_S.rf⟩
  have hm : ah_m h0 h0 := ah_m.rf
  have hcl : 0 + 2 ≤ 2 := by decide
  have hsl : 0 + 12 ≤ 12 := by decide
  have hl := lv_entry ([.ref a1, .int a2, .int a3]) (n := 4) (Nat.le_of_ble_eq_true rfl)
  rw [lg_entry_eq]
  generalize (lg_sl ([.ref a1, .int a2, .int a3]) ++ List.replicate (4 - (lg_sl ([.ref a1, .int a2, .int a3])).length) Slot.unset).toArray = ls at hl ⊢
  have hl : lv_has ls 4 [(0, .ref a1), (1, .int a2), (2, .int a3)] := hl
  unfold w_LW_copy at w
  refine lv_aload_n hx hb d_LW_copy_0 rfl (lv_at hl 0 rfl) ?_
  refine lv_iload_n hx hb d_LW_copy_1 rfl (lv_at hl 1 rfl) ?_
  refine lv_iload_n hx hb d_LW_copy_2 rfl (lv_at hl 2 rfl) ?_
  obtain ⟨t4, w⟩ := w
  refine hx_v (vx_runV (As := [.int a2, .int a3]) (rest := []) ⟨hx, hb, hml, hown, hts⟩ (m_BD_copy G a1 a2 a3 h0 hst w) (cwV 2 hts (zx_gV hT wd_229 wd_230 wd_231 wd_1 wd_232) rfl rfl rfl (by decide +kernel) ⟨Nat.le_of_ble_eq_true rfl, Nat.le_of_ble_eq_true rfl⟩) (hb_preV hK hX hW t4 (by decide) rfl) rfl rfl hl.1 rfl (lv_room (Nat.le_of_ble_eq_true rfl)) d_LW_copy_3 ⟨(by show _ ≤ 2; omega), (by show _ ≤ 12; omega)⟩) hW (fun E6 ce9 q8 h7 H locs hE hW c1 c2 c3 => ?_) (fun h5 H locs hk hW => ?_)
  · obtain ⟨wE, mm9⟩ := hE
    have hm := hm.tr mm9
    rcases wE mm9 with ⟨rfl, w⟩
    · refine vx_catch (name := "java/lang/IllegalArgumentException") hown [] ⟨0, 6, 9, 13⟩ [] (by rw [htb]; rfl) (fun _ h9 => nomatch h9) rfl (by decide) (hw wd_136) (zx_use hts hT hX zx_cast_IllegalArgumentException rfl) c1 c2 c3 ?_
      refine W.eq (g2 := F0 m 9 ls [.ref q8]) rfl ?_
      refine lv_astore_n (lv' := [(3, .ref q8), (0, .ref a1), (1, .int a2), (2, .int a3)]) hx hb d_LW_copy_9 rfl hl (by decide) rfl (fun ls hl => ?_)
      refine lv_iconst (v := 1) hx hb d_LW_copy_10 (by decide) ?_
      exact hb_iret (K := fun r9 h9 => K r9 h9 ∧ ah_m h0 h9) hx hb hr hlk hK hX hW ⟨w, hm⟩ (by omega) (by omega) d_LW_copy_11
  · skip
    obtain ⟨w, mm10⟩ := hk
    have w := w mm10
    have hm := hm.tr mm10
    have t11 := mm10.tg t4 (by decide)
    refine lv_goto (tgt := 12) hx hb d_LW_copy_6 (by decide) ?_
    refine lv_iconst (v := 0) hx hb d_LW_copy_12 (by decide) ?_
    exact hb_iret (K := fun r9 h9 => K r9 h9 ∧ ah_m h0 h9) hx hb hr hlk hK hX hW ⟨w, hm⟩ (by omega) (by omega) d_LW_copy_13
set_option maxHeartbeats 4000000 in
set_option maxRecDepth 100000 in
theorem m_LW_add {l : Launch} (G : zG) (a1 : Nat) (a2 : Int32) (a3 : Int32) (a4 : Int32) (h0 : ah_H) {K : Int32 → ah_H → Prop} (hst : l.stackTraces = false) (w : w_LW_add a1 a2 a3 a4 h0 K) : Met l y_LW_add (Cond.codeWith y_LW_add b_LW_add 5 (some .int) [((0 : Nat), (7 : Nat), (10 : Nat), (13 : Nat)), ((0 : Nat), (7 : Nat), (14 : Nat), (23 : Nat))] :: zx_T) rm_LW_add (va_Pc [.ref a1, .int a2, .int a3, .int a4] (ah_B G h0)) (va_Qi (fun r9 h9 => K r9 h9 ∧ ah_m h0 h9) (ah_B G) (fun q => G.2.2 ≤ q)) 4 24 (fun q => G.2.2 ≤ q) := by
  refine va_MetW (cc := b_LW_add) (maxL := 5) (ret := (some .int)) (hh :=  [((0 : Nat), (7 : Nat), (10 : Nat), (13 : Nat)), ((0 : Nat), (7 : Nat), (14 : Nat), (23 : Nat))]) (by decide) rfl ?_
  intro p e s m args below meth c s₁ B hml hv
  have htb := vx_table (x := y_LW_add) B (atoms_spec B.pre _ List.mem_cons_self)
  obtain ⟨rfl, hB⟩ := hv
  have C : cx_C p l s m _ meth c G y_LW_add b_LW_add 5 (some .int) "BigDeskLaw" (Cond.codeWith y_LW_add b_LW_add 5 (some .int) [((0 : Nat), (7 : Nat), (10 : Nat), (13 : Nat)), ((0 : Nat), (7 : Nat), (14 : Nat), (23 : Nat))] :: zx_T) (tableOf [((0 : Nat), (7 : Nat), (10 : Nat), (13 : Nat)), ((0 : Nat), (7 : Nat), (14 : Nat), (23 : Nat))]) := ⟨B.exec, B.bytes, B.returns, hml, findClass_of_methodNamed B.named, atoms_spec B.pre, cx_hd, B.notSynchronized, hB.2.2.1, hB.2.2.2, htb, fun z9 => (name_of_methodNamed B.named B.method).1.trans z9, hst⟩
  obtain ⟨hx, hb, hr, hml, hown, hts, hT, hlk, hK, hX, htb, hin, hst⟩ := id C
  have hw : ∀ {w9 : Cond}, w9 ∈ zx_T → w9.before _ s = true := fun h9 => hts _ (hT _ h9)
  have hW : ah_W G s.heap h0 s.heap [] := ⟨hB.1, hB.2.1, va_S.rf⟩
  have hm : ah_m h0 h0 := ah_m.rf
  have hcl : 0 + 4 ≤ 4 := by decide
  have hsl : 0 + 24 ≤ 24 := by decide
  have hl := lv_entry ([.ref a1, .int a2, .int a3, .int a4]) (n := 5) (Nat.le_of_ble_eq_true rfl)
  rw [lg_entry_eq]
  generalize (lg_sl ([.ref a1, .int a2, .int a3, .int a4]) ++ List.replicate (5 - (lg_sl ([.ref a1, .int a2, .int a3, .int a4])).length) Slot.unset).toArray = ls at hl ⊢
  have hl : lv_has ls 5 [(0, .ref a1), (1, .int a2), (2, .int a3), (3, .int a4)] := hl
  unfold w_LW_add at w
  refine lv_aload_n hx hb d_LW_add_0 rfl (lv_at hl 0 rfl) ?_
  refine lv_iload_n hx hb d_LW_add_1 rfl (lv_at hl 1 rfl) ?_
  refine lv_iload_n hx hb d_LW_add_2 rfl (lv_at hl 2 rfl) ?_
  refine lv_iload_n hx hb d_LW_add_3 rfl (lv_at hl 3 rfl) ?_
  obtain ⟨t5, w⟩ := w
  refine hx_v (vx_runV (As := [.int a2, .int a3, .int a4]) (rest := []) ⟨hx, hb, hml, hown, hts⟩ (m_BD_add G a1 a2 a3 a4 h0 hst w) (cwV 3 hts (zx_gV hT wd_244 wd_245 wd_246 wd_1 wd_247) rfl rfl rfl (by decide +kernel) ⟨Nat.le_of_ble_eq_true rfl, Nat.le_of_ble_eq_true rfl⟩) (hb_preV hK hX hW t5 (by decide) rfl) rfl rfl hl.1 rfl (lv_room (Nat.le_of_ble_eq_true rfl)) d_LW_add_4 ⟨(by show _ ≤ 4; omega), (by show _ ≤ 24; omega)⟩) hW (fun E7 ce9 q9 h8 H locs hE hW c1 c2 c3 => ?_) (fun h6 H locs hk hW => ?_)
  · obtain ⟨wE, mm10⟩ := hE
    have hm := hm.tr mm10
    rcases wE mm10 with ⟨rfl, w⟩ | ⟨rfl, w⟩
    · refine vx_catch (name := "java/lang/IllegalArgumentException") hown [] ⟨0, 7, 10, 13⟩ [⟨0, 7, 14, 23⟩] (by rw [htb]; rfl) (fun _ h9 => nomatch h9) rfl (by decide) (hw wd_136) (zx_use hts hT hX zx_cast_IllegalArgumentException rfl) c1 c2 c3 ?_
      refine W.eq (g2 := F0 m 10 ls [.ref q9]) rfl ?_
      refine lv_astore (lv' := [(4, .ref q9), (0, .ref a1), (1, .int a2), (2, .int a3), (3, .int a4)]) hx hb d_LW_add_10 hl (by decide) rfl (fun ls hl => ?_)
      refine lv_iconst (v := 1) hx hb d_LW_add_12 (by decide) ?_
      exact hb_iret (K := fun r9 h9 => K r9 h9 ∧ ah_m h0 h9) hx hb hr hlk hK hX hW ⟨w, hm⟩ (by omega) (by omega) d_LW_add_13
    · refine vx_catch (name := "java/lang/IllegalStateException") hown [⟨0, 7, 10, 13⟩] ⟨0, 7, 14, 23⟩ [] (by rw [htb]; rfl) (fun z9 h9 => by cases List.mem_singleton.mp h9; exact Or.inr ⟨by decide, "java/lang/IllegalArgumentException", hw wd_136, hX.2.2.1 ("java/lang/IllegalStateException", "java/lang/IllegalArgumentException") (by decide)⟩) rfl (by decide) (hw wd_243) (zx_use hts hT hX zx_cast_IllegalStateException rfl) c1 c2 c3 ?_
      refine W.eq (g2 := F0 m 14 ls [.ref q9]) rfl ?_
      refine lv_astore (lv' := [(4, .ref q9), (0, .ref a1), (1, .int a2), (2, .int a3), (3, .int a4)]) hx hb d_LW_add_14 hl (by decide) rfl (fun ls hl => ?_)
      refine lv_iconst (v := 2) hx hb d_LW_add_16 (by decide) ?_
      exact hb_iret (K := fun r9 h9 => K r9 h9 ∧ ah_m h0 h9) hx hb hr hlk hK hX hW ⟨w, hm⟩ (by omega) (by omega) d_LW_add_17
  · skip
    obtain ⟨w, mm11⟩ := hk
    have w := w mm11
    have hm := hm.tr mm11
    have t12 := mm11.tg t5 (by decide)
    refine lv_goto (tgt := 18) hx hb d_LW_add_7 (by decide) ?_
    refine lv_iconst (v := 0) hx hb d_LW_add_18 (by decide) ?_
    exact hb_iret (K := fun r9 h9 => K r9 h9 ∧ ah_m h0 h9) hx hb hr hlk hK hX hW ⟨w, hm⟩ (by omega) (by omega) d_LW_add_19
set_option maxHeartbeats 4000000 in
set_option maxRecDepth 100000 in
theorem m_LW_subtract {l : Launch} (G : zG) (a1 : Nat) (a2 : Int32) (a3 : Int32) (a4 : Int32) (h0 : ah_H) {K : Int32 → ah_H → Prop} (hst : l.stackTraces = false) (w : w_LW_subtract a1 a2 a3 a4 h0 K) : Met l y_LW_subtract (Cond.codeWith y_LW_subtract b_LW_subtract 5 (some .int) [((0 : Nat), (7 : Nat), (10 : Nat), (13 : Nat)), ((0 : Nat), (7 : Nat), (14 : Nat), (23 : Nat))] :: zx_T) rm_LW_subtract (va_Pc [.ref a1, .int a2, .int a3, .int a4] (ah_B G h0)) (va_Qi (fun r9 h9 => K r9 h9 ∧ ah_m h0 h9) (ah_B G) (fun q => G.2.2 ≤ q)) 4 24 (fun q => G.2.2 ≤ q) := by
  refine va_MetW (cc := b_LW_subtract) (maxL := 5) (ret := (some .int)) (hh :=  [((0 : Nat), (7 : Nat), (10 : Nat), (13 : Nat)), ((0 : Nat), (7 : Nat), (14 : Nat), (23 : Nat))]) (by decide) rfl ?_
  intro p e s m args below meth c s₁ B hml hv
  have htb := vx_table (x := y_LW_subtract) B (atoms_spec B.pre _ List.mem_cons_self)
  obtain ⟨rfl, hB⟩ := hv
  have C : cx_C p l s m _ meth c G y_LW_subtract b_LW_subtract 5 (some .int) "BigDeskLaw" (Cond.codeWith y_LW_subtract b_LW_subtract 5 (some .int) [((0 : Nat), (7 : Nat), (10 : Nat), (13 : Nat)), ((0 : Nat), (7 : Nat), (14 : Nat), (23 : Nat))] :: zx_T) (tableOf [((0 : Nat), (7 : Nat), (10 : Nat), (13 : Nat)), ((0 : Nat), (7 : Nat), (14 : Nat), (23 : Nat))]) := ⟨B.exec, B.bytes, B.returns, hml, findClass_of_methodNamed B.named, atoms_spec B.pre, cx_hd, B.notSynchronized, hB.2.2.1, hB.2.2.2, htb, fun z9 => (name_of_methodNamed B.named B.method).1.trans z9, hst⟩
  obtain ⟨hx, hb, hr, hml, hown, hts, hT, hlk, hK, hX, htb, hin, hst⟩ := id C
  have hw : ∀ {w9 : Cond}, w9 ∈ zx_T → w9.before _ s = true := fun h9 => hts _ (hT _ h9)
  have hW : ah_W G s.heap h0 s.heap [] := ⟨hB.1, hB.2.1, va_S.rf⟩
  have hm : ah_m h0 h0 := ah_m.rf
  have hcl : 0 + 4 ≤ 4 := by decide
  have hsl : 0 + 24 ≤ 24 := by decide
  have hl := lv_entry ([.ref a1, .int a2, .int a3, .int a4]) (n := 5) (Nat.le_of_ble_eq_true rfl)
  rw [lg_entry_eq]
  generalize (lg_sl ([.ref a1, .int a2, .int a3, .int a4]) ++ List.replicate (5 - (lg_sl ([.ref a1, .int a2, .int a3, .int a4])).length) Slot.unset).toArray = ls at hl ⊢
  have hl : lv_has ls 5 [(0, .ref a1), (1, .int a2), (2, .int a3), (3, .int a4)] := hl
  unfold w_LW_subtract at w
  refine lv_aload_n hx hb d_LW_subtract_0 rfl (lv_at hl 0 rfl) ?_
  refine lv_iload_n hx hb d_LW_subtract_1 rfl (lv_at hl 1 rfl) ?_
  refine lv_iload_n hx hb d_LW_subtract_2 rfl (lv_at hl 2 rfl) ?_
  refine lv_iload_n hx hb d_LW_subtract_3 rfl (lv_at hl 3 rfl) ?_
  obtain ⟨t5, w⟩ := w
  refine hx_v (vx_runV (As := [.int a2, .int a3, .int a4]) (rest := []) ⟨hx, hb, hml, hown, hts⟩ (m_BD_subtract G a1 a2 a3 a4 h0 hst w) (cwV 3 hts (zx_gV hT wd_299 wd_300 wd_301 wd_1 wd_302) rfl rfl rfl (by decide +kernel) ⟨Nat.le_of_ble_eq_true rfl, Nat.le_of_ble_eq_true rfl⟩) (hb_preV hK hX hW t5 (by decide) rfl) rfl rfl hl.1 rfl (lv_room (Nat.le_of_ble_eq_true rfl)) d_LW_subtract_4 ⟨(by show _ ≤ 4; omega), (by show _ ≤ 24; omega)⟩) hW (fun E7 ce9 q9 h8 H locs hE hW c1 c2 c3 => ?_) (fun h6 H locs hk hW => ?_)
  · obtain ⟨wE, mm10⟩ := hE
    have hm := hm.tr mm10
    rcases wE mm10 with ⟨rfl, w⟩ | ⟨rfl, w⟩
    · refine vx_catch (name := "java/lang/IllegalArgumentException") hown [] ⟨0, 7, 10, 13⟩ [⟨0, 7, 14, 23⟩] (by rw [htb]; rfl) (fun _ h9 => nomatch h9) rfl (by decide) (hw wd_136) (zx_use hts hT hX zx_cast_IllegalArgumentException rfl) c1 c2 c3 ?_
      refine W.eq (g2 := F0 m 10 ls [.ref q9]) rfl ?_
      refine lv_astore (lv' := [(4, .ref q9), (0, .ref a1), (1, .int a2), (2, .int a3), (3, .int a4)]) hx hb d_LW_subtract_10 hl (by decide) rfl (fun ls hl => ?_)
      refine lv_iconst (v := 1) hx hb d_LW_subtract_12 (by decide) ?_
      exact hb_iret (K := fun r9 h9 => K r9 h9 ∧ ah_m h0 h9) hx hb hr hlk hK hX hW ⟨w, hm⟩ (by omega) (by omega) d_LW_subtract_13
    · refine vx_catch (name := "java/lang/IllegalStateException") hown [⟨0, 7, 10, 13⟩] ⟨0, 7, 14, 23⟩ [] (by rw [htb]; rfl) (fun z9 h9 => by cases List.mem_singleton.mp h9; exact Or.inr ⟨by decide, "java/lang/IllegalArgumentException", hw wd_136, hX.2.2.1 ("java/lang/IllegalStateException", "java/lang/IllegalArgumentException") (by decide)⟩) rfl (by decide) (hw wd_243) (zx_use hts hT hX zx_cast_IllegalStateException rfl) c1 c2 c3 ?_
      refine W.eq (g2 := F0 m 14 ls [.ref q9]) rfl ?_
      refine lv_astore (lv' := [(4, .ref q9), (0, .ref a1), (1, .int a2), (2, .int a3), (3, .int a4)]) hx hb d_LW_subtract_14 hl (by decide) rfl (fun ls hl => ?_)
      refine lv_iconst (v := 2) hx hb d_LW_subtract_16 (by decide) ?_
      exact hb_iret (K := fun r9 h9 => K r9 h9 ∧ ah_m h0 h9) hx hb hr hlk hK hX hW ⟨w, hm⟩ (by omega) (by omega) d_LW_subtract_17
  · skip
    obtain ⟨w, mm11⟩ := hk
    have w := w mm11
    have hm := hm.tr mm11
    have t12 := mm11.tg t5 (by decide)
    refine lv_goto (tgt := 18) hx hb d_LW_subtract_7 (by decide) ?_
    refine lv_iconst (v := 0) hx hb d_LW_subtract_18 (by decide) ?_
    exact hb_iret (K := fun r9 h9 => K r9 h9 ∧ ah_m h0 h9) hx hb hr hlk hK hX hW ⟨w, hm⟩ (by omega) (by omega) d_LW_subtract_19
set_option maxHeartbeats 4000000 in
set_option maxRecDepth 100000 in
theorem m_LW_multiply {l : Launch} (G : zG) (a1 : Nat) (a2 : Int32) (a3 : Int32) (a4 : Int32) (h0 : ah_H) {K : Int32 → ah_H → Prop} (hst : l.stackTraces = false) (w : w_LW_multiply a1 a2 a3 a4 h0 K) : Met l y_LW_multiply (Cond.codeWith y_LW_multiply b_LW_multiply 5 (some .int) [((0 : Nat), (7 : Nat), (10 : Nat), (13 : Nat)), ((0 : Nat), (7 : Nat), (14 : Nat), (23 : Nat))] :: zx_T) rm_LW_multiply (va_Pc [.ref a1, .int a2, .int a3, .int a4] (ah_B G h0)) (va_Qi (fun r9 h9 => K r9 h9 ∧ ah_m h0 h9) (ah_B G) (fun q => G.2.2 ≤ q)) 4 24 (fun q => G.2.2 ≤ q) := by
  refine va_MetW (cc := b_LW_multiply) (maxL := 5) (ret := (some .int)) (hh :=  [((0 : Nat), (7 : Nat), (10 : Nat), (13 : Nat)), ((0 : Nat), (7 : Nat), (14 : Nat), (23 : Nat))]) (by decide) rfl ?_
  intro p e s m args below meth c s₁ B hml hv
  have htb := vx_table (x := y_LW_multiply) B (atoms_spec B.pre _ List.mem_cons_self)
  obtain ⟨rfl, hB⟩ := hv
  have C : cx_C p l s m _ meth c G y_LW_multiply b_LW_multiply 5 (some .int) "BigDeskLaw" (Cond.codeWith y_LW_multiply b_LW_multiply 5 (some .int) [((0 : Nat), (7 : Nat), (10 : Nat), (13 : Nat)), ((0 : Nat), (7 : Nat), (14 : Nat), (23 : Nat))] :: zx_T) (tableOf [((0 : Nat), (7 : Nat), (10 : Nat), (13 : Nat)), ((0 : Nat), (7 : Nat), (14 : Nat), (23 : Nat))]) := ⟨B.exec, B.bytes, B.returns, hml, findClass_of_methodNamed B.named, atoms_spec B.pre, cx_hd, B.notSynchronized, hB.2.2.1, hB.2.2.2, htb, fun z9 => (name_of_methodNamed B.named B.method).1.trans z9, hst⟩
  obtain ⟨hx, hb, hr, hml, hown, hts, hT, hlk, hK, hX, htb, hin, hst⟩ := id C
  have hw : ∀ {w9 : Cond}, w9 ∈ zx_T → w9.before _ s = true := fun h9 => hts _ (hT _ h9)
  have hW : ah_W G s.heap h0 s.heap [] := ⟨hB.1, hB.2.1, va_S.rf⟩
  have hm : ah_m h0 h0 := ah_m.rf
  have hcl : 0 + 4 ≤ 4 := by decide
  have hsl : 0 + 24 ≤ 24 := by decide
  have hl := lv_entry ([.ref a1, .int a2, .int a3, .int a4]) (n := 5) (Nat.le_of_ble_eq_true rfl)
  rw [lg_entry_eq]
  generalize (lg_sl ([.ref a1, .int a2, .int a3, .int a4]) ++ List.replicate (5 - (lg_sl ([.ref a1, .int a2, .int a3, .int a4])).length) Slot.unset).toArray = ls at hl ⊢
  have hl : lv_has ls 5 [(0, .ref a1), (1, .int a2), (2, .int a3), (3, .int a4)] := hl
  unfold w_LW_multiply at w
  refine lv_aload_n hx hb d_LW_multiply_0 rfl (lv_at hl 0 rfl) ?_
  refine lv_iload_n hx hb d_LW_multiply_1 rfl (lv_at hl 1 rfl) ?_
  refine lv_iload_n hx hb d_LW_multiply_2 rfl (lv_at hl 2 rfl) ?_
  refine lv_iload_n hx hb d_LW_multiply_3 rfl (lv_at hl 3 rfl) ?_
  obtain ⟨t5, w⟩ := w
  refine hx_v (vx_runV (As := [.int a2, .int a3, .int a4]) (rest := []) ⟨hx, hb, hml, hown, hts⟩ (m_BD_multiply G a1 a2 a3 a4 h0 hst w) (cwV 3 hts (zx_gV hT wd_306 wd_307 wd_308 wd_1 wd_309) rfl rfl rfl (by decide +kernel) ⟨Nat.le_of_ble_eq_true rfl, Nat.le_of_ble_eq_true rfl⟩) (hb_preV hK hX hW t5 (by decide) rfl) rfl rfl hl.1 rfl (lv_room (Nat.le_of_ble_eq_true rfl)) d_LW_multiply_4 ⟨(by show _ ≤ 4; omega), (by show _ ≤ 24; omega)⟩) hW (fun E7 ce9 q9 h8 H locs hE hW c1 c2 c3 => ?_) (fun h6 H locs hk hW => ?_)
  · obtain ⟨wE, mm10⟩ := hE
    have hm := hm.tr mm10
    rcases wE mm10 with ⟨rfl, w⟩ | ⟨rfl, w⟩
    · refine vx_catch (name := "java/lang/IllegalArgumentException") hown [] ⟨0, 7, 10, 13⟩ [⟨0, 7, 14, 23⟩] (by rw [htb]; rfl) (fun _ h9 => nomatch h9) rfl (by decide) (hw wd_136) (zx_use hts hT hX zx_cast_IllegalArgumentException rfl) c1 c2 c3 ?_
      refine W.eq (g2 := F0 m 10 ls [.ref q9]) rfl ?_
      refine lv_astore (lv' := [(4, .ref q9), (0, .ref a1), (1, .int a2), (2, .int a3), (3, .int a4)]) hx hb d_LW_multiply_10 hl (by decide) rfl (fun ls hl => ?_)
      refine lv_iconst (v := 1) hx hb d_LW_multiply_12 (by decide) ?_
      exact hb_iret (K := fun r9 h9 => K r9 h9 ∧ ah_m h0 h9) hx hb hr hlk hK hX hW ⟨w, hm⟩ (by omega) (by omega) d_LW_multiply_13
    · refine vx_catch (name := "java/lang/IllegalStateException") hown [⟨0, 7, 10, 13⟩] ⟨0, 7, 14, 23⟩ [] (by rw [htb]; rfl) (fun z9 h9 => by cases List.mem_singleton.mp h9; exact Or.inr ⟨by decide, "java/lang/IllegalArgumentException", hw wd_136, hX.2.2.1 ("java/lang/IllegalStateException", "java/lang/IllegalArgumentException") (by decide)⟩) rfl (by decide) (hw wd_243) (zx_use hts hT hX zx_cast_IllegalStateException rfl) c1 c2 c3 ?_
      refine W.eq (g2 := F0 m 14 ls [.ref q9]) rfl ?_
      refine lv_astore (lv' := [(4, .ref q9), (0, .ref a1), (1, .int a2), (2, .int a3), (3, .int a4)]) hx hb d_LW_multiply_14 hl (by decide) rfl (fun ls hl => ?_)
      refine lv_iconst (v := 2) hx hb d_LW_multiply_16 (by decide) ?_
      exact hb_iret (K := fun r9 h9 => K r9 h9 ∧ ah_m h0 h9) hx hb hr hlk hK hX hW ⟨w, hm⟩ (by omega) (by omega) d_LW_multiply_17
  · skip
    obtain ⟨w, mm11⟩ := hk
    have w := w mm11
    have hm := hm.tr mm11
    have t12 := mm11.tg t5 (by decide)
    refine lv_goto (tgt := 18) hx hb d_LW_multiply_7 (by decide) ?_
    refine lv_iconst (v := 0) hx hb d_LW_multiply_18 (by decide) ?_
    exact hb_iret (K := fun r9 h9 => K r9 h9 ∧ ah_m h0 h9) hx hb hr hlk hK hX hW ⟨w, hm⟩ (by omega) (by omega) d_LW_multiply_19
set_option maxHeartbeats 4000000 in
set_option maxRecDepth 100000 in
theorem m_LW_times {l : Launch} (G : zG) (a1 : Nat) (a2 : Int32) (a3 : Int32) (a4 : Int64) (h0 : ah_H) {K : Int32 → ah_H → Prop} (hst : l.stackTraces = false) (w : w_LW_times a1 a2 a3 a4 h0 K) : Met l y_LW_times (Cond.codeWith y_LW_times b_LW_times 6 (some .int) [((0 : Nat), (7 : Nat), (10 : Nat), (13 : Nat)), ((0 : Nat), (7 : Nat), (14 : Nat), (23 : Nat))] :: zx_T) rm_LW_times (va_Pc [.ref a1, .int a2, .int a3, .long a4] (ah_B G h0)) (va_Qi (fun r9 h9 => K r9 h9 ∧ ah_m h0 h9) (ah_B G) (fun q => G.2.2 ≤ q)) 3 18 (fun q => G.2.2 ≤ q) := by
  refine va_MetW (cc := b_LW_times) (maxL := 6) (ret := (some .int)) (hh :=  [((0 : Nat), (7 : Nat), (10 : Nat), (13 : Nat)), ((0 : Nat), (7 : Nat), (14 : Nat), (23 : Nat))]) (by decide) rfl ?_
  intro p e s m args below meth c s₁ B hml hv
  have htb := vx_table (x := y_LW_times) B (atoms_spec B.pre _ List.mem_cons_self)
  obtain ⟨rfl, hB⟩ := hv
  have C : cx_C p l s m _ meth c G y_LW_times b_LW_times 6 (some .int) "BigDeskLaw" (Cond.codeWith y_LW_times b_LW_times 6 (some .int) [((0 : Nat), (7 : Nat), (10 : Nat), (13 : Nat)), ((0 : Nat), (7 : Nat), (14 : Nat), (23 : Nat))] :: zx_T) (tableOf [((0 : Nat), (7 : Nat), (10 : Nat), (13 : Nat)), ((0 : Nat), (7 : Nat), (14 : Nat), (23 : Nat))]) := ⟨B.exec, B.bytes, B.returns, hml, findClass_of_methodNamed B.named, atoms_spec B.pre, cx_hd, B.notSynchronized, hB.2.2.1, hB.2.2.2, htb, fun z9 => (name_of_methodNamed B.named B.method).1.trans z9, hst⟩
  obtain ⟨hx, hb, hr, hml, hown, hts, hT, hlk, hK, hX, htb, hin, hst⟩ := id C
  have hw : ∀ {w9 : Cond}, w9 ∈ zx_T → w9.before _ s = true := fun h9 => hts _ (hT _ h9)
  have hW : ah_W G s.heap h0 s.heap [] := ⟨hB.1, hB.2.1, va_S.rf⟩
  have hm : ah_m h0 h0 := ah_m.rf
  have hcl : 0 + 3 ≤ 3 := by decide
  have hsl : 0 + 18 ≤ 18 := by decide
  have hl := lv_entry ([.ref a1, .int a2, .int a3, .long a4]) (n := 6) (Nat.le_of_ble_eq_true rfl)
  rw [lg_entry_eq]
  generalize (lg_sl ([.ref a1, .int a2, .int a3, .long a4]) ++ List.replicate (6 - (lg_sl ([.ref a1, .int a2, .int a3, .long a4])).length) Slot.unset).toArray = ls at hl ⊢
  have hl : lv_has ls 6 [(0, .ref a1), (1, .int a2), (2, .int a3), (3, .long a4)] := hl
  unfold w_LW_times at w
  refine lv_aload_n hx hb d_LW_times_0 rfl (lv_at hl 0 rfl) ?_
  refine lv_iload_n hx hb d_LW_times_1 rfl (lv_at hl 1 rfl) ?_
  refine lv_iload_n hx hb d_LW_times_2 rfl (lv_at hl 2 rfl) ?_
  refine lv_lload_n hx hb d_LW_times_3 rfl (lv_at hl 3 rfl) ?_
  obtain ⟨t5, w⟩ := w
  refine hx_v (vx_runV (As := [.int a2, .int a3, .long a4]) (rest := []) ⟨hx, hb, hml, hown, hts⟩ (m_BD_times G a1 a2 a3 a4 h0 hst w) (cwV 3 hts (zx_gV hT wd_323 wd_324 wd_325 wd_1 wd_326) rfl rfl rfl (by decide +kernel) ⟨Nat.le_of_ble_eq_true rfl, Nat.le_of_ble_eq_true rfl⟩) (hb_preV hK hX hW t5 (by decide) rfl) rfl rfl hl.1 rfl (lv_room (Nat.le_of_ble_eq_true rfl)) d_LW_times_4 ⟨(by show _ ≤ 3; omega), (by show _ ≤ 18; omega)⟩) hW (fun E7 ce9 q9 h8 H locs hE hW c1 c2 c3 => ?_) (fun h6 H locs hk hW => ?_)
  · obtain ⟨wE, mm10⟩ := hE
    have hm := hm.tr mm10
    rcases wE mm10 with ⟨rfl, w⟩ | ⟨rfl, w⟩
    · refine vx_catch (name := "java/lang/IllegalArgumentException") hown [] ⟨0, 7, 10, 13⟩ [⟨0, 7, 14, 23⟩] (by rw [htb]; rfl) (fun _ h9 => nomatch h9) rfl (by decide) (hw wd_136) (zx_use hts hT hX zx_cast_IllegalArgumentException rfl) c1 c2 c3 ?_
      refine W.eq (g2 := F0 m 10 ls [.ref q9]) rfl ?_
      refine lv_astore (lv' := [(5, .ref q9), (0, .ref a1), (1, .int a2), (2, .int a3), (3, .long a4)]) hx hb d_LW_times_10 hl (by decide) rfl (fun ls hl => ?_)
      refine lv_iconst (v := 1) hx hb d_LW_times_12 (by decide) ?_
      exact hb_iret (K := fun r9 h9 => K r9 h9 ∧ ah_m h0 h9) hx hb hr hlk hK hX hW ⟨w, hm⟩ (by omega) (by omega) d_LW_times_13
    · refine vx_catch (name := "java/lang/IllegalStateException") hown [⟨0, 7, 10, 13⟩] ⟨0, 7, 14, 23⟩ [] (by rw [htb]; rfl) (fun z9 h9 => by cases List.mem_singleton.mp h9; exact Or.inr ⟨by decide, "java/lang/IllegalArgumentException", hw wd_136, hX.2.2.1 ("java/lang/IllegalStateException", "java/lang/IllegalArgumentException") (by decide)⟩) rfl (by decide) (hw wd_243) (zx_use hts hT hX zx_cast_IllegalStateException rfl) c1 c2 c3 ?_
      refine W.eq (g2 := F0 m 14 ls [.ref q9]) rfl ?_
      refine lv_astore (lv' := [(5, .ref q9), (0, .ref a1), (1, .int a2), (2, .int a3), (3, .long a4)]) hx hb d_LW_times_14 hl (by decide) rfl (fun ls hl => ?_)
      refine lv_iconst (v := 2) hx hb d_LW_times_16 (by decide) ?_
      exact hb_iret (K := fun r9 h9 => K r9 h9 ∧ ah_m h0 h9) hx hb hr hlk hK hX hW ⟨w, hm⟩ (by omega) (by omega) d_LW_times_17
  · skip
    obtain ⟨w, mm11⟩ := hk
    have w := w mm11
    have hm := hm.tr mm11
    have t12 := mm11.tg t5 (by decide)
    refine lv_goto (tgt := 18) hx hb d_LW_times_7 (by decide) ?_
    refine lv_iconst (v := 0) hx hb d_LW_times_18 (by decide) ?_
    exact hb_iret (K := fun r9 h9 => K r9 h9 ∧ ah_m h0 h9) hx hb hr hlk hK hX hW ⟨w, hm⟩ (by omega) (by omega) d_LW_times_19
set_option maxHeartbeats 4000000 in
set_option maxRecDepth 100000 in
theorem m_LW_shift {l : Launch} (G : zG) (a1 : Nat) (a2 : Int32) (a3 : Int32) (a4 : Int32) (h0 : ah_H) {K : Int32 → ah_H → Prop} (hst : l.stackTraces = false) (w : w_LW_shift a1 a2 a3 a4 h0 K) : Met l y_LW_shift (Cond.codeWith y_LW_shift b_LW_shift 5 (some .int) [((0 : Nat), (7 : Nat), (10 : Nat), (13 : Nat)), ((0 : Nat), (7 : Nat), (14 : Nat), (23 : Nat))] :: zx_T) rm_LW_shift (va_Pc [.ref a1, .int a2, .int a3, .int a4] (ah_B G h0)) (va_Qi (fun r9 h9 => K r9 h9 ∧ ah_m h0 h9) (ah_B G) (fun q => G.2.2 ≤ q)) 4 24 (fun q => G.2.2 ≤ q) := by
  refine va_MetW (cc := b_LW_shift) (maxL := 5) (ret := (some .int)) (hh :=  [((0 : Nat), (7 : Nat), (10 : Nat), (13 : Nat)), ((0 : Nat), (7 : Nat), (14 : Nat), (23 : Nat))]) (by decide) rfl ?_
  intro p e s m args below meth c s₁ B hml hv
  have htb := vx_table (x := y_LW_shift) B (atoms_spec B.pre _ List.mem_cons_self)
  obtain ⟨rfl, hB⟩ := hv
  have C : cx_C p l s m _ meth c G y_LW_shift b_LW_shift 5 (some .int) "BigDeskLaw" (Cond.codeWith y_LW_shift b_LW_shift 5 (some .int) [((0 : Nat), (7 : Nat), (10 : Nat), (13 : Nat)), ((0 : Nat), (7 : Nat), (14 : Nat), (23 : Nat))] :: zx_T) (tableOf [((0 : Nat), (7 : Nat), (10 : Nat), (13 : Nat)), ((0 : Nat), (7 : Nat), (14 : Nat), (23 : Nat))]) := ⟨B.exec, B.bytes, B.returns, hml, findClass_of_methodNamed B.named, atoms_spec B.pre, cx_hd, B.notSynchronized, hB.2.2.1, hB.2.2.2, htb, fun z9 => (name_of_methodNamed B.named B.method).1.trans z9, hst⟩
  obtain ⟨hx, hb, hr, hml, hown, hts, hT, hlk, hK, hX, htb, hin, hst⟩ := id C
  have hw : ∀ {w9 : Cond}, w9 ∈ zx_T → w9.before _ s = true := fun h9 => hts _ (hT _ h9)
  have hW : ah_W G s.heap h0 s.heap [] := ⟨hB.1, hB.2.1, va_S.rf⟩
  have hm : ah_m h0 h0 := ah_m.rf
  have hcl : 0 + 4 ≤ 4 := by decide
  have hsl : 0 + 24 ≤ 24 := by decide
  have hl := lv_entry ([.ref a1, .int a2, .int a3, .int a4]) (n := 5) (Nat.le_of_ble_eq_true rfl)
  rw [lg_entry_eq]
  generalize (lg_sl ([.ref a1, .int a2, .int a3, .int a4]) ++ List.replicate (5 - (lg_sl ([.ref a1, .int a2, .int a3, .int a4])).length) Slot.unset).toArray = ls at hl ⊢
  have hl : lv_has ls 5 [(0, .ref a1), (1, .int a2), (2, .int a3), (3, .int a4)] := hl
  unfold w_LW_shift at w
  refine lv_aload_n hx hb d_LW_shift_0 rfl (lv_at hl 0 rfl) ?_
  refine lv_iload_n hx hb d_LW_shift_1 rfl (lv_at hl 1 rfl) ?_
  refine lv_iload_n hx hb d_LW_shift_2 rfl (lv_at hl 2 rfl) ?_
  refine lv_iload_n hx hb d_LW_shift_3 rfl (lv_at hl 3 rfl) ?_
  obtain ⟨t5, w⟩ := w
  refine hx_v (vx_runV (As := [.int a2, .int a3, .int a4]) (rest := []) ⟨hx, hb, hml, hown, hts⟩ (m_BD_shift G a1 a2 a3 a4 h0 hst w) (cwV 3 hts (zx_gV hT wd_330 wd_331 wd_332 wd_1 wd_333) rfl rfl rfl (by decide +kernel) ⟨Nat.le_of_ble_eq_true rfl, Nat.le_of_ble_eq_true rfl⟩) (hb_preV hK hX hW t5 (by decide) rfl) rfl rfl hl.1 rfl (lv_room (Nat.le_of_ble_eq_true rfl)) d_LW_shift_4 ⟨(by show _ ≤ 4; omega), (by show _ ≤ 24; omega)⟩) hW (fun E7 ce9 q9 h8 H locs hE hW c1 c2 c3 => ?_) (fun h6 H locs hk hW => ?_)
  · obtain ⟨wE, mm10⟩ := hE
    have hm := hm.tr mm10
    rcases wE mm10 with ⟨rfl, w⟩ | ⟨rfl, w⟩
    · refine vx_catch (name := "java/lang/IllegalArgumentException") hown [] ⟨0, 7, 10, 13⟩ [⟨0, 7, 14, 23⟩] (by rw [htb]; rfl) (fun _ h9 => nomatch h9) rfl (by decide) (hw wd_136) (zx_use hts hT hX zx_cast_IllegalArgumentException rfl) c1 c2 c3 ?_
      refine W.eq (g2 := F0 m 10 ls [.ref q9]) rfl ?_
      refine lv_astore (lv' := [(4, .ref q9), (0, .ref a1), (1, .int a2), (2, .int a3), (3, .int a4)]) hx hb d_LW_shift_10 hl (by decide) rfl (fun ls hl => ?_)
      refine lv_iconst (v := 1) hx hb d_LW_shift_12 (by decide) ?_
      exact hb_iret (K := fun r9 h9 => K r9 h9 ∧ ah_m h0 h9) hx hb hr hlk hK hX hW ⟨w, hm⟩ (by omega) (by omega) d_LW_shift_13
    · refine vx_catch (name := "java/lang/IllegalStateException") hown [⟨0, 7, 10, 13⟩] ⟨0, 7, 14, 23⟩ [] (by rw [htb]; rfl) (fun z9 h9 => by cases List.mem_singleton.mp h9; exact Or.inr ⟨by decide, "java/lang/IllegalArgumentException", hw wd_136, hX.2.2.1 ("java/lang/IllegalStateException", "java/lang/IllegalArgumentException") (by decide)⟩) rfl (by decide) (hw wd_243) (zx_use hts hT hX zx_cast_IllegalStateException rfl) c1 c2 c3 ?_
      refine W.eq (g2 := F0 m 14 ls [.ref q9]) rfl ?_
      refine lv_astore (lv' := [(4, .ref q9), (0, .ref a1), (1, .int a2), (2, .int a3), (3, .int a4)]) hx hb d_LW_shift_14 hl (by decide) rfl (fun ls hl => ?_)
      refine lv_iconst (v := 2) hx hb d_LW_shift_16 (by decide) ?_
      exact hb_iret (K := fun r9 h9 => K r9 h9 ∧ ah_m h0 h9) hx hb hr hlk hK hX hW ⟨w, hm⟩ (by omega) (by omega) d_LW_shift_17
  · skip
    obtain ⟨w, mm11⟩ := hk
    have w := w mm11
    have hm := hm.tr mm11
    have t12 := mm11.tg t5 (by decide)
    refine lv_goto (tgt := 18) hx hb d_LW_shift_7 (by decide) ?_
    refine lv_iconst (v := 0) hx hb d_LW_shift_18 (by decide) ?_
    exact hb_iret (K := fun r9 h9 => K r9 h9 ∧ ah_m h0 h9) hx hb hr hlk hK hX hW ⟨w, hm⟩ (by omega) (by omega) d_LW_shift_19
set_option maxHeartbeats 4000000 in
set_option maxRecDepth 100000 in
theorem m_LW_half {l : Launch} (G : zG) (a1 : Nat) (a2 : Int32) (a3 : Int32) (a4 : Int32) (h0 : ah_H) {K : Int32 → ah_H → Prop} (hst : l.stackTraces = false) (w : w_LW_half a1 a2 a3 a4 h0 K) : Met l y_LW_half (Cond.codeWith y_LW_half b_LW_half 5 (some .int) [((0 : Nat), (7 : Nat), (10 : Nat), (13 : Nat))] :: zx_T) rm_LW_half (va_Pc [.ref a1, .int a2, .int a3, .int a4] (ah_B G h0)) (va_Qi (fun r9 h9 => K r9 h9 ∧ ah_m h0 h9) (ah_B G) (fun q => G.2.2 ≤ q)) 3 18 (fun q => G.2.2 ≤ q) := by
  refine va_MetW (cc := b_LW_half) (maxL := 5) (ret := (some .int)) (hh :=  [((0 : Nat), (7 : Nat), (10 : Nat), (13 : Nat))]) (by decide) rfl ?_
  intro p e s m args below meth c s₁ B hml hv
  have htb := vx_table (x := y_LW_half) B (atoms_spec B.pre _ List.mem_cons_self)
  obtain ⟨rfl, hB⟩ := hv
  have C : cx_C p l s m _ meth c G y_LW_half b_LW_half 5 (some .int) "BigDeskLaw" (Cond.codeWith y_LW_half b_LW_half 5 (some .int) [((0 : Nat), (7 : Nat), (10 : Nat), (13 : Nat))] :: zx_T) (tableOf [((0 : Nat), (7 : Nat), (10 : Nat), (13 : Nat))]) := ⟨B.exec, B.bytes, B.returns, hml, findClass_of_methodNamed B.named, atoms_spec B.pre, cx_hd, B.notSynchronized, hB.2.2.1, hB.2.2.2, htb, fun z9 => (name_of_methodNamed B.named B.method).1.trans z9, hst⟩
  obtain ⟨hx, hb, hr, hml, hown, hts, hT, hlk, hK, hX, htb, hin, hst⟩ := id C
  have hw : ∀ {w9 : Cond}, w9 ∈ zx_T → w9.before _ s = true := fun h9 => hts _ (hT _ h9)
  have hW : ah_W G s.heap h0 s.heap [] := ⟨hB.1, hB.2.1, va_S.rf⟩
  have hm : ah_m h0 h0 := ah_m.rf
  have hcl : 0 + 3 ≤ 3 := by decide
  have hsl : 0 + 18 ≤ 18 := by decide
  have hl := lv_entry ([.ref a1, .int a2, .int a3, .int a4]) (n := 5) (Nat.le_of_ble_eq_true rfl)
  rw [lg_entry_eq]
  generalize (lg_sl ([.ref a1, .int a2, .int a3, .int a4]) ++ List.replicate (5 - (lg_sl ([.ref a1, .int a2, .int a3, .int a4])).length) Slot.unset).toArray = ls at hl ⊢
  have hl : lv_has ls 5 [(0, .ref a1), (1, .int a2), (2, .int a3), (3, .int a4)] := hl
  unfold w_LW_half at w
  refine lv_aload_n hx hb d_LW_half_0 rfl (lv_at hl 0 rfl) ?_
  refine lv_iload_n hx hb d_LW_half_1 rfl (lv_at hl 1 rfl) ?_
  refine lv_iload_n hx hb d_LW_half_2 rfl (lv_at hl 2 rfl) ?_
  refine lv_iload_n hx hb d_LW_half_3 rfl (lv_at hl 3 rfl) ?_
  obtain ⟨t5, w⟩ := w
  refine hx_v (vx_runV (As := [.int a2, .int a3, .int a4]) (rest := []) ⟨hx, hb, hml, hown, hts⟩ (m_BD_half G a1 a2 a3 a4 h0 hst w) (cwV 3 hts (zx_gV hT wd_351 wd_352 wd_353 wd_1 wd_354) rfl rfl rfl (by decide +kernel) ⟨Nat.le_of_ble_eq_true rfl, Nat.le_of_ble_eq_true rfl⟩) (hb_preV hK hX hW t5 (by decide) rfl) rfl rfl hl.1 rfl (lv_room (Nat.le_of_ble_eq_true rfl)) d_LW_half_4 ⟨(by show _ ≤ 3; omega), (by show _ ≤ 18; omega)⟩) hW (fun E7 ce9 q9 h8 H locs hE hW c1 c2 c3 => ?_) (fun h6 H locs hk hW => ?_)
  · obtain ⟨wE, mm10⟩ := hE
    have hm := hm.tr mm10
    rcases wE mm10 with ⟨rfl, w⟩
    · refine vx_catch (name := "java/lang/IllegalArgumentException") hown [] ⟨0, 7, 10, 13⟩ [] (by rw [htb]; rfl) (fun _ h9 => nomatch h9) rfl (by decide) (hw wd_136) (zx_use hts hT hX zx_cast_IllegalArgumentException rfl) c1 c2 c3 ?_
      refine W.eq (g2 := F0 m 10 ls [.ref q9]) rfl ?_
      refine lv_astore (lv' := [(4, .ref q9), (0, .ref a1), (1, .int a2), (2, .int a3), (3, .int a4)]) hx hb d_LW_half_10 hl (by decide) rfl (fun ls hl => ?_)
      refine lv_iconst (v := 1) hx hb d_LW_half_12 (by decide) ?_
      exact hb_iret (K := fun r9 h9 => K r9 h9 ∧ ah_m h0 h9) hx hb hr hlk hK hX hW ⟨w, hm⟩ (by omega) (by omega) d_LW_half_13
  · skip
    obtain ⟨w, mm11⟩ := hk
    have w := w mm11
    have hm := hm.tr mm11
    have t12 := mm11.tg t5 (by decide)
    refine lv_goto (tgt := 14) hx hb d_LW_half_7 (by decide) ?_
    refine lv_iconst (v := 0) hx hb d_LW_half_14 (by decide) ?_
    exact hb_iret (K := fun r9 h9 => K r9 h9 ∧ ah_m h0 h9) hx hb hr hlk hK hX hW ⟨w, hm⟩ (by omega) (by omega) d_LW_half_15
set_option maxHeartbeats 4000000 in
set_option maxRecDepth 100000 in
theorem m_LW_divide {l : Launch} (G : zG) (a1 : Nat) (a2 : Int32) (a3 : Int32) (a4 : Int32) (a5 : Int32) (h0 : ah_H) {K : Int32 → ah_H → Prop} (hst : l.stackTraces = false) (w : w_LW_divide a1 a2 a3 a4 a5 h0 K) : Met l y_LW_divide (Cond.codeWith y_LW_divide b_LW_divide 6 (some .int) [((0 : Nat), (9 : Nat), (12 : Nat), (13 : Nat)), ((0 : Nat), (9 : Nat), (16 : Nat), (45 : Nat))] :: zx_T) rm_LW_divide (va_Pc [.ref a1, .int a2, .int a3, .int a4, .int a5] (ah_B G h0)) (va_Qi (fun r9 h9 => K r9 h9 ∧ ah_m h0 h9) (ah_B G) (fun q => G.2.2 ≤ q)) 5 30 (fun q => G.2.2 ≤ q) := by
  refine va_MetW (cc := b_LW_divide) (maxL := 6) (ret := (some .int)) (hh :=  [((0 : Nat), (9 : Nat), (12 : Nat), (13 : Nat)), ((0 : Nat), (9 : Nat), (16 : Nat), (45 : Nat))]) (by decide) rfl ?_
  intro p e s m args below meth c s₁ B hml hv
  have htb := vx_table (x := y_LW_divide) B (atoms_spec B.pre _ List.mem_cons_self)
  obtain ⟨rfl, hB⟩ := hv
  have C : cx_C p l s m _ meth c G y_LW_divide b_LW_divide 6 (some .int) "BigDeskLaw" (Cond.codeWith y_LW_divide b_LW_divide 6 (some .int) [((0 : Nat), (9 : Nat), (12 : Nat), (13 : Nat)), ((0 : Nat), (9 : Nat), (16 : Nat), (45 : Nat))] :: zx_T) (tableOf [((0 : Nat), (9 : Nat), (12 : Nat), (13 : Nat)), ((0 : Nat), (9 : Nat), (16 : Nat), (45 : Nat))]) := ⟨B.exec, B.bytes, B.returns, hml, findClass_of_methodNamed B.named, atoms_spec B.pre, cx_hd, B.notSynchronized, hB.2.2.1, hB.2.2.2, htb, fun z9 => (name_of_methodNamed B.named B.method).1.trans z9, hst⟩
  obtain ⟨hx, hb, hr, hml, hown, hts, hT, hlk, hK, hX, htb, hin, hst⟩ := id C
  have hw : ∀ {w9 : Cond}, w9 ∈ zx_T → w9.before _ s = true := fun h9 => hts _ (hT _ h9)
  have hW : ah_W G s.heap h0 s.heap [] := ⟨hB.1, hB.2.1, va_S.rf⟩
  have hm : ah_m h0 h0 := ah_m.rf
  have hcl : 0 + 5 ≤ 5 := by decide
  have hsl : 0 + 30 ≤ 30 := by decide
  have hl := lv_entry ([.ref a1, .int a2, .int a3, .int a4, .int a5]) (n := 6) (Nat.le_of_ble_eq_true rfl)
  rw [lg_entry_eq]
  generalize (lg_sl ([.ref a1, .int a2, .int a3, .int a4, .int a5]) ++ List.replicate (6 - (lg_sl ([.ref a1, .int a2, .int a3, .int a4, .int a5])).length) Slot.unset).toArray = ls at hl ⊢
  have hl : lv_has ls 6 [(0, .ref a1), (1, .int a2), (2, .int a3), (3, .int a4), (4, .int a5)] := hl
  unfold w_LW_divide at w
  refine lv_aload_n hx hb d_LW_divide_0 rfl (lv_at hl 0 rfl) ?_
  refine lv_iload_n hx hb d_LW_divide_1 rfl (lv_at hl 1 rfl) ?_
  refine lv_iload_n hx hb d_LW_divide_2 rfl (lv_at hl 2 rfl) ?_
  refine lv_iload_n hx hb d_LW_divide_3 rfl (lv_at hl 3 rfl) ?_
  refine lv_iload hx hb d_LW_divide_4 (lv_at hl 4 rfl) ?_
  obtain ⟨t6, w⟩ := w
  refine hx_v (vx_runV (As := [.int a2, .int a3, .int a4, .int a5]) (rest := []) ⟨hx, hb, hml, hown, hts⟩ (m_BD_divide G a1 a2 a3 a4 a5 h0 hst w) (cwV 4 hts (zx_gV hT wd_379 wd_380 wd_381 wd_1 wd_382) rfl rfl rfl (by decide +kernel) ⟨Nat.le_of_ble_eq_true rfl, Nat.le_of_ble_eq_true rfl⟩) (hb_preV hK hX hW t6 (by decide) rfl) rfl rfl hl.1 rfl (lv_room (Nat.le_of_ble_eq_true rfl)) d_LW_divide_6 ⟨(by show _ ≤ 5; omega), (by show _ ≤ 30; omega)⟩) hW (fun E8 ce9 q10 h9 H locs hE hW c1 c2 c3 => ?_) (fun h7 H locs hk hW => ?_)
  · obtain ⟨wE, mm11⟩ := hE
    have hm := hm.tr mm11
    rcases wE mm11 with ⟨rfl, w⟩ | ⟨rfl, w⟩
    · refine vx_catch (name := "java/lang/IllegalArgumentException") hown [] ⟨0, 9, 12, 13⟩ [⟨0, 9, 16, 45⟩] (by rw [htb]; rfl) (fun _ h9 => nomatch h9) rfl (by decide) (hw wd_136) (zx_use hts hT hX zx_cast_IllegalArgumentException rfl) c1 c2 c3 ?_
      refine W.eq (g2 := F0 m 12 ls [.ref q10]) rfl ?_
      refine lv_astore (lv' := [(5, .ref q10), (0, .ref a1), (1, .int a2), (2, .int a3), (3, .int a4), (4, .int a5)]) hx hb d_LW_divide_12 hl (by decide) rfl (fun ls hl => ?_)
      refine lv_iconst (v := 1) hx hb d_LW_divide_14 (by decide) ?_
      exact hb_iret (K := fun r9 h9 => K r9 h9 ∧ ah_m h0 h9) hx hb hr hlk hK hX hW ⟨w, hm⟩ (by omega) (by omega) d_LW_divide_15
    · refine vx_catch (name := "java/lang/ArithmeticException") hown [⟨0, 9, 12, 13⟩] ⟨0, 9, 16, 45⟩ [] (by rw [htb]; rfl) (fun z9 h9 => by cases List.mem_singleton.mp h9; exact Or.inr ⟨by decide, "java/lang/IllegalArgumentException", hw wd_136, hX.2.2.1 ("java/lang/ArithmeticException", "java/lang/IllegalArgumentException") (by decide)⟩) rfl (by decide) (hw wd_378) (zx_use hts hT hX zx_cast_ArithmeticException rfl) c1 c2 c3 ?_
      refine W.eq (g2 := F0 m 16 ls [.ref q10]) rfl ?_
      refine lv_astore (lv' := [(5, .ref q10), (0, .ref a1), (1, .int a2), (2, .int a3), (3, .int a4), (4, .int a5)]) hx hb d_LW_divide_16 hl (by decide) rfl (fun ls hl => ?_)
      refine lv_iconst (v := 2) hx hb d_LW_divide_18 (by decide) ?_
      exact hb_iret (K := fun r9 h9 => K r9 h9 ∧ ah_m h0 h9) hx hb hr hlk hK hX hW ⟨w, hm⟩ (by omega) (by omega) d_LW_divide_19
  · skip
    obtain ⟨w, mm12⟩ := hk
    have w := w mm12
    have hm := hm.tr mm12
    have t13 := mm12.tg t6 (by decide)
    refine lv_goto (tgt := 20) hx hb d_LW_divide_9 (by decide) ?_
    refine lv_iconst (v := 0) hx hb d_LW_divide_20 (by decide) ?_
    exact hb_iret (K := fun r9 h9 => K r9 h9 ∧ ah_m h0 h9) hx hb hr hlk hK hX hW ⟨w, hm⟩ (by omega) (by omega) d_LW_divide_21
set_option maxHeartbeats 4000000 in
set_option maxRecDepth 100000 in
theorem m_LW_gcd {l : Launch} (G : zG) (a1 : Nat) (a2 : Int32) (a3 : Int32) (a4 : Int32) (h0 : ah_H) {K : Int32 → ah_H → Prop} (hst : l.stackTraces = false) (w : w_LW_gcd a1 a2 a3 a4 h0 K) : Met l y_LW_gcd (Cond.codeWith y_LW_gcd b_LW_gcd 5 (some .int) [((0 : Nat), (7 : Nat), (10 : Nat), (13 : Nat))] :: zx_T) rm_LW_gcd (va_Pc [.ref a1, .int a2, .int a3, .int a4] (ah_B G h0)) (va_Qi (fun r9 h9 => K r9 h9 ∧ ah_m h0 h9) (ah_B G) (fun q => G.2.2 ≤ q)) 3 18 (fun q => G.2.2 ≤ q) := by
  refine va_MetW (cc := b_LW_gcd) (maxL := 5) (ret := (some .int)) (hh :=  [((0 : Nat), (7 : Nat), (10 : Nat), (13 : Nat))]) (by decide) rfl ?_
  intro p e s m args below meth c s₁ B hml hv
  have htb := vx_table (x := y_LW_gcd) B (atoms_spec B.pre _ List.mem_cons_self)
  obtain ⟨rfl, hB⟩ := hv
  have C : cx_C p l s m _ meth c G y_LW_gcd b_LW_gcd 5 (some .int) "BigDeskLaw" (Cond.codeWith y_LW_gcd b_LW_gcd 5 (some .int) [((0 : Nat), (7 : Nat), (10 : Nat), (13 : Nat))] :: zx_T) (tableOf [((0 : Nat), (7 : Nat), (10 : Nat), (13 : Nat))]) := ⟨B.exec, B.bytes, B.returns, hml, findClass_of_methodNamed B.named, atoms_spec B.pre, cx_hd, B.notSynchronized, hB.2.2.1, hB.2.2.2, htb, fun z9 => (name_of_methodNamed B.named B.method).1.trans z9, hst⟩
  obtain ⟨hx, hb, hr, hml, hown, hts, hT, hlk, hK, hX, htb, hin, hst⟩ := id C
  have hw : ∀ {w9 : Cond}, w9 ∈ zx_T → w9.before _ s = true := fun h9 => hts _ (hT _ h9)
  have hW : ah_W G s.heap h0 s.heap [] := ⟨hB.1, hB.2.1, va_S.rf⟩
  have hm : ah_m h0 h0 := ah_m.rf
  have hcl : 0 + 3 ≤ 3 := by decide
  have hsl : 0 + 18 ≤ 18 := by decide
  have hl := lv_entry ([.ref a1, .int a2, .int a3, .int a4]) (n := 5) (Nat.le_of_ble_eq_true rfl)
  rw [lg_entry_eq]
  generalize (lg_sl ([.ref a1, .int a2, .int a3, .int a4]) ++ List.replicate (5 - (lg_sl ([.ref a1, .int a2, .int a3, .int a4])).length) Slot.unset).toArray = ls at hl ⊢
  have hl : lv_has ls 5 [(0, .ref a1), (1, .int a2), (2, .int a3), (3, .int a4)] := hl
  unfold w_LW_gcd at w
  refine lv_aload_n hx hb d_LW_gcd_0 rfl (lv_at hl 0 rfl) ?_
  refine lv_iload_n hx hb d_LW_gcd_1 rfl (lv_at hl 1 rfl) ?_
  refine lv_iload_n hx hb d_LW_gcd_2 rfl (lv_at hl 2 rfl) ?_
  refine lv_iload_n hx hb d_LW_gcd_3 rfl (lv_at hl 3 rfl) ?_
  obtain ⟨t5, w⟩ := w
  refine hx_v (vx_runV (As := [.int a2, .int a3, .int a4]) (rest := []) ⟨hx, hb, hml, hown, hts⟩ (m_BD_gcd G a1 a2 a3 a4 h0 hst w) (cwV 3 hts (zx_gV hT wd_445 wd_446 wd_447 wd_1 wd_448) rfl rfl rfl (by decide +kernel) ⟨Nat.le_of_ble_eq_true rfl, Nat.le_of_ble_eq_true rfl⟩) (hb_preV hK hX hW t5 (by decide) rfl) rfl rfl hl.1 rfl (lv_room (Nat.le_of_ble_eq_true rfl)) d_LW_gcd_4 ⟨(by show _ ≤ 3; omega), (by show _ ≤ 18; omega)⟩) hW (fun E7 ce9 q9 h8 H locs hE hW c1 c2 c3 => ?_) (fun h6 H locs hk hW => ?_)
  · obtain ⟨wE, mm10⟩ := hE
    have hm := hm.tr mm10
    rcases wE mm10 with ⟨rfl, w⟩
    · refine vx_catch (name := "java/lang/IllegalArgumentException") hown [] ⟨0, 7, 10, 13⟩ [] (by rw [htb]; rfl) (fun _ h9 => nomatch h9) rfl (by decide) (hw wd_136) (zx_use hts hT hX zx_cast_IllegalArgumentException rfl) c1 c2 c3 ?_
      refine W.eq (g2 := F0 m 10 ls [.ref q9]) rfl ?_
      refine lv_astore (lv' := [(4, .ref q9), (0, .ref a1), (1, .int a2), (2, .int a3), (3, .int a4)]) hx hb d_LW_gcd_10 hl (by decide) rfl (fun ls hl => ?_)
      refine lv_iconst (v := 1) hx hb d_LW_gcd_12 (by decide) ?_
      exact hb_iret (K := fun r9 h9 => K r9 h9 ∧ ah_m h0 h9) hx hb hr hlk hK hX hW ⟨w, hm⟩ (by omega) (by omega) d_LW_gcd_13
  · skip
    obtain ⟨w, mm11⟩ := hk
    have w := w mm11
    have hm := hm.tr mm11
    have t12 := mm11.tg t5 (by decide)
    refine lv_goto (tgt := 14) hx hb d_LW_gcd_7 (by decide) ?_
    refine lv_iconst (v := 0) hx hb d_LW_gcd_14 (by decide) ?_
    exact hb_iret (K := fun r9 h9 => K r9 h9 ∧ ah_m h0 h9) hx hb hr hlk hK hX hW ⟨w, hm⟩ (by omega) (by omega) d_LW_gcd_15
set_option maxHeartbeats 4000000 in
set_option maxRecDepth 100000 in
theorem m_LW_negate {l : Launch} (G : zG) (a1 : Nat) (a2 : Int32) (a3 : Int32) (h0 : ah_H) {K : Int32 → ah_H → Prop} (hst : l.stackTraces = false) (w : w_LW_negate a1 a2 a3 h0 K) : Met l y_LW_negate (Cond.codeWith y_LW_negate b_LW_negate 4 (some .int) [((0 : Nat), (6 : Nat), (9 : Nat), (13 : Nat))] :: zx_T) rm_LW_negate (va_Pc [.ref a1, .int a2, .int a3] (ah_B G h0)) (va_Qi (fun r9 h9 => K r9 h9 ∧ ah_m h0 h9) (ah_B G) (fun q => G.2.2 ≤ q)) 2 12 (fun q => G.2.2 ≤ q) := by
  refine va_MetW (cc := b_LW_negate) (maxL := 4) (ret := (some .int)) (hh :=  [((0 : Nat), (6 : Nat), (9 : Nat), (13 : Nat))]) (by decide) rfl ?_
  intro p e s m args below meth c s₁ B hml hv
  have htb := vx_table (x := y_LW_negate) B (atoms_spec B.pre _ List.mem_cons_self)
  obtain ⟨rfl, hB⟩ := hv
  have C : cx_C p l s m _ meth c G y_LW_negate b_LW_negate 4 (some .int) "BigDeskLaw" (Cond.codeWith y_LW_negate b_LW_negate 4 (some .int) [((0 : Nat), (6 : Nat), (9 : Nat), (13 : Nat))] :: zx_T) (tableOf [((0 : Nat), (6 : Nat), (9 : Nat), (13 : Nat))]) := ⟨B.exec, B.bytes, B.returns, hml, findClass_of_methodNamed B.named, atoms_spec B.pre, cx_hd, B.notSynchronized, hB.2.2.1, hB.2.2.2, htb, fun z9 => (name_of_methodNamed B.named B.method).1.trans z9, hst⟩
  obtain ⟨hx, hb, hr, hml, hown, hts, hT, hlk, hK, hX, htb, hin, hst⟩ := id C
  have hw : ∀ {w9 : Cond}, w9 ∈ zx_T → w9.before _ s = true := fun h9 => hts _ (hT _ h9)
  have hW : ah_W G s.heap h0 s.heap [] := ⟨hB.1, hB.2.1, va_S.rf⟩
  have hm : ah_m h0 h0 := ah_m.rf
  have hcl : 0 + 2 ≤ 2 := by decide
  have hsl : 0 + 12 ≤ 12 := by decide
  have hl := lv_entry ([.ref a1, .int a2, .int a3]) (n := 4) (Nat.le_of_ble_eq_true rfl)
  rw [lg_entry_eq]
  generalize (lg_sl ([.ref a1, .int a2, .int a3]) ++ List.replicate (4 - (lg_sl ([.ref a1, .int a2, .int a3])).length) Slot.unset).toArray = ls at hl ⊢
  have hl : lv_has ls 4 [(0, .ref a1), (1, .int a2), (2, .int a3)] := hl
  unfold w_LW_negate at w
  refine lv_aload_n hx hb d_LW_negate_0 rfl (lv_at hl 0 rfl) ?_
  refine lv_iload_n hx hb d_LW_negate_1 rfl (lv_at hl 1 rfl) ?_
  refine lv_iload_n hx hb d_LW_negate_2 rfl (lv_at hl 2 rfl) ?_
  obtain ⟨t4, w⟩ := w
  refine hx_v (vx_runV (As := [.int a2, .int a3]) (rest := []) ⟨hx, hb, hml, hown, hts⟩ (m_BD_negate G a1 a2 a3 h0 hst w) (cwV 2 hts (zx_gV hT wd_484 wd_485 wd_486 wd_1 wd_487) rfl rfl rfl (by decide +kernel) ⟨Nat.le_of_ble_eq_true rfl, Nat.le_of_ble_eq_true rfl⟩) (hb_preV hK hX hW t4 (by decide) rfl) rfl rfl hl.1 rfl (lv_room (Nat.le_of_ble_eq_true rfl)) d_LW_negate_3 ⟨(by show _ ≤ 2; omega), (by show _ ≤ 12; omega)⟩) hW (fun E6 ce9 q8 h7 H locs hE hW c1 c2 c3 => ?_) (fun h5 H locs hk hW => ?_)
  · obtain ⟨wE, mm9⟩ := hE
    have hm := hm.tr mm9
    rcases wE mm9 with ⟨rfl, w⟩
    · refine vx_catch (name := "java/lang/IllegalArgumentException") hown [] ⟨0, 6, 9, 13⟩ [] (by rw [htb]; rfl) (fun _ h9 => nomatch h9) rfl (by decide) (hw wd_136) (zx_use hts hT hX zx_cast_IllegalArgumentException rfl) c1 c2 c3 ?_
      refine W.eq (g2 := F0 m 9 ls [.ref q8]) rfl ?_
      refine lv_astore_n (lv' := [(3, .ref q8), (0, .ref a1), (1, .int a2), (2, .int a3)]) hx hb d_LW_negate_9 rfl hl (by decide) rfl (fun ls hl => ?_)
      refine lv_iconst (v := 1) hx hb d_LW_negate_10 (by decide) ?_
      exact hb_iret (K := fun r9 h9 => K r9 h9 ∧ ah_m h0 h9) hx hb hr hlk hK hX hW ⟨w, hm⟩ (by omega) (by omega) d_LW_negate_11
  · skip
    obtain ⟨w, mm10⟩ := hk
    have w := w mm10
    have hm := hm.tr mm10
    have t11 := mm10.tg t4 (by decide)
    refine lv_goto (tgt := 12) hx hb d_LW_negate_6 (by decide) ?_
    refine lv_iconst (v := 0) hx hb d_LW_negate_12 (by decide) ?_
    exact hb_iret (K := fun r9 h9 => K r9 h9 ∧ ah_m h0 h9) hx hb hr hlk hK hX hW ⟨w, hm⟩ (by omega) (by omega) d_LW_negate_13
set_option maxHeartbeats 4000000 in
set_option maxRecDepth 100000 in
theorem m_LW_compare {l : Launch} (G : zG) (a1 : Nat) (a2 : Int32) (a3 : Int32) (a4 : Nat) (h0 : ah_H) {K : Int32 → ah_H → Prop} (hst : l.stackTraces = false) (w : w_LW_compare a1 a2 a3 a4 h0 K) : Met l y_LW_compare (Cond.codeWith y_LW_compare b_LW_compare 5 (some .int) [((0 : Nat), (10 : Nat), (13 : Nat), (13 : Nat))] :: zx_T) rm_LW_compare (va_Pc [.ref a1, .int a2, .int a3, .ref a4] (ah_B G h0)) (va_Qi (fun r9 h9 => K r9 h9 ∧ ah_m h0 h9) (ah_B G) (fun q => G.2.2 ≤ q)) 2 12 (fun q => G.2.2 ≤ q) := by
  refine va_MetW (cc := b_LW_compare) (maxL := 5) (ret := (some .int)) (hh :=  [((0 : Nat), (10 : Nat), (13 : Nat), (13 : Nat))]) (by decide) rfl ?_
  intro p e s m args below meth c s₁ B hml hv
  have htb := vx_table (x := y_LW_compare) B (atoms_spec B.pre _ List.mem_cons_self)
  obtain ⟨rfl, hB⟩ := hv
  have C : cx_C p l s m _ meth c G y_LW_compare b_LW_compare 5 (some .int) "BigDeskLaw" (Cond.codeWith y_LW_compare b_LW_compare 5 (some .int) [((0 : Nat), (10 : Nat), (13 : Nat), (13 : Nat))] :: zx_T) (tableOf [((0 : Nat), (10 : Nat), (13 : Nat), (13 : Nat))]) := ⟨B.exec, B.bytes, B.returns, hml, findClass_of_methodNamed B.named, atoms_spec B.pre, cx_hd, B.notSynchronized, hB.2.2.1, hB.2.2.2, htb, fun z9 => (name_of_methodNamed B.named B.method).1.trans z9, hst⟩
  obtain ⟨hx, hb, hr, hml, hown, hts, hT, hlk, hK, hX, htb, hin, hst⟩ := id C
  have hw : ∀ {w9 : Cond}, w9 ∈ zx_T → w9.before _ s = true := fun h9 => hts _ (hT _ h9)
  have hW : ah_W G s.heap h0 s.heap [] := ⟨hB.1, hB.2.1, va_S.rf⟩
  have hm : ah_m h0 h0 := ah_m.rf
  have hcl : 0 + 2 ≤ 2 := by decide
  have hsl : 0 + 12 ≤ 12 := by decide
  have hl := lv_entry ([.ref a1, .int a2, .int a3, .ref a4]) (n := 5) (Nat.le_of_ble_eq_true rfl)
  rw [lg_entry_eq]
  generalize (lg_sl ([.ref a1, .int a2, .int a3, .ref a4]) ++ List.replicate (5 - (lg_sl ([.ref a1, .int a2, .int a3, .ref a4])).length) Slot.unset).toArray = ls at hl ⊢
  have hl : lv_has ls 5 [(0, .ref a1), (1, .int a2), (2, .int a3), (3, .ref a4)] := hl
  unfold w_LW_compare at w
  refine lv_aload_n hx hb d_LW_compare_0 rfl (lv_at hl 3 rfl) ?_
  refine lv_iconst (v := 0) hx hb d_LW_compare_1 (by decide) ?_
  refine lv_aload_n hx hb d_LW_compare_2 rfl (lv_at hl 0 rfl) ?_
  refine lv_iload_n hx hb d_LW_compare_3 rfl (lv_at hl 1 rfl) ?_
  refine lv_iload_n hx hb d_LW_compare_4 rfl (lv_at hl 2 rfl) ?_
  obtain ⟨t5, w⟩ := w
  refine hx_i (vx_runV (As := [.int a2, .int a3]) (rest := [.int (0 : Int32), .ref a4]) ⟨hx, hb, hml, hown, hts⟩ (m_BD_compare G a1 a2 a3 h0 hst w) (cwV 2 hts (zx_gV hT wd_491 wd_492 wd_493 wd_1 wd_494) rfl rfl rfl (by decide +kernel) ⟨Nat.le_of_ble_eq_true rfl, Nat.le_of_ble_eq_true rfl⟩) (hb_preV hK hX hW t5 (by decide) rfl) rfl rfl hl.1 rfl (lv_room (Nat.le_of_ble_eq_true rfl)) d_LW_compare_5 ⟨(by show _ ≤ 2; omega), (by show _ ≤ 12; omega)⟩) hW (fun E8 ce9 q10 h9 H locs hE hW c1 c2 c3 => ?_) (fun r7 h6 H locs hk hW => ?_)
  · obtain ⟨wE, mm11⟩ := hE
    have hm := hm.tr mm11
    rcases wE mm11 with ⟨rfl, w⟩
    · refine vx_catch (name := "java/lang/IllegalArgumentException") hown [] ⟨0, 10, 13, 13⟩ [] (by rw [htb]; rfl) (fun _ h9 => nomatch h9) rfl (by decide) (hw wd_136) (zx_use hts hT hX zx_cast_IllegalArgumentException rfl) c1 c2 c3 ?_
      refine W.eq (g2 := F0 m 13 ls [.ref q10]) rfl ?_
      refine lv_astore (lv' := [(4, .ref q10), (0, .ref a1), (1, .int a2), (2, .int a3), (3, .ref a4)]) hx hb d_LW_compare_13 hl (by decide) rfl (fun ls hl => ?_)
      refine lv_iconst (v := 1) hx hb d_LW_compare_15 (by decide) ?_
      exact hb_iret (K := fun r9 h9 => K r9 h9 ∧ ah_m h0 h9) hx hb hr hlk hK hX hW ⟨w, hm⟩ (by omega) (by omega) d_LW_compare_16
  · skip
    obtain ⟨w, mm12⟩ := hk
    have w := w mm12
    have hm := hm.tr mm12
    have t13 := mm12.tg t5 (by decide)
    refine lv_i2l hx hb d_LW_compare_8 rfl ?_
    refine lv_topl (fun v14 ev14 => ?_)
    have w := w v14 ev14
    obtain ⟨t15, w⟩ := w
    obtain ⟨i16, w⟩ := w
    refine hb_last hx hb hK hW t15 (by decide) (by decide) 2 rfl i16 d_LW_compare_9 (fun H locs h17 eh17 hW => ?_)
    have w := w h17 eh17
    have mm18 : ah_m h6 h17 := ah_m.rf.st (by rw [eh17]; rfl) (by rw [eh17]; rfl)
    have hm := hm.tr mm18
    have t19 := mm18.tg t13 (by decide)
    have t20 := mm18.tg t15 (by decide)
    refine lv_goto (tgt := 17) hx hb d_LW_compare_10 (by decide) ?_
    refine lv_iconst (v := 0) hx hb d_LW_compare_17 (by decide) ?_
    exact hb_iret (K := fun r9 h9 => K r9 h9 ∧ ah_m h0 h9) hx hb hr hlk hK hX hW ⟨w, hm⟩ (by omega) (by omega) d_LW_compare_18
set_option maxHeartbeats 4000000 in
set_option maxRecDepth 100000 in
theorem m_LW_rest {l : Launch} (G : zG) (a1 : Nat) (a2 : Int32) (a3 : Int64) (a4 : Nat) (h0 : ah_H) {K : Int32 → ah_H → Prop} (hst : l.stackTraces = false) (w : w_LW_rest a1 a2 a3 a4 h0 K) : Met l y_LW_rest (Cond.codeWith y_LW_rest b_LW_rest 6 (some .int) [((0 : Nat), (10 : Nat), (13 : Nat), (13 : Nat))] :: zx_T) rm_LW_rest (va_Pc [.ref a1, .int a2, .long a3, .ref a4] (ah_B G h0)) (va_Qi (fun r9 h9 => K r9 h9 ∧ ah_m h0 h9) (ah_B G) (fun q => G.2.2 ≤ q)) 2 12 (fun q => G.2.2 ≤ q) := by
  refine va_MetW (cc := b_LW_rest) (maxL := 6) (ret := (some .int)) (hh :=  [((0 : Nat), (10 : Nat), (13 : Nat), (13 : Nat))]) (by decide) rfl ?_
  intro p e s m args below meth c s₁ B hml hv
  have htb := vx_table (x := y_LW_rest) B (atoms_spec B.pre _ List.mem_cons_self)
  obtain ⟨rfl, hB⟩ := hv
  have C : cx_C p l s m _ meth c G y_LW_rest b_LW_rest 6 (some .int) "BigDeskLaw" (Cond.codeWith y_LW_rest b_LW_rest 6 (some .int) [((0 : Nat), (10 : Nat), (13 : Nat), (13 : Nat))] :: zx_T) (tableOf [((0 : Nat), (10 : Nat), (13 : Nat), (13 : Nat))]) := ⟨B.exec, B.bytes, B.returns, hml, findClass_of_methodNamed B.named, atoms_spec B.pre, cx_hd, B.notSynchronized, hB.2.2.1, hB.2.2.2, htb, fun z9 => (name_of_methodNamed B.named B.method).1.trans z9, hst⟩
  obtain ⟨hx, hb, hr, hml, hown, hts, hT, hlk, hK, hX, htb, hin, hst⟩ := id C
  have hw : ∀ {w9 : Cond}, w9 ∈ zx_T → w9.before _ s = true := fun h9 => hts _ (hT _ h9)
  have hW : ah_W G s.heap h0 s.heap [] := ⟨hB.1, hB.2.1, va_S.rf⟩
  have hm : ah_m h0 h0 := ah_m.rf
  have hcl : 0 + 2 ≤ 2 := by decide
  have hsl : 0 + 12 ≤ 12 := by decide
  have hl := lv_entry ([.ref a1, .int a2, .long a3, .ref a4]) (n := 6) (Nat.le_of_ble_eq_true rfl)
  rw [lg_entry_eq]
  generalize (lg_sl ([.ref a1, .int a2, .long a3, .ref a4]) ++ List.replicate (6 - (lg_sl ([.ref a1, .int a2, .long a3, .ref a4])).length) Slot.unset).toArray = ls at hl ⊢
  have hl : lv_has ls 6 [(0, .ref a1), (1, .int a2), (2, .long a3), (4, .ref a4)] := hl
  unfold w_LW_rest at w
  refine lv_aload hx hb d_LW_rest_0 (lv_at hl 3 rfl) ?_
  refine lv_iconst (v := 0) hx hb d_LW_rest_2 (by decide) ?_
  refine lv_aload_n hx hb d_LW_rest_3 rfl (lv_at hl 0 rfl) ?_
  refine lv_iload_n hx hb d_LW_rest_4 rfl (lv_at hl 1 rfl) ?_
  refine lv_lload_n hx hb d_LW_rest_5 rfl (lv_at hl 2 rfl) ?_
  obtain ⟨t5, w⟩ := w
  refine hx_l (vx_runV (As := [.int a2, .long a3]) (rest := [.int (0 : Int32), .ref a4]) ⟨hx, hb, hml, hown, hts⟩ (m_BD_rest G a1 a2 a3 h0 hst w) (cwV 2 hts (zx_gV hT wd_499 wd_500 wd_501 wd_1 wd_502) rfl rfl rfl (by decide +kernel) ⟨Nat.le_of_ble_eq_true rfl, Nat.le_of_ble_eq_true rfl⟩) (hb_preV hK hX hW t5 (by decide) rfl) rfl rfl hl.1 rfl (lv_room (Nat.le_of_ble_eq_true rfl)) d_LW_rest_6 ⟨(by show _ ≤ 2; omega), (by show _ ≤ 12; omega)⟩) hW (fun E8 ce9 q10 h9 H locs hE hW c1 c2 c3 => ?_) (fun r7 h6 H locs hk hW => ?_)
  · obtain ⟨wE, mm11⟩ := hE
    have hm := hm.tr mm11
    rcases wE mm11 with ⟨rfl, w⟩
    · refine vx_catch (name := "java/lang/IllegalArgumentException") hown [] ⟨0, 10, 13, 13⟩ [] (by rw [htb]; rfl) (fun _ h9 => nomatch h9) rfl (by decide) (hw wd_136) (zx_use hts hT hX zx_cast_IllegalArgumentException rfl) c1 c2 c3 ?_
      refine W.eq (g2 := F0 m 13 ls [.ref q10]) rfl ?_
      refine lv_astore (lv' := [(5, .ref q10), (0, .ref a1), (1, .int a2), (2, .long a3), (4, .ref a4)]) hx hb d_LW_rest_13 hl (by decide) rfl (fun ls hl => ?_)
      refine lv_iconst (v := 1) hx hb d_LW_rest_15 (by decide) ?_
      exact hb_iret (K := fun r9 h9 => K r9 h9 ∧ ah_m h0 h9) hx hb hr hlk hK hX hW ⟨w, hm⟩ (by omega) (by omega) d_LW_rest_16
  · skip
    obtain ⟨w, mm12⟩ := hk
    have w := w mm12
    have hm := hm.tr mm12
    have t13 := mm12.tg t5 (by decide)
    obtain ⟨t14, w⟩ := w
    obtain ⟨i15, w⟩ := w
    refine hb_last hx hb hK hW t14 (by decide) (by decide) 2 rfl i15 d_LW_rest_9 (fun H locs h16 eh16 hW => ?_)
    have w := w h16 eh16
    have mm17 : ah_m h6 h16 := ah_m.rf.st (by rw [eh16]; rfl) (by rw [eh16]; rfl)
    have hm := hm.tr mm17
    have t18 := mm17.tg t13 (by decide)
    have t19 := mm17.tg t14 (by decide)
    refine lv_goto (tgt := 17) hx hb d_LW_rest_10 (by decide) ?_
    refine lv_iconst (v := 0) hx hb d_LW_rest_17 (by decide) ?_
    exact hb_iret (K := fun r9 h9 => K r9 h9 ∧ ah_m h0 h9) hx hb hr hlk hK hX hW ⟨w, hm⟩ (by omega) (by omega) d_LW_rest_18
set_option maxHeartbeats 4000000 in
set_option maxRecDepth 100000 in
theorem m_LW_value {l : Launch} (G : zG) (a1 : Nat) (a2 : Int32) (a3 : Nat) (h0 : ah_H) {K : Int32 → ah_H → Prop} (hst : l.stackTraces = false) (w : w_LW_value a1 a2 a3 h0 K) : Met l y_LW_value (Cond.codeWith y_LW_value b_LW_value 4 (some .int) [((0 : Nat), (8 : Nat), (11 : Nat), (13 : Nat)), ((0 : Nat), (8 : Nat), (14 : Nat), (23 : Nat))] :: zx_T) rm_LW_value (va_Pc [.ref a1, .int a2, .ref a3] (ah_B G h0)) (va_Qi (fun r9 h9 => K r9 h9 ∧ ah_m h0 h9) (ah_B G) (fun q => G.2.2 ≤ q)) 2 12 (fun q => G.2.2 ≤ q) := by
  refine va_MetW (cc := b_LW_value) (maxL := 4) (ret := (some .int)) (hh :=  [((0 : Nat), (8 : Nat), (11 : Nat), (13 : Nat)), ((0 : Nat), (8 : Nat), (14 : Nat), (23 : Nat))]) (by decide) rfl ?_
  intro p e s m args below meth c s₁ B hml hv
  have htb := vx_table (x := y_LW_value) B (atoms_spec B.pre _ List.mem_cons_self)
  obtain ⟨rfl, hB⟩ := hv
  have C : cx_C p l s m _ meth c G y_LW_value b_LW_value 4 (some .int) "BigDeskLaw" (Cond.codeWith y_LW_value b_LW_value 4 (some .int) [((0 : Nat), (8 : Nat), (11 : Nat), (13 : Nat)), ((0 : Nat), (8 : Nat), (14 : Nat), (23 : Nat))] :: zx_T) (tableOf [((0 : Nat), (8 : Nat), (11 : Nat), (13 : Nat)), ((0 : Nat), (8 : Nat), (14 : Nat), (23 : Nat))]) := ⟨B.exec, B.bytes, B.returns, hml, findClass_of_methodNamed B.named, atoms_spec B.pre, cx_hd, B.notSynchronized, hB.2.2.1, hB.2.2.2, htb, fun z9 => (name_of_methodNamed B.named B.method).1.trans z9, hst⟩
  obtain ⟨hx, hb, hr, hml, hown, hts, hT, hlk, hK, hX, htb, hin, hst⟩ := id C
  have hw : ∀ {w9 : Cond}, w9 ∈ zx_T → w9.before _ s = true := fun h9 => hts _ (hT _ h9)
  have hW : ah_W G s.heap h0 s.heap [] := ⟨hB.1, hB.2.1, va_S.rf⟩
  have hm : ah_m h0 h0 := ah_m.rf
  have hcl : 0 + 2 ≤ 2 := by decide
  have hsl : 0 + 12 ≤ 12 := by decide
  have hl := lv_entry ([.ref a1, .int a2, .ref a3]) (n := 4) (Nat.le_of_ble_eq_true rfl)
  rw [lg_entry_eq]
  generalize (lg_sl ([.ref a1, .int a2, .ref a3]) ++ List.replicate (4 - (lg_sl ([.ref a1, .int a2, .ref a3])).length) Slot.unset).toArray = ls at hl ⊢
  have hl : lv_has ls 4 [(0, .ref a1), (1, .int a2), (2, .ref a3)] := hl
  unfold w_LW_value at w
  refine lv_aload_n hx hb d_LW_value_0 rfl (lv_at hl 2 rfl) ?_
  refine lv_iconst (v := 0) hx hb d_LW_value_1 (by decide) ?_
  refine lv_aload_n hx hb d_LW_value_2 rfl (lv_at hl 0 rfl) ?_
  refine lv_iload_n hx hb d_LW_value_3 rfl (lv_at hl 1 rfl) ?_
  obtain ⟨t4, w⟩ := w
  refine hx_l (vx_runV (As := [.int a2]) (rest := [.int (0 : Int32), .ref a3]) ⟨hx, hb, hml, hown, hts⟩ (m_BD_value G a1 a2 h0 hst w) (cwV 1 hts (zx_gV hT wd_515 wd_516 wd_517 wd_1 wd_518) rfl rfl rfl (by decide +kernel) ⟨Nat.le_of_ble_eq_true rfl, Nat.le_of_ble_eq_true rfl⟩) (hb_preV hK hX hW t4 (by decide) rfl) rfl rfl hl.1 rfl (lv_room (Nat.le_of_ble_eq_true rfl)) d_LW_value_4 ⟨(by show _ ≤ 2; omega), (by show _ ≤ 12; omega)⟩) hW (fun E7 ce9 q9 h8 H locs hE hW c1 c2 c3 => ?_) (fun r6 h5 H locs hk hW => ?_)
  · obtain ⟨wE, mm10⟩ := hE
    have hm := hm.tr mm10
    rcases wE mm10 with ⟨rfl, w⟩ | ⟨rfl, w⟩
    · refine vx_catch (name := "java/lang/IllegalArgumentException") hown [] ⟨0, 8, 11, 13⟩ [⟨0, 8, 14, 23⟩] (by rw [htb]; rfl) (fun _ h9 => nomatch h9) rfl (by decide) (hw wd_136) (zx_use hts hT hX zx_cast_IllegalArgumentException rfl) c1 c2 c3 ?_
      refine W.eq (g2 := F0 m 11 ls [.ref q9]) rfl ?_
      refine lv_astore_n (lv' := [(3, .ref q9), (0, .ref a1), (1, .int a2), (2, .ref a3)]) hx hb d_LW_value_11 rfl hl (by decide) rfl (fun ls hl => ?_)
      refine lv_iconst (v := 1) hx hb d_LW_value_12 (by decide) ?_
      exact hb_iret (K := fun r9 h9 => K r9 h9 ∧ ah_m h0 h9) hx hb hr hlk hK hX hW ⟨w, hm⟩ (by omega) (by omega) d_LW_value_13
    · refine vx_catch (name := "java/lang/IllegalStateException") hown [⟨0, 8, 11, 13⟩] ⟨0, 8, 14, 23⟩ [] (by rw [htb]; rfl) (fun z9 h9 => by cases List.mem_singleton.mp h9; exact Or.inr ⟨by decide, "java/lang/IllegalArgumentException", hw wd_136, hX.2.2.1 ("java/lang/IllegalStateException", "java/lang/IllegalArgumentException") (by decide)⟩) rfl (by decide) (hw wd_243) (zx_use hts hT hX zx_cast_IllegalStateException rfl) c1 c2 c3 ?_
      refine W.eq (g2 := F0 m 14 ls [.ref q9]) rfl ?_
      refine lv_astore_n (lv' := [(3, .ref q9), (0, .ref a1), (1, .int a2), (2, .ref a3)]) hx hb d_LW_value_14 rfl hl (by decide) rfl (fun ls hl => ?_)
      refine lv_iconst (v := 2) hx hb d_LW_value_15 (by decide) ?_
      exact hb_iret (K := fun r9 h9 => K r9 h9 ∧ ah_m h0 h9) hx hb hr hlk hK hX hW ⟨w, hm⟩ (by omega) (by omega) d_LW_value_16
  · skip
    obtain ⟨w, mm11⟩ := hk
    have w := w mm11
    have hm := hm.tr mm11
    have t12 := mm11.tg t4 (by decide)
    obtain ⟨t13, w⟩ := w
    obtain ⟨i14, w⟩ := w
    refine hb_last hx hb hK hW t13 (by decide) (by decide) 2 rfl i14 d_LW_value_7 (fun H locs h15 eh15 hW => ?_)
    have w := w h15 eh15
    have mm16 : ah_m h5 h15 := ah_m.rf.st (by rw [eh15]; rfl) (by rw [eh15]; rfl)
    have hm := hm.tr mm16
    have t17 := mm16.tg t12 (by decide)
    have t18 := mm16.tg t13 (by decide)
    refine lv_goto (tgt := 17) hx hb d_LW_value_8 (by decide) ?_
    refine lv_iconst (v := 0) hx hb d_LW_value_17 (by decide) ?_
    exact hb_iret (K := fun r9 h9 => K r9 h9 ∧ ah_m h0 h9) hx hb hr hlk hK hX hW ⟨w, hm⟩ (by omega) (by omega) d_LW_value_18
set_option maxHeartbeats 4000000 in
set_option maxRecDepth 100000 in
theorem m_LW_limb {l : Launch} (G : zG) (a1 : Nat) (a2 : Int32) (a3 : Int32) (a4 : Nat) (h0 : ah_H) {K : Int32 → ah_H → Prop} (hst : l.stackTraces = false) (w : w_LW_limb a1 a2 a3 a4 h0 K) : Met l y_LW_limb (Cond.codeWith y_LW_limb b_LW_limb 5 (some .int) [((0 : Nat), (9 : Nat), (12 : Nat), (13 : Nat))] :: zx_T) rm_LW_limb (va_Pc [.ref a1, .int a2, .int a3, .ref a4] (ah_B G h0)) (va_Qi (fun r9 h9 => K r9 h9 ∧ ah_m h0 h9) (ah_B G) (fun q => G.2.2 ≤ q)) 2 12 (fun q => G.2.2 ≤ q) := by
  refine va_MetW (cc := b_LW_limb) (maxL := 5) (ret := (some .int)) (hh :=  [((0 : Nat), (9 : Nat), (12 : Nat), (13 : Nat))]) (by decide) rfl ?_
  intro p e s m args below meth c s₁ B hml hv
  have htb := vx_table (x := y_LW_limb) B (atoms_spec B.pre _ List.mem_cons_self)
  obtain ⟨rfl, hB⟩ := hv
  have C : cx_C p l s m _ meth c G y_LW_limb b_LW_limb 5 (some .int) "BigDeskLaw" (Cond.codeWith y_LW_limb b_LW_limb 5 (some .int) [((0 : Nat), (9 : Nat), (12 : Nat), (13 : Nat))] :: zx_T) (tableOf [((0 : Nat), (9 : Nat), (12 : Nat), (13 : Nat))]) := ⟨B.exec, B.bytes, B.returns, hml, findClass_of_methodNamed B.named, atoms_spec B.pre, cx_hd, B.notSynchronized, hB.2.2.1, hB.2.2.2, htb, fun z9 => (name_of_methodNamed B.named B.method).1.trans z9, hst⟩
  obtain ⟨hx, hb, hr, hml, hown, hts, hT, hlk, hK, hX, htb, hin, hst⟩ := id C
  have hw : ∀ {w9 : Cond}, w9 ∈ zx_T → w9.before _ s = true := fun h9 => hts _ (hT _ h9)
  have hW : ah_W G s.heap h0 s.heap [] := ⟨hB.1, hB.2.1, va_S.rf⟩
  have hm : ah_m h0 h0 := ah_m.rf
  have hcl : 0 + 2 ≤ 2 := by decide
  have hsl : 0 + 12 ≤ 12 := by decide
  have hl := lv_entry ([.ref a1, .int a2, .int a3, .ref a4]) (n := 5) (Nat.le_of_ble_eq_true rfl)
  rw [lg_entry_eq]
  generalize (lg_sl ([.ref a1, .int a2, .int a3, .ref a4]) ++ List.replicate (5 - (lg_sl ([.ref a1, .int a2, .int a3, .ref a4])).length) Slot.unset).toArray = ls at hl ⊢
  have hl : lv_has ls 5 [(0, .ref a1), (1, .int a2), (2, .int a3), (3, .ref a4)] := hl
  unfold w_LW_limb at w
  refine lv_aload_n hx hb d_LW_limb_0 rfl (lv_at hl 3 rfl) ?_
  refine lv_iconst (v := 0) hx hb d_LW_limb_1 (by decide) ?_
  refine lv_aload_n hx hb d_LW_limb_2 rfl (lv_at hl 0 rfl) ?_
  refine lv_iload_n hx hb d_LW_limb_3 rfl (lv_at hl 1 rfl) ?_
  refine lv_iload_n hx hb d_LW_limb_4 rfl (lv_at hl 2 rfl) ?_
  obtain ⟨t5, w⟩ := w
  refine hx_l (vx_runV (As := [.int a2, .int a3]) (rest := [.int (0 : Int32), .ref a4]) ⟨hx, hb, hml, hown, hts⟩ (m_BD_limb G a1 a2 a3 h0 hst w) (cwV 2 hts (zx_gV hT wd_528 wd_529 wd_530 wd_1 wd_531) rfl rfl rfl (by decide +kernel) ⟨Nat.le_of_ble_eq_true rfl, Nat.le_of_ble_eq_true rfl⟩) (hb_preV hK hX hW t5 (by decide) rfl) rfl rfl hl.1 rfl (lv_room (Nat.le_of_ble_eq_true rfl)) d_LW_limb_5 ⟨(by show _ ≤ 2; omega), (by show _ ≤ 12; omega)⟩) hW (fun E8 ce9 q10 h9 H locs hE hW c1 c2 c3 => ?_) (fun r7 h6 H locs hk hW => ?_)
  · obtain ⟨wE, mm11⟩ := hE
    have hm := hm.tr mm11
    rcases wE mm11 with ⟨rfl, w⟩
    · refine vx_catch (name := "java/lang/IllegalArgumentException") hown [] ⟨0, 9, 12, 13⟩ [] (by rw [htb]; rfl) (fun _ h9 => nomatch h9) rfl (by decide) (hw wd_136) (zx_use hts hT hX zx_cast_IllegalArgumentException rfl) c1 c2 c3 ?_
      refine W.eq (g2 := F0 m 12 ls [.ref q10]) rfl ?_
      refine lv_astore (lv' := [(4, .ref q10), (0, .ref a1), (1, .int a2), (2, .int a3), (3, .ref a4)]) hx hb d_LW_limb_12 hl (by decide) rfl (fun ls hl => ?_)
      refine lv_iconst (v := 1) hx hb d_LW_limb_14 (by decide) ?_
      exact hb_iret (K := fun r9 h9 => K r9 h9 ∧ ah_m h0 h9) hx hb hr hlk hK hX hW ⟨w, hm⟩ (by omega) (by omega) d_LW_limb_15
  · skip
    obtain ⟨w, mm12⟩ := hk
    have w := w mm12
    have hm := hm.tr mm12
    have t13 := mm12.tg t5 (by decide)
    obtain ⟨t14, w⟩ := w
    obtain ⟨i15, w⟩ := w
    refine hb_last hx hb hK hW t14 (by decide) (by decide) 2 rfl i15 d_LW_limb_8 (fun H locs h16 eh16 hW => ?_)
    have w := w h16 eh16
    have mm17 : ah_m h6 h16 := ah_m.rf.st (by rw [eh16]; rfl) (by rw [eh16]; rfl)
    have hm := hm.tr mm17
    have t18 := mm17.tg t13 (by decide)
    have t19 := mm17.tg t14 (by decide)
    refine lv_goto (tgt := 16) hx hb d_LW_limb_9 (by decide) ?_
    refine lv_iconst (v := 0) hx hb d_LW_limb_16 (by decide) ?_
    exact hb_iret (K := fun r9 h9 => K r9 h9 ∧ ah_m h0 h9) hx hb hr hlk hK hX hW ⟨w, hm⟩ (by omega) (by omega) d_LW_limb_17
set_option maxHeartbeats 4000000 in
set_option maxRecDepth 100000 in
theorem m_LW_look {l : Launch} (G : zG) (a1 : Nat) (a2 : Int32) (a3 : Int32) (a4 : Nat) (h0 : ah_H) {K : Int32 → ah_H → Prop} (hst : l.stackTraces = false) (w : w_LW_look a1 a2 a3 a4 h0 K) : Met l y_LW_look (Cond.codeWith y_LW_look b_LW_look 5 (some .int) [((0 : Nat), (10 : Nat), (13 : Nat), (13 : Nat))] :: zx_T) rm_LW_look (va_Pc [.ref a1, .int a2, .int a3, .ref a4] (ah_B G h0)) (va_Qi (fun r9 h9 => K r9 h9 ∧ ah_m h0 h9) (ah_B G) (fun q => G.2.2 ≤ q)) 2 12 (fun q => G.2.2 ≤ q) := by
  refine va_MetW (cc := b_LW_look) (maxL := 5) (ret := (some .int)) (hh :=  [((0 : Nat), (10 : Nat), (13 : Nat), (13 : Nat))]) (by decide) rfl ?_
  intro p e s m args below meth c s₁ B hml hv
  have htb := vx_table (x := y_LW_look) B (atoms_spec B.pre _ List.mem_cons_self)
  obtain ⟨rfl, hB⟩ := hv
  have C : cx_C p l s m _ meth c G y_LW_look b_LW_look 5 (some .int) "BigDeskLaw" (Cond.codeWith y_LW_look b_LW_look 5 (some .int) [((0 : Nat), (10 : Nat), (13 : Nat), (13 : Nat))] :: zx_T) (tableOf [((0 : Nat), (10 : Nat), (13 : Nat), (13 : Nat))]) := ⟨B.exec, B.bytes, B.returns, hml, findClass_of_methodNamed B.named, atoms_spec B.pre, cx_hd, B.notSynchronized, hB.2.2.1, hB.2.2.2, htb, fun z9 => (name_of_methodNamed B.named B.method).1.trans z9, hst⟩
  obtain ⟨hx, hb, hr, hml, hown, hts, hT, hlk, hK, hX, htb, hin, hst⟩ := id C
  have hw : ∀ {w9 : Cond}, w9 ∈ zx_T → w9.before _ s = true := fun h9 => hts _ (hT _ h9)
  have hW : ah_W G s.heap h0 s.heap [] := ⟨hB.1, hB.2.1, va_S.rf⟩
  have hm : ah_m h0 h0 := ah_m.rf
  have hcl : 0 + 2 ≤ 2 := by decide
  have hsl : 0 + 12 ≤ 12 := by decide
  have hl := lv_entry ([.ref a1, .int a2, .int a3, .ref a4]) (n := 5) (Nat.le_of_ble_eq_true rfl)
  rw [lg_entry_eq]
  generalize (lg_sl ([.ref a1, .int a2, .int a3, .ref a4]) ++ List.replicate (5 - (lg_sl ([.ref a1, .int a2, .int a3, .ref a4])).length) Slot.unset).toArray = ls at hl ⊢
  have hl : lv_has ls 5 [(0, .ref a1), (1, .int a2), (2, .int a3), (3, .ref a4)] := hl
  unfold w_LW_look at w
  refine lv_aload_n hx hb d_LW_look_0 rfl (lv_at hl 3 rfl) ?_
  refine lv_iconst (v := 0) hx hb d_LW_look_1 (by decide) ?_
  refine lv_aload_n hx hb d_LW_look_2 rfl (lv_at hl 0 rfl) ?_
  refine lv_iload_n hx hb d_LW_look_3 rfl (lv_at hl 1 rfl) ?_
  refine lv_iload_n hx hb d_LW_look_4 rfl (lv_at hl 2 rfl) ?_
  obtain ⟨t5, w⟩ := w
  refine hx_i (vx_runV (As := [.int a2, .int a3]) (rest := [.int (0 : Int32), .ref a4]) ⟨hx, hb, hml, hown, hts⟩ (m_BD_look G a1 a2 a3 h0 hst w) (cwV 2 hts (zx_gV hT wd_537 wd_538 wd_539 wd_1 wd_540) rfl rfl rfl (by decide +kernel) ⟨Nat.le_of_ble_eq_true rfl, Nat.le_of_ble_eq_true rfl⟩) (hb_preV hK hX hW t5 (by decide) rfl) rfl rfl hl.1 rfl (lv_room (Nat.le_of_ble_eq_true rfl)) d_LW_look_5 ⟨(by show _ ≤ 2; omega), (by show _ ≤ 12; omega)⟩) hW (fun E8 ce9 q10 h9 H locs hE hW c1 c2 c3 => ?_) (fun r7 h6 H locs hk hW => ?_)
  · obtain ⟨wE, mm11⟩ := hE
    have hm := hm.tr mm11
    rcases wE mm11 with ⟨rfl, w⟩
    · refine vx_catch (name := "java/lang/IllegalArgumentException") hown [] ⟨0, 10, 13, 13⟩ [] (by rw [htb]; rfl) (fun _ h9 => nomatch h9) rfl (by decide) (hw wd_136) (zx_use hts hT hX zx_cast_IllegalArgumentException rfl) c1 c2 c3 ?_
      refine W.eq (g2 := F0 m 13 ls [.ref q10]) rfl ?_
      refine lv_astore (lv' := [(4, .ref q10), (0, .ref a1), (1, .int a2), (2, .int a3), (3, .ref a4)]) hx hb d_LW_look_13 hl (by decide) rfl (fun ls hl => ?_)
      refine lv_iconst (v := 1) hx hb d_LW_look_15 (by decide) ?_
      exact hb_iret (K := fun r9 h9 => K r9 h9 ∧ ah_m h0 h9) hx hb hr hlk hK hX hW ⟨w, hm⟩ (by omega) (by omega) d_LW_look_16
  · skip
    obtain ⟨w, mm12⟩ := hk
    have w := w mm12
    have hm := hm.tr mm12
    have t13 := mm12.tg t5 (by decide)
    refine lv_i2l hx hb d_LW_look_8 rfl ?_
    refine lv_topl (fun v14 ev14 => ?_)
    have w := w v14 ev14
    obtain ⟨t15, w⟩ := w
    obtain ⟨i16, w⟩ := w
    refine hb_last hx hb hK hW t15 (by decide) (by decide) 2 rfl i16 d_LW_look_9 (fun H locs h17 eh17 hW => ?_)
    have w := w h17 eh17
    have mm18 : ah_m h6 h17 := ah_m.rf.st (by rw [eh17]; rfl) (by rw [eh17]; rfl)
    have hm := hm.tr mm18
    have t19 := mm18.tg t13 (by decide)
    have t20 := mm18.tg t15 (by decide)
    refine lv_goto (tgt := 17) hx hb d_LW_look_10 (by decide) ?_
    refine lv_iconst (v := 0) hx hb d_LW_look_17 (by decide) ?_
    exact hb_iret (K := fun r9 h9 => K r9 h9 ∧ ah_m h0 h9) hx hb hr hlk hK hX hW ⟨w, hm⟩ (by omega) (by omega) d_LW_look_18
set_option maxHeartbeats 4000000 in
set_option maxRecDepth 100000 in
theorem m_LW_feed {l : Launch} (G : zG) (a1 : Nat) (a2 : Int32) (a3 : Int64) (a4 : Nat) (h0 : ah_H) {K : Int32 → ah_H → Prop} (hst : l.stackTraces = false) (w : w_LW_feed a1 a2 a3 a4 h0 K) : Met l y_LW_feed (Cond.codeWith y_LW_feed b_LW_feed 6 (some .int) [((0 : Nat), (11 : Nat), (14 : Nat), (13 : Nat)), ((0 : Nat), (11 : Nat), (18 : Nat), (23 : Nat))] :: zx_T) rm_LW_feed (va_Pc [.ref a1, .int a2, .long a3, .ref a4] (ah_B G h0)) (va_Qi (fun r9 h9 => K r9 h9 ∧ ah_m h0 h9) (ah_B G) (fun q => G.2.2 ≤ q)) 1 6 (fun q => G.2.2 ≤ q) := by
  refine va_MetW (cc := b_LW_feed) (maxL := 6) (ret := (some .int)) (hh :=  [((0 : Nat), (11 : Nat), (14 : Nat), (13 : Nat)), ((0 : Nat), (11 : Nat), (18 : Nat), (23 : Nat))]) (by decide) rfl ?_
  intro p e s m args below meth c s₁ B hml hv
  have htb := vx_table (x := y_LW_feed) B (atoms_spec B.pre _ List.mem_cons_self)
  obtain ⟨rfl, hB⟩ := hv
  have C : cx_C p l s m _ meth c G y_LW_feed b_LW_feed 6 (some .int) "BigDeskLaw" (Cond.codeWith y_LW_feed b_LW_feed 6 (some .int) [((0 : Nat), (11 : Nat), (14 : Nat), (13 : Nat)), ((0 : Nat), (11 : Nat), (18 : Nat), (23 : Nat))] :: zx_T) (tableOf [((0 : Nat), (11 : Nat), (14 : Nat), (13 : Nat)), ((0 : Nat), (11 : Nat), (18 : Nat), (23 : Nat))]) := ⟨B.exec, B.bytes, B.returns, hml, findClass_of_methodNamed B.named, atoms_spec B.pre, cx_hd, B.notSynchronized, hB.2.2.1, hB.2.2.2, htb, fun z9 => (name_of_methodNamed B.named B.method).1.trans z9, hst⟩
  obtain ⟨hx, hb, hr, hml, hown, hts, hT, hlk, hK, hX, htb, hin, hst⟩ := id C
  have hw : ∀ {w9 : Cond}, w9 ∈ zx_T → w9.before _ s = true := fun h9 => hts _ (hT _ h9)
  have hW : ah_W G s.heap h0 s.heap [] := ⟨hB.1, hB.2.1, va_S.rf⟩
  have hm : ah_m h0 h0 := ah_m.rf
  have hcl : 0 + 1 ≤ 1 := by decide
  have hsl : 0 + 6 ≤ 6 := by decide
  have hl := lv_entry ([.ref a1, .int a2, .long a3, .ref a4]) (n := 6) (Nat.le_of_ble_eq_true rfl)
  rw [lg_entry_eq]
  generalize (lg_sl ([.ref a1, .int a2, .long a3, .ref a4]) ++ List.replicate (6 - (lg_sl ([.ref a1, .int a2, .long a3, .ref a4])).length) Slot.unset).toArray = ls at hl ⊢
  have hl : lv_has ls 6 [(0, .ref a1), (1, .int a2), (2, .long a3), (4, .ref a4)] := hl
  unfold w_LW_feed at w
  refine lv_aload hx hb d_LW_feed_0 (lv_at hl 3 rfl) ?_
  refine lv_iconst (v := 0) hx hb d_LW_feed_2 (by decide) ?_
  refine lv_aload_n hx hb d_LW_feed_3 rfl (lv_at hl 0 rfl) ?_
  refine lv_iload_n hx hb d_LW_feed_4 rfl (lv_at hl 1 rfl) ?_
  refine lv_lload_n hx hb d_LW_feed_5 rfl (lv_at hl 2 rfl) ?_
  obtain ⟨t5, w⟩ := w
  refine hx_i (vx_runV (As := [.int a2, .long a3]) (rest := [.int (0 : Int32), .ref a4]) ⟨hx, hb, hml, hown, hts⟩ (m_BD_feed G a1 a2 a3 h0 hst w) (cwV 2 hts (zx_gV hT wd_545 wd_546 wd_547 wd_1 wd_548) rfl rfl rfl (by decide +kernel) ⟨Nat.le_of_ble_eq_true rfl, Nat.le_of_ble_eq_true rfl⟩) (hb_preV hK hX hW t5 (by decide) rfl) rfl rfl hl.1 rfl (lv_room (Nat.le_of_ble_eq_true rfl)) d_LW_feed_6 ⟨(by show _ ≤ 1; omega), (by show _ ≤ 6; omega)⟩) hW (fun E8 ce9 q10 h9 H locs hE hW c1 c2 c3 => ?_) (fun r7 h6 H locs hk hW => ?_)
  · obtain ⟨wE, mm11⟩ := hE
    have hm := hm.tr mm11
    rcases wE mm11 with ⟨rfl, w⟩ | ⟨rfl, w⟩
    · refine vx_catch (name := "java/lang/IllegalArgumentException") hown [] ⟨0, 11, 14, 13⟩ [⟨0, 11, 18, 23⟩] (by rw [htb]; rfl) (fun _ h9 => nomatch h9) rfl (by decide) (hw wd_136) (zx_use hts hT hX zx_cast_IllegalArgumentException rfl) c1 c2 c3 ?_
      refine W.eq (g2 := F0 m 14 ls [.ref q10]) rfl ?_
      refine lv_astore (lv' := [(5, .ref q10), (0, .ref a1), (1, .int a2), (2, .long a3), (4, .ref a4)]) hx hb d_LW_feed_14 hl (by decide) rfl (fun ls hl => ?_)
      refine lv_iconst (v := 1) hx hb d_LW_feed_16 (by decide) ?_
      exact hb_iret (K := fun r9 h9 => K r9 h9 ∧ ah_m h0 h9) hx hb hr hlk hK hX hW ⟨w, hm⟩ (by omega) (by omega) d_LW_feed_17
    · refine vx_catch (name := "java/lang/IllegalStateException") hown [⟨0, 11, 14, 13⟩] ⟨0, 11, 18, 23⟩ [] (by rw [htb]; rfl) (fun z9 h9 => by cases List.mem_singleton.mp h9; exact Or.inr ⟨by decide, "java/lang/IllegalArgumentException", hw wd_136, hX.2.2.1 ("java/lang/IllegalStateException", "java/lang/IllegalArgumentException") (by decide)⟩) rfl (by decide) (hw wd_243) (zx_use hts hT hX zx_cast_IllegalStateException rfl) c1 c2 c3 ?_
      refine W.eq (g2 := F0 m 18 ls [.ref q10]) rfl ?_
      refine lv_astore (lv' := [(5, .ref q10), (0, .ref a1), (1, .int a2), (2, .long a3), (4, .ref a4)]) hx hb d_LW_feed_18 hl (by decide) rfl (fun ls hl => ?_)
      refine lv_iconst (v := 2) hx hb d_LW_feed_20 (by decide) ?_
      exact hb_iret (K := fun r9 h9 => K r9 h9 ∧ ah_m h0 h9) hx hb hr hlk hK hX hW ⟨w, hm⟩ (by omega) (by omega) d_LW_feed_21
  · skip
    obtain ⟨w, mm12⟩ := hk
    have w := w mm12
    have hm := hm.tr mm12
    have t13 := mm12.tg t5 (by decide)
    refine lv_i2l hx hb d_LW_feed_9 rfl ?_
    refine lv_topl (fun v14 ev14 => ?_)
    have w := w v14 ev14
    obtain ⟨t15, w⟩ := w
    obtain ⟨i16, w⟩ := w
    refine hb_last hx hb hK hW t15 (by decide) (by decide) 2 rfl i16 d_LW_feed_10 (fun H locs h17 eh17 hW => ?_)
    have w := w h17 eh17
    have mm18 : ah_m h6 h17 := ah_m.rf.st (by rw [eh17]; rfl) (by rw [eh17]; rfl)
    have hm := hm.tr mm18
    have t19 := mm18.tg t13 (by decide)
    have t20 := mm18.tg t15 (by decide)
    refine lv_goto (tgt := 22) hx hb d_LW_feed_11 (by decide) ?_
    refine lv_iconst (v := 0) hx hb d_LW_feed_22 (by decide) ?_
    exact hb_iret (K := fun r9 h9 => K r9 h9 ∧ ah_m h0 h9) hx hb hr hlk hK hX hW ⟨w, hm⟩ (by omega) (by omega) d_LW_feed_23
set_option maxHeartbeats 4000000 in
set_option maxRecDepth 100000 in
theorem tb_LW_read_15 {p : Program} {l : Launch} {e : Env} {s : State} {m : MethodId} {args : Array Value} {below : List Frame} {meth : Method} {c : Code} {G : zG} (C : cx_C p l s m args meth c G y_LW_read b_LW_read 4 (some .int) "BigDeskLaw" (Cond.codeWith y_LW_read b_LW_read 4 (some .int) [((0 : Nat), (16 : Nat), (19 : Nat), (13 : Nat))] :: zx_T) (tableOf [((0 : Nat), (16 : Nat), (19 : Nat), (13 : Nat))])) {K : Int32 → ah_H → Prop} {h0 : ah_H} {cells slots : Nat} (hcl : cells + 0 ≤ 1) (hsl : slots + 0 ≤ 6)  (s14 : Int64) (s15 : Int32) (s16 : Nat) (h17 : ah_H) (H : Heap) (locs : List Loc) (ls : Array Slot) (w : bk_LW_read_15 K s14 s15 s16 h17) (hm : ah_m h0 h17) (hW : ah_W G s.heap h17 H locs) (hl : lv_has ls 4 []) : W p l e rm_LW_read s m args below meth c H locs cells slots (MQ below (va_Qi (fun r9 h9 => K r9 h9 ∧ ah_m h0 h9) (ah_B G) (fun q => G.2.2 ≤ q)) args s 1 6 (fun q => G.2.2 ≤ q)) (F0 m 15 ls [.long s14, .int s15, .ref s16]) := by
  unfold bk_LW_read_15 at w
  obtain ⟨hx, hb, hr, hml, hown, hts, hT, hlk, hK, hX, htb, hin, hst⟩ := id C
  have hw : ∀ {w9 : Cond}, w9 ∈ zx_T → w9.before _ s = true := fun h9 => hts _ (hT _ h9)
  obtain ⟨t18, w⟩ := w
  obtain ⟨i19, w⟩ := w
  refine hb_last hx hb hK hW t18 (by decide) (by decide) 2 rfl i19 d_LW_read_15 (fun H locs h20 eh20 hW => ?_)
  have w := w h20 eh20
  have mm21 : ah_m h17 h20 := ah_m.rf.st (by rw [eh20]; rfl) (by rw [eh20]; rfl)
  have hm := hm.tr mm21
  have t22 := mm21.tg t18 (by decide)
  refine lv_goto (tgt := 22) hx hb d_LW_read_16 (by decide) ?_
  refine lv_iconst (v := 0) hx hb d_LW_read_22 (by decide) ?_
  exact hb_iret (K := fun r9 h9 => K r9 h9 ∧ ah_m h0 h9) hx hb hr hlk hK hX hW ⟨w, hm⟩ (by omega) (by omega) d_LW_read_23
set_option maxHeartbeats 4000000 in
set_option maxRecDepth 100000 in
theorem m_LW_read {l : Launch} (G : zG) (a1 : Nat) (a2 : Int32) (a3 : Nat) (h0 : ah_H) {K : Int32 → ah_H → Prop} (hst : l.stackTraces = false) (w : w_LW_read a1 a2 a3 h0 K) : Met l y_LW_read (Cond.codeWith y_LW_read b_LW_read 4 (some .int) [((0 : Nat), (16 : Nat), (19 : Nat), (13 : Nat))] :: zx_T) rm_LW_read (va_Pc [.ref a1, .int a2, .ref a3] (ah_B G h0)) (va_Qi (fun r9 h9 => K r9 h9 ∧ ah_m h0 h9) (ah_B G) (fun q => G.2.2 ≤ q)) 1 6 (fun q => G.2.2 ≤ q) := by
  refine va_MetW (cc := b_LW_read) (maxL := 4) (ret := (some .int)) (hh :=  [((0 : Nat), (16 : Nat), (19 : Nat), (13 : Nat))]) (by decide) rfl ?_
  intro p e s m args below meth c s₁ B hml hv
  have htb := vx_table (x := y_LW_read) B (atoms_spec B.pre _ List.mem_cons_self)
  obtain ⟨rfl, hB⟩ := hv
  have C : cx_C p l s m _ meth c G y_LW_read b_LW_read 4 (some .int) "BigDeskLaw" (Cond.codeWith y_LW_read b_LW_read 4 (some .int) [((0 : Nat), (16 : Nat), (19 : Nat), (13 : Nat))] :: zx_T) (tableOf [((0 : Nat), (16 : Nat), (19 : Nat), (13 : Nat))]) := ⟨B.exec, B.bytes, B.returns, hml, findClass_of_methodNamed B.named, atoms_spec B.pre, cx_hd, B.notSynchronized, hB.2.2.1, hB.2.2.2, htb, fun z9 => (name_of_methodNamed B.named B.method).1.trans z9, hst⟩
  obtain ⟨hx, hb, hr, hml, hown, hts, hT, hlk, hK, hX, htb, hin, hst⟩ := id C
  have hw : ∀ {w9 : Cond}, w9 ∈ zx_T → w9.before _ s = true := fun h9 => hts _ (hT _ h9)
  have hW : ah_W G s.heap h0 s.heap [] := ⟨hB.1, hB.2.1, va_S.rf⟩
  have hm : ah_m h0 h0 := ah_m.rf
  have hcl : 0 + 1 ≤ 1 := by decide
  have hsl : 0 + 6 ≤ 6 := by decide
  have hl := lv_entry ([.ref a1, .int a2, .ref a3]) (n := 4) (Nat.le_of_ble_eq_true rfl)
  rw [lg_entry_eq]
  generalize (lg_sl ([.ref a1, .int a2, .ref a3]) ++ List.replicate (4 - (lg_sl ([.ref a1, .int a2, .ref a3])).length) Slot.unset).toArray = ls at hl ⊢
  have hl : lv_has ls 4 [(0, .ref a1), (1, .int a2), (2, .ref a3)] := hl
  unfold w_LW_read at w
  refine lv_aload_n hx hb d_LW_read_0 rfl (lv_at hl 2 rfl) ?_
  refine lv_iconst (v := 0) hx hb d_LW_read_1 (by decide) ?_
  refine lv_aload_n hx hb d_LW_read_2 rfl (lv_at hl 0 rfl) ?_
  refine lv_iload_n hx hb d_LW_read_3 rfl (lv_at hl 1 rfl) ?_
  obtain ⟨t4, w⟩ := w
  refine hx_i (vx_runV (As := [.int a2]) (rest := [.int (0 : Int32), .ref a3]) ⟨hx, hb, hml, hown, hts⟩ (m_BD_read G a1 a2 h0 hst w) (cwV 1 hts (zx_gV hT wd_554 wd_555 wd_556 wd_1 wd_557) rfl rfl rfl (by decide +kernel) ⟨Nat.le_of_ble_eq_true rfl, Nat.le_of_ble_eq_true rfl⟩) (hb_preV hK hX hW t4 (by decide) rfl) rfl rfl hl.1 rfl (lv_room (Nat.le_of_ble_eq_true rfl)) d_LW_read_4 ⟨(by show _ ≤ 1; omega), (by show _ ≤ 6; omega)⟩) hW (fun E7 ce9 q9 h8 H locs hE hW c1 c2 c3 => ?_) (fun r6 h5 H locs hk hW => ?_)
  · obtain ⟨wE, mm10⟩ := hE
    have hm := hm.tr mm10
    rcases wE mm10 with ⟨rfl, w⟩
    · refine vx_catch (name := "java/lang/IllegalArgumentException") hown [] ⟨0, 16, 19, 13⟩ [] (by rw [htb]; rfl) (fun _ h9 => nomatch h9) rfl (by decide) (hw wd_136) (zx_use hts hT hX zx_cast_IllegalArgumentException rfl) c1 c2 c3 ?_
      refine W.eq (g2 := F0 m 19 ls [.ref q9]) rfl ?_
      refine lv_astore_n (lv' := [(3, .ref q9), (0, .ref a1), (1, .int a2), (2, .ref a3)]) hx hb d_LW_read_19 rfl hl (by decide) rfl (fun ls hl => ?_)
      refine lv_iconst (v := 1) hx hb d_LW_read_20 (by decide) ?_
      exact hb_iret (K := fun r9 h9 => K r9 h9 ∧ ah_m h0 h9) hx hb hr hlk hK hX hW ⟨w, hm⟩ (by omega) (by omega) d_LW_read_21
  · skip
    obtain ⟨w, mm11⟩ := hk
    have w := w mm11
    have hm := hm.tr mm11
    have t12 := mm11.tg t4 (by decide)
    refine lv_if_eq (tgt := 14) hx hb d_LW_read_7 (by decide) (fun c13 => ?_) (fun c13 => ?_)
    · have w := w.1 c13
      refine lv_lconst (v := 0) hx hb d_LW_read_14 (by decide) ?_
      exact tb_LW_read_15 C (by omega) (by omega)  (0 : Int64) (0 : Int32) a3 h5 _ _ _ w hm hW (lv_sub hl [] rfl)
    · have w := w.2 c13
      refine lv_lconst (v := 1) hx hb d_LW_read_10 (by decide) ?_
      refine lv_goto (tgt := 15) hx hb d_LW_read_11 (by decide) ?_
      exact tb_LW_read_15 C (by omega) (by omega)  (1 : Int64) (0 : Int32) a3 h5 _ _ _ w hm hW (lv_sub hl [] rfl)
set_option maxHeartbeats 4000000 in
set_option maxRecDepth 100000 in
theorem m_LW_write {l : Launch} (G : zG) (a1 : Nat) (a2 : Int32) (a3 : Nat) (h0 : ah_H) {K : Int32 → ah_H → Prop} (hst : l.stackTraces = false) (w : w_LW_write a1 a2 a3 h0 K) : Met l y_LW_write (Cond.codeWith y_LW_write b_LW_write 4 (some .int) [((0 : Nat), (9 : Nat), (12 : Nat), (13 : Nat))] :: zx_T) rm_LW_write (va_Pc [.ref a1, .int a2, .ref a3] (ah_B G h0)) (va_Qi (fun r9 h9 => K r9 h9 ∧ ah_m h0 h9) (ah_B G) (fun q => G.2.2 ≤ q)) 1 6 (fun q => G.2.2 ≤ q) := by
  refine va_MetW (cc := b_LW_write) (maxL := 4) (ret := (some .int)) (hh :=  [((0 : Nat), (9 : Nat), (12 : Nat), (13 : Nat))]) (by decide) rfl ?_
  intro p e s m args below meth c s₁ B hml hv
  have htb := vx_table (x := y_LW_write) B (atoms_spec B.pre _ List.mem_cons_self)
  obtain ⟨rfl, hB⟩ := hv
  have C : cx_C p l s m _ meth c G y_LW_write b_LW_write 4 (some .int) "BigDeskLaw" (Cond.codeWith y_LW_write b_LW_write 4 (some .int) [((0 : Nat), (9 : Nat), (12 : Nat), (13 : Nat))] :: zx_T) (tableOf [((0 : Nat), (9 : Nat), (12 : Nat), (13 : Nat))]) := ⟨B.exec, B.bytes, B.returns, hml, findClass_of_methodNamed B.named, atoms_spec B.pre, cx_hd, B.notSynchronized, hB.2.2.1, hB.2.2.2, htb, fun z9 => (name_of_methodNamed B.named B.method).1.trans z9, hst⟩
  obtain ⟨hx, hb, hr, hml, hown, hts, hT, hlk, hK, hX, htb, hin, hst⟩ := id C
  have hw : ∀ {w9 : Cond}, w9 ∈ zx_T → w9.before _ s = true := fun h9 => hts _ (hT _ h9)
  have hW : ah_W G s.heap h0 s.heap [] := ⟨hB.1, hB.2.1, va_S.rf⟩
  have hm : ah_m h0 h0 := ah_m.rf
  have hcl : 0 + 1 ≤ 1 := by decide
  have hsl : 0 + 6 ≤ 6 := by decide
  have hl := lv_entry ([.ref a1, .int a2, .ref a3]) (n := 4) (Nat.le_of_ble_eq_true rfl)
  rw [lg_entry_eq]
  generalize (lg_sl ([.ref a1, .int a2, .ref a3]) ++ List.replicate (4 - (lg_sl ([.ref a1, .int a2, .ref a3])).length) Slot.unset).toArray = ls at hl ⊢
  have hl : lv_has ls 4 [(0, .ref a1), (1, .int a2), (2, .ref a3)] := hl
  unfold w_LW_write at w
  refine lv_aload_n hx hb d_LW_write_0 rfl (lv_at hl 2 rfl) ?_
  refine lv_iconst (v := 0) hx hb d_LW_write_1 (by decide) ?_
  refine lv_aload_n hx hb d_LW_write_2 rfl (lv_at hl 0 rfl) ?_
  refine lv_iload_n hx hb d_LW_write_3 rfl (lv_at hl 1 rfl) ?_
  obtain ⟨t4, w⟩ := w
  refine hx_i (vx_runV (As := [.int a2]) (rest := [.int (0 : Int32), .ref a3]) ⟨hx, hb, hml, hown, hts⟩ (m_BD_write G a1 a2 h0 hst w) (cwV 1 hts (zx_gV hT wd_576 wd_577 wd_578 wd_1 wd_579) rfl rfl rfl (by decide +kernel) ⟨Nat.le_of_ble_eq_true rfl, Nat.le_of_ble_eq_true rfl⟩) (hb_preV hK hX hW t4 (by decide) rfl) rfl rfl hl.1 rfl (lv_room (Nat.le_of_ble_eq_true rfl)) d_LW_write_4 ⟨(by show _ ≤ 1; omega), (by show _ ≤ 6; omega)⟩) hW (fun E7 ce9 q9 h8 H locs hE hW c1 c2 c3 => ?_) (fun r6 h5 H locs hk hW => ?_)
  · obtain ⟨wE, mm10⟩ := hE
    have hm := hm.tr mm10
    rcases wE mm10 with ⟨rfl, w⟩
    · refine vx_catch (name := "java/lang/IllegalArgumentException") hown [] ⟨0, 9, 12, 13⟩ [] (by rw [htb]; rfl) (fun _ h9 => nomatch h9) rfl (by decide) (hw wd_136) (zx_use hts hT hX zx_cast_IllegalArgumentException rfl) c1 c2 c3 ?_
      refine W.eq (g2 := F0 m 12 ls [.ref q9]) rfl ?_
      refine lv_astore_n (lv' := [(3, .ref q9), (0, .ref a1), (1, .int a2), (2, .ref a3)]) hx hb d_LW_write_12 rfl hl (by decide) rfl (fun ls hl => ?_)
      refine lv_iconst (v := 1) hx hb d_LW_write_13 (by decide) ?_
      exact hb_iret (K := fun r9 h9 => K r9 h9 ∧ ah_m h0 h9) hx hb hr hlk hK hX hW ⟨w, hm⟩ (by omega) (by omega) d_LW_write_14
  · skip
    obtain ⟨w, mm11⟩ := hk
    have w := w mm11
    have hm := hm.tr mm11
    have t12 := mm11.tg t4 (by decide)
    refine lv_i2l hx hb d_LW_write_7 rfl ?_
    refine lv_topl (fun v13 ev13 => ?_)
    have w := w v13 ev13
    obtain ⟨t14, w⟩ := w
    obtain ⟨i15, w⟩ := w
    refine hb_last hx hb hK hW t14 (by decide) (by decide) 2 rfl i15 d_LW_write_8 (fun H locs h16 eh16 hW => ?_)
    have w := w h16 eh16
    have mm17 : ah_m h5 h16 := ah_m.rf.st (by rw [eh16]; rfl) (by rw [eh16]; rfl)
    have hm := hm.tr mm17
    have t18 := mm17.tg t12 (by decide)
    have t19 := mm17.tg t14 (by decide)
    refine lv_goto (tgt := 15) hx hb d_LW_write_9 (by decide) ?_
    refine lv_iconst (v := 0) hx hb d_LW_write_15 (by decide) ?_
    exact hb_iret (K := fun r9 h9 => K r9 h9 ∧ ah_m h0 h9) hx hb hr hlk hK hX hW ⟨w, hm⟩ (by omega) (by omega) d_LW_write_16
set_option maxHeartbeats 4000000 in
set_option maxRecDepth 100000 in
theorem m_LW_text {l : Launch} (G : zG) (a1 : Nat) (a2 : Int32) (a3 : Nat) (h0 : ah_H) {K : Int32 → ah_H → Prop} (hst : l.stackTraces = false) (w : w_LW_text a1 a2 a3 h0 K) : Met l y_LW_text (Cond.codeWith y_LW_text b_LW_text 4 (some .int) [((0 : Nat), (9 : Nat), (12 : Nat), (13 : Nat))] :: zx_T) rm_LW_text (va_Pc [.ref a1, .int a2, .ref a3] (ah_B G h0)) (va_Qi (fun r9 h9 => K r9 h9 ∧ ah_m h0 h9) (ah_B G) (fun q => G.2.2 ≤ q)) 1 6 (fun q => G.2.2 ≤ q) := by
  refine va_MetW (cc := b_LW_text) (maxL := 4) (ret := (some .int)) (hh :=  [((0 : Nat), (9 : Nat), (12 : Nat), (13 : Nat))]) (by decide) rfl ?_
  intro p e s m args below meth c s₁ B hml hv
  have htb := vx_table (x := y_LW_text) B (atoms_spec B.pre _ List.mem_cons_self)
  obtain ⟨rfl, hB⟩ := hv
  have C : cx_C p l s m _ meth c G y_LW_text b_LW_text 4 (some .int) "BigDeskLaw" (Cond.codeWith y_LW_text b_LW_text 4 (some .int) [((0 : Nat), (9 : Nat), (12 : Nat), (13 : Nat))] :: zx_T) (tableOf [((0 : Nat), (9 : Nat), (12 : Nat), (13 : Nat))]) := ⟨B.exec, B.bytes, B.returns, hml, findClass_of_methodNamed B.named, atoms_spec B.pre, cx_hd, B.notSynchronized, hB.2.2.1, hB.2.2.2, htb, fun z9 => (name_of_methodNamed B.named B.method).1.trans z9, hst⟩
  obtain ⟨hx, hb, hr, hml, hown, hts, hT, hlk, hK, hX, htb, hin, hst⟩ := id C
  have hw : ∀ {w9 : Cond}, w9 ∈ zx_T → w9.before _ s = true := fun h9 => hts _ (hT _ h9)
  have hW : ah_W G s.heap h0 s.heap [] := ⟨hB.1, hB.2.1, va_S.rf⟩
  have hm : ah_m h0 h0 := ah_m.rf
  have hcl : 0 + 1 ≤ 1 := by decide
  have hsl : 0 + 6 ≤ 6 := by decide
  have hl := lv_entry ([.ref a1, .int a2, .ref a3]) (n := 4) (Nat.le_of_ble_eq_true rfl)
  rw [lg_entry_eq]
  generalize (lg_sl ([.ref a1, .int a2, .ref a3]) ++ List.replicate (4 - (lg_sl ([.ref a1, .int a2, .ref a3])).length) Slot.unset).toArray = ls at hl ⊢
  have hl : lv_has ls 4 [(0, .ref a1), (1, .int a2), (2, .ref a3)] := hl
  unfold w_LW_text at w
  refine lv_aload_n hx hb d_LW_text_0 rfl (lv_at hl 2 rfl) ?_
  refine lv_iconst (v := 0) hx hb d_LW_text_1 (by decide) ?_
  refine lv_aload_n hx hb d_LW_text_2 rfl (lv_at hl 0 rfl) ?_
  refine lv_iload_n hx hb d_LW_text_3 rfl (lv_at hl 1 rfl) ?_
  obtain ⟨t4, w⟩ := w
  refine hx_i (vx_runV (As := [.int a2]) (rest := [.int (0 : Int32), .ref a3]) ⟨hx, hb, hml, hown, hts⟩ (m_BD_text G a1 a2 h0 hst w) (cwV 1 hts (zx_gV hT wd_622 wd_623 wd_624 wd_1 wd_625) rfl rfl rfl (by decide +kernel) ⟨Nat.le_of_ble_eq_true rfl, Nat.le_of_ble_eq_true rfl⟩) (hb_preV hK hX hW t4 (by decide) rfl) rfl rfl hl.1 rfl (lv_room (Nat.le_of_ble_eq_true rfl)) d_LW_text_4 ⟨(by show _ ≤ 1; omega), (by show _ ≤ 6; omega)⟩) hW (fun E7 ce9 q9 h8 H locs hE hW c1 c2 c3 => ?_) (fun r6 h5 H locs hk hW => ?_)
  · obtain ⟨wE, mm10⟩ := hE
    have hm := hm.tr mm10
    rcases wE mm10 with ⟨rfl, w⟩
    · refine vx_catch (name := "java/lang/IllegalArgumentException") hown [] ⟨0, 9, 12, 13⟩ [] (by rw [htb]; rfl) (fun _ h9 => nomatch h9) rfl (by decide) (hw wd_136) (zx_use hts hT hX zx_cast_IllegalArgumentException rfl) c1 c2 c3 ?_
      refine W.eq (g2 := F0 m 12 ls [.ref q9]) rfl ?_
      refine lv_astore_n (lv' := [(3, .ref q9), (0, .ref a1), (1, .int a2), (2, .ref a3)]) hx hb d_LW_text_12 rfl hl (by decide) rfl (fun ls hl => ?_)
      refine lv_iconst (v := 1) hx hb d_LW_text_13 (by decide) ?_
      exact hb_iret (K := fun r9 h9 => K r9 h9 ∧ ah_m h0 h9) hx hb hr hlk hK hX hW ⟨w, hm⟩ (by omega) (by omega) d_LW_text_14
  · skip
    obtain ⟨w, mm11⟩ := hk
    have w := w mm11
    have hm := hm.tr mm11
    have t12 := mm11.tg t4 (by decide)
    refine lv_i2l hx hb d_LW_text_7 rfl ?_
    refine lv_topl (fun v13 ev13 => ?_)
    have w := w v13 ev13
    obtain ⟨t14, w⟩ := w
    obtain ⟨i15, w⟩ := w
    refine hb_last hx hb hK hW t14 (by decide) (by decide) 2 rfl i15 d_LW_text_8 (fun H locs h16 eh16 hW => ?_)
    have w := w h16 eh16
    have mm17 : ah_m h5 h16 := ah_m.rf.st (by rw [eh16]; rfl) (by rw [eh16]; rfl)
    have hm := hm.tr mm17
    have t18 := mm17.tg t12 (by decide)
    have t19 := mm17.tg t14 (by decide)
    refine lv_goto (tgt := 15) hx hb d_LW_text_9 (by decide) ?_
    refine lv_iconst (v := 0) hx hb d_LW_text_15 (by decide) ?_
    exact hb_iret (K := fun r9 h9 => K r9 h9 ∧ ah_m h0 h9) hx hb hr hlk hK hX hW ⟨w, hm⟩ (by omega) (by omega) d_LW_text_16
