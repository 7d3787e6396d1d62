theorem dL_setPrime_0 : decode cL_setPrime 0 = .ok (.aload_n 2, 1) := by decide +kernel
theorem dL_setPrime_1 : decode cL_setPrime 1 = .ok (.iconst 0, 1) := by decide +kernel
theorem dL_setPrime_2 : decode cL_setPrime 2 = .ok (.aload_n 0, 1) := by decide +kernel
theorem dL_setPrime_3 : decode cL_setPrime 3 = .ok (.iload_n 1, 1) := by decide +kernel
theorem dL_setPrime_4 : decode cL_setPrime 4 = .ok (.invokevirtual 7, 3) := by decide +kernel
theorem dL_setPrime_7 : decode cL_setPrime 7 = .ok (.i2l, 1) := by decide +kernel
theorem dL_setPrime_8 : decode cL_setPrime 8 = .ok (.lastore, 1) := by decide +kernel
theorem dL_setPrime_9 : decode cL_setPrime 9 = .ok (.goto 9, 3) := by decide +kernel
theorem dL_setPrime_12 : decode cL_setPrime 12 = .ok (.astore_n 3, 1) := by decide +kernel
theorem dL_setPrime_13 : decode cL_setPrime 13 = .ok (.iconst 1, 1) := by decide +kernel
theorem dL_setPrime_14 : decode cL_setPrime 14 = .ok (.ireturn, 1) := by decide +kernel
theorem dL_setPrime_15 : decode cL_setPrime 15 = .ok (.astore_n 3, 1) := by decide +kernel
theorem dL_setPrime_16 : decode cL_setPrime 16 = .ok (.iconst 2, 1) := by decide +kernel
theorem dL_setPrime_17 : decode cL_setPrime 17 = .ok (.ireturn, 1) := by decide +kernel
theorem dL_setPrime_18 : decode cL_setPrime 18 = .ok (.iconst 0, 1) := by decide +kernel
theorem dL_setPrime_19 : decode cL_setPrime 19 = .ok (.ireturn, 1) := by decide +kernel
theorem dL_give_0 : decode cL_give 0 = .ok (.aload 4, 2) := by decide +kernel
theorem dL_give_2 : decode cL_give 2 = .ok (.iconst 0, 1) := by decide +kernel
theorem dL_give_3 : decode cL_give 3 = .ok (.aload_n 0, 1) := by decide +kernel
theorem dL_give_4 : decode cL_give 4 = .ok (.iload_n 1, 1) := by decide +kernel
theorem dL_give_5 : decode cL_give 5 = .ok (.iload_n 2, 1) := by decide +kernel
theorem dL_give_6 : decode cL_give 6 = .ok (.iload_n 3, 1) := by decide +kernel
theorem dL_give_7 : decode cL_give 7 = .ok (.invokevirtual 17, 3) := by decide +kernel
theorem dL_give_10 : decode cL_give 10 = .ok (.i2l, 1) := by decide +kernel
theorem dL_give_11 : decode cL_give 11 = .ok (.lastore, 1) := by decide +kernel
theorem dL_give_12 : decode cL_give 12 = .ok (.goto 11, 3) := by decide +kernel
theorem dL_give_15 : decode cL_give 15 = .ok (.astore 5, 2) := by decide +kernel
theorem dL_give_17 : decode cL_give 17 = .ok (.iconst 1, 1) := by decide +kernel
theorem dL_give_18 : decode cL_give 18 = .ok (.ireturn, 1) := by decide +kernel
theorem dL_give_19 : decode cL_give 19 = .ok (.astore 5, 2) := by decide +kernel
theorem dL_give_21 : decode cL_give 21 = .ok (.iconst 2, 1) := by decide +kernel
theorem dL_give_22 : decode cL_give 22 = .ok (.ireturn, 1) := by decide +kernel
theorem dL_give_23 : decode cL_give 23 = .ok (.iconst 0, 1) := by decide +kernel
theorem dL_give_24 : decode cL_give 24 = .ok (.ireturn, 1) := by decide +kernel
theorem dL_add_0 : decode cL_add 0 = .ok (.aload_n 3, 1) := by decide +kernel
theorem dL_add_1 : decode cL_add 1 = .ok (.iconst 0, 1) := by decide +kernel
theorem dL_add_2 : decode cL_add 2 = .ok (.aload_n 0, 1) := by decide +kernel
theorem dL_add_3 : decode cL_add 3 = .ok (.iload_n 1, 1) := by decide +kernel
theorem dL_add_4 : decode cL_add 4 = .ok (.iload_n 2, 1) := by decide +kernel
theorem dL_add_5 : decode cL_add 5 = .ok (.invokevirtual 23, 3) := by decide +kernel
theorem dL_add_8 : decode cL_add 8 = .ok (.i2l, 1) := by decide +kernel
theorem dL_add_9 : decode cL_add 9 = .ok (.lastore, 1) := by decide +kernel
theorem dL_add_10 : decode cL_add 10 = .ok (.goto 11, 3) := by decide +kernel
theorem dL_add_13 : decode cL_add 13 = .ok (.astore 4, 2) := by decide +kernel
theorem dL_add_15 : decode cL_add 15 = .ok (.iconst 1, 1) := by decide +kernel
theorem dL_add_16 : decode cL_add 16 = .ok (.ireturn, 1) := by decide +kernel
theorem dL_add_17 : decode cL_add 17 = .ok (.astore 4, 2) := by decide +kernel
theorem dL_add_19 : decode cL_add 19 = .ok (.iconst 2, 1) := by decide +kernel
theorem dL_add_20 : decode cL_add 20 = .ok (.ireturn, 1) := by decide +kernel
theorem dL_add_21 : decode cL_add 21 = .ok (.iconst 0, 1) := by decide +kernel
theorem dL_add_22 : decode cL_add 22 = .ok (.ireturn, 1) := by decide +kernel
theorem dL_subtract_0 : decode cL_subtract 0 = .ok (.aload_n 3, 1) := by decide +kernel
theorem dL_subtract_1 : decode cL_subtract 1 = .ok (.iconst 0, 1) := by decide +kernel
theorem dL_subtract_2 : decode cL_subtract 2 = .ok (.aload_n 0, 1) := by decide +kernel
theorem dL_subtract_3 : decode cL_subtract 3 = .ok (.iload_n 1, 1) := by decide +kernel
theorem dL_subtract_4 : decode cL_subtract 4 = .ok (.iload_n 2, 1) := by decide +kernel
theorem dL_subtract_5 : decode cL_subtract 5 = .ok (.invokevirtual 29, 3) := by decide +kernel
theorem dL_subtract_8 : decode cL_subtract 8 = .ok (.i2l, 1) := by decide +kernel
theorem dL_subtract_9 : decode cL_subtract 9 = .ok (.lastore, 1) := by decide +kernel
theorem dL_subtract_10 : decode cL_subtract 10 = .ok (.goto 11, 3) := by decide +kernel
theorem dL_subtract_13 : decode cL_subtract 13 = .ok (.astore 4, 2) := by decide +kernel
theorem dL_subtract_15 : decode cL_subtract 15 = .ok (.iconst 1, 1) := by decide +kernel
theorem dL_subtract_16 : decode cL_subtract 16 = .ok (.ireturn, 1) := by decide +kernel
theorem dL_subtract_17 : decode cL_subtract 17 = .ok (.astore 4, 2) := by decide +kernel
theorem dL_subtract_19 : decode cL_subtract 19 = .ok (.iconst 2, 1) := by decide +kernel
theorem dL_subtract_20 : decode cL_subtract 20 = .ok (.ireturn, 1) := by decide +kernel
theorem dL_subtract_21 : decode cL_subtract 21 = .ok (.iconst 0, 1) := by decide +kernel
theorem dL_subtract_22 : decode cL_subtract 22 = .ok (.ireturn, 1) := by decide +kernel
theorem dL_multiply_0 : decode cL_multiply 0 = .ok (.aload_n 3, 1) := by decide +kernel
theorem dL_multiply_1 : decode cL_multiply 1 = .ok (.iconst 0, 1) := by decide +kernel
theorem dL_multiply_2 : decode cL_multiply 2 = .ok (.aload_n 0, 1) := by decide +kernel
theorem dL_multiply_3 : decode cL_multiply 3 = .ok (.iload_n 1, 1) := by decide +kernel
theorem dL_multiply_4 : decode cL_multiply 4 = .ok (.iload_n 2, 1) := by decide +kernel
theorem dL_multiply_5 : decode cL_multiply 5 = .ok (.invokevirtual 32, 3) := by decide +kernel
theorem dL_multiply_8 : decode cL_multiply 8 = .ok (.i2l, 1) := by decide +kernel
theorem dL_multiply_9 : decode cL_multiply 9 = .ok (.lastore, 1) := by decide +kernel
theorem dL_multiply_10 : decode cL_multiply 10 = .ok (.goto 15, 3) := by decide +kernel
theorem dL_multiply_13 : decode cL_multiply 13 = .ok (.astore 4, 2) := by decide +kernel
theorem dL_multiply_15 : decode cL_multiply 15 = .ok (.iconst 1, 1) := by decide +kernel
theorem dL_multiply_16 : decode cL_multiply 16 = .ok (.ireturn, 1) := by decide +kernel
theorem dL_multiply_17 : decode cL_multiply 17 = .ok (.astore 4, 2) := by decide +kernel
theorem dL_multiply_19 : decode cL_multiply 19 = .ok (.iconst 2, 1) := by decide +kernel
theorem dL_multiply_20 : decode cL_multiply 20 = .ok (.ireturn, 1) := by decide +kernel
theorem dL_multiply_21 : decode cL_multiply 21 = .ok (.astore 4, 2) := by decide +kernel
theorem dL_multiply_23 : decode cL_multiply 23 = .ok (.iconst 3, 1) := by decide +kernel
theorem dL_multiply_24 : decode cL_multiply 24 = .ok (.ireturn, 1) := by decide +kernel
theorem dL_multiply_25 : decode cL_multiply 25 = .ok (.iconst 0, 1) := by decide +kernel
theorem dL_multiply_26 : decode cL_multiply 26 = .ok (.ireturn, 1) := by decide +kernel
theorem dL_divide_0 : decode cL_divide 0 = .ok (.aload_n 3, 1) := by decide +kernel
theorem dL_divide_1 : decode cL_divide 1 = .ok (.iconst 0, 1) := by decide +kernel
theorem dL_divide_2 : decode cL_divide 2 = .ok (.aload_n 0, 1) := by decide +kernel
theorem dL_divide_3 : decode cL_divide 3 = .ok (.iload_n 1, 1) := by decide +kernel
theorem dL_divide_4 : decode cL_divide 4 = .ok (.iload_n 2, 1) := by decide +kernel
theorem dL_divide_5 : decode cL_divide 5 = .ok (.invokevirtual 37, 3) := by decide +kernel
theorem dL_divide_8 : decode cL_divide 8 = .ok (.i2l, 1) := by decide +kernel
theorem dL_divide_9 : decode cL_divide 9 = .ok (.lastore, 1) := by decide +kernel
theorem dL_divide_10 : decode cL_divide 10 = .ok (.goto 15, 3) := by decide +kernel
theorem dL_divide_13 : decode cL_divide 13 = .ok (.astore 4, 2) := by decide +kernel
theorem dL_divide_15 : decode cL_divide 15 = .ok (.iconst 1, 1) := by decide +kernel
theorem dL_divide_16 : decode cL_divide 16 = .ok (.ireturn, 1) := by decide +kernel
theorem dL_divide_17 : decode cL_divide 17 = .ok (.astore 4, 2) := by decide +kernel
theorem dL_divide_19 : decode cL_divide 19 = .ok (.iconst 2, 1) := by decide +kernel
theorem dL_divide_20 : decode cL_divide 20 = .ok (.ireturn, 1) := by decide +kernel
theorem dL_divide_21 : decode cL_divide 21 = .ok (.astore 4, 2) := by decide +kernel
theorem dL_divide_23 : decode cL_divide 23 = .ok (.iconst 3, 1) := by decide +kernel
theorem dL_divide_24 : decode cL_divide 24 = .ok (.ireturn, 1) := by decide +kernel
theorem dL_divide_25 : decode cL_divide 25 = .ok (.iconst 0, 1) := by decide +kernel
theorem dL_divide_26 : decode cL_divide 26 = .ok (.ireturn, 1) := by decide +kernel
theorem dL_root_0 : decode cL_root 0 = .ok (.aload_n 2, 1) := by decide +kernel
theorem dL_root_1 : decode cL_root 1 = .ok (.iconst 0, 1) := by decide +kernel
theorem dL_root_2 : decode cL_root 2 = .ok (.aload_n 0, 1) := by decide +kernel
theorem dL_root_3 : decode cL_root 3 = .ok (.iload_n 1, 1) := by decide +kernel
theorem dL_root_4 : decode cL_root 4 = .ok (.invokevirtual 40, 3) := by decide +kernel
theorem dL_root_7 : decode cL_root 7 = .ok (.i2l, 1) := by decide +kernel
theorem dL_root_8 : decode cL_root 8 = .ok (.lastore, 1) := by decide +kernel
theorem dL_root_9 : decode cL_root 9 = .ok (.goto 12, 3) := by decide +kernel
theorem dL_root_12 : decode cL_root 12 = .ok (.astore_n 3, 1) := by decide +kernel
theorem dL_root_13 : decode cL_root 13 = .ok (.iconst 1, 1) := by decide +kernel
theorem dL_root_14 : decode cL_root 14 = .ok (.ireturn, 1) := by decide +kernel
theorem dL_root_15 : decode cL_root 15 = .ok (.astore_n 3, 1) := by decide +kernel
theorem dL_root_16 : decode cL_root 16 = .ok (.iconst 2, 1) := by decide +kernel
theorem dL_root_17 : decode cL_root 17 = .ok (.ireturn, 1) := by decide +kernel
theorem dL_root_18 : decode cL_root 18 = .ok (.astore_n 3, 1) := by decide +kernel
theorem dL_root_19 : decode cL_root 19 = .ok (.iconst 3, 1) := by decide +kernel
theorem dL_root_20 : decode cL_root 20 = .ok (.ireturn, 1) := by decide +kernel
theorem dL_root_21 : decode cL_root 21 = .ok (.iconst 0, 1) := by decide +kernel
theorem dL_root_22 : decode cL_root 22 = .ok (.ireturn, 1) := by decide +kernel
theorem dL_unity_0 : decode cL_unity 0 = .ok (.aload_n 2, 1) := by decide +kernel
theorem dL_unity_1 : decode cL_unity 1 = .ok (.iconst 0, 1) := by decide +kernel
theorem dL_unity_2 : decode cL_unity 2 = .ok (.aload_n 0, 1) := by decide +kernel
theorem dL_unity_3 : decode cL_unity 3 = .ok (.iload_n 1, 1) := by decide +kernel
theorem dL_unity_4 : decode cL_unity 4 = .ok (.invokevirtual 43, 3) := by decide +kernel
theorem dL_unity_7 : decode cL_unity 7 = .ok (.i2l, 1) := by decide +kernel
theorem dL_unity_8 : decode cL_unity 8 = .ok (.lastore, 1) := by decide +kernel
theorem dL_unity_9 : decode cL_unity 9 = .ok (.goto 12, 3) := by decide +kernel
theorem dL_unity_12 : decode cL_unity 12 = .ok (.astore_n 3, 1) := by decide +kernel
theorem dL_unity_13 : decode cL_unity 13 = .ok (.iconst 1, 1) := by decide +kernel
theorem dL_unity_14 : decode cL_unity 14 = .ok (.ireturn, 1) := by decide +kernel
theorem dL_unity_15 : decode cL_unity 15 = .ok (.astore_n 3, 1) := by decide +kernel
theorem dL_unity_16 : decode cL_unity 16 = .ok (.iconst 2, 1) := by decide +kernel
theorem dL_unity_17 : decode cL_unity 17 = .ok (.ireturn, 1) := by decide +kernel
theorem dL_unity_18 : decode cL_unity 18 = .ok (.astore_n 3, 1) := by decide +kernel
theorem dL_unity_19 : decode cL_unity 19 = .ok (.iconst 3, 1) := by decide +kernel
theorem dL_unity_20 : decode cL_unity 20 = .ok (.ireturn, 1) := by decide +kernel
theorem dL_unity_21 : decode cL_unity 21 = .ok (.iconst 0, 1) := by decide +kernel
theorem dL_unity_22 : decode cL_unity 22 = .ok (.ireturn, 1) := by decide +kernel
theorem dL_precision_0 : decode cL_precision 0 = .ok (.aload_n 2, 1) := by decide +kernel
theorem dL_precision_1 : decode cL_precision 1 = .ok (.iconst 0, 1) := by decide +kernel
theorem dL_precision_2 : decode cL_precision 2 = .ok (.aload_n 0, 1) := by decide +kernel
theorem dL_precision_3 : decode cL_precision 3 = .ok (.iload_n 1, 1) := by decide +kernel
theorem dL_precision_4 : decode cL_precision 4 = .ok (.invokevirtual 46, 3) := by decide +kernel
theorem dL_precision_7 : decode cL_precision 7 = .ok (.i2l, 1) := by decide +kernel
theorem dL_precision_8 : decode cL_precision 8 = .ok (.lastore, 1) := by decide +kernel
theorem dL_precision_9 : decode cL_precision 9 = .ok (.goto 6, 3) := by decide +kernel
theorem dL_precision_12 : decode cL_precision 12 = .ok (.astore_n 3, 1) := by decide +kernel
theorem dL_precision_13 : decode cL_precision 13 = .ok (.iconst 1, 1) := by decide +kernel
theorem dL_precision_14 : decode cL_precision 14 = .ok (.ireturn, 1) := by decide +kernel
theorem dL_precision_15 : decode cL_precision 15 = .ok (.iconst 0, 1) := by decide +kernel
theorem dL_precision_16 : decode cL_precision 16 = .ok (.ireturn, 1) := by decide +kernel
theorem dL_valuation_0 : decode cL_valuation 0 = .ok (.aload_n 2, 1) := by decide +kernel
theorem dL_valuation_1 : decode cL_valuation 1 = .ok (.iconst 0, 1) := by decide +kernel
theorem dL_valuation_2 : decode cL_valuation 2 = .ok (.aload_n 0, 1) := by decide +kernel
theorem dL_valuation_3 : decode cL_valuation 3 = .ok (.iload_n 1, 1) := by decide +kernel
theorem dL_valuation_4 : decode cL_valuation 4 = .ok (.invokevirtual 49, 3) := by decide +kernel
theorem dL_valuation_7 : decode cL_valuation 7 = .ok (.i2l, 1) := by decide +kernel
theorem dL_valuation_8 : decode cL_valuation 8 = .ok (.lastore, 1) := by decide +kernel
theorem dL_valuation_9 : decode cL_valuation 9 = .ok (.goto 6, 3) := by decide +kernel
theorem dL_valuation_12 : decode cL_valuation 12 = .ok (.astore_n 3, 1) := by decide +kernel
theorem dL_valuation_13 : decode cL_valuation 13 = .ok (.iconst 1, 1) := by decide +kernel
theorem dL_valuation_14 : decode cL_valuation 14 = .ok (.ireturn, 1) := by decide +kernel
theorem dL_valuation_15 : decode cL_valuation 15 = .ok (.iconst 0, 1) := by decide +kernel
theorem dL_valuation_16 : decode cL_valuation 16 = .ok (.ireturn, 1) := by decide +kernel
theorem dL_digit_0 : decode cL_digit 0 = .ok (.aload_n 3, 1) := by decide +kernel
theorem dL_digit_1 : decode cL_digit 1 = .ok (.iconst 0, 1) := by decide +kernel
theorem dL_digit_2 : decode cL_digit 2 = .ok (.aload_n 0, 1) := by decide +kernel
theorem dL_digit_3 : decode cL_digit 3 = .ok (.iload_n 1, 1) := by decide +kernel
theorem dL_digit_4 : decode cL_digit 4 = .ok (.iload_n 2, 1) := by decide +kernel
theorem dL_digit_5 : decode cL_digit 5 = .ok (.invokevirtual 52, 3) := by decide +kernel
theorem dL_digit_8 : decode cL_digit 8 = .ok (.i2l, 1) := by decide +kernel
theorem dL_digit_9 : decode cL_digit 9 = .ok (.lastore, 1) := by decide +kernel
theorem dL_digit_10 : decode cL_digit 10 = .ok (.goto 11, 3) := by decide +kernel
theorem dL_digit_13 : decode cL_digit 13 = .ok (.astore 4, 2) := by decide +kernel
theorem dL_digit_15 : decode cL_digit 15 = .ok (.iconst 1, 1) := by decide +kernel
theorem dL_digit_16 : decode cL_digit 16 = .ok (.ireturn, 1) := by decide +kernel
theorem dL_digit_17 : decode cL_digit 17 = .ok (.astore 4, 2) := by decide +kernel
theorem dL_digit_19 : decode cL_digit 19 = .ok (.iconst 2, 1) := by decide +kernel
theorem dL_digit_20 : decode cL_digit 20 = .ok (.ireturn, 1) := by decide +kernel
theorem dL_digit_21 : decode cL_digit 21 = .ok (.iconst 0, 1) := by decide +kernel
theorem dL_digit_22 : decode cL_digit 22 = .ok (.ireturn, 1) := by decide +kernel
theorem dL_refine_0 : decode cL_refine 0 = .ok (.aload_n 3, 1) := by decide +kernel
theorem dL_refine_1 : decode cL_refine 1 = .ok (.iconst 0, 1) := by decide +kernel
theorem dL_refine_2 : decode cL_refine 2 = .ok (.aload_n 0, 1) := by decide +kernel
theorem dL_refine_3 : decode cL_refine 3 = .ok (.iload_n 1, 1) := by decide +kernel
theorem dL_refine_4 : decode cL_refine 4 = .ok (.iload_n 2, 1) := by decide +kernel
theorem dL_refine_5 : decode cL_refine 5 = .ok (.invokevirtual 57, 3) := by decide +kernel
theorem dL_refine_8 : decode cL_refine 8 = .ok (.i2l, 1) := by decide +kernel
theorem dL_refine_9 : decode cL_refine 9 = .ok (.lastore, 1) := by decide +kernel
theorem dL_refine_10 : decode cL_refine 10 = .ok (.goto 15, 3) := by decide +kernel
theorem dL_refine_13 : decode cL_refine 13 = .ok (.astore 4, 2) := by decide +kernel
theorem dL_refine_15 : decode cL_refine 15 = .ok (.iconst 1, 1) := by decide +kernel
theorem dL_refine_16 : decode cL_refine 16 = .ok (.ireturn, 1) := by decide +kernel
theorem dL_refine_17 : decode cL_refine 17 = .ok (.astore 4, 2) := by decide +kernel
theorem dL_refine_19 : decode cL_refine 19 = .ok (.iconst 2, 1) := by decide +kernel
theorem dL_refine_20 : decode cL_refine 20 = .ok (.ireturn, 1) := by decide +kernel
theorem dL_refine_21 : decode cL_refine 21 = .ok (.astore 4, 2) := by decide +kernel
theorem dL_refine_23 : decode cL_refine 23 = .ok (.iconst 3, 1) := by decide +kernel
theorem dL_refine_24 : decode cL_refine 24 = .ok (.ireturn, 1) := by decide +kernel
theorem dL_refine_25 : decode cL_refine 25 = .ok (.iconst 0, 1) := by decide +kernel
theorem dL_refine_26 : decode cL_refine 26 = .ok (.ireturn, 1) := by decide +kernel
theorem dL_like_0 : decode cL_like 0 = .ok (.aload_n 2, 1) := by decide +kernel
theorem dL_like_1 : decode cL_like 1 = .ok (.iconst 0, 1) := by decide +kernel
theorem dL_like_2 : decode cL_like 2 = .ok (.aload_n 0, 1) := by decide +kernel
theorem dL_like_3 : decode cL_like 3 = .ok (.iload_n 1, 1) := by decide +kernel
theorem dL_like_4 : decode cL_like 4 = .ok (.invokevirtual 60, 3) := by decide +kernel
theorem dL_like_7 : decode cL_like 7 = .ok (.i2l, 1) := by decide +kernel
theorem dL_like_8 : decode cL_like 8 = .ok (.lastore, 1) := by decide +kernel
theorem dL_like_9 : decode cL_like 9 = .ok (.goto 6, 3) := by decide +kernel
theorem dL_like_12 : decode cL_like 12 = .ok (.astore_n 3, 1) := by decide +kernel
theorem dL_like_13 : decode cL_like 13 = .ok (.iconst 1, 1) := by decide +kernel
theorem dL_like_14 : decode cL_like 14 = .ok (.ireturn, 1) := by decide +kernel
theorem dL_like_15 : decode cL_like 15 = .ok (.iconst 0, 1) := by decide +kernel
theorem dL_like_16 : decode cL_like 16 = .ok (.ireturn, 1) := by decide +kernel
theorem dL_agree_0 : decode cL_agree 0 = .ok (.aload_n 3, 1) := by decide +kernel
theorem dL_agree_1 : decode cL_agree 1 = .ok (.iconst 0, 1) := by decide +kernel
theorem dL_agree_2 : decode cL_agree 2 = .ok (.aload_n 0, 1) := by decide +kernel
theorem dL_agree_3 : decode cL_agree 3 = .ok (.iload_n 1, 1) := by decide +kernel
theorem dL_agree_4 : decode cL_agree 4 = .ok (.iload_n 2, 1) := by decide +kernel
theorem dL_agree_5 : decode cL_agree 5 = .ok (.invokevirtual 63, 3) := by decide +kernel
theorem dL_agree_8 : decode cL_agree 8 = .ok (.ifCond .eq 7, 3) := by decide +kernel
theorem dL_agree_11 : decode cL_agree 11 = .ok (.lconst 1, 1) := by decide +kernel
theorem dL_agree_12 : decode cL_agree 12 = .ok (.goto 4, 3) := by decide +kernel
theorem dL_agree_15 : decode cL_agree 15 = .ok (.lconst 0, 1) := by decide +kernel
theorem dL_agree_16 : decode cL_agree 16 = .ok (.lastore, 1) := by decide +kernel
theorem dL_agree_17 : decode cL_agree 17 = .ok (.goto 7, 3) := by decide +kernel
theorem dL_agree_20 : decode cL_agree 20 = .ok (.astore 4, 2) := by decide +kernel
theorem dL_agree_22 : decode cL_agree 22 = .ok (.iconst 1, 1) := by decide +kernel
theorem dL_agree_23 : decode cL_agree 23 = .ok (.ireturn, 1) := by decide +kernel
theorem dL_agree_24 : decode cL_agree 24 = .ok (.iconst 0, 1) := by decide +kernel
theorem dL_agree_25 : decode cL_agree 25 = .ok (.ireturn, 1) := by decide +kernel
theorem dL_numerator_0 : decode cL_numerator 0 = .ok (.aload_n 2, 1) := by decide +kernel
theorem dL_numerator_1 : decode cL_numerator 1 = .ok (.iconst 0, 1) := by decide +kernel
theorem dL_numerator_2 : decode cL_numerator 2 = .ok (.aload_n 0, 1) := by decide +kernel
theorem dL_numerator_3 : decode cL_numerator 3 = .ok (.iload_n 1, 1) := by decide +kernel
theorem dL_numerator_4 : decode cL_numerator 4 = .ok (.invokevirtual 67, 3) := by decide +kernel
theorem dL_numerator_7 : decode cL_numerator 7 = .ok (.i2l, 1) := by decide +kernel
theorem dL_numerator_8 : decode cL_numerator 8 = .ok (.lastore, 1) := by decide +kernel
theorem dL_numerator_9 : decode cL_numerator 9 = .ok (.goto 12, 3) := by decide +kernel
theorem dL_numerator_12 : decode cL_numerator 12 = .ok (.astore_n 3, 1) := by decide +kernel
theorem dL_numerator_13 : decode cL_numerator 13 = .ok (.iconst 1, 1) := by decide +kernel
theorem dL_numerator_14 : decode cL_numerator 14 = .ok (.ireturn, 1) := by decide +kernel
theorem dL_numerator_15 : decode cL_numerator 15 = .ok (.astore_n 3, 1) := by decide +kernel
theorem dL_numerator_16 : decode cL_numerator 16 = .ok (.iconst 2, 1) := by decide +kernel
theorem dL_numerator_17 : decode cL_numerator 17 = .ok (.ireturn, 1) := by decide +kernel
theorem dL_numerator_18 : decode cL_numerator 18 = .ok (.astore_n 3, 1) := by decide +kernel
theorem dL_numerator_19 : decode cL_numerator 19 = .ok (.iconst 3, 1) := by decide +kernel
theorem dL_numerator_20 : decode cL_numerator 20 = .ok (.ireturn, 1) := by decide +kernel
theorem dL_numerator_21 : decode cL_numerator 21 = .ok (.iconst 0, 1) := by decide +kernel
theorem dL_numerator_22 : decode cL_numerator 22 = .ok (.ireturn, 1) := by decide +kernel
theorem dL_denominator_0 : decode cL_denominator 0 = .ok (.aload_n 2, 1) := by decide +kernel
theorem dL_denominator_1 : decode cL_denominator 1 = .ok (.iconst 0, 1) := by decide +kernel
theorem dL_denominator_2 : decode cL_denominator 2 = .ok (.aload_n 0, 1) := by decide +kernel
theorem dL_denominator_3 : decode cL_denominator 3 = .ok (.iload_n 1, 1) := by decide +kernel
theorem dL_denominator_4 : decode cL_denominator 4 = .ok (.invokevirtual 70, 3) := by decide +kernel
theorem dL_denominator_7 : decode cL_denominator 7 = .ok (.i2l, 1) := by decide +kernel
theorem dL_denominator_8 : decode cL_denominator 8 = .ok (.lastore, 1) := by decide +kernel
theorem dL_denominator_9 : decode cL_denominator 9 = .ok (.goto 12, 3) := by decide +kernel
theorem dL_denominator_12 : decode cL_denominator 12 = .ok (.astore_n 3, 1) := by decide +kernel
theorem dL_denominator_13 : decode cL_denominator 13 = .ok (.iconst 1, 1) := by decide +kernel
theorem dL_denominator_14 : decode cL_denominator 14 = .ok (.ireturn, 1) := by decide +kernel
theorem dL_denominator_15 : decode cL_denominator 15 = .ok (.astore_n 3, 1) := by decide +kernel
theorem dL_denominator_16 : decode cL_denominator 16 = .ok (.iconst 2, 1) := by decide +kernel
theorem dL_denominator_17 : decode cL_denominator 17 = .ok (.ireturn, 1) := by decide +kernel
theorem dL_denominator_18 : decode cL_denominator 18 = .ok (.astore_n 3, 1) := by decide +kernel
theorem dL_denominator_19 : decode cL_denominator 19 = .ok (.iconst 3, 1) := by decide +kernel
theorem dL_denominator_20 : decode cL_denominator 20 = .ok (.ireturn, 1) := by decide +kernel
theorem dL_denominator_21 : decode cL_denominator 21 = .ok (.iconst 0, 1) := by decide +kernel
theorem dL_denominator_22 : decode cL_denominator 22 = .ok (.ireturn, 1) := by decide +kernel
theorem dL_distance_0 : decode cL_distance 0 = .ok (.aload 5, 2) := by decide +kernel
theorem dL_distance_2 : decode cL_distance 2 = .ok (.iconst 0, 1) := by decide +kernel
theorem dL_distance_3 : decode cL_distance 3 = .ok (.aload_n 0, 1) := by decide +kernel
theorem dL_distance_4 : decode cL_distance 4 = .ok (.iload_n 1, 1) := by decide +kernel
theorem dL_distance_5 : decode cL_distance 5 = .ok (.iload_n 2, 1) := by decide +kernel
theorem dL_distance_6 : decode cL_distance 6 = .ok (.iload_n 3, 1) := by decide +kernel
theorem dL_distance_7 : decode cL_distance 7 = .ok (.iload 4, 2) := by decide +kernel
theorem dL_distance_9 : decode cL_distance 9 = .ok (.invokevirtual 73, 3) := by decide +kernel
theorem dL_distance_12 : decode cL_distance 12 = .ok (.i2l, 1) := by decide +kernel
theorem dL_distance_13 : decode cL_distance 13 = .ok (.lastore, 1) := by decide +kernel
theorem dL_distance_14 : decode cL_distance 14 = .ok (.goto 11, 3) := by decide +kernel
theorem dL_distance_17 : decode cL_distance 17 = .ok (.astore 6, 2) := by decide +kernel
theorem dL_distance_19 : decode cL_distance 19 = .ok (.iconst 1, 1) := by decide +kernel
theorem dL_distance_20 : decode cL_distance 20 = .ok (.ireturn, 1) := by decide +kernel
theorem dL_distance_21 : decode cL_distance 21 = .ok (.astore 6, 2) := by decide +kernel
theorem dL_distance_23 : decode cL_distance 23 = .ok (.iconst 2, 1) := by decide +kernel
theorem dL_distance_24 : decode cL_distance 24 = .ok (.ireturn, 1) := by decide +kernel
theorem dL_distance_25 : decode cL_distance 25 = .ok (.iconst 0, 1) := by decide +kernel
theorem dL_distance_26 : decode cL_distance 26 = .ok (.ireturn, 1) := by decide +kernel
theorem dL_begin_0 : decode cL_begin 0 = .ok (.aload_n 2, 1) := by decide +kernel
theorem dL_begin_1 : decode cL_begin 1 = .ok (.iconst 0, 1) := by decide +kernel
theorem dL_begin_2 : decode cL_begin 2 = .ok (.aload_n 0, 1) := by decide +kernel
theorem dL_begin_3 : decode cL_begin 3 = .ok (.iload_n 1, 1) := by decide +kernel
theorem dL_begin_4 : decode cL_begin 4 = .ok (.invokevirtual 77, 3) := by decide +kernel
theorem dL_begin_7 : decode cL_begin 7 = .ok (.i2l, 1) := by decide +kernel
theorem dL_begin_8 : decode cL_begin 8 = .ok (.lastore, 1) := by decide +kernel
theorem dL_begin_9 : decode cL_begin 9 = .ok (.goto 9, 3) := by decide +kernel
theorem dL_begin_12 : decode cL_begin 12 = .ok (.astore_n 3, 1) := by decide +kernel
theorem dL_begin_13 : decode cL_begin 13 = .ok (.iconst 1, 1) := by decide +kernel
theorem dL_begin_14 : decode cL_begin 14 = .ok (.ireturn, 1) := by decide +kernel
theorem dL_begin_15 : decode cL_begin 15 = .ok (.astore_n 3, 1) := by decide +kernel
theorem dL_begin_16 : decode cL_begin 16 = .ok (.iconst 2, 1) := by decide +kernel
theorem dL_begin_17 : decode cL_begin 17 = .ok (.ireturn, 1) := by decide +kernel
theorem dL_begin_18 : decode cL_begin 18 = .ok (.iconst 0, 1) := by decide +kernel
theorem dL_begin_19 : decode cL_begin 19 = .ok (.ireturn, 1) := by decide +kernel
theorem dL_term_0 : decode cL_term 0 = .ok (.aload 4, 2) := by decide +kernel
theorem dL_term_2 : decode cL_term 2 = .ok (.iconst 0, 1) := by decide +kernel
theorem dL_term_3 : decode cL_term 3 = .ok (.aload_n 0, 1) := by decide +kernel
theorem dL_term_4 : decode cL_term 4 = .ok (.iload_n 1, 1) := by decide +kernel
theorem dL_term_5 : decode cL_term 5 = .ok (.iload_n 2, 1) := by decide +kernel
theorem dL_term_6 : decode cL_term 6 = .ok (.iload_n 3, 1) := by decide +kernel
theorem dL_term_7 : decode cL_term 7 = .ok (.invokevirtual 80, 3) := by decide +kernel
theorem dL_term_10 : decode cL_term 10 = .ok (.i2l, 1) := by decide +kernel
theorem dL_term_11 : decode cL_term 11 = .ok (.lastore, 1) := by decide +kernel
theorem dL_term_12 : decode cL_term 12 = .ok (.goto 11, 3) := by decide +kernel
theorem dL_term_15 : decode cL_term 15 = .ok (.astore 5, 2) := by decide +kernel
theorem dL_term_17 : decode cL_term 17 = .ok (.iconst 1, 1) := by decide +kernel
theorem dL_term_18 : decode cL_term 18 = .ok (.ireturn, 1) := by decide +kernel
theorem dL_term_19 : decode cL_term 19 = .ok (.astore 5, 2) := by decide +kernel
theorem dL_term_21 : decode cL_term 21 = .ok (.iconst 2, 1) := by decide +kernel
theorem dL_term_22 : decode cL_term 22 = .ok (.ireturn, 1) := by decide +kernel
theorem dL_term_23 : decode cL_term 23 = .ok (.iconst 0, 1) := by decide +kernel
theorem dL_term_24 : decode cL_term 24 = .ok (.ireturn, 1) := by decide +kernel
theorem dL_sides_0 : decode cL_sides 0 = .ok (.aload_n 2, 1) := by decide +kernel
theorem dL_sides_1 : decode cL_sides 1 = .ok (.iconst 0, 1) := by decide +kernel
theorem dL_sides_2 : decode cL_sides 2 = .ok (.aload_n 0, 1) := by decide +kernel
theorem dL_sides_3 : decode cL_sides 3 = .ok (.iload_n 1, 1) := by decide +kernel
theorem dL_sides_4 : decode cL_sides 4 = .ok (.invokevirtual 83, 3) := by decide +kernel
theorem dL_sides_7 : decode cL_sides 7 = .ok (.i2l, 1) := by decide +kernel
theorem dL_sides_8 : decode cL_sides 8 = .ok (.lastore, 1) := by decide +kernel
theorem dL_sides_9 : decode cL_sides 9 = .ok (.goto 6, 3) := by decide +kernel
theorem dL_sides_12 : decode cL_sides 12 = .ok (.astore_n 3, 1) := by decide +kernel
theorem dL_sides_13 : decode cL_sides 13 = .ok (.iconst 1, 1) := by decide +kernel
theorem dL_sides_14 : decode cL_sides 14 = .ok (.ireturn, 1) := by decide +kernel
theorem dL_sides_15 : decode cL_sides 15 = .ok (.iconst 0, 1) := by decide +kernel
theorem dL_sides_16 : decode cL_sides 16 = .ok (.ireturn, 1) := by decide +kernel
theorem dL_length_0 : decode cL_length 0 = .ok (.aload_n 3, 1) := by decide +kernel
theorem dL_length_1 : decode cL_length 1 = .ok (.iconst 0, 1) := by decide +kernel
theorem dL_length_2 : decode cL_length 2 = .ok (.aload_n 0, 1) := by decide +kernel
theorem dL_length_3 : decode cL_length 3 = .ok (.iload_n 1, 1) := by decide +kernel
theorem dL_length_4 : decode cL_length 4 = .ok (.iload_n 2, 1) := by decide +kernel
theorem dL_length_5 : decode cL_length 5 = .ok (.invokevirtual 86, 3) := by decide +kernel
theorem dL_length_8 : decode cL_length 8 = .ok (.i2l, 1) := by decide +kernel
theorem dL_length_9 : decode cL_length 9 = .ok (.lastore, 1) := by decide +kernel
theorem dL_length_10 : decode cL_length 10 = .ok (.goto 7, 3) := by decide +kernel
theorem dL_length_13 : decode cL_length 13 = .ok (.astore 4, 2) := by decide +kernel
theorem dL_length_15 : decode cL_length 15 = .ok (.iconst 1, 1) := by decide +kernel
theorem dL_length_16 : decode cL_length 16 = .ok (.ireturn, 1) := by decide +kernel
theorem dL_length_17 : decode cL_length 17 = .ok (.iconst 0, 1) := by decide +kernel
theorem dL_length_18 : decode cL_length 18 = .ok (.ireturn, 1) := by decide +kernel
theorem dL_slope_0 : decode cL_slope 0 = .ok (.aload_n 3, 1) := by decide +kernel
theorem dL_slope_1 : decode cL_slope 1 = .ok (.iconst 0, 1) := by decide +kernel
theorem dL_slope_2 : decode cL_slope 2 = .ok (.aload_n 0, 1) := by decide +kernel
theorem dL_slope_3 : decode cL_slope 3 = .ok (.iload_n 1, 1) := by decide +kernel
theorem dL_slope_4 : decode cL_slope 4 = .ok (.iload_n 2, 1) := by decide +kernel
theorem dL_slope_5 : decode cL_slope 5 = .ok (.invokevirtual 89, 3) := by decide +kernel
theorem dL_slope_8 : decode cL_slope 8 = .ok (.i2l, 1) := by decide +kernel
theorem dL_slope_9 : decode cL_slope 9 = .ok (.lastore, 1) := by decide +kernel
theorem dL_slope_10 : decode cL_slope 10 = .ok (.goto 7, 3) := by decide +kernel
theorem dL_slope_13 : decode cL_slope 13 = .ok (.astore 4, 2) := by decide +kernel
theorem dL_slope_15 : decode cL_slope 15 = .ok (.iconst 1, 1) := by decide +kernel
theorem dL_slope_16 : decode cL_slope 16 = .ok (.ireturn, 1) := by decide +kernel
theorem dL_slope_17 : decode cL_slope 17 = .ok (.iconst 0, 1) := by decide +kernel
theorem dL_slope_18 : decode cL_slope 18 = .ok (.ireturn, 1) := by decide +kernel
theorem dL_residue_0 : decode cL_residue 0 = .ok (.aload_n 3, 1) := by decide +kernel
theorem dL_residue_1 : decode cL_residue 1 = .ok (.iconst 0, 1) := by decide +kernel
theorem dL_residue_2 : decode cL_residue 2 = .ok (.aload_n 0, 1) := by decide +kernel
theorem dL_residue_3 : decode cL_residue 3 = .ok (.iload_n 1, 1) := by decide +kernel
theorem dL_residue_4 : decode cL_residue 4 = .ok (.iload_n 2, 1) := by decide +kernel
theorem dL_residue_5 : decode cL_residue 5 = .ok (.invokevirtual 92, 3) := by decide +kernel
theorem dL_residue_8 : decode cL_residue 8 = .ok (.i2l, 1) := by decide +kernel
theorem dL_residue_9 : decode cL_residue 9 = .ok (.lastore, 1) := by decide +kernel
theorem dL_residue_10 : decode cL_residue 10 = .ok (.goto 11, 3) := by decide +kernel
theorem dL_residue_13 : decode cL_residue 13 = .ok (.astore 4, 2) := by decide +kernel
theorem dL_residue_15 : decode cL_residue 15 = .ok (.iconst 1, 1) := by decide +kernel
theorem dL_residue_16 : decode cL_residue 16 = .ok (.ireturn, 1) := by decide +kernel
theorem dL_residue_17 : decode cL_residue 17 = .ok (.astore 4, 2) := by decide +kernel
theorem dL_residue_19 : decode cL_residue 19 = .ok (.iconst 2, 1) := by decide +kernel
theorem dL_residue_20 : decode cL_residue 20 = .ok (.ireturn, 1) := by decide +kernel
theorem dL_residue_21 : decode cL_residue 21 = .ok (.iconst 0, 1) := by decide +kernel
theorem dL_residue_22 : decode cL_residue 22 = .ok (.ireturn, 1) := by decide +kernel
theorem dL_lift_0 : decode cL_lift 0 = .ok (.aload 4, 2) := by decide +kernel
theorem dL_lift_2 : decode cL_lift 2 = .ok (.iconst 0, 1) := by decide +kernel
theorem dL_lift_3 : decode cL_lift 3 = .ok (.aload_n 0, 1) := by decide +kernel
theorem dL_lift_4 : decode cL_lift 4 = .ok (.iload_n 1, 1) := by decide +kernel
theorem dL_lift_5 : decode cL_lift 5 = .ok (.iload_n 2, 1) := by decide +kernel
theorem dL_lift_6 : decode cL_lift 6 = .ok (.iload_n 3, 1) := by decide +kernel
theorem dL_lift_7 : decode cL_lift 7 = .ok (.invokevirtual 96, 3) := by decide +kernel
theorem dL_lift_10 : decode cL_lift 10 = .ok (.i2l, 1) := by decide +kernel
theorem dL_lift_11 : decode cL_lift 11 = .ok (.lastore, 1) := by decide +kernel
theorem dL_lift_12 : decode cL_lift 12 = .ok (.goto 19, 3) := by decide +kernel
theorem dL_lift_15 : decode cL_lift 15 = .ok (.astore 5, 2) := by decide +kernel
theorem dL_lift_17 : decode cL_lift 17 = .ok (.iconst 1, 1) := by decide +kernel
theorem dL_lift_18 : decode cL_lift 18 = .ok (.ireturn, 1) := by decide +kernel
theorem dL_lift_19 : decode cL_lift 19 = .ok (.astore 5, 2) := by decide +kernel
theorem dL_lift_21 : decode cL_lift 21 = .ok (.iconst 2, 1) := by decide +kernel
theorem dL_lift_22 : decode cL_lift 22 = .ok (.ireturn, 1) := by decide +kernel
theorem dL_lift_23 : decode cL_lift 23 = .ok (.astore 5, 2) := by decide +kernel
theorem dL_lift_25 : decode cL_lift 25 = .ok (.iconst 3, 1) := by decide +kernel
theorem dL_lift_26 : decode cL_lift 26 = .ok (.ireturn, 1) := by decide +kernel
theorem dL_lift_27 : decode cL_lift 27 = .ok (.astore 5, 2) := by decide +kernel
theorem dL_lift_29 : decode cL_lift 29 = .ok (.iconst 4, 1) := by decide +kernel
theorem dL_lift_30 : decode cL_lift 30 = .ok (.ireturn, 1) := by decide +kernel
theorem dL_lift_31 : decode cL_lift 31 = .ok (.iconst 0, 1) := by decide +kernel
theorem dL_lift_32 : decode cL_lift 32 = .ok (.ireturn, 1) := by decide +kernel
theorem dL_rootsModulo_0 : decode cL_rootsModulo 0 = .ok (.aload_n 3, 1) := by decide +kernel
theorem dL_rootsModulo_1 : decode cL_rootsModulo 1 = .ok (.iconst 0, 1) := by decide +kernel
theorem dL_rootsModulo_2 : decode cL_rootsModulo 2 = .ok (.aload_n 0, 1) := by decide +kernel
theorem dL_rootsModulo_3 : decode cL_rootsModulo 3 = .ok (.iload_n 1, 1) := by decide +kernel
theorem dL_rootsModulo_4 : decode cL_rootsModulo 4 = .ok (.iload_n 2, 1) := by decide +kernel
theorem dL_rootsModulo_5 : decode cL_rootsModulo 5 = .ok (.invokevirtual 99, 3) := by decide +kernel
theorem dL_rootsModulo_8 : decode cL_rootsModulo 8 = .ok (.i2l, 1) := by decide +kernel
theorem dL_rootsModulo_9 : decode cL_rootsModulo 9 = .ok (.lastore, 1) := by decide +kernel
theorem dL_rootsModulo_10 : decode cL_rootsModulo 10 = .ok (.goto 11, 3) := by decide +kernel
theorem dL_rootsModulo_13 : decode cL_rootsModulo 13 = .ok (.astore 4, 2) := by decide +kernel
theorem dL_rootsModulo_15 : decode cL_rootsModulo 15 = .ok (.iconst 1, 1) := by decide +kernel
theorem dL_rootsModulo_16 : decode cL_rootsModulo 16 = .ok (.ireturn, 1) := by decide +kernel
theorem dL_rootsModulo_17 : decode cL_rootsModulo 17 = .ok (.astore 4, 2) := by decide +kernel
theorem dL_rootsModulo_19 : decode cL_rootsModulo 19 = .ok (.iconst 2, 1) := by decide +kernel
theorem dL_rootsModulo_20 : decode cL_rootsModulo 20 = .ok (.ireturn, 1) := by decide +kernel
theorem dL_rootsModulo_21 : decode cL_rootsModulo 21 = .ok (.iconst 0, 1) := by decide +kernel
theorem dL_rootsModulo_22 : decode cL_rootsModulo 22 = .ok (.ireturn, 1) := by decide +kernel
theorem dL_symbol_0 : decode cL_symbol 0 = .ok (.aload 4, 2) := by decide +kernel
theorem dL_symbol_2 : decode cL_symbol 2 = .ok (.iconst 0, 1) := by decide +kernel
theorem dL_symbol_3 : decode cL_symbol 3 = .ok (.aload_n 0, 1) := by decide +kernel
theorem dL_symbol_4 : decode cL_symbol 4 = .ok (.iload_n 1, 1) := by decide +kernel
theorem dL_symbol_5 : decode cL_symbol 5 = .ok (.iload_n 2, 1) := by decide +kernel
theorem dL_symbol_6 : decode cL_symbol 6 = .ok (.iload_n 3, 1) := by decide +kernel
theorem dL_symbol_7 : decode cL_symbol 7 = .ok (.invokevirtual 102, 3) := by decide +kernel
theorem dL_symbol_10 : decode cL_symbol 10 = .ok (.i2l, 1) := by decide +kernel
theorem dL_symbol_11 : decode cL_symbol 11 = .ok (.lastore, 1) := by decide +kernel
theorem dL_symbol_12 : decode cL_symbol 12 = .ok (.goto 7, 3) := by decide +kernel
theorem dL_symbol_15 : decode cL_symbol 15 = .ok (.astore 5, 2) := by decide +kernel
theorem dL_symbol_17 : decode cL_symbol 17 = .ok (.iconst 1, 1) := by decide +kernel
theorem dL_symbol_18 : decode cL_symbol 18 = .ok (.ireturn, 1) := by decide +kernel
theorem dL_symbol_19 : decode cL_symbol 19 = .ok (.iconst 0, 1) := by decide +kernel
theorem dL_symbol_20 : decode cL_symbol 20 = .ok (.ireturn, 1) := by decide +kernel
theorem dL_obstacle_0 : decode cL_obstacle 0 = .ok (.aload_n 3, 1) := by decide +kernel
theorem dL_obstacle_1 : decode cL_obstacle 1 = .ok (.iconst 0, 1) := by decide +kernel
theorem dL_obstacle_2 : decode cL_obstacle 2 = .ok (.aload_n 0, 1) := by decide +kernel
theorem dL_obstacle_3 : decode cL_obstacle 3 = .ok (.iload_n 1, 1) := by decide +kernel
theorem dL_obstacle_4 : decode cL_obstacle 4 = .ok (.iload_n 2, 1) := by decide +kernel
theorem dL_obstacle_5 : decode cL_obstacle 5 = .ok (.invokevirtual 105, 3) := by decide +kernel
theorem dL_obstacle_8 : decode cL_obstacle 8 = .ok (.i2l, 1) := by decide +kernel
theorem dL_obstacle_9 : decode cL_obstacle 9 = .ok (.lastore, 1) := by decide +kernel
theorem dL_obstacle_10 : decode cL_obstacle 10 = .ok (.goto 11, 3) := by decide +kernel
theorem dL_obstacle_13 : decode cL_obstacle 13 = .ok (.astore 4, 2) := by decide +kernel
theorem dL_obstacle_15 : decode cL_obstacle 15 = .ok (.iconst 1, 1) := by decide +kernel
theorem dL_obstacle_16 : decode cL_obstacle 16 = .ok (.ireturn, 1) := by decide +kernel
theorem dL_obstacle_17 : decode cL_obstacle 17 = .ok (.astore 4, 2) := by decide +kernel
theorem dL_obstacle_19 : decode cL_obstacle 19 = .ok (.iconst 2, 1) := by decide +kernel
theorem dL_obstacle_20 : decode cL_obstacle 20 = .ok (.ireturn, 1) := by decide +kernel
theorem dL_obstacle_21 : decode cL_obstacle 21 = .ok (.iconst 0, 1) := by decide +kernel
theorem dL_obstacle_22 : decode cL_obstacle 22 = .ok (.ireturn, 1) := by decide +kernel
theorem dL_setSize_0 : decode cL_setSize 0 = .ok (.aload_n 2, 1) := by decide +kernel
theorem dL_setSize_1 : decode cL_setSize 1 = .ok (.iconst 0, 1) := by decide +kernel
theorem dL_setSize_2 : decode cL_setSize 2 = .ok (.aload_n 0, 1) := by decide +kernel
theorem dL_setSize_3 : decode cL_setSize 3 = .ok (.iload_n 1, 1) := by decide +kernel
theorem dL_setSize_4 : decode cL_setSize 4 = .ok (.invokevirtual 108, 3) := by decide +kernel
theorem dL_setSize_7 : decode cL_setSize 7 = .ok (.i2l, 1) := by decide +kernel
theorem dL_setSize_8 : decode cL_setSize 8 = .ok (.lastore, 1) := by decide +kernel
theorem dL_setSize_9 : decode cL_setSize 9 = .ok (.goto 6, 3) := by decide +kernel
theorem dL_setSize_12 : decode cL_setSize 12 = .ok (.astore_n 3, 1) := by decide +kernel
theorem dL_setSize_13 : decode cL_setSize 13 = .ok (.iconst 1, 1) := by decide +kernel
theorem dL_setSize_14 : decode cL_setSize 14 = .ok (.ireturn, 1) := by decide +kernel
theorem dL_setSize_15 : decode cL_setSize 15 = .ok (.iconst 0, 1) := by decide +kernel
theorem dL_setSize_16 : decode cL_setSize 16 = .ok (.ireturn, 1) := by decide +kernel
theorem dL_setEntry_0 : decode cL_setEntry 0 = .ok (.aload 4, 2) := by decide +kernel
theorem dL_setEntry_2 : decode cL_setEntry 2 = .ok (.iconst 0, 1) := by decide +kernel
theorem dL_setEntry_3 : decode cL_setEntry 3 = .ok (.aload_n 0, 1) := by decide +kernel
theorem dL_setEntry_4 : decode cL_setEntry 4 = .ok (.iload_n 1, 1) := by decide +kernel
theorem dL_setEntry_5 : decode cL_setEntry 5 = .ok (.iload_n 2, 1) := by decide +kernel
theorem dL_setEntry_6 : decode cL_setEntry 6 = .ok (.iload_n 3, 1) := by decide +kernel
theorem dL_setEntry_7 : decode cL_setEntry 7 = .ok (.invokevirtual 111, 3) := by decide +kernel
theorem dL_setEntry_10 : decode cL_setEntry 10 = .ok (.i2l, 1) := by decide +kernel
theorem dL_setEntry_11 : decode cL_setEntry 11 = .ok (.lastore, 1) := by decide +kernel
theorem dL_setEntry_12 : decode cL_setEntry 12 = .ok (.goto 11, 3) := by decide +kernel
theorem dL_setEntry_15 : decode cL_setEntry 15 = .ok (.astore 5, 2) := by decide +kernel
theorem dL_setEntry_17 : decode cL_setEntry 17 = .ok (.iconst 1, 1) := by decide +kernel
theorem dL_setEntry_18 : decode cL_setEntry 18 = .ok (.ireturn, 1) := by decide +kernel
theorem dL_setEntry_19 : decode cL_setEntry 19 = .ok (.astore 5, 2) := by decide +kernel
theorem dL_setEntry_21 : decode cL_setEntry 21 = .ok (.iconst 2, 1) := by decide +kernel
theorem dL_setEntry_22 : decode cL_setEntry 22 = .ok (.ireturn, 1) := by decide +kernel
theorem dL_setEntry_23 : decode cL_setEntry 23 = .ok (.iconst 0, 1) := by decide +kernel
theorem dL_setEntry_24 : decode cL_setEntry 24 = .ok (.ireturn, 1) := by decide +kernel
theorem dL_shape_0 : decode cL_shape 0 = .ok (.aload_n 2, 1) := by decide +kernel
theorem dL_shape_1 : decode cL_shape 1 = .ok (.iconst 0, 1) := by decide +kernel
theorem dL_shape_2 : decode cL_shape 2 = .ok (.aload_n 0, 1) := by decide +kernel
theorem dL_shape_3 : decode cL_shape 3 = .ok (.iload_n 1, 1) := by decide +kernel
theorem dL_shape_4 : decode cL_shape 4 = .ok (.invokevirtual 114, 3) := by decide +kernel
theorem dL_shape_7 : decode cL_shape 7 = .ok (.i2l, 1) := by decide +kernel
theorem dL_shape_8 : decode cL_shape 8 = .ok (.lastore, 1) := by decide +kernel
theorem dL_shape_9 : decode cL_shape 9 = .ok (.goto 6, 3) := by decide +kernel
theorem dL_shape_12 : decode cL_shape 12 = .ok (.astore_n 3, 1) := by decide +kernel
theorem dL_shape_13 : decode cL_shape 13 = .ok (.iconst 1, 1) := by decide +kernel
theorem dL_shape_14 : decode cL_shape 14 = .ok (.ireturn, 1) := by decide +kernel
theorem dL_shape_15 : decode cL_shape 15 = .ok (.iconst 0, 1) := by decide +kernel
theorem dL_shape_16 : decode cL_shape 16 = .ok (.ireturn, 1) := by decide +kernel
theorem dL_value_0 : decode cL_value 0 = .ok (.aload_n 2, 1) := by decide +kernel
theorem dL_value_1 : decode cL_value 1 = .ok (.iconst 0, 1) := by decide +kernel
theorem dL_value_2 : decode cL_value 2 = .ok (.aload_n 0, 1) := by decide +kernel
theorem dL_value_3 : decode cL_value 3 = .ok (.iload_n 1, 1) := by decide +kernel
theorem dL_value_4 : decode cL_value 4 = .ok (.invokevirtual 117, 3) := by decide +kernel
theorem dL_value_7 : decode cL_value 7 = .ok (.i2l, 1) := by decide +kernel
theorem dL_value_8 : decode cL_value 8 = .ok (.lastore, 1) := by decide +kernel
theorem dL_value_9 : decode cL_value 9 = .ok (.goto 9, 3) := by decide +kernel
theorem dL_value_12 : decode cL_value 12 = .ok (.astore_n 3, 1) := by decide +kernel
theorem dL_value_13 : decode cL_value 13 = .ok (.iconst 1, 1) := by decide +kernel
theorem dL_value_14 : decode cL_value 14 = .ok (.ireturn, 1) := by decide +kernel
theorem dL_value_15 : decode cL_value 15 = .ok (.astore_n 3, 1) := by decide +kernel
theorem dL_value_16 : decode cL_value 16 = .ok (.iconst 2, 1) := by decide +kernel
theorem dL_value_17 : decode cL_value 17 = .ok (.ireturn, 1) := by decide +kernel
theorem dL_value_18 : decode cL_value 18 = .ok (.iconst 0, 1) := by decide +kernel
theorem dL_value_19 : decode cL_value 19 = .ok (.ireturn, 1) := by decide +kernel
theorem dL_difference_0 : decode cL_difference 0 = .ok (.aload_n 2, 1) := by decide +kernel
theorem dL_difference_1 : decode cL_difference 1 = .ok (.iconst 0, 1) := by decide +kernel
theorem dL_difference_2 : decode cL_difference 2 = .ok (.aload_n 0, 1) := by decide +kernel
theorem dL_difference_3 : decode cL_difference 3 = .ok (.iload_n 1, 1) := by decide +kernel
theorem dL_difference_4 : decode cL_difference 4 = .ok (.invokevirtual 120, 3) := by decide +kernel
theorem dL_difference_7 : decode cL_difference 7 = .ok (.i2l, 1) := by decide +kernel
theorem dL_difference_8 : decode cL_difference 8 = .ok (.lastore, 1) := by decide +kernel
theorem dL_difference_9 : decode cL_difference 9 = .ok (.goto 6, 3) := by decide +kernel
theorem dL_difference_12 : decode cL_difference 12 = .ok (.astore_n 3, 1) := by decide +kernel
theorem dL_difference_13 : decode cL_difference 13 = .ok (.iconst 1, 1) := by decide +kernel
theorem dL_difference_14 : decode cL_difference 14 = .ok (.ireturn, 1) := by decide +kernel
theorem dL_difference_15 : decode cL_difference 15 = .ok (.iconst 0, 1) := by decide +kernel
theorem dL_difference_16 : decode cL_difference 16 = .ok (.ireturn, 1) := by decide +kernel
theorem dL_at_0 : decode cL_at 0 = .ok (.aload_n 2, 1) := by decide +kernel
theorem dL_at_1 : decode cL_at 1 = .ok (.iconst 0, 1) := by decide +kernel
theorem dL_at_2 : decode cL_at 2 = .ok (.aload_n 0, 1) := by decide +kernel
theorem dL_at_3 : decode cL_at 3 = .ok (.iload_n 1, 1) := by decide +kernel
theorem dL_at_4 : decode cL_at 4 = .ok (.invokevirtual 123, 3) := by decide +kernel
theorem dL_at_7 : decode cL_at 7 = .ok (.i2l, 1) := by decide +kernel
theorem dL_at_8 : decode cL_at 8 = .ok (.lastore, 1) := by decide +kernel
theorem dL_at_9 : decode cL_at 9 = .ok (.goto 12, 3) := by decide +kernel
theorem dL_at_12 : decode cL_at 12 = .ok (.astore_n 3, 1) := by decide +kernel
theorem dL_at_13 : decode cL_at 13 = .ok (.iconst 1, 1) := by decide +kernel
theorem dL_at_14 : decode cL_at 14 = .ok (.ireturn, 1) := by decide +kernel
theorem dL_at_15 : decode cL_at 15 = .ok (.astore_n 3, 1) := by decide +kernel
theorem dL_at_16 : decode cL_at 16 = .ok (.iconst 2, 1) := by decide +kernel
theorem dL_at_17 : decode cL_at 17 = .ok (.ireturn, 1) := by decide +kernel
theorem dL_at_18 : decode cL_at 18 = .ok (.astore_n 3, 1) := by decide +kernel
theorem dL_at_19 : decode cL_at 19 = .ok (.iconst 3, 1) := by decide +kernel
theorem dL_at_20 : decode cL_at 20 = .ok (.ireturn, 1) := by decide +kernel
theorem dL_at_21 : decode cL_at 21 = .ok (.iconst 0, 1) := by decide +kernel
theorem dL_at_22 : decode cL_at 22 = .ok (.ireturn, 1) := by decide +kernel
theorem dL_nothingShare_0 : decode cL_nothingShare 0 = .ok (.aload_n 1, 1) := by decide +kernel
theorem dL_nothingShare_1 : decode cL_nothingShare 1 = .ok (.iconst 0, 1) := by decide +kernel
theorem dL_nothingShare_2 : decode cL_nothingShare 2 = .ok (.aload_n 0, 1) := by decide +kernel
theorem dL_nothingShare_3 : decode cL_nothingShare 3 = .ok (.invokevirtual 126, 3) := by decide +kernel
theorem dL_nothingShare_6 : decode cL_nothingShare 6 = .ok (.f2d, 1) := by decide +kernel
theorem dL_nothingShare_7 : decode cL_nothingShare 7 = .ok (.dastore, 1) := by decide +kernel
theorem dL_nothingShare_8 : decode cL_nothingShare 8 = .ok (.goto 6, 3) := by decide +kernel
theorem dL_nothingShare_11 : decode cL_nothingShare 11 = .ok (.astore_n 2, 1) := by decide +kernel
theorem dL_nothingShare_12 : decode cL_nothingShare 12 = .ok (.iconst 1, 1) := by decide +kernel
theorem dL_nothingShare_13 : decode cL_nothingShare 13 = .ok (.ireturn, 1) := by decide +kernel
theorem dL_nothingShare_14 : decode cL_nothingShare 14 = .ok (.iconst 0, 1) := by decide +kernel
theorem dL_nothingShare_15 : decode cL_nothingShare 15 = .ok (.ireturn, 1) := by decide +kernel
theorem dL_meanDigits_0 : decode cL_meanDigits 0 = .ok (.aload_n 1, 1) := by decide +kernel
theorem dL_meanDigits_1 : decode cL_meanDigits 1 = .ok (.iconst 0, 1) := by decide +kernel
theorem dL_meanDigits_2 : decode cL_meanDigits 2 = .ok (.aload_n 0, 1) := by decide +kernel
theorem dL_meanDigits_3 : decode cL_meanDigits 3 = .ok (.invokevirtual 130, 3) := by decide +kernel
theorem dL_meanDigits_6 : decode cL_meanDigits 6 = .ok (.dastore, 1) := by decide +kernel
theorem dL_meanDigits_7 : decode cL_meanDigits 7 = .ok (.goto 6, 3) := by decide +kernel
theorem dL_meanDigits_10 : decode cL_meanDigits 10 = .ok (.astore_n 2, 1) := by decide +kernel
theorem dL_meanDigits_11 : decode cL_meanDigits 11 = .ok (.iconst 1, 1) := by decide +kernel
theorem dL_meanDigits_12 : decode cL_meanDigits 12 = .ok (.ireturn, 1) := by decide +kernel
theorem dL_meanDigits_13 : decode cL_meanDigits 13 = .ok (.iconst 0, 1) := by decide +kernel
theorem dL_meanDigits_14 : decode cL_meanDigits 14 = .ok (.ireturn, 1) := by decide +kernel
