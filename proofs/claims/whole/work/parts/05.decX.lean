theorem dX0_init_0 : decode cX0_init 0 = .ok (.aload_n 0, 1) := by decide +kernel
theorem dX0_init_1 : decode cX0_init 1 = .ok (.invokespecial 1, 3) := by decide +kernel
theorem dX0_init_4 : decode cX0_init 4 = .ok (.aload_n 0, 1) := by decide +kernel
theorem dX0_init_5 : decode cX0_init 5 = .ok (.bipush 8, 2) := by decide +kernel
theorem dX0_init_7 : decode cX0_init 7 = .ok (.anewarray 9, 3) := by decide +kernel
theorem dX0_init_10 : decode cX0_init 10 = .ok (.putfield 11, 3) := by decide +kernel
theorem dX0_init_13 : decode cX0_init 13 = .ok (.iconst 0, 1) := by decide +kernel
theorem dX0_init_14 : decode cX0_init 14 = .ok (.istore_n 1, 1) := by decide +kernel
theorem dX0_init_15 : decode cX0_init 15 = .ok (.iload_n 1, 1) := by decide +kernel
theorem dX0_init_16 : decode cX0_init 16 = .ok (.aload_n 0, 1) := by decide +kernel
theorem dX0_init_17 : decode cX0_init 17 = .ok (.getfield 11, 3) := by decide +kernel
theorem dX0_init_20 : decode cX0_init 20 = .ok (.arraylength, 1) := by decide +kernel
theorem dX0_init_21 : decode cX0_init 21 = .ok (.if_icmp .ge 22, 3) := by decide +kernel
theorem dX0_init_24 : decode cX0_init 24 = .ok (.aload_n 0, 1) := by decide +kernel
theorem dX0_init_25 : decode cX0_init 25 = .ok (.getfield 11, 3) := by decide +kernel
theorem dX0_init_28 : decode cX0_init 28 = .ok (.iload_n 1, 1) := by decide +kernel
theorem dX0_init_29 : decode cX0_init 29 = .ok (.new 9, 3) := by decide +kernel
theorem dX0_init_32 : decode cX0_init 32 = .ok (.dup, 1) := by decide +kernel
theorem dX0_init_33 : decode cX0_init 33 = .ok (.invokespecial 15, 3) := by decide +kernel
theorem dX0_init_36 : decode cX0_init 36 = .ok (.aastore, 1) := by decide +kernel
theorem dX0_init_37 : decode cX0_init 37 = .ok (.iinc 1 1, 3) := by decide +kernel
theorem dX0_init_40 : decode cX0_init 40 = .ok (.goto (-25), 3) := by decide +kernel
theorem dX0_init_43 : decode cX0_init 43 = .ok (.return_, 1) := by decide +kernel
theorem dX0_isFull_0 : decode cX0_isFull 0 = .ok (.aload_n 0, 1) := by decide +kernel
theorem dX0_isFull_1 : decode cX0_isFull 1 = .ok (.getfield 16, 3) := by decide +kernel
theorem dX0_isFull_4 : decode cX0_isFull 4 = .ok (.aload_n 0, 1) := by decide +kernel
theorem dX0_isFull_5 : decode cX0_isFull 5 = .ok (.getfield 11, 3) := by decide +kernel
theorem dX0_isFull_8 : decode cX0_isFull 8 = .ok (.arraylength, 1) := by decide +kernel
theorem dX0_isFull_9 : decode cX0_isFull 9 = .ok (.if_icmp .lt 7, 3) := by decide +kernel
theorem dX0_isFull_12 : decode cX0_isFull 12 = .ok (.iconst 1, 1) := by decide +kernel
theorem dX0_isFull_13 : decode cX0_isFull 13 = .ok (.goto 4, 3) := by decide +kernel
theorem dX0_isFull_16 : decode cX0_isFull 16 = .ok (.iconst 0, 1) := by decide +kernel
theorem dX0_isFull_17 : decode cX0_isFull 17 = .ok (.ireturn, 1) := by decide +kernel
theorem dX0_page_0 : decode cX0_page 0 = .ok (.aload_n 0, 1) := by decide +kernel
theorem dX0_page_1 : decode cX0_page 1 = .ok (.getfield 11, 3) := by decide +kernel
theorem dX0_page_4 : decode cX0_page 4 = .ok (.iload_n 1, 1) := by decide +kernel
theorem dX0_page_5 : decode cX0_page 5 = .ok (.ifCond .lt 16, 3) := by decide +kernel
theorem dX0_page_8 : decode cX0_page 8 = .ok (.iload_n 1, 1) := by decide +kernel
theorem dX0_page_9 : decode cX0_page 9 = .ok (.aload_n 0, 1) := by decide +kernel
theorem dX0_page_10 : decode cX0_page 10 = .ok (.getfield 11, 3) := by decide +kernel
theorem dX0_page_13 : decode cX0_page 13 = .ok (.arraylength, 1) := by decide +kernel
theorem dX0_page_14 : decode cX0_page 14 = .ok (.if_icmp .ge 7, 3) := by decide +kernel
theorem dX0_page_17 : decode cX0_page 17 = .ok (.iload_n 1, 1) := by decide +kernel
theorem dX0_page_18 : decode cX0_page 18 = .ok (.goto 4, 3) := by decide +kernel
theorem dX0_page_21 : decode cX0_page 21 = .ok (.iconst 0, 1) := by decide +kernel
theorem dX0_page_22 : decode cX0_page 22 = .ok (.aaload, 1) := by decide +kernel
theorem dX0_page_23 : decode cX0_page 23 = .ok (.areturn, 1) := by decide +kernel
theorem dX0_open_0 : decode cX0_open 0 = .ok (.aload_n 0, 1) := by decide +kernel
theorem dX0_open_1 : decode cX0_open 1 = .ok (.aload_n 0, 1) := by decide +kernel
theorem dX0_open_2 : decode cX0_open 2 = .ok (.getfield 16, 3) := by decide +kernel
theorem dX0_open_5 : decode cX0_open 5 = .ok (.invokevirtual 20, 3) := by decide +kernel
theorem dX0_open_8 : decode cX0_open 8 = .ok (.iconst 0, 1) := by decide +kernel
theorem dX0_open_9 : decode cX0_open 9 = .ok (.iload_n 1, 1) := by decide +kernel
theorem dX0_open_10 : decode cX0_open 10 = .ok (.invokevirtual 24, 3) := by decide +kernel
theorem dX0_open_13 : decode cX0_open 13 = .ok (.aload_n 0, 1) := by decide +kernel
theorem dX0_open_14 : decode cX0_open 14 = .ok (.dup, 1) := by decide +kernel
theorem dX0_open_15 : decode cX0_open 15 = .ok (.getfield 16, 3) := by decide +kernel
theorem dX0_open_18 : decode cX0_open 18 = .ok (.iconst 1, 1) := by decide +kernel
theorem dX0_open_19 : decode cX0_open 19 = .ok (.iadd, 1) := by decide +kernel
theorem dX0_open_20 : decode cX0_open 20 = .ok (.putfield 16, 3) := by decide +kernel
theorem dX0_open_23 : decode cX0_open 23 = .ok (.aload_n 0, 1) := by decide +kernel
theorem dX0_open_24 : decode cX0_open 24 = .ok (.getfield 16, 3) := by decide +kernel
theorem dX0_open_27 : decode cX0_open 27 = .ok (.iconst 1, 1) := by decide +kernel
theorem dX0_open_28 : decode cX0_open 28 = .ok (.isub, 1) := by decide +kernel
theorem dX0_open_29 : decode cX0_open 29 = .ok (.ireturn, 1) := by decide +kernel
theorem dX1_init_0 : decode cX1_init 0 = .ok (.aload_n 0, 1) := by decide +kernel
theorem dX1_init_1 : decode cX1_init 1 = .ok (.invokespecial 1, 3) := by decide +kernel
theorem dX1_init_4 : decode cX1_init 4 = .ok (.aload_n 0, 1) := by decide +kernel
theorem dX1_init_5 : decode cX1_init 5 = .ok (.iconst 1, 1) := by decide +kernel
theorem dX1_init_6 : decode cX1_init 6 = .ok (.putfield 7, 3) := by decide +kernel
theorem dX1_init_9 : decode cX1_init 9 = .ok (.aload_n 0, 1) := by decide +kernel
theorem dX1_init_10 : decode cX1_init 10 = .ok (.bipush 16, 2) := by decide +kernel
theorem dX1_init_12 : decode cX1_init 12 = .ok (.newarray .int, 2) := by decide +kernel
theorem dX1_init_14 : decode cX1_init 14 = .ok (.putfield 13, 3) := by decide +kernel
theorem dX1_init_17 : decode cX1_init 17 = .ok (.aload_n 0, 1) := by decide +kernel
theorem dX1_init_18 : decode cX1_init 18 = .ok (.sipush 256, 3) := by decide +kernel
theorem dX1_init_21 : decode cX1_init 21 = .ok (.newarray .long, 2) := by decide +kernel
theorem dX1_init_23 : decode cX1_init 23 = .ok (.putfield 17, 3) := by decide +kernel
theorem dX1_init_26 : decode cX1_init 26 = .ok (.return_, 1) := by decide +kernel
theorem dX1_has_0 : decode cX1_has 0 = .ok (.iload_n 1, 1) := by decide +kernel
theorem dX1_has_1 : decode cX1_has 1 = .ok (.ifCond .lt 27, 3) := by decide +kernel
theorem dX1_has_4 : decode cX1_has 4 = .ok (.iload_n 1, 1) := by decide +kernel
theorem dX1_has_5 : decode cX1_has 5 = .ok (.aload_n 0, 1) := by decide +kernel
theorem dX1_has_6 : decode cX1_has 6 = .ok (.getfield 7, 3) := by decide +kernel
theorem dX1_has_9 : decode cX1_has 9 = .ok (.if_icmp .ge 19, 3) := by decide +kernel
theorem dX1_has_12 : decode cX1_has 12 = .ok (.iload_n 2, 1) := by decide +kernel
theorem dX1_has_13 : decode cX1_has 13 = .ok (.ifCond .lt 15, 3) := by decide +kernel
theorem dX1_has_16 : decode cX1_has 16 = .ok (.iload_n 2, 1) := by decide +kernel
theorem dX1_has_17 : decode cX1_has 17 = .ok (.aload_n 0, 1) := by decide +kernel
theorem dX1_has_18 : decode cX1_has 18 = .ok (.getfield 7, 3) := by decide +kernel
theorem dX1_has_21 : decode cX1_has 21 = .ok (.if_icmp .ge 7, 3) := by decide +kernel
theorem dX1_has_24 : decode cX1_has 24 = .ok (.iconst 1, 1) := by decide +kernel
theorem dX1_has_25 : decode cX1_has 25 = .ok (.goto 4, 3) := by decide +kernel
theorem dX1_has_28 : decode cX1_has 28 = .ok (.iconst 0, 1) := by decide +kernel
theorem dX1_has_29 : decode cX1_has 29 = .ok (.ireturn, 1) := by decide +kernel
theorem dX1_clearTo_0 : decode cX1_clearTo 0 = .ok (.aload_n 0, 1) := by decide +kernel
theorem dX1_clearTo_1 : decode cX1_clearTo 1 = .ok (.iload_n 1, 1) := by decide +kernel
theorem dX1_clearTo_2 : decode cX1_clearTo 2 = .ok (.putfield 7, 3) := by decide +kernel
theorem dX1_clearTo_5 : decode cX1_clearTo 5 = .ok (.iconst 0, 1) := by decide +kernel
theorem dX1_clearTo_6 : decode cX1_clearTo 6 = .ok (.istore_n 2, 1) := by decide +kernel
theorem dX1_clearTo_7 : decode cX1_clearTo 7 = .ok (.iload_n 2, 1) := by decide +kernel
theorem dX1_clearTo_8 : decode cX1_clearTo 8 = .ok (.aload_n 0, 1) := by decide +kernel
theorem dX1_clearTo_9 : decode cX1_clearTo 9 = .ok (.getfield 13, 3) := by decide +kernel
theorem dX1_clearTo_12 : decode cX1_clearTo 12 = .ok (.arraylength, 1) := by decide +kernel
theorem dX1_clearTo_13 : decode cX1_clearTo 13 = .ok (.if_icmp .ge 16, 3) := by decide +kernel
theorem dX1_clearTo_16 : decode cX1_clearTo 16 = .ok (.aload_n 0, 1) := by decide +kernel
theorem dX1_clearTo_17 : decode cX1_clearTo 17 = .ok (.getfield 13, 3) := by decide +kernel
theorem dX1_clearTo_20 : decode cX1_clearTo 20 = .ok (.iload_n 2, 1) := by decide +kernel
theorem dX1_clearTo_21 : decode cX1_clearTo 21 = .ok (.iconst 0, 1) := by decide +kernel
theorem dX1_clearTo_22 : decode cX1_clearTo 22 = .ok (.iastore, 1) := by decide +kernel
theorem dX1_clearTo_23 : decode cX1_clearTo 23 = .ok (.iinc 2 1, 3) := by decide +kernel
theorem dX1_clearTo_26 : decode cX1_clearTo 26 = .ok (.goto (-19), 3) := by decide +kernel
theorem dX1_clearTo_29 : decode cX1_clearTo 29 = .ok (.return_, 1) := by decide +kernel
theorem dX1_entryAt_0 : decode cX1_entryAt 0 = .ok (.iload_n 1, 1) := by decide +kernel
theorem dX1_entryAt_1 : decode cX1_entryAt 1 = .ok (.iconst 4, 1) := by decide +kernel
theorem dX1_entryAt_2 : decode cX1_entryAt 2 = .ok (.imul, 1) := by decide +kernel
theorem dX1_entryAt_3 : decode cX1_entryAt 3 = .ok (.iload_n 2, 1) := by decide +kernel
theorem dX1_entryAt_4 : decode cX1_entryAt 4 = .ok (.iadd, 1) := by decide +kernel
theorem dX1_entryAt_5 : decode cX1_entryAt 5 = .ok (.istore_n 3, 1) := by decide +kernel
theorem dX1_entryAt_6 : decode cX1_entryAt 6 = .ok (.iload_n 3, 1) := by decide +kernel
theorem dX1_entryAt_7 : decode cX1_entryAt 7 = .ok (.ifCond .lt 21, 3) := by decide +kernel
theorem dX1_entryAt_10 : decode cX1_entryAt 10 = .ok (.iload_n 3, 1) := by decide +kernel
theorem dX1_entryAt_11 : decode cX1_entryAt 11 = .ok (.aload_n 0, 1) := by decide +kernel
theorem dX1_entryAt_12 : decode cX1_entryAt 12 = .ok (.getfield 13, 3) := by decide +kernel
theorem dX1_entryAt_15 : decode cX1_entryAt 15 = .ok (.arraylength, 1) := by decide +kernel
theorem dX1_entryAt_16 : decode cX1_entryAt 16 = .ok (.if_icmp .ge 12, 3) := by decide +kernel
theorem dX1_entryAt_19 : decode cX1_entryAt 19 = .ok (.aload_n 0, 1) := by decide +kernel
theorem dX1_entryAt_20 : decode cX1_entryAt 20 = .ok (.getfield 13, 3) := by decide +kernel
theorem dX1_entryAt_23 : decode cX1_entryAt 23 = .ok (.iload_n 3, 1) := by decide +kernel
theorem dX1_entryAt_24 : decode cX1_entryAt 24 = .ok (.iaload, 1) := by decide +kernel
theorem dX1_entryAt_25 : decode cX1_entryAt 25 = .ok (.goto 4, 3) := by decide +kernel
theorem dX1_entryAt_28 : decode cX1_entryAt 28 = .ok (.iconst 0, 1) := by decide +kernel
theorem dX1_entryAt_29 : decode cX1_entryAt 29 = .ok (.ireturn, 1) := by decide +kernel
theorem dX1_replace_0 : decode cX1_replace 0 = .ok (.aload_n 0, 1) := by decide +kernel
theorem dX1_replace_1 : decode cX1_replace 1 = .ok (.iload_n 1, 1) := by decide +kernel
theorem dX1_replace_2 : decode cX1_replace 2 = .ok (.iload_n 2, 1) := by decide +kernel
theorem dX1_replace_3 : decode cX1_replace 3 = .ok (.invokevirtual 21, 3) := by decide +kernel
theorem dX1_replace_6 : decode cX1_replace 6 = .ok (.istore 4, 2) := by decide +kernel
theorem dX1_replace_8 : decode cX1_replace 8 = .ok (.iload_n 1, 1) := by decide +kernel
theorem dX1_replace_9 : decode cX1_replace 9 = .ok (.iconst 4, 1) := by decide +kernel
theorem dX1_replace_10 : decode cX1_replace 10 = .ok (.imul, 1) := by decide +kernel
theorem dX1_replace_11 : decode cX1_replace 11 = .ok (.iload_n 2, 1) := by decide +kernel
theorem dX1_replace_12 : decode cX1_replace 12 = .ok (.iadd, 1) := by decide +kernel
theorem dX1_replace_13 : decode cX1_replace 13 = .ok (.istore 5, 2) := by decide +kernel
theorem dX1_replace_15 : decode cX1_replace 15 = .ok (.iload 5, 2) := by decide +kernel
theorem dX1_replace_17 : decode cX1_replace 17 = .ok (.ifCond .lt 21, 3) := by decide +kernel
theorem dX1_replace_20 : decode cX1_replace 20 = .ok (.iload 5, 2) := by decide +kernel
theorem dX1_replace_22 : decode cX1_replace 22 = .ok (.aload_n 0, 1) := by decide +kernel
theorem dX1_replace_23 : decode cX1_replace 23 = .ok (.getfield 13, 3) := by decide +kernel
theorem dX1_replace_26 : decode cX1_replace 26 = .ok (.arraylength, 1) := by decide +kernel
theorem dX1_replace_27 : decode cX1_replace 27 = .ok (.if_icmp .ge 11, 3) := by decide +kernel
theorem dX1_replace_30 : decode cX1_replace 30 = .ok (.aload_n 0, 1) := by decide +kernel
theorem dX1_replace_31 : decode cX1_replace 31 = .ok (.getfield 13, 3) := by decide +kernel
theorem dX1_replace_34 : decode cX1_replace 34 = .ok (.iload 5, 2) := by decide +kernel
theorem dX1_replace_36 : decode cX1_replace 36 = .ok (.iload_n 3, 1) := by decide +kernel
theorem dX1_replace_37 : decode cX1_replace 37 = .ok (.iastore, 1) := by decide +kernel
theorem dX1_replace_38 : decode cX1_replace 38 = .ok (.iload 4, 2) := by decide +kernel
theorem dX1_replace_40 : decode cX1_replace 40 = .ok (.ireturn, 1) := by decide +kernel
theorem dX1_minorOf_0 : decode cX1_minorOf 0 = .ok (.iload_n 1, 1) := by decide +kernel
theorem dX1_minorOf_1 : decode cX1_minorOf 1 = .ok (.bipush 16, 2) := by decide +kernel
theorem dX1_minorOf_3 : decode cX1_minorOf 3 = .ok (.imul, 1) := by decide +kernel
theorem dX1_minorOf_4 : decode cX1_minorOf 4 = .ok (.iload_n 2, 1) := by decide +kernel
theorem dX1_minorOf_5 : decode cX1_minorOf 5 = .ok (.iadd, 1) := by decide +kernel
theorem dX1_minorOf_6 : decode cX1_minorOf 6 = .ok (.istore_n 3, 1) := by decide +kernel
theorem dX1_minorOf_7 : decode cX1_minorOf 7 = .ok (.iload_n 3, 1) := by decide +kernel
theorem dX1_minorOf_8 : decode cX1_minorOf 8 = .ok (.ifCond .lt 21, 3) := by decide +kernel
theorem dX1_minorOf_11 : decode cX1_minorOf 11 = .ok (.iload_n 3, 1) := by decide +kernel
theorem dX1_minorOf_12 : decode cX1_minorOf 12 = .ok (.aload_n 0, 1) := by decide +kernel
theorem dX1_minorOf_13 : decode cX1_minorOf 13 = .ok (.getfield 17, 3) := by decide +kernel
theorem dX1_minorOf_16 : decode cX1_minorOf 16 = .ok (.arraylength, 1) := by decide +kernel
theorem dX1_minorOf_17 : decode cX1_minorOf 17 = .ok (.if_icmp .ge 12, 3) := by decide +kernel
theorem dX1_minorOf_20 : decode cX1_minorOf 20 = .ok (.aload_n 0, 1) := by decide +kernel
theorem dX1_minorOf_21 : decode cX1_minorOf 21 = .ok (.getfield 17, 3) := by decide +kernel
theorem dX1_minorOf_24 : decode cX1_minorOf 24 = .ok (.iload_n 3, 1) := by decide +kernel
theorem dX1_minorOf_25 : decode cX1_minorOf 25 = .ok (.laload, 1) := by decide +kernel
theorem dX1_minorOf_26 : decode cX1_minorOf 26 = .ok (.goto 4, 3) := by decide +kernel
theorem dX1_minorOf_29 : decode cX1_minorOf 29 = .ok (.lconst 0, 1) := by decide +kernel
theorem dX1_minorOf_30 : decode cX1_minorOf 30 = .ok (.lreturn, 1) := by decide +kernel
theorem dX1_fillMinors_0 : decode cX1_fillMinors 0 = .ok (.iconst 1, 1) := by decide +kernel
theorem dX1_fillMinors_1 : decode cX1_fillMinors 1 = .ok (.aload_n 0, 1) := by decide +kernel
theorem dX1_fillMinors_2 : decode cX1_fillMinors 2 = .ok (.getfield 7, 3) := by decide +kernel
theorem dX1_fillMinors_5 : decode cX1_fillMinors 5 = .ok (.ishl, 1) := by decide +kernel
theorem dX1_fillMinors_6 : decode cX1_fillMinors 6 = .ok (.istore_n 1, 1) := by decide +kernel
theorem dX1_fillMinors_7 : decode cX1_fillMinors 7 = .ok (.iconst 0, 1) := by decide +kernel
theorem dX1_fillMinors_8 : decode cX1_fillMinors 8 = .ok (.istore_n 2, 1) := by decide +kernel
theorem dX1_fillMinors_9 : decode cX1_fillMinors 9 = .ok (.iload_n 2, 1) := by decide +kernel
theorem dX1_fillMinors_10 : decode cX1_fillMinors 10 = .ok (.iload_n 1, 1) := by decide +kernel
theorem dX1_fillMinors_11 : decode cX1_fillMinors 11 = .ok (.if_icmp .ge 53, 3) := by decide +kernel
theorem dX1_fillMinors_14 : decode cX1_fillMinors 14 = .ok (.iconst 0, 1) := by decide +kernel
theorem dX1_fillMinors_15 : decode cX1_fillMinors 15 = .ok (.istore_n 3, 1) := by decide +kernel
theorem dX1_fillMinors_16 : decode cX1_fillMinors 16 = .ok (.iload_n 3, 1) := by decide +kernel
theorem dX1_fillMinors_17 : decode cX1_fillMinors 17 = .ok (.iload_n 1, 1) := by decide +kernel
theorem dX1_fillMinors_18 : decode cX1_fillMinors 18 = .ok (.if_icmp .ge 40, 3) := by decide +kernel
theorem dX1_fillMinors_21 : decode cX1_fillMinors 21 = .ok (.iload_n 2, 1) := by decide +kernel
theorem dX1_fillMinors_22 : decode cX1_fillMinors 22 = .ok (.bipush 16, 2) := by decide +kernel
theorem dX1_fillMinors_24 : decode cX1_fillMinors 24 = .ok (.imul, 1) := by decide +kernel
theorem dX1_fillMinors_25 : decode cX1_fillMinors 25 = .ok (.iload_n 3, 1) := by decide +kernel
theorem dX1_fillMinors_26 : decode cX1_fillMinors 26 = .ok (.iadd, 1) := by decide +kernel
theorem dX1_fillMinors_27 : decode cX1_fillMinors 27 = .ok (.istore 4, 2) := by decide +kernel
theorem dX1_fillMinors_29 : decode cX1_fillMinors 29 = .ok (.iload 4, 2) := by decide +kernel
theorem dX1_fillMinors_31 : decode cX1_fillMinors 31 = .ok (.aload_n 0, 1) := by decide +kernel
theorem dX1_fillMinors_32 : decode cX1_fillMinors 32 = .ok (.getfield 17, 3) := by decide +kernel
theorem dX1_fillMinors_35 : decode cX1_fillMinors 35 = .ok (.arraylength, 1) := by decide +kernel
theorem dX1_fillMinors_36 : decode cX1_fillMinors 36 = .ok (.if_icmp .ge 16, 3) := by decide +kernel
theorem dX1_fillMinors_39 : decode cX1_fillMinors 39 = .ok (.aload_n 0, 1) := by decide +kernel
theorem dX1_fillMinors_40 : decode cX1_fillMinors 40 = .ok (.getfield 17, 3) := by decide +kernel
theorem dX1_fillMinors_43 : decode cX1_fillMinors 43 = .ok (.iload 4, 2) := by decide +kernel
theorem dX1_fillMinors_45 : decode cX1_fillMinors 45 = .ok (.aload_n 0, 1) := by decide +kernel
theorem dX1_fillMinors_46 : decode cX1_fillMinors 46 = .ok (.iload_n 2, 1) := by decide +kernel
theorem dX1_fillMinors_47 : decode cX1_fillMinors 47 = .ok (.iload_n 3, 1) := by decide +kernel
theorem dX1_fillMinors_48 : decode cX1_fillMinors 48 = .ok (.invokevirtual 25, 3) := by decide +kernel
theorem dX1_fillMinors_51 : decode cX1_fillMinors 51 = .ok (.lastore, 1) := by decide +kernel
theorem dX1_fillMinors_52 : decode cX1_fillMinors 52 = .ok (.iinc 3 1, 3) := by decide +kernel
theorem dX1_fillMinors_55 : decode cX1_fillMinors 55 = .ok (.goto (-39), 3) := by decide +kernel
theorem dX1_fillMinors_58 : decode cX1_fillMinors 58 = .ok (.iinc 2 1, 3) := by decide +kernel
theorem dX1_fillMinors_61 : decode cX1_fillMinors 61 = .ok (.goto (-52), 3) := by decide +kernel
theorem dX1_fillMinors_64 : decode cX1_fillMinors 64 = .ok (.return_, 1) := by decide +kernel
theorem dX1_lastOf_0 : decode cX1_lastOf 0 = .ok (.iconst 0, 1) := by decide +kernel
theorem dX1_lastOf_1 : decode cX1_lastOf 1 = .ok (.istore_n 1, 1) := by decide +kernel
theorem dX1_lastOf_2 : decode cX1_lastOf 2 = .ok (.iconst 0, 1) := by decide +kernel
theorem dX1_lastOf_3 : decode cX1_lastOf 3 = .ok (.istore_n 2, 1) := by decide +kernel
theorem dX1_lastOf_4 : decode cX1_lastOf 4 = .ok (.iload_n 2, 1) := by decide +kernel
theorem dX1_lastOf_5 : decode cX1_lastOf 5 = .ok (.iconst 4, 1) := by decide +kernel
theorem dX1_lastOf_6 : decode cX1_lastOf 6 = .ok (.if_icmp .ge 24, 3) := by decide +kernel
theorem dX1_lastOf_9 : decode cX1_lastOf 9 = .ok (.iload_n 0, 1) := by decide +kernel
theorem dX1_lastOf_10 : decode cX1_lastOf 10 = .ok (.iload_n 2, 1) := by decide +kernel
theorem dX1_lastOf_11 : decode cX1_lastOf 11 = .ok (.ishr, 1) := by decide +kernel
theorem dX1_lastOf_12 : decode cX1_lastOf 12 = .ok (.iconst 1, 1) := by decide +kernel
theorem dX1_lastOf_13 : decode cX1_lastOf 13 = .ok (.iand, 1) := by decide +kernel
theorem dX1_lastOf_14 : decode cX1_lastOf 14 = .ok (.iconst 1, 1) := by decide +kernel
theorem dX1_lastOf_15 : decode cX1_lastOf 15 = .ok (.if_icmp .ne 7, 3) := by decide +kernel
theorem dX1_lastOf_18 : decode cX1_lastOf 18 = .ok (.iload_n 2, 1) := by decide +kernel
theorem dX1_lastOf_19 : decode cX1_lastOf 19 = .ok (.goto 4, 3) := by decide +kernel
theorem dX1_lastOf_22 : decode cX1_lastOf 22 = .ok (.iload_n 1, 1) := by decide +kernel
theorem dX1_lastOf_23 : decode cX1_lastOf 23 = .ok (.istore_n 1, 1) := by decide +kernel
theorem dX1_lastOf_24 : decode cX1_lastOf 24 = .ok (.iinc 2 1, 3) := by decide +kernel
theorem dX1_lastOf_27 : decode cX1_lastOf 27 = .ok (.goto (-23), 3) := by decide +kernel
theorem dX1_lastOf_30 : decode cX1_lastOf 30 = .ok (.iload_n 1, 1) := by decide +kernel
theorem dX1_lastOf_31 : decode cX1_lastOf 31 = .ok (.ireturn, 1) := by decide +kernel
theorem dX1_expanded_0 : decode cX1_expanded 0 = .ok (.iload_n 1, 1) := by decide +kernel
theorem dX1_expanded_1 : decode cX1_expanded 1 = .ok (.invokestatic 29, 3) := by decide +kernel
theorem dX1_expanded_4 : decode cX1_expanded 4 = .ok (.iload_n 2, 1) := by decide +kernel
theorem dX1_expanded_5 : decode cX1_expanded 5 = .ok (.invokestatic 29, 3) := by decide +kernel
theorem dX1_expanded_8 : decode cX1_expanded 8 = .ok (.if_icmp .eq 5, 3) := by decide +kernel
theorem dX1_expanded_11 : decode cX1_expanded 11 = .ok (.lconst 0, 1) := by decide +kernel
theorem dX1_expanded_12 : decode cX1_expanded 12 = .ok (.lreturn, 1) := by decide +kernel
theorem dX1_expanded_13 : decode cX1_expanded 13 = .ok (.iload_n 1, 1) := by decide +kernel
theorem dX1_expanded_14 : decode cX1_expanded 14 = .ok (.ifCond .ne 5, 3) := by decide +kernel
theorem dX1_expanded_17 : decode cX1_expanded 17 = .ok (.lconst 1, 1) := by decide +kernel
theorem dX1_expanded_18 : decode cX1_expanded 18 = .ok (.lreturn, 1) := by decide +kernel
theorem dX1_expanded_19 : decode cX1_expanded 19 = .ok (.iload_n 1, 1) := by decide +kernel
theorem dX1_expanded_20 : decode cX1_expanded 20 = .ok (.invokestatic 35, 3) := by decide +kernel
theorem dX1_expanded_23 : decode cX1_expanded 23 = .ok (.istore_n 3, 1) := by decide +kernel
theorem dX1_expanded_24 : decode cX1_expanded 24 = .ok (.iload_n 1, 1) := by decide +kernel
theorem dX1_expanded_25 : decode cX1_expanded 25 = .ok (.iconst 1, 1) := by decide +kernel
theorem dX1_expanded_26 : decode cX1_expanded 26 = .ok (.iload_n 3, 1) := by decide +kernel
theorem dX1_expanded_27 : decode cX1_expanded 27 = .ok (.ishl, 1) := by decide +kernel
theorem dX1_expanded_28 : decode cX1_expanded 28 = .ok (.iconst (-1), 1) := by decide +kernel
theorem dX1_expanded_29 : decode cX1_expanded 29 = .ok (.ixor, 1) := by decide +kernel
theorem dX1_expanded_30 : decode cX1_expanded 30 = .ok (.iand, 1) := by decide +kernel
theorem dX1_expanded_31 : decode cX1_expanded 31 = .ok (.istore 4, 2) := by decide +kernel
theorem dX1_expanded_33 : decode cX1_expanded 33 = .ok (.lconst 0, 1) := by decide +kernel
theorem dX1_expanded_34 : decode cX1_expanded 34 = .ok (.lstore 5, 2) := by decide +kernel
theorem dX1_expanded_36 : decode cX1_expanded 36 = .ok (.iconst 0, 1) := by decide +kernel
theorem dX1_expanded_37 : decode cX1_expanded 37 = .ok (.istore 7, 2) := by decide +kernel
theorem dX1_expanded_39 : decode cX1_expanded 39 = .ok (.iload 7, 2) := by decide +kernel
theorem dX1_expanded_41 : decode cX1_expanded 41 = .ok (.aload_n 0, 1) := by decide +kernel
theorem dX1_expanded_42 : decode cX1_expanded 42 = .ok (.getfield 7, 3) := by decide +kernel
theorem dX1_expanded_45 : decode cX1_expanded 45 = .ok (.if_icmp .ge 86, 3) := by decide +kernel
theorem dX1_expanded_48 : decode cX1_expanded 48 = .ok (.iload_n 2, 1) := by decide +kernel
theorem dX1_expanded_49 : decode cX1_expanded 49 = .ok (.iload 7, 2) := by decide +kernel
theorem dX1_expanded_51 : decode cX1_expanded 51 = .ok (.ishr, 1) := by decide +kernel
theorem dX1_expanded_52 : decode cX1_expanded 52 = .ok (.iconst 1, 1) := by decide +kernel
theorem dX1_expanded_53 : decode cX1_expanded 53 = .ok (.iand, 1) := by decide +kernel
theorem dX1_expanded_54 : decode cX1_expanded 54 = .ok (.iconst 1, 1) := by decide +kernel
theorem dX1_expanded_55 : decode cX1_expanded 55 = .ok (.if_icmp .ne 70, 3) := by decide +kernel
theorem dX1_expanded_58 : decode cX1_expanded 58 = .ok (.aload_n 0, 1) := by decide +kernel
theorem dX1_expanded_59 : decode cX1_expanded 59 = .ok (.iload_n 3, 1) := by decide +kernel
theorem dX1_expanded_60 : decode cX1_expanded 60 = .ok (.iload 7, 2) := by decide +kernel
theorem dX1_expanded_62 : decode cX1_expanded 62 = .ok (.invokevirtual 21, 3) := by decide +kernel
theorem dX1_expanded_65 : decode cX1_expanded 65 = .ok (.i2l, 1) := by decide +kernel
theorem dX1_expanded_66 : decode cX1_expanded 66 = .ok (.aload_n 0, 1) := by decide +kernel
theorem dX1_expanded_67 : decode cX1_expanded 67 = .ok (.iload 4, 2) := by decide +kernel
theorem dX1_expanded_69 : decode cX1_expanded 69 = .ok (.iload_n 2, 1) := by decide +kernel
theorem dX1_expanded_70 : decode cX1_expanded 70 = .ok (.iconst 1, 1) := by decide +kernel
theorem dX1_expanded_71 : decode cX1_expanded 71 = .ok (.iload 7, 2) := by decide +kernel
theorem dX1_expanded_73 : decode cX1_expanded 73 = .ok (.ishl, 1) := by decide +kernel
theorem dX1_expanded_74 : decode cX1_expanded 74 = .ok (.iconst (-1), 1) := by decide +kernel
theorem dX1_expanded_75 : decode cX1_expanded 75 = .ok (.ixor, 1) := by decide +kernel
theorem dX1_expanded_76 : decode cX1_expanded 76 = .ok (.iand, 1) := by decide +kernel
theorem dX1_expanded_77 : decode cX1_expanded 77 = .ok (.invokevirtual 38, 3) := by decide +kernel
theorem dX1_expanded_80 : decode cX1_expanded 80 = .ok (.lmul, 1) := by decide +kernel
theorem dX1_expanded_81 : decode cX1_expanded 81 = .ok (.lstore 8, 2) := by decide +kernel
theorem dX1_expanded_83 : decode cX1_expanded 83 = .ok (.iload_n 2, 1) := by decide +kernel
theorem dX1_expanded_84 : decode cX1_expanded 84 = .ok (.iload 7, 2) := by decide +kernel
theorem dX1_expanded_86 : decode cX1_expanded 86 = .ok (.iconst 1, 1) := by decide +kernel
theorem dX1_expanded_87 : decode cX1_expanded 87 = .ok (.iadd, 1) := by decide +kernel
theorem dX1_expanded_88 : decode cX1_expanded 88 = .ok (.ishr, 1) := by decide +kernel
theorem dX1_expanded_89 : decode cX1_expanded 89 = .ok (.invokestatic 29, 3) := by decide +kernel
theorem dX1_expanded_92 : decode cX1_expanded 92 = .ok (.iconst 1, 1) := by decide +kernel
theorem dX1_expanded_93 : decode cX1_expanded 93 = .ok (.iand, 1) := by decide +kernel
theorem dX1_expanded_94 : decode cX1_expanded 94 = .ok (.iconst 1, 1) := by decide +kernel
theorem dX1_expanded_95 : decode cX1_expanded 95 = .ok (.if_icmp .ne 7, 3) := by decide +kernel
theorem dX1_expanded_98 : decode cX1_expanded 98 = .ok (.iconst 1, 1) := by decide +kernel
theorem dX1_expanded_99 : decode cX1_expanded 99 = .ok (.goto 4, 3) := by decide +kernel
theorem dX1_expanded_102 : decode cX1_expanded 102 = .ok (.iconst 0, 1) := by decide +kernel
theorem dX1_expanded_103 : decode cX1_expanded 103 = .ok (.istore 10, 2) := by decide +kernel
theorem dX1_expanded_105 : decode cX1_expanded 105 = .ok (.iload 10, 2) := by decide +kernel
theorem dX1_expanded_107 : decode cX1_expanded 107 = .ok (.ifCond .eq 11, 3) := by decide +kernel
theorem dX1_expanded_110 : decode cX1_expanded 110 = .ok (.lload 5, 2) := by decide +kernel
theorem dX1_expanded_112 : decode cX1_expanded 112 = .ok (.lload 8, 2) := by decide +kernel
theorem dX1_expanded_114 : decode cX1_expanded 114 = .ok (.lsub, 1) := by decide +kernel
theorem dX1_expanded_115 : decode cX1_expanded 115 = .ok (.goto 8, 3) := by decide +kernel
theorem dX1_expanded_118 : decode cX1_expanded 118 = .ok (.lload 5, 2) := by decide +kernel
theorem dX1_expanded_120 : decode cX1_expanded 120 = .ok (.lload 8, 2) := by decide +kernel
theorem dX1_expanded_122 : decode cX1_expanded 122 = .ok (.ladd, 1) := by decide +kernel
theorem dX1_expanded_123 : decode cX1_expanded 123 = .ok (.lstore 5, 2) := by decide +kernel
theorem dX1_expanded_125 : decode cX1_expanded 125 = .ok (.iinc 7 1, 3) := by decide +kernel
theorem dX1_expanded_128 : decode cX1_expanded 128 = .ok (.goto (-89), 3) := by decide +kernel
theorem dX1_expanded_131 : decode cX1_expanded 131 = .ok (.lload 5, 2) := by decide +kernel
theorem dX1_expanded_133 : decode cX1_expanded 133 = .ok (.lreturn, 1) := by decide +kernel
theorem dX1_wholeMinor_0 : decode cX1_wholeMinor 0 = .ok (.aload_n 0, 1) := by decide +kernel
theorem dX1_wholeMinor_1 : decode cX1_wholeMinor 1 = .ok (.invokevirtual 41, 3) := by decide +kernel
theorem dX1_wholeMinor_4 : decode cX1_wholeMinor 4 = .ok (.iconst 1, 1) := by decide +kernel
theorem dX1_wholeMinor_5 : decode cX1_wholeMinor 5 = .ok (.aload_n 0, 1) := by decide +kernel
theorem dX1_wholeMinor_6 : decode cX1_wholeMinor 6 = .ok (.getfield 7, 3) := by decide +kernel
theorem dX1_wholeMinor_9 : decode cX1_wholeMinor 9 = .ok (.ishl, 1) := by decide +kernel
theorem dX1_wholeMinor_10 : decode cX1_wholeMinor 10 = .ok (.iconst 1, 1) := by decide +kernel
theorem dX1_wholeMinor_11 : decode cX1_wholeMinor 11 = .ok (.isub, 1) := by decide +kernel
theorem dX1_wholeMinor_12 : decode cX1_wholeMinor 12 = .ok (.istore_n 1, 1) := by decide +kernel
theorem dX1_wholeMinor_13 : decode cX1_wholeMinor 13 = .ok (.aload_n 0, 1) := by decide +kernel
theorem dX1_wholeMinor_14 : decode cX1_wholeMinor 14 = .ok (.iload_n 1, 1) := by decide +kernel
theorem dX1_wholeMinor_15 : decode cX1_wholeMinor 15 = .ok (.iload_n 1, 1) := by decide +kernel
theorem dX1_wholeMinor_16 : decode cX1_wholeMinor 16 = .ok (.invokevirtual 38, 3) := by decide +kernel
theorem dX1_wholeMinor_19 : decode cX1_wholeMinor 19 = .ok (.lreturn, 1) := by decide +kernel
theorem dX1_fullRows_0 : decode cX1_fullRows 0 = .ok (.aload_n 0, 1) := by decide +kernel
theorem dX1_fullRows_1 : decode cX1_fullRows 1 = .ok (.invokevirtual 41, 3) := by decide +kernel
theorem dX1_fullRows_4 : decode cX1_fullRows 4 = .ok (.iconst 0, 1) := by decide +kernel
theorem dX1_fullRows_5 : decode cX1_fullRows 5 = .ok (.istore_n 1, 1) := by decide +kernel
theorem dX1_fullRows_6 : decode cX1_fullRows 6 = .ok (.iconst 0, 1) := by decide +kernel
theorem dX1_fullRows_7 : decode cX1_fullRows 7 = .ok (.istore_n 2, 1) := by decide +kernel
theorem dX1_fullRows_8 : decode cX1_fullRows 8 = .ok (.iload_n 2, 1) := by decide +kernel
theorem dX1_fullRows_9 : decode cX1_fullRows 9 = .ok (.bipush 16, 2) := by decide +kernel
theorem dX1_fullRows_11 : decode cX1_fullRows 11 = .ok (.if_icmp .ge 52, 3) := by decide +kernel
theorem dX1_fullRows_14 : decode cX1_fullRows 14 = .ok (.iconst 0, 1) := by decide +kernel
theorem dX1_fullRows_15 : decode cX1_fullRows 15 = .ok (.istore_n 3, 1) := by decide +kernel
theorem dX1_fullRows_16 : decode cX1_fullRows 16 = .ok (.iload_n 3, 1) := by decide +kernel
theorem dX1_fullRows_17 : decode cX1_fullRows 17 = .ok (.bipush 16, 2) := by decide +kernel
theorem dX1_fullRows_19 : decode cX1_fullRows 19 = .ok (.if_icmp .ge 38, 3) := by decide +kernel
theorem dX1_fullRows_22 : decode cX1_fullRows 22 = .ok (.aload_n 0, 1) := by decide +kernel
theorem dX1_fullRows_23 : decode cX1_fullRows 23 = .ok (.iload_n 2, 1) := by decide +kernel
theorem dX1_fullRows_24 : decode cX1_fullRows 24 = .ok (.iload_n 3, 1) := by decide +kernel
theorem dX1_fullRows_25 : decode cX1_fullRows 25 = .ok (.invokevirtual 44, 3) := by decide +kernel
theorem dX1_fullRows_28 : decode cX1_fullRows 28 = .ok (.ifCond .eq 23, 3) := by decide +kernel
theorem dX1_fullRows_31 : decode cX1_fullRows 31 = .ok (.aload_n 0, 1) := by decide +kernel
theorem dX1_fullRows_32 : decode cX1_fullRows 32 = .ok (.iload_n 2, 1) := by decide +kernel
theorem dX1_fullRows_33 : decode cX1_fullRows 33 = .ok (.iload_n 3, 1) := by decide +kernel
theorem dX1_fullRows_34 : decode cX1_fullRows 34 = .ok (.invokevirtual 38, 3) := by decide +kernel
theorem dX1_fullRows_37 : decode cX1_fullRows 37 = .ok (.lconst 0, 1) := by decide +kernel
theorem dX1_fullRows_38 : decode cX1_fullRows 38 = .ok (.lcmp, 1) := by decide +kernel
theorem dX1_fullRows_39 : decode cX1_fullRows 39 = .ok (.ifCond .eq 12, 3) := by decide +kernel
theorem dX1_fullRows_42 : decode cX1_fullRows 42 = .ok (.iload_n 1, 1) := by decide +kernel
theorem dX1_fullRows_43 : decode cX1_fullRows 43 = .ok (.iload_n 2, 1) := by decide +kernel
theorem dX1_fullRows_44 : decode cX1_fullRows 44 = .ok (.invokestatic 29, 3) := by decide +kernel
theorem dX1_fullRows_47 : decode cX1_fullRows 47 = .ok (.invokestatic 48, 3) := by decide +kernel
theorem dX1_fullRows_50 : decode cX1_fullRows 50 = .ok (.istore_n 1, 1) := by decide +kernel
theorem dX1_fullRows_51 : decode cX1_fullRows 51 = .ok (.iinc 3 1, 3) := by decide +kernel
theorem dX1_fullRows_54 : decode cX1_fullRows 54 = .ok (.goto (-38), 3) := by decide +kernel
theorem dX1_fullRows_57 : decode cX1_fullRows 57 = .ok (.iinc 2 1, 3) := by decide +kernel
theorem dX1_fullRows_60 : decode cX1_fullRows 60 = .ok (.goto (-52), 3) := by decide +kernel
theorem dX1_fullRows_63 : decode cX1_fullRows 63 = .ok (.iload_n 1, 1) := by decide +kernel
theorem dX1_fullRows_64 : decode cX1_fullRows 64 = .ok (.ireturn, 1) := by decide +kernel
theorem dX1_isMinor_0 : decode cX1_isMinor 0 = .ok (.iconst 1, 1) := by decide +kernel
theorem dX1_isMinor_1 : decode cX1_isMinor 1 = .ok (.aload_n 0, 1) := by decide +kernel
theorem dX1_isMinor_2 : decode cX1_isMinor 2 = .ok (.getfield 7, 3) := by decide +kernel
theorem dX1_isMinor_5 : decode cX1_isMinor 5 = .ok (.ishl, 1) := by decide +kernel
theorem dX1_isMinor_6 : decode cX1_isMinor 6 = .ok (.istore_n 3, 1) := by decide +kernel
theorem dX1_isMinor_7 : decode cX1_isMinor 7 = .ok (.iload_n 1, 1) := by decide +kernel
theorem dX1_isMinor_8 : decode cX1_isMinor 8 = .ok (.iload_n 3, 1) := by decide +kernel
theorem dX1_isMinor_9 : decode cX1_isMinor 9 = .ok (.if_icmp .ge 23, 3) := by decide +kernel
theorem dX1_isMinor_12 : decode cX1_isMinor 12 = .ok (.iload_n 2, 1) := by decide +kernel
theorem dX1_isMinor_13 : decode cX1_isMinor 13 = .ok (.iload_n 3, 1) := by decide +kernel
theorem dX1_isMinor_14 : decode cX1_isMinor 14 = .ok (.if_icmp .ge 18, 3) := by decide +kernel
theorem dX1_isMinor_17 : decode cX1_isMinor 17 = .ok (.iload_n 1, 1) := by decide +kernel
theorem dX1_isMinor_18 : decode cX1_isMinor 18 = .ok (.invokestatic 29, 3) := by decide +kernel
theorem dX1_isMinor_21 : decode cX1_isMinor 21 = .ok (.iload_n 2, 1) := by decide +kernel
theorem dX1_isMinor_22 : decode cX1_isMinor 22 = .ok (.invokestatic 29, 3) := by decide +kernel
theorem dX1_isMinor_25 : decode cX1_isMinor 25 = .ok (.if_icmp .ne 7, 3) := by decide +kernel
theorem dX1_isMinor_28 : decode cX1_isMinor 28 = .ok (.iconst 1, 1) := by decide +kernel
theorem dX1_isMinor_29 : decode cX1_isMinor 29 = .ok (.goto 4, 3) := by decide +kernel
theorem dX1_isMinor_32 : decode cX1_isMinor 32 = .ok (.iconst 0, 1) := by decide +kernel
theorem dX1_isMinor_33 : decode cX1_isMinor 33 = .ok (.ireturn, 1) := by decide +kernel
theorem dX1_leastExponent_0 : decode cX1_leastExponent 0 = .ok (.iconst (-1), 1) := by decide +kernel
theorem dX1_leastExponent_1 : decode cX1_leastExponent 1 = .ok (.istore_n 3, 1) := by decide +kernel
theorem dX1_leastExponent_2 : decode cX1_leastExponent 2 = .ok (.iconst 0, 1) := by decide +kernel
theorem dX1_leastExponent_3 : decode cX1_leastExponent 3 = .ok (.istore 4, 2) := by decide +kernel
theorem dX1_leastExponent_5 : decode cX1_leastExponent 5 = .ok (.iload 4, 2) := by decide +kernel
theorem dX1_leastExponent_7 : decode cX1_leastExponent 7 = .ok (.bipush 16, 2) := by decide +kernel
theorem dX1_leastExponent_9 : decode cX1_leastExponent 9 = .ok (.if_icmp .ge 86, 3) := by decide +kernel
theorem dX1_leastExponent_12 : decode cX1_leastExponent 12 = .ok (.iconst 0, 1) := by decide +kernel
theorem dX1_leastExponent_13 : decode cX1_leastExponent 13 = .ok (.istore 5, 2) := by decide +kernel
theorem dX1_leastExponent_15 : decode cX1_leastExponent 15 = .ok (.iload 5, 2) := by decide +kernel
theorem dX1_leastExponent_17 : decode cX1_leastExponent 17 = .ok (.bipush 16, 2) := by decide +kernel
theorem dX1_leastExponent_19 : decode cX1_leastExponent 19 = .ok (.if_icmp .ge 70, 3) := by decide +kernel
theorem dX1_leastExponent_22 : decode cX1_leastExponent 22 = .ok (.aload_n 0, 1) := by decide +kernel
theorem dX1_leastExponent_23 : decode cX1_leastExponent 23 = .ok (.iload 4, 2) := by decide +kernel
theorem dX1_leastExponent_25 : decode cX1_leastExponent 25 = .ok (.iload 5, 2) := by decide +kernel
theorem dX1_leastExponent_27 : decode cX1_leastExponent 27 = .ok (.invokevirtual 38, 3) := by decide +kernel
theorem dX1_leastExponent_30 : decode cX1_leastExponent 30 = .ok (.lstore 6, 2) := by decide +kernel
theorem dX1_leastExponent_32 : decode cX1_leastExponent 32 = .ok (.aload_n 0, 1) := by decide +kernel
theorem dX1_leastExponent_33 : decode cX1_leastExponent 33 = .ok (.iload 4, 2) := by decide +kernel
theorem dX1_leastExponent_35 : decode cX1_leastExponent 35 = .ok (.iload 5, 2) := by decide +kernel
theorem dX1_leastExponent_37 : decode cX1_leastExponent 37 = .ok (.invokevirtual 44, 3) := by decide +kernel
theorem dX1_leastExponent_40 : decode cX1_leastExponent 40 = .ok (.ifCond .eq 43, 3) := by decide +kernel
theorem dX1_leastExponent_43 : decode cX1_leastExponent 43 = .ok (.iload 4, 2) := by decide +kernel
theorem dX1_leastExponent_45 : decode cX1_leastExponent 45 = .ok (.invokestatic 29, 3) := by decide +kernel
theorem dX1_leastExponent_48 : decode cX1_leastExponent 48 = .ok (.iload_n 1, 1) := by decide +kernel
theorem dX1_leastExponent_49 : decode cX1_leastExponent 49 = .ok (.if_icmp .ne 34, 3) := by decide +kernel
theorem dX1_leastExponent_52 : decode cX1_leastExponent 52 = .ok (.lload 6, 2) := by decide +kernel
theorem dX1_leastExponent_54 : decode cX1_leastExponent 54 = .ok (.lconst 0, 1) := by decide +kernel
theorem dX1_leastExponent_55 : decode cX1_leastExponent 55 = .ok (.lcmp, 1) := by decide +kernel
theorem dX1_leastExponent_56 : decode cX1_leastExponent 56 = .ok (.ifCond .eq 27, 3) := by decide +kernel
theorem dX1_leastExponent_59 : decode cX1_leastExponent 59 = .ok (.lload 6, 2) := by decide +kernel
theorem dX1_leastExponent_61 : decode cX1_leastExponent 61 = .ok (.iload_n 2, 1) := by decide +kernel
theorem dX1_leastExponent_62 : decode cX1_leastExponent 62 = .ok (.invokestatic 53, 3) := by decide +kernel
theorem dX1_leastExponent_65 : decode cX1_leastExponent 65 = .ok (.istore 8, 2) := by decide +kernel
theorem dX1_leastExponent_67 : decode cX1_leastExponent 67 = .ok (.iload_n 3, 1) := by decide +kernel
theorem dX1_leastExponent_68 : decode cX1_leastExponent 68 = .ok (.ifCond .ge 8, 3) := by decide +kernel
theorem dX1_leastExponent_71 : decode cX1_leastExponent 71 = .ok (.iload 8, 2) := by decide +kernel
theorem dX1_leastExponent_73 : decode cX1_leastExponent 73 = .ok (.goto 9, 3) := by decide +kernel
theorem dX1_leastExponent_76 : decode cX1_leastExponent 76 = .ok (.iload_n 3, 1) := by decide +kernel
theorem dX1_leastExponent_77 : decode cX1_leastExponent 77 = .ok (.iload 8, 2) := by decide +kernel
theorem dX1_leastExponent_79 : decode cX1_leastExponent 79 = .ok (.invokestatic 59, 3) := by decide +kernel
theorem dX1_leastExponent_82 : decode cX1_leastExponent 82 = .ok (.istore_n 3, 1) := by decide +kernel
theorem dX1_leastExponent_83 : decode cX1_leastExponent 83 = .ok (.iinc 5 1, 3) := by decide +kernel
theorem dX1_leastExponent_86 : decode cX1_leastExponent 86 = .ok (.goto (-71), 3) := by decide +kernel
theorem dX1_leastExponent_89 : decode cX1_leastExponent 89 = .ok (.iinc 4 1, 3) := by decide +kernel
theorem dX1_leastExponent_92 : decode cX1_leastExponent 92 = .ok (.goto (-87), 3) := by decide +kernel
theorem dX1_leastExponent_95 : decode cX1_leastExponent 95 = .ok (.iload_n 3, 1) := by decide +kernel
theorem dX1_leastExponent_96 : decode cX1_leastExponent 96 = .ok (.ireturn, 1) := by decide +kernel
theorem dX1_exponentAt_0 : decode cX1_exponentAt 0 = .ok (.aload_n 0, 1) := by decide +kernel
theorem dX1_exponentAt_1 : decode cX1_exponentAt 1 = .ok (.invokevirtual 41, 3) := by decide +kernel
theorem dX1_exponentAt_4 : decode cX1_exponentAt 4 = .ok (.aload_n 0, 1) := by decide +kernel
theorem dX1_exponentAt_5 : decode cX1_exponentAt 5 = .ok (.iload_n 1, 1) := by decide +kernel
theorem dX1_exponentAt_6 : decode cX1_exponentAt 6 = .ok (.iconst 1, 1) := by decide +kernel
theorem dX1_exponentAt_7 : decode cX1_exponentAt 7 = .ok (.iadd, 1) := by decide +kernel
theorem dX1_exponentAt_8 : decode cX1_exponentAt 8 = .ok (.iload_n 2, 1) := by decide +kernel
theorem dX1_exponentAt_9 : decode cX1_exponentAt 9 = .ok (.invokevirtual 62, 3) := by decide +kernel
theorem dX1_exponentAt_12 : decode cX1_exponentAt 12 = .ok (.aload_n 0, 1) := by decide +kernel
theorem dX1_exponentAt_13 : decode cX1_exponentAt 13 = .ok (.iload_n 1, 1) := by decide +kernel
theorem dX1_exponentAt_14 : decode cX1_exponentAt 14 = .ok (.iload_n 2, 1) := by decide +kernel
theorem dX1_exponentAt_15 : decode cX1_exponentAt 15 = .ok (.invokevirtual 62, 3) := by decide +kernel
theorem dX1_exponentAt_18 : decode cX1_exponentAt 18 = .ok (.isub, 1) := by decide +kernel
theorem dX1_exponentAt_19 : decode cX1_exponentAt 19 = .ok (.ireturn, 1) := by decide +kernel
theorem dX1_holdsTogether_0 : decode cX1_holdsTogether 0 = .ok (.aload_n 0, 1) := by decide +kernel
theorem dX1_holdsTogether_1 : decode cX1_holdsTogether 1 = .ok (.invokevirtual 65, 3) := by decide +kernel
theorem dX1_holdsTogether_4 : decode cX1_holdsTogether 4 = .ok (.lstore_n 2, 1) := by decide +kernel
theorem dX1_holdsTogether_5 : decode cX1_holdsTogether 5 = .ok (.lload_n 2, 1) := by decide +kernel
theorem dX1_holdsTogether_6 : decode cX1_holdsTogether 6 = .ok (.lconst 0, 1) := by decide +kernel
theorem dX1_holdsTogether_7 : decode cX1_holdsTogether 7 = .ok (.lcmp, 1) := by decide +kernel
theorem dX1_holdsTogether_8 : decode cX1_holdsTogether 8 = .ok (.ifCond .ne 5, 3) := by decide +kernel
theorem dX1_holdsTogether_11 : decode cX1_holdsTogether 11 = .ok (.iconst 1, 1) := by decide +kernel
theorem dX1_holdsTogether_12 : decode cX1_holdsTogether 12 = .ok (.ireturn, 1) := by decide +kernel
theorem dX1_holdsTogether_13 : decode cX1_holdsTogether 13 = .ok (.iconst 0, 1) := by decide +kernel
theorem dX1_holdsTogether_14 : decode cX1_holdsTogether 14 = .ok (.istore 4, 2) := by decide +kernel
theorem dX1_holdsTogether_16 : decode cX1_holdsTogether 16 = .ok (.iload 4, 2) := by decide +kernel
theorem dX1_holdsTogether_18 : decode cX1_holdsTogether 18 = .ok (.aload_n 0, 1) := by decide +kernel
theorem dX1_holdsTogether_19 : decode cX1_holdsTogether 19 = .ok (.getfield 7, 3) := by decide +kernel
theorem dX1_holdsTogether_22 : decode cX1_holdsTogether 22 = .ok (.if_icmp .ge 54, 3) := by decide +kernel
theorem dX1_holdsTogether_25 : decode cX1_holdsTogether 25 = .ok (.aload_n 0, 1) := by decide +kernel
theorem dX1_holdsTogether_26 : decode cX1_holdsTogether 26 = .ok (.iload 4, 2) := by decide +kernel
theorem dX1_holdsTogether_28 : decode cX1_holdsTogether 28 = .ok (.iload_n 1, 1) := by decide +kernel
theorem dX1_holdsTogether_29 : decode cX1_holdsTogether 29 = .ok (.invokevirtual 69, 3) := by decide +kernel
theorem dX1_holdsTogether_32 : decode cX1_holdsTogether 32 = .ok (.istore 5, 2) := by decide +kernel
theorem dX1_holdsTogether_34 : decode cX1_holdsTogether 34 = .ok (.iconst 0, 1) := by decide +kernel
theorem dX1_holdsTogether_35 : decode cX1_holdsTogether 35 = .ok (.istore 6, 2) := by decide +kernel
theorem dX1_holdsTogether_37 : decode cX1_holdsTogether 37 = .ok (.iload 6, 2) := by decide +kernel
theorem dX1_holdsTogether_39 : decode cX1_holdsTogether 39 = .ok (.iload 5, 2) := by decide +kernel
theorem dX1_holdsTogether_41 : decode cX1_holdsTogether 41 = .ok (.if_icmp .ge 29, 3) := by decide +kernel
theorem dX1_holdsTogether_44 : decode cX1_holdsTogether 44 = .ok (.lload_n 2, 1) := by decide +kernel
theorem dX1_holdsTogether_45 : decode cX1_holdsTogether 45 = .ok (.iload_n 1, 1) := by decide +kernel
theorem dX1_holdsTogether_46 : decode cX1_holdsTogether 46 = .ok (.i2l, 1) := by decide +kernel
theorem dX1_holdsTogether_47 : decode cX1_holdsTogether 47 = .ok (.invokestatic 72, 3) := by decide +kernel
theorem dX1_holdsTogether_50 : decode cX1_holdsTogether 50 = .ok (.lconst 0, 1) := by decide +kernel
theorem dX1_holdsTogether_51 : decode cX1_holdsTogether 51 = .ok (.lcmp, 1) := by decide +kernel
theorem dX1_holdsTogether_52 : decode cX1_holdsTogether 52 = .ok (.ifCond .eq 5, 3) := by decide +kernel
theorem dX1_holdsTogether_55 : decode cX1_holdsTogether 55 = .ok (.iconst 0, 1) := by decide +kernel
theorem dX1_holdsTogether_56 : decode cX1_holdsTogether 56 = .ok (.ireturn, 1) := by decide +kernel
theorem dX1_holdsTogether_57 : decode cX1_holdsTogether 57 = .ok (.lload_n 2, 1) := by decide +kernel
theorem dX1_holdsTogether_58 : decode cX1_holdsTogether 58 = .ok (.iload_n 1, 1) := by decide +kernel
theorem dX1_holdsTogether_59 : decode cX1_holdsTogether 59 = .ok (.i2l, 1) := by decide +kernel
theorem dX1_holdsTogether_60 : decode cX1_holdsTogether 60 = .ok (.invokestatic 76, 3) := by decide +kernel
theorem dX1_holdsTogether_63 : decode cX1_holdsTogether 63 = .ok (.lstore_n 2, 1) := by decide +kernel
theorem dX1_holdsTogether_64 : decode cX1_holdsTogether 64 = .ok (.iinc 6 1, 3) := by decide +kernel
theorem dX1_holdsTogether_67 : decode cX1_holdsTogether 67 = .ok (.goto (-30), 3) := by decide +kernel
theorem dX1_holdsTogether_70 : decode cX1_holdsTogether 70 = .ok (.iinc 4 1, 3) := by decide +kernel
theorem dX1_holdsTogether_73 : decode cX1_holdsTogether 73 = .ok (.goto (-57), 3) := by decide +kernel
theorem dX1_holdsTogether_76 : decode cX1_holdsTogether 76 = .ok (.lload_n 2, 1) := by decide +kernel
theorem dX1_holdsTogether_77 : decode cX1_holdsTogether 77 = .ok (.iload_n 1, 1) := by decide +kernel
theorem dX1_holdsTogether_78 : decode cX1_holdsTogether 78 = .ok (.i2l, 1) := by decide +kernel
theorem dX1_holdsTogether_79 : decode cX1_holdsTogether 79 = .ok (.invokestatic 72, 3) := by decide +kernel
theorem dX1_holdsTogether_82 : decode cX1_holdsTogether 82 = .ok (.lconst 0, 1) := by decide +kernel
theorem dX1_holdsTogether_83 : decode cX1_holdsTogether 83 = .ok (.lcmp, 1) := by decide +kernel
theorem dX1_holdsTogether_84 : decode cX1_holdsTogether 84 = .ok (.ifCond .eq 7, 3) := by decide +kernel
theorem dX1_holdsTogether_87 : decode cX1_holdsTogether 87 = .ok (.iconst 1, 1) := by decide +kernel
theorem dX1_holdsTogether_88 : decode cX1_holdsTogether 88 = .ok (.goto 4, 3) := by decide +kernel
theorem dX1_holdsTogether_91 : decode cX1_holdsTogether 91 = .ok (.iconst 0, 1) := by decide +kernel
theorem dX1_holdsTogether_92 : decode cX1_holdsTogether 92 = .ok (.ireturn, 1) := by decide +kernel
theorem dX2_init_0 : decode cX2_init 0 = .ok (.aload_n 0, 1) := by decide +kernel
theorem dX2_init_1 : decode cX2_init 1 = .ok (.invokespecial 1, 3) := by decide +kernel
theorem dX2_init_4 : decode cX2_init 4 = .ok (.aload_n 0, 1) := by decide +kernel
theorem dX2_init_5 : decode cX2_init 5 = .ok (.bipush 30, 2) := by decide +kernel
theorem dX2_init_7 : decode cX2_init 7 = .ok (.newarray .long, 2) := by decide +kernel
theorem dX2_init_9 : decode cX2_init 9 = .ok (.putfield 9, 3) := by decide +kernel
theorem dX2_init_12 : decode cX2_init 12 = .ok (.aload_n 0, 1) := by decide +kernel
theorem dX2_init_13 : decode cX2_init 13 = .ok (.iconst 5, 1) := by decide +kernel
theorem dX2_init_14 : decode cX2_init 14 = .ok (.invokevirtual 13, 3) := by decide +kernel
theorem dX2_init_17 : decode cX2_init 17 = .ok (.return_, 1) := by decide +kernel
theorem dX2_turnTo_0 : decode cX2_turnTo 0 = .ok (.aload_n 0, 1) := by decide +kernel
theorem dX2_turnTo_1 : decode cX2_turnTo 1 = .ok (.iload_n 1, 1) := by decide +kernel
theorem dX2_turnTo_2 : decode cX2_turnTo 2 = .ok (.putfield 17, 3) := by decide +kernel
theorem dX2_turnTo_5 : decode cX2_turnTo 5 = .ok (.aload_n 0, 1) := by decide +kernel
theorem dX2_turnTo_6 : decode cX2_turnTo 6 = .ok (.iconst 0, 1) := by decide +kernel
theorem dX2_turnTo_7 : decode cX2_turnTo 7 = .ok (.putfield 21, 3) := by decide +kernel
theorem dX2_turnTo_10 : decode cX2_turnTo 10 = .ok (.lconst 1, 1) := by decide +kernel
theorem dX2_turnTo_11 : decode cX2_turnTo 11 = .ok (.lstore_n 2, 1) := by decide +kernel
theorem dX2_turnTo_12 : decode cX2_turnTo 12 = .ok (.iconst 0, 1) := by decide +kernel
theorem dX2_turnTo_13 : decode cX2_turnTo 13 = .ok (.istore 4, 2) := by decide +kernel
theorem dX2_turnTo_15 : decode cX2_turnTo 15 = .ok (.iload 4, 2) := by decide +kernel
theorem dX2_turnTo_17 : decode cX2_turnTo 17 = .ok (.aload_n 0, 1) := by decide +kernel
theorem dX2_turnTo_18 : decode cX2_turnTo 18 = .ok (.getfield 9, 3) := by decide +kernel
theorem dX2_turnTo_21 : decode cX2_turnTo 21 = .ok (.arraylength, 1) := by decide +kernel
theorem dX2_turnTo_22 : decode cX2_turnTo 22 = .ok (.if_icmp .ge 36, 3) := by decide +kernel
theorem dX2_turnTo_25 : decode cX2_turnTo 25 = .ok (.lload_n 2, 1) := by decide +kernel
theorem dX2_turnTo_26 : decode cX2_turnTo 26 = .ok (.ldc2_w 24, 3) := by decide +kernel
theorem dX2_turnTo_29 : decode cX2_turnTo 29 = .ok (.lcmp, 1) := by decide +kernel
theorem dX2_turnTo_30 : decode cX2_turnTo 30 = .ok (.ifCond .gt 28, 3) := by decide +kernel
theorem dX2_turnTo_33 : decode cX2_turnTo 33 = .ok (.aload_n 0, 1) := by decide +kernel
theorem dX2_turnTo_34 : decode cX2_turnTo 34 = .ok (.getfield 9, 3) := by decide +kernel
theorem dX2_turnTo_37 : decode cX2_turnTo 37 = .ok (.iload 4, 2) := by decide +kernel
theorem dX2_turnTo_39 : decode cX2_turnTo 39 = .ok (.lload_n 2, 1) := by decide +kernel
theorem dX2_turnTo_40 : decode cX2_turnTo 40 = .ok (.lastore, 1) := by decide +kernel
theorem dX2_turnTo_41 : decode cX2_turnTo 41 = .ok (.aload_n 0, 1) := by decide +kernel
theorem dX2_turnTo_42 : decode cX2_turnTo 42 = .ok (.iload 4, 2) := by decide +kernel
theorem dX2_turnTo_44 : decode cX2_turnTo 44 = .ok (.putfield 21, 3) := by decide +kernel
theorem dX2_turnTo_47 : decode cX2_turnTo 47 = .ok (.lload_n 2, 1) := by decide +kernel
theorem dX2_turnTo_48 : decode cX2_turnTo 48 = .ok (.iload_n 1, 1) := by decide +kernel
theorem dX2_turnTo_49 : decode cX2_turnTo 49 = .ok (.i2l, 1) := by decide +kernel
theorem dX2_turnTo_50 : decode cX2_turnTo 50 = .ok (.lmul, 1) := by decide +kernel
theorem dX2_turnTo_51 : decode cX2_turnTo 51 = .ok (.lstore_n 2, 1) := by decide +kernel
theorem dX2_turnTo_52 : decode cX2_turnTo 52 = .ok (.iinc 4 1, 3) := by decide +kernel
theorem dX2_turnTo_55 : decode cX2_turnTo 55 = .ok (.goto (-40), 3) := by decide +kernel
theorem dX2_turnTo_58 : decode cX2_turnTo 58 = .ok (.return_, 1) := by decide +kernel
theorem dX2_power_0 : decode cX2_power 0 = .ok (.iconst 0, 1) := by decide +kernel
theorem dX2_power_1 : decode cX2_power 1 = .ok (.iload_n 1, 1) := by decide +kernel
theorem dX2_power_2 : decode cX2_power 2 = .ok (.aload_n 0, 1) := by decide +kernel
theorem dX2_power_3 : decode cX2_power 3 = .ok (.getfield 21, 3) := by decide +kernel
theorem dX2_power_6 : decode cX2_power 6 = .ok (.invokestatic 26, 3) := by decide +kernel
theorem dX2_power_9 : decode cX2_power 9 = .ok (.invokestatic 32, 3) := by decide +kernel
theorem dX2_power_12 : decode cX2_power 12 = .ok (.istore_n 2, 1) := by decide +kernel
theorem dX2_power_13 : decode cX2_power 13 = .ok (.iload_n 2, 1) := by decide +kernel
theorem dX2_power_14 : decode cX2_power 14 = .ok (.aload_n 0, 1) := by decide +kernel
theorem dX2_power_15 : decode cX2_power 15 = .ok (.getfield 9, 3) := by decide +kernel
theorem dX2_power_18 : decode cX2_power 18 = .ok (.arraylength, 1) := by decide +kernel
theorem dX2_power_19 : decode cX2_power 19 = .ok (.if_icmp .ge 12, 3) := by decide +kernel
theorem dX2_power_22 : decode cX2_power 22 = .ok (.aload_n 0, 1) := by decide +kernel
theorem dX2_power_23 : decode cX2_power 23 = .ok (.getfield 9, 3) := by decide +kernel
theorem dX2_power_26 : decode cX2_power 26 = .ok (.iload_n 2, 1) := by decide +kernel
theorem dX2_power_27 : decode cX2_power 27 = .ok (.laload, 1) := by decide +kernel
theorem dX2_power_28 : decode cX2_power 28 = .ok (.goto 4, 3) := by decide +kernel
theorem dX2_power_31 : decode cX2_power 31 = .ok (.lconst 1, 1) := by decide +kernel
theorem dX2_power_32 : decode cX2_power 32 = .ok (.lreturn, 1) := by decide +kernel
theorem dX3_init_0 : decode cX3_init 0 = .ok (.aload_n 0, 1) := by decide +kernel
theorem dX3_init_1 : decode cX3_init 1 = .ok (.invokespecial 1, 3) := by decide +kernel
theorem dX3_init_4 : decode cX3_init 4 = .ok (.aload_n 0, 1) := by decide +kernel
theorem dX3_init_5 : decode cX3_init 5 = .ok (.iconst 0, 1) := by decide +kernel
theorem dX3_init_6 : decode cX3_init 6 = .ok (.putfield 9, 3) := by decide +kernel
theorem dX3_init_9 : decode cX3_init 9 = .ok (.aload_n 0, 1) := by decide +kernel
theorem dX3_init_10 : decode cX3_init 10 = .ok (.iconst (-1), 1) := by decide +kernel
theorem dX3_init_11 : decode cX3_init 11 = .ok (.putfield 13, 3) := by decide +kernel
theorem dX3_init_14 : decode cX3_init 14 = .ok (.aload_n 0, 1) := by decide +kernel
theorem dX3_init_15 : decode cX3_init 15 = .ok (.iconst (-1), 1) := by decide +kernel
theorem dX3_init_16 : decode cX3_init 16 = .ok (.putfield 16, 3) := by decide +kernel
theorem dX3_init_19 : decode cX3_init 19 = .ok (.return_, 1) := by decide +kernel
theorem dX3_isNothing_0 : decode cX3_isNothing 0 = .ok (.aload_n 0, 1) := by decide +kernel
theorem dX3_isNothing_1 : decode cX3_isNothing 1 = .ok (.getfield 19, 3) := by decide +kernel
theorem dX3_isNothing_4 : decode cX3_isNothing 4 = .ok (.aload_n 0, 1) := by decide +kernel
theorem dX3_isNothing_5 : decode cX3_isNothing 5 = .ok (.getfield 22, 3) := by decide +kernel
theorem dX3_isNothing_8 : decode cX3_isNothing 8 = .ok (.if_icmp .lt 7, 3) := by decide +kernel
theorem dX3_isNothing_11 : decode cX3_isNothing 11 = .ok (.iconst 1, 1) := by decide +kernel
theorem dX3_isNothing_12 : decode cX3_isNothing 12 = .ok (.goto 4, 3) := by decide +kernel
theorem dX3_isNothing_15 : decode cX3_isNothing 15 = .ok (.iconst 0, 1) := by decide +kernel
theorem dX3_isNothing_16 : decode cX3_isNothing 16 = .ok (.ireturn, 1) := by decide +kernel
theorem dX3_hasWholeDigits_0 : decode cX3_hasWholeDigits 0 = .ok (.aload_n 0, 1) := by decide +kernel
theorem dX3_hasWholeDigits_1 : decode cX3_hasWholeDigits 1 = .ok (.getfield 19, 3) := by decide +kernel
theorem dX3_hasWholeDigits_4 : decode cX3_hasWholeDigits 4 = .ok (.ifCond .lt 14, 3) := by decide +kernel
theorem dX3_hasWholeDigits_7 : decode cX3_hasWholeDigits 7 = .ok (.aload_n 0, 1) := by decide +kernel
theorem dX3_hasWholeDigits_8 : decode cX3_hasWholeDigits 8 = .ok (.getfield 22, 3) := by decide +kernel
theorem dX3_hasWholeDigits_11 : decode cX3_hasWholeDigits 11 = .ok (.ifCond .le 7, 3) := by decide +kernel
theorem dX3_hasWholeDigits_14 : decode cX3_hasWholeDigits 14 = .ok (.iconst 1, 1) := by decide +kernel
theorem dX3_hasWholeDigits_15 : decode cX3_hasWholeDigits 15 = .ok (.goto 4, 3) := by decide +kernel
theorem dX3_hasWholeDigits_18 : decode cX3_hasWholeDigits 18 = .ok (.iconst 0, 1) := by decide +kernel
theorem dX3_hasWholeDigits_19 : decode cX3_hasWholeDigits 19 = .ok (.ireturn, 1) := by decide +kernel
theorem dX3_isMadeOfOthers_0 : decode cX3_isMadeOfOthers 0 = .ok (.aload_n 0, 1) := by decide +kernel
theorem dX3_isMadeOfOthers_1 : decode cX3_isMadeOfOthers 1 = .ok (.getfield 9, 3) := by decide +kernel
theorem dX3_isMadeOfOthers_4 : decode cX3_isMadeOfOthers 4 = .ok (.ifCond .eq 16, 3) := by decide +kernel
theorem dX3_isMadeOfOthers_7 : decode cX3_isMadeOfOthers 7 = .ok (.aload_n 0, 1) := by decide +kernel
theorem dX3_isMadeOfOthers_8 : decode cX3_isMadeOfOthers 8 = .ok (.getfield 9, 3) := by decide +kernel
theorem dX3_isMadeOfOthers_11 : decode cX3_isMadeOfOthers 11 = .ok (.bipush 7, 2) := by decide +kernel
theorem dX3_isMadeOfOthers_13 : decode cX3_isMadeOfOthers 13 = .ok (.if_icmp .eq 7, 3) := by decide +kernel
theorem dX3_isMadeOfOthers_16 : decode cX3_isMadeOfOthers 16 = .ok (.iconst 1, 1) := by decide +kernel
theorem dX3_isMadeOfOthers_17 : decode cX3_isMadeOfOthers 17 = .ok (.goto 4, 3) := by decide +kernel
theorem dX3_isMadeOfOthers_20 : decode cX3_isMadeOfOthers 20 = .ok (.iconst 0, 1) := by decide +kernel
theorem dX3_isMadeOfOthers_21 : decode cX3_isMadeOfOthers 21 = .ok (.ireturn, 1) := by decide +kernel
theorem dX3_become_0 : decode cX3_become 0 = .ok (.aload_n 0, 1) := by decide +kernel
theorem dX3_become_1 : decode cX3_become 1 = .ok (.iload_n 1, 1) := by decide +kernel
theorem dX3_become_2 : decode cX3_become 2 = .ok (.putfield 9, 3) := by decide +kernel
theorem dX3_become_5 : decode cX3_become 5 = .ok (.aload_n 0, 1) := by decide +kernel
theorem dX3_become_6 : decode cX3_become 6 = .ok (.iload_n 2, 1) := by decide +kernel
theorem dX3_become_7 : decode cX3_become 7 = .ok (.putfield 13, 3) := by decide +kernel
theorem dX3_become_10 : decode cX3_become 10 = .ok (.aload_n 0, 1) := by decide +kernel
theorem dX3_become_11 : decode cX3_become 11 = .ok (.iload_n 3, 1) := by decide +kernel
theorem dX3_become_12 : decode cX3_become 12 = .ok (.putfield 16, 3) := by decide +kernel
theorem dX3_become_15 : decode cX3_become 15 = .ok (.return_, 1) := by decide +kernel
theorem dX3_keepEarly_0 : decode cX3_keepEarly 0 = .ok (.aload_n 0, 1) := by decide +kernel
theorem dX3_keepEarly_1 : decode cX3_keepEarly 1 = .ok (.aload_n 0, 1) := by decide +kernel
theorem dX3_keepEarly_2 : decode cX3_keepEarly 2 = .ok (.getfield 19, 3) := by decide +kernel
theorem dX3_keepEarly_5 : decode cX3_keepEarly 5 = .ok (.putfield 25, 3) := by decide +kernel
theorem dX3_keepEarly_8 : decode cX3_keepEarly 8 = .ok (.aload_n 0, 1) := by decide +kernel
theorem dX3_keepEarly_9 : decode cX3_keepEarly 9 = .ok (.aload_n 0, 1) := by decide +kernel
theorem dX3_keepEarly_10 : decode cX3_keepEarly 10 = .ok (.getfield 22, 3) := by decide +kernel
theorem dX3_keepEarly_13 : decode cX3_keepEarly 13 = .ok (.putfield 28, 3) := by decide +kernel
theorem dX3_keepEarly_16 : decode cX3_keepEarly 16 = .ok (.aload_n 0, 1) := by decide +kernel
theorem dX3_keepEarly_17 : decode cX3_keepEarly 17 = .ok (.aload_n 0, 1) := by decide +kernel
theorem dX3_keepEarly_18 : decode cX3_keepEarly 18 = .ok (.getfield 31, 3) := by decide +kernel
theorem dX3_keepEarly_21 : decode cX3_keepEarly 21 = .ok (.putfield 35, 3) := by decide +kernel
theorem dX3_keepEarly_24 : decode cX3_keepEarly 24 = .ok (.return_, 1) := by decide +kernel
theorem dX3_copyEarlyOf_0 : decode cX3_copyEarlyOf 0 = .ok (.aload_n 0, 1) := by decide +kernel
theorem dX3_copyEarlyOf_1 : decode cX3_copyEarlyOf 1 = .ok (.aload_n 1, 1) := by decide +kernel
theorem dX3_copyEarlyOf_2 : decode cX3_copyEarlyOf 2 = .ok (.getfield 25, 3) := by decide +kernel
theorem dX3_copyEarlyOf_5 : decode cX3_copyEarlyOf 5 = .ok (.putfield 19, 3) := by decide +kernel
theorem dX3_copyEarlyOf_8 : decode cX3_copyEarlyOf 8 = .ok (.aload_n 0, 1) := by decide +kernel
theorem dX3_copyEarlyOf_9 : decode cX3_copyEarlyOf 9 = .ok (.aload_n 1, 1) := by decide +kernel
theorem dX3_copyEarlyOf_10 : decode cX3_copyEarlyOf 10 = .ok (.getfield 28, 3) := by decide +kernel
theorem dX3_copyEarlyOf_13 : decode cX3_copyEarlyOf 13 = .ok (.putfield 22, 3) := by decide +kernel
theorem dX3_copyEarlyOf_16 : decode cX3_copyEarlyOf 16 = .ok (.aload_n 0, 1) := by decide +kernel
theorem dX3_copyEarlyOf_17 : decode cX3_copyEarlyOf 17 = .ok (.aload_n 1, 1) := by decide +kernel
theorem dX3_copyEarlyOf_18 : decode cX3_copyEarlyOf 18 = .ok (.getfield 35, 3) := by decide +kernel
theorem dX3_copyEarlyOf_21 : decode cX3_copyEarlyOf 21 = .ok (.putfield 31, 3) := by decide +kernel
theorem dX3_copyEarlyOf_24 : decode cX3_copyEarlyOf 24 = .ok (.return_, 1) := by decide +kernel
theorem dX3_isLike_0 : decode cX3_isLike 0 = .ok (.aload_n 0, 1) := by decide +kernel
theorem dX3_isLike_1 : decode cX3_isLike 1 = .ok (.getfield 19, 3) := by decide +kernel
theorem dX3_isLike_4 : decode cX3_isLike 4 = .ok (.aload_n 1, 1) := by decide +kernel
theorem dX3_isLike_5 : decode cX3_isLike 5 = .ok (.getfield 19, 3) := by decide +kernel
theorem dX3_isLike_8 : decode cX3_isLike 8 = .ok (.if_icmp .ne 30, 3) := by decide +kernel
theorem dX3_isLike_11 : decode cX3_isLike 11 = .ok (.aload_n 0, 1) := by decide +kernel
theorem dX3_isLike_12 : decode cX3_isLike 12 = .ok (.getfield 22, 3) := by decide +kernel
theorem dX3_isLike_15 : decode cX3_isLike 15 = .ok (.aload_n 1, 1) := by decide +kernel
theorem dX3_isLike_16 : decode cX3_isLike 16 = .ok (.getfield 22, 3) := by decide +kernel
theorem dX3_isLike_19 : decode cX3_isLike 19 = .ok (.if_icmp .ne 19, 3) := by decide +kernel
theorem dX3_isLike_22 : decode cX3_isLike 22 = .ok (.aload_n 0, 1) := by decide +kernel
theorem dX3_isLike_23 : decode cX3_isLike 23 = .ok (.getfield 31, 3) := by decide +kernel
theorem dX3_isLike_26 : decode cX3_isLike 26 = .ok (.aload_n 1, 1) := by decide +kernel
theorem dX3_isLike_27 : decode cX3_isLike 27 = .ok (.getfield 31, 3) := by decide +kernel
theorem dX3_isLike_30 : decode cX3_isLike 30 = .ok (.lcmp, 1) := by decide +kernel
theorem dX3_isLike_31 : decode cX3_isLike 31 = .ok (.ifCond .ne 7, 3) := by decide +kernel
theorem dX3_isLike_34 : decode cX3_isLike 34 = .ok (.iconst 1, 1) := by decide +kernel
theorem dX3_isLike_35 : decode cX3_isLike 35 = .ok (.goto 4, 3) := by decide +kernel
theorem dX3_isLike_38 : decode cX3_isLike 38 = .ok (.iconst 0, 1) := by decide +kernel
theorem dX3_isLike_39 : decode cX3_isLike 39 = .ok (.ireturn, 1) := by decide +kernel
theorem dX4_init_0 : decode cX4_init 0 = .ok (.aload_n 0, 1) := by decide +kernel
theorem dX4_init_1 : decode cX4_init 1 = .ok (.invokespecial 1, 3) := by decide +kernel
theorem dX4_init_4 : decode cX4_init 4 = .ok (.aload_n 0, 1) := by decide +kernel
theorem dX4_init_5 : decode cX4_init 5 = .ok (.bipush 7, 2) := by decide +kernel
theorem dX4_init_7 : decode cX4_init 7 = .ok (.newarray .int, 2) := by decide +kernel
theorem dX4_init_9 : decode cX4_init 9 = .ok (.putfield 9, 3) := by decide +kernel
theorem dX4_init_12 : decode cX4_init 12 = .ok (.return_, 1) := by decide +kernel
theorem dX4_append_0 : decode cX4_append 0 = .ok (.iload_n 1, 1) := by decide +kernel
theorem dX4_append_1 : decode cX4_append 1 = .ok (.ifCond .lt 26, 3) := by decide +kernel
theorem dX4_append_4 : decode cX4_append 4 = .ok (.iload_n 1, 1) := by decide +kernel
theorem dX4_append_5 : decode cX4_append 5 = .ok (.aload_n 0, 1) := by decide +kernel
theorem dX4_append_6 : decode cX4_append 6 = .ok (.getfield 9, 3) := by decide +kernel
theorem dX4_append_9 : decode cX4_append 9 = .ok (.arraylength, 1) := by decide +kernel
theorem dX4_append_10 : decode cX4_append 10 = .ok (.if_icmp .ge 17, 3) := by decide +kernel
theorem dX4_append_13 : decode cX4_append 13 = .ok (.aload_n 0, 1) := by decide +kernel
theorem dX4_append_14 : decode cX4_append 14 = .ok (.getfield 9, 3) := by decide +kernel
theorem dX4_append_17 : decode cX4_append 17 = .ok (.iload_n 1, 1) := by decide +kernel
theorem dX4_append_18 : decode cX4_append 18 = .ok (.iload_n 2, 1) := by decide +kernel
theorem dX4_append_19 : decode cX4_append 19 = .ok (.iastore, 1) := by decide +kernel
theorem dX4_append_20 : decode cX4_append 20 = .ok (.aload_n 0, 1) := by decide +kernel
theorem dX4_append_21 : decode cX4_append 21 = .ok (.iload_n 1, 1) := by decide +kernel
theorem dX4_append_22 : decode cX4_append 22 = .ok (.iconst 1, 1) := by decide +kernel
theorem dX4_append_23 : decode cX4_append 23 = .ok (.iadd, 1) := by decide +kernel
theorem dX4_append_24 : decode cX4_append 24 = .ok (.putfield 13, 3) := by decide +kernel
theorem dX4_append_27 : decode cX4_append 27 = .ok (.return_, 1) := by decide +kernel
theorem dX4_termCount_0 : decode cX4_termCount 0 = .ok (.iconst 0, 1) := by decide +kernel
theorem dX4_termCount_1 : decode cX4_termCount 1 = .ok (.istore_n 1, 1) := by decide +kernel
theorem dX4_termCount_2 : decode cX4_termCount 2 = .ok (.iconst 0, 1) := by decide +kernel
theorem dX4_termCount_3 : decode cX4_termCount 3 = .ok (.istore_n 2, 1) := by decide +kernel
theorem dX4_termCount_4 : decode cX4_termCount 4 = .ok (.iload_n 2, 1) := by decide +kernel
theorem dX4_termCount_5 : decode cX4_termCount 5 = .ok (.aload_n 0, 1) := by decide +kernel
theorem dX4_termCount_6 : decode cX4_termCount 6 = .ok (.getfield 9, 3) := by decide +kernel
theorem dX4_termCount_9 : decode cX4_termCount 9 = .ok (.arraylength, 1) := by decide +kernel
theorem dX4_termCount_10 : decode cX4_termCount 10 = .ok (.if_icmp .ge 21, 3) := by decide +kernel
theorem dX4_termCount_13 : decode cX4_termCount 13 = .ok (.aload_n 0, 1) := by decide +kernel
theorem dX4_termCount_14 : decode cX4_termCount 14 = .ok (.getfield 9, 3) := by decide +kernel
theorem dX4_termCount_17 : decode cX4_termCount 17 = .ok (.iload_n 2, 1) := by decide +kernel
theorem dX4_termCount_18 : decode cX4_termCount 18 = .ok (.iaload, 1) := by decide +kernel
theorem dX4_termCount_19 : decode cX4_termCount 19 = .ok (.ifCond .eq 6, 3) := by decide +kernel
theorem dX4_termCount_22 : decode cX4_termCount 22 = .ok (.iinc 1 1, 3) := by decide +kernel
theorem dX4_termCount_25 : decode cX4_termCount 25 = .ok (.iinc 2 1, 3) := by decide +kernel
theorem dX4_termCount_28 : decode cX4_termCount 28 = .ok (.goto (-24), 3) := by decide +kernel
theorem dX4_termCount_31 : decode cX4_termCount 31 = .ok (.iload_n 1, 1) := by decide +kernel
theorem dX4_termCount_32 : decode cX4_termCount 32 = .ok (.ireturn, 1) := by decide +kernel
theorem dX4_heightAt_0 : decode cX4_heightAt 0 = .ok (.iload_n 1, 1) := by decide +kernel
theorem dX4_heightAt_1 : decode cX4_heightAt 1 = .ok (.ifCond .lt 12, 3) := by decide +kernel
theorem dX4_heightAt_4 : decode cX4_heightAt 4 = .ok (.iload_n 1, 1) := by decide +kernel
theorem dX4_heightAt_5 : decode cX4_heightAt 5 = .ok (.aload_n 0, 1) := by decide +kernel
theorem dX4_heightAt_6 : decode cX4_heightAt 6 = .ok (.getfield 9, 3) := by decide +kernel
theorem dX4_heightAt_9 : decode cX4_heightAt 9 = .ok (.arraylength, 1) := by decide +kernel
theorem dX4_heightAt_10 : decode cX4_heightAt 10 = .ok (.if_icmp .lt 5, 3) := by decide +kernel
theorem dX4_heightAt_13 : decode cX4_heightAt 13 = .ok (.iconst 0, 1) := by decide +kernel
theorem dX4_heightAt_14 : decode cX4_heightAt 14 = .ok (.ireturn, 1) := by decide +kernel
theorem dX4_heightAt_15 : decode cX4_heightAt 15 = .ok (.aload_n 0, 1) := by decide +kernel
theorem dX4_heightAt_16 : decode cX4_heightAt 16 = .ok (.getfield 9, 3) := by decide +kernel
theorem dX4_heightAt_19 : decode cX4_heightAt 19 = .ok (.iload_n 1, 1) := by decide +kernel
theorem dX4_heightAt_20 : decode cX4_heightAt 20 = .ok (.iaload, 1) := by decide +kernel
theorem dX4_heightAt_21 : decode cX4_heightAt 21 = .ok (.i2l, 1) := by decide +kernel
theorem dX4_heightAt_22 : decode cX4_heightAt 22 = .ok (.iload_n 2, 1) := by decide +kernel
theorem dX4_heightAt_23 : decode cX4_heightAt 23 = .ok (.invokestatic 17, 3) := by decide +kernel
theorem dX4_heightAt_26 : decode cX4_heightAt 26 = .ok (.ireturn, 1) := by decide +kernel
theorem dX4_sideEnd_0 : decode cX4_sideEnd 0 = .ok (.iload_n 1, 1) := by decide +kernel
theorem dX4_sideEnd_1 : decode cX4_sideEnd 1 = .ok (.istore_n 3, 1) := by decide +kernel
theorem dX4_sideEnd_2 : decode cX4_sideEnd 2 = .ok (.aload_n 0, 1) := by decide +kernel
theorem dX4_sideEnd_3 : decode cX4_sideEnd 3 = .ok (.iload_n 1, 1) := by decide +kernel
theorem dX4_sideEnd_4 : decode cX4_sideEnd 4 = .ok (.iload_n 2, 1) := by decide +kernel
theorem dX4_sideEnd_5 : decode cX4_sideEnd 5 = .ok (.invokevirtual 23, 3) := by decide +kernel
theorem dX4_sideEnd_8 : decode cX4_sideEnd 8 = .ok (.istore 4, 2) := by decide +kernel
theorem dX4_sideEnd_10 : decode cX4_sideEnd 10 = .ok (.iload_n 1, 1) := by decide +kernel
theorem dX4_sideEnd_11 : decode cX4_sideEnd 11 = .ok (.iconst 1, 1) := by decide +kernel
theorem dX4_sideEnd_12 : decode cX4_sideEnd 12 = .ok (.iadd, 1) := by decide +kernel
theorem dX4_sideEnd_13 : decode cX4_sideEnd 13 = .ok (.istore 5, 2) := by decide +kernel
theorem dX4_sideEnd_15 : decode cX4_sideEnd 15 = .ok (.iload 5, 2) := by decide +kernel
theorem dX4_sideEnd_17 : decode cX4_sideEnd 17 = .ok (.aload_n 0, 1) := by decide +kernel
theorem dX4_sideEnd_18 : decode cX4_sideEnd 18 = .ok (.getfield 13, 3) := by decide +kernel
theorem dX4_sideEnd_21 : decode cX4_sideEnd 21 = .ok (.if_icmp .ge 76, 3) := by decide +kernel
theorem dX4_sideEnd_24 : decode cX4_sideEnd 24 = .ok (.iload 5, 2) := by decide +kernel
theorem dX4_sideEnd_26 : decode cX4_sideEnd 26 = .ok (.aload_n 0, 1) := by decide +kernel
theorem dX4_sideEnd_27 : decode cX4_sideEnd 27 = .ok (.getfield 9, 3) := by decide +kernel
theorem dX4_sideEnd_30 : decode cX4_sideEnd 30 = .ok (.arraylength, 1) := by decide +kernel
theorem dX4_sideEnd_31 : decode cX4_sideEnd 31 = .ok (.if_icmp .ge 66, 3) := by decide +kernel
theorem dX4_sideEnd_34 : decode cX4_sideEnd 34 = .ok (.aload_n 0, 1) := by decide +kernel
theorem dX4_sideEnd_35 : decode cX4_sideEnd 35 = .ok (.getfield 9, 3) := by decide +kernel
theorem dX4_sideEnd_38 : decode cX4_sideEnd 38 = .ok (.iload 5, 2) := by decide +kernel
theorem dX4_sideEnd_40 : decode cX4_sideEnd 40 = .ok (.iaload, 1) := by decide +kernel
theorem dX4_sideEnd_41 : decode cX4_sideEnd 41 = .ok (.ifCond .eq 50, 3) := by decide +kernel
theorem dX4_sideEnd_44 : decode cX4_sideEnd 44 = .ok (.aload_n 0, 1) := by decide +kernel
theorem dX4_sideEnd_45 : decode cX4_sideEnd 45 = .ok (.iload 5, 2) := by decide +kernel
theorem dX4_sideEnd_47 : decode cX4_sideEnd 47 = .ok (.iload_n 2, 1) := by decide +kernel
theorem dX4_sideEnd_48 : decode cX4_sideEnd 48 = .ok (.invokevirtual 23, 3) := by decide +kernel
theorem dX4_sideEnd_51 : decode cX4_sideEnd 51 = .ok (.iload 4, 2) := by decide +kernel
theorem dX4_sideEnd_53 : decode cX4_sideEnd 53 = .ok (.isub, 1) := by decide +kernel
theorem dX4_sideEnd_54 : decode cX4_sideEnd 54 = .ok (.istore 6, 2) := by decide +kernel
theorem dX4_sideEnd_56 : decode cX4_sideEnd 56 = .ok (.aload_n 0, 1) := by decide +kernel
theorem dX4_sideEnd_57 : decode cX4_sideEnd 57 = .ok (.iload_n 3, 1) := by decide +kernel
theorem dX4_sideEnd_58 : decode cX4_sideEnd 58 = .ok (.iload_n 2, 1) := by decide +kernel
theorem dX4_sideEnd_59 : decode cX4_sideEnd 59 = .ok (.invokevirtual 23, 3) := by decide +kernel
theorem dX4_sideEnd_62 : decode cX4_sideEnd 62 = .ok (.iload 4, 2) := by decide +kernel
theorem dX4_sideEnd_64 : decode cX4_sideEnd 64 = .ok (.isub, 1) := by decide +kernel
theorem dX4_sideEnd_65 : decode cX4_sideEnd 65 = .ok (.istore 7, 2) := by decide +kernel
theorem dX4_sideEnd_67 : decode cX4_sideEnd 67 = .ok (.iload_n 3, 1) := by decide +kernel
theorem dX4_sideEnd_68 : decode cX4_sideEnd 68 = .ok (.iload_n 1, 1) := by decide +kernel
theorem dX4_sideEnd_69 : decode cX4_sideEnd 69 = .ok (.if_icmp .eq 19, 3) := by decide +kernel
theorem dX4_sideEnd_72 : decode cX4_sideEnd 72 = .ok (.iload 6, 2) := by decide +kernel
theorem dX4_sideEnd_74 : decode cX4_sideEnd 74 = .ok (.iload_n 3, 1) := by decide +kernel
theorem dX4_sideEnd_75 : decode cX4_sideEnd 75 = .ok (.iload_n 1, 1) := by decide +kernel
theorem dX4_sideEnd_76 : decode cX4_sideEnd 76 = .ok (.isub, 1) := by decide +kernel
theorem dX4_sideEnd_77 : decode cX4_sideEnd 77 = .ok (.imul, 1) := by decide +kernel
theorem dX4_sideEnd_78 : decode cX4_sideEnd 78 = .ok (.iload 7, 2) := by decide +kernel
theorem dX4_sideEnd_80 : decode cX4_sideEnd 80 = .ok (.iload 5, 2) := by decide +kernel
theorem dX4_sideEnd_82 : decode cX4_sideEnd 82 = .ok (.iload_n 1, 1) := by decide +kernel
theorem dX4_sideEnd_83 : decode cX4_sideEnd 83 = .ok (.isub, 1) := by decide +kernel
theorem dX4_sideEnd_84 : decode cX4_sideEnd 84 = .ok (.imul, 1) := by decide +kernel
theorem dX4_sideEnd_85 : decode cX4_sideEnd 85 = .ok (.if_icmp .gt 6, 3) := by decide +kernel
theorem dX4_sideEnd_88 : decode cX4_sideEnd 88 = .ok (.iload 5, 2) := by decide +kernel
theorem dX4_sideEnd_90 : decode cX4_sideEnd 90 = .ok (.istore_n 3, 1) := by decide +kernel
theorem dX4_sideEnd_91 : decode cX4_sideEnd 91 = .ok (.iinc 5 1, 3) := by decide +kernel
theorem dX4_sideEnd_94 : decode cX4_sideEnd 94 = .ok (.goto (-79), 3) := by decide +kernel
theorem dX4_sideEnd_97 : decode cX4_sideEnd 97 = .ok (.iload_n 3, 1) := by decide +kernel
theorem dX4_sideEnd_98 : decode cX4_sideEnd 98 = .ok (.ireturn, 1) := by decide +kernel
theorem dX4_sideCount_0 : decode cX4_sideCount 0 = .ok (.iconst 0, 1) := by decide +kernel
theorem dX4_sideCount_1 : decode cX4_sideCount 1 = .ok (.istore_n 2, 1) := by decide +kernel
theorem dX4_sideCount_2 : decode cX4_sideCount 2 = .ok (.iconst 0, 1) := by decide +kernel
theorem dX4_sideCount_3 : decode cX4_sideCount 3 = .ok (.istore_n 3, 1) := by decide +kernel
theorem dX4_sideCount_4 : decode cX4_sideCount 4 = .ok (.iload_n 2, 1) := by decide +kernel
theorem dX4_sideCount_5 : decode cX4_sideCount 5 = .ok (.bipush 7, 2) := by decide +kernel
theorem dX4_sideCount_7 : decode cX4_sideCount 7 = .ok (.if_icmp .ge 26, 3) := by decide +kernel
theorem dX4_sideCount_10 : decode cX4_sideCount 10 = .ok (.iload_n 3, 1) := by decide +kernel
theorem dX4_sideCount_11 : decode cX4_sideCount 11 = .ok (.aload_n 0, 1) := by decide +kernel
theorem dX4_sideCount_12 : decode cX4_sideCount 12 = .ok (.getfield 13, 3) := by decide +kernel
theorem dX4_sideCount_15 : decode cX4_sideCount 15 = .ok (.iconst 1, 1) := by decide +kernel
theorem dX4_sideCount_16 : decode cX4_sideCount 16 = .ok (.isub, 1) := by decide +kernel
theorem dX4_sideCount_17 : decode cX4_sideCount 17 = .ok (.if_icmp .ge 16, 3) := by decide +kernel
theorem dX4_sideCount_20 : decode cX4_sideCount 20 = .ok (.aload_n 0, 1) := by decide +kernel
theorem dX4_sideCount_21 : decode cX4_sideCount 21 = .ok (.iload_n 3, 1) := by decide +kernel
theorem dX4_sideCount_22 : decode cX4_sideCount 22 = .ok (.iload_n 1, 1) := by decide +kernel
theorem dX4_sideCount_23 : decode cX4_sideCount 23 = .ok (.invokevirtual 27, 3) := by decide +kernel
theorem dX4_sideCount_26 : decode cX4_sideCount 26 = .ok (.istore_n 3, 1) := by decide +kernel
theorem dX4_sideCount_27 : decode cX4_sideCount 27 = .ok (.iinc 2 1, 3) := by decide +kernel
theorem dX4_sideCount_30 : decode cX4_sideCount 30 = .ok (.goto (-26), 3) := by decide +kernel
theorem dX4_sideCount_33 : decode cX4_sideCount 33 = .ok (.iload_n 2, 1) := by decide +kernel
theorem dX4_sideCount_34 : decode cX4_sideCount 34 = .ok (.ireturn, 1) := by decide +kernel
theorem dX4_sideStart_0 : decode cX4_sideStart 0 = .ok (.iconst 0, 1) := by decide +kernel
theorem dX4_sideStart_1 : decode cX4_sideStart 1 = .ok (.istore_n 3, 1) := by decide +kernel
theorem dX4_sideStart_2 : decode cX4_sideStart 2 = .ok (.iconst 0, 1) := by decide +kernel
theorem dX4_sideStart_3 : decode cX4_sideStart 3 = .ok (.istore 4, 2) := by decide +kernel
theorem dX4_sideStart_5 : decode cX4_sideStart 5 = .ok (.iload 4, 2) := by decide +kernel
theorem dX4_sideStart_7 : decode cX4_sideStart 7 = .ok (.iload_n 1, 1) := by decide +kernel
theorem dX4_sideStart_8 : decode cX4_sideStart 8 = .ok (.if_icmp .ge 23, 3) := by decide +kernel
theorem dX4_sideStart_11 : decode cX4_sideStart 11 = .ok (.iload 4, 2) := by decide +kernel
theorem dX4_sideStart_13 : decode cX4_sideStart 13 = .ok (.bipush 7, 2) := by decide +kernel
theorem dX4_sideStart_15 : decode cX4_sideStart 15 = .ok (.if_icmp .ge 16, 3) := by decide +kernel
theorem dX4_sideStart_18 : decode cX4_sideStart 18 = .ok (.aload_n 0, 1) := by decide +kernel
theorem dX4_sideStart_19 : decode cX4_sideStart 19 = .ok (.iload_n 3, 1) := by decide +kernel
theorem dX4_sideStart_20 : decode cX4_sideStart 20 = .ok (.iload_n 2, 1) := by decide +kernel
theorem dX4_sideStart_21 : decode cX4_sideStart 21 = .ok (.invokevirtual 27, 3) := by decide +kernel
theorem dX4_sideStart_24 : decode cX4_sideStart 24 = .ok (.istore_n 3, 1) := by decide +kernel
theorem dX4_sideStart_25 : decode cX4_sideStart 25 = .ok (.iinc 4 1, 3) := by decide +kernel
theorem dX4_sideStart_28 : decode cX4_sideStart 28 = .ok (.goto (-23), 3) := by decide +kernel
theorem dX4_sideStart_31 : decode cX4_sideStart 31 = .ok (.iload_n 3, 1) := by decide +kernel
theorem dX4_sideStart_32 : decode cX4_sideStart 32 = .ok (.ireturn, 1) := by decide +kernel
theorem dX4_steepness_0 : decode cX4_steepness 0 = .ok (.aload_n 0, 1) := by decide +kernel
theorem dX4_steepness_1 : decode cX4_steepness 1 = .ok (.iload_n 1, 1) := by decide +kernel
theorem dX4_steepness_2 : decode cX4_steepness 2 = .ok (.iload_n 2, 1) := by decide +kernel
theorem dX4_steepness_3 : decode cX4_steepness 3 = .ok (.invokevirtual 27, 3) := by decide +kernel
theorem dX4_steepness_6 : decode cX4_steepness 6 = .ok (.istore_n 3, 1) := by decide +kernel
theorem dX4_steepness_7 : decode cX4_steepness 7 = .ok (.aload_n 0, 1) := by decide +kernel
theorem dX4_steepness_8 : decode cX4_steepness 8 = .ok (.iload_n 3, 1) := by decide +kernel
theorem dX4_steepness_9 : decode cX4_steepness 9 = .ok (.iload_n 2, 1) := by decide +kernel
theorem dX4_steepness_10 : decode cX4_steepness 10 = .ok (.invokevirtual 23, 3) := by decide +kernel
theorem dX4_steepness_13 : decode cX4_steepness 13 = .ok (.aload_n 0, 1) := by decide +kernel
theorem dX4_steepness_14 : decode cX4_steepness 14 = .ok (.iload_n 1, 1) := by decide +kernel
theorem dX4_steepness_15 : decode cX4_steepness 15 = .ok (.iload_n 2, 1) := by decide +kernel
theorem dX4_steepness_16 : decode cX4_steepness 16 = .ok (.invokevirtual 23, 3) := by decide +kernel
theorem dX4_steepness_19 : decode cX4_steepness 19 = .ok (.isub, 1) := by decide +kernel
theorem dX4_steepness_20 : decode cX4_steepness 20 = .ok (.istore 4, 2) := by decide +kernel
theorem dX4_steepness_22 : decode cX4_steepness 22 = .ok (.iload 4, 2) := by decide +kernel
theorem dX4_steepness_24 : decode cX4_steepness 24 = .ok (.i2l, 1) := by decide +kernel
theorem dX4_steepness_25 : decode cX4_steepness 25 = .ok (.iload_n 3, 1) := by decide +kernel
theorem dX4_steepness_26 : decode cX4_steepness 26 = .ok (.iload_n 1, 1) := by decide +kernel
theorem dX4_steepness_27 : decode cX4_steepness 27 = .ok (.isub, 1) := by decide +kernel
theorem dX4_steepness_28 : decode cX4_steepness 28 = .ok (.i2l, 1) := by decide +kernel
theorem dX4_steepness_29 : decode cX4_steepness 29 = .ok (.invokestatic 30, 3) := by decide +kernel
theorem dX4_steepness_32 : decode cX4_steepness 32 = .ok (.lstore 5, 2) := by decide +kernel
theorem dX4_steepness_34 : decode cX4_steepness 34 = .ok (.ldc2_w 34, 3) := by decide +kernel
theorem dX4_steepness_37 : decode cX4_steepness 37 = .ok (.iload 4, 2) := by decide +kernel
theorem dX4_steepness_39 : decode cX4_steepness 39 = .ok (.i2l, 1) := by decide +kernel
theorem dX4_steepness_40 : decode cX4_steepness 40 = .ok (.lload 5, 2) := by decide +kernel
theorem dX4_steepness_42 : decode cX4_steepness 42 = .ok (.invokestatic 36, 3) := by decide +kernel
theorem dX4_steepness_45 : decode cX4_steepness 45 = .ok (.lmul, 1) := by decide +kernel
theorem dX4_steepness_46 : decode cX4_steepness 46 = .ok (.iload_n 3, 1) := by decide +kernel
theorem dX4_steepness_47 : decode cX4_steepness 47 = .ok (.iload_n 1, 1) := by decide +kernel
theorem dX4_steepness_48 : decode cX4_steepness 48 = .ok (.isub, 1) := by decide +kernel
theorem dX4_steepness_49 : decode cX4_steepness 49 = .ok (.i2l, 1) := by decide +kernel
theorem dX4_steepness_50 : decode cX4_steepness 50 = .ok (.lload 5, 2) := by decide +kernel
theorem dX4_steepness_52 : decode cX4_steepness 52 = .ok (.invokestatic 36, 3) := by decide +kernel
theorem dX4_steepness_55 : decode cX4_steepness 55 = .ok (.ladd, 1) := by decide +kernel
theorem dX4_steepness_56 : decode cX4_steepness 56 = .ok (.l2i, 1) := by decide +kernel
theorem dX4_steepness_57 : decode cX4_steepness 57 = .ok (.ireturn, 1) := by decide +kernel
theorem dX4_worthAt_0 : decode cX4_worthAt 0 = .ok (.lconst 0, 1) := by decide +kernel
theorem dX4_worthAt_1 : decode cX4_worthAt 1 = .ok (.lstore 6, 2) := by decide +kernel
theorem dX4_worthAt_3 : decode cX4_worthAt 3 = .ok (.iload 5, 2) := by decide +kernel
theorem dX4_worthAt_5 : decode cX4_worthAt 5 = .ok (.aload_n 0, 1) := by decide +kernel
theorem dX4_worthAt_6 : decode cX4_worthAt 6 = .ok (.getfield 9, 3) := by decide +kernel
theorem dX4_worthAt_9 : decode cX4_worthAt 9 = .ok (.arraylength, 1) := by decide +kernel
theorem dX4_worthAt_10 : decode cX4_worthAt 10 = .ok (.invokestatic 39, 3) := by decide +kernel
theorem dX4_worthAt_13 : decode cX4_worthAt 13 = .ok (.iconst 1, 1) := by decide +kernel
theorem dX4_worthAt_14 : decode cX4_worthAt 14 = .ok (.isub, 1) := by decide +kernel
theorem dX4_worthAt_15 : decode cX4_worthAt 15 = .ok (.istore 8, 2) := by decide +kernel
theorem dX4_worthAt_17 : decode cX4_worthAt 17 = .ok (.iload 8, 2) := by decide +kernel
theorem dX4_worthAt_19 : decode cX4_worthAt 19 = .ok (.ifCond .lt 28, 3) := by decide +kernel
theorem dX4_worthAt_22 : decode cX4_worthAt 22 = .ok (.lload 6, 2) := by decide +kernel
theorem dX4_worthAt_24 : decode cX4_worthAt 24 = .ok (.lload_n 1, 1) := by decide +kernel
theorem dX4_worthAt_25 : decode cX4_worthAt 25 = .ok (.lmul, 1) := by decide +kernel
theorem dX4_worthAt_26 : decode cX4_worthAt 26 = .ok (.aload_n 0, 1) := by decide +kernel
theorem dX4_worthAt_27 : decode cX4_worthAt 27 = .ok (.getfield 9, 3) := by decide +kernel
theorem dX4_worthAt_30 : decode cX4_worthAt 30 = .ok (.iload 8, 2) := by decide +kernel
theorem dX4_worthAt_32 : decode cX4_worthAt 32 = .ok (.iaload, 1) := by decide +kernel
theorem dX4_worthAt_33 : decode cX4_worthAt 33 = .ok (.i2l, 1) := by decide +kernel
theorem dX4_worthAt_34 : decode cX4_worthAt 34 = .ok (.ladd, 1) := by decide +kernel
theorem dX4_worthAt_35 : decode cX4_worthAt 35 = .ok (.lload_n 3, 1) := by decide +kernel
theorem dX4_worthAt_36 : decode cX4_worthAt 36 = .ok (.invokestatic 44, 3) := by decide +kernel
theorem dX4_worthAt_39 : decode cX4_worthAt 39 = .ok (.lstore 6, 2) := by decide +kernel
theorem dX4_worthAt_41 : decode cX4_worthAt 41 = .ok (.iinc 8 (-1), 3) := by decide +kernel
theorem dX4_worthAt_44 : decode cX4_worthAt 44 = .ok (.goto (-27), 3) := by decide +kernel
theorem dX4_worthAt_47 : decode cX4_worthAt 47 = .ok (.lload 6, 2) := by decide +kernel
theorem dX4_worthAt_49 : decode cX4_worthAt 49 = .ok (.lreturn, 1) := by decide +kernel
theorem dX4_riseAt_0 : decode cX4_riseAt 0 = .ok (.lconst 0, 1) := by decide +kernel
theorem dX4_riseAt_1 : decode cX4_riseAt 1 = .ok (.lstore 6, 2) := by decide +kernel
theorem dX4_riseAt_3 : decode cX4_riseAt 3 = .ok (.iload 5, 2) := by decide +kernel
theorem dX4_riseAt_5 : decode cX4_riseAt 5 = .ok (.aload_n 0, 1) := by decide +kernel
theorem dX4_riseAt_6 : decode cX4_riseAt 6 = .ok (.getfield 9, 3) := by decide +kernel
theorem dX4_riseAt_9 : decode cX4_riseAt 9 = .ok (.arraylength, 1) := by decide +kernel
theorem dX4_riseAt_10 : decode cX4_riseAt 10 = .ok (.invokestatic 39, 3) := by decide +kernel
theorem dX4_riseAt_13 : decode cX4_riseAt 13 = .ok (.iconst 1, 1) := by decide +kernel
theorem dX4_riseAt_14 : decode cX4_riseAt 14 = .ok (.isub, 1) := by decide +kernel
theorem dX4_riseAt_15 : decode cX4_riseAt 15 = .ok (.istore 8, 2) := by decide +kernel
theorem dX4_riseAt_17 : decode cX4_riseAt 17 = .ok (.iload 8, 2) := by decide +kernel
theorem dX4_riseAt_19 : decode cX4_riseAt 19 = .ok (.iconst 1, 1) := by decide +kernel
theorem dX4_riseAt_20 : decode cX4_riseAt 20 = .ok (.if_icmp .lt 32, 3) := by decide +kernel
theorem dX4_riseAt_23 : decode cX4_riseAt 23 = .ok (.lload 6, 2) := by decide +kernel
theorem dX4_riseAt_25 : decode cX4_riseAt 25 = .ok (.lload_n 1, 1) := by decide +kernel
theorem dX4_riseAt_26 : decode cX4_riseAt 26 = .ok (.lmul, 1) := by decide +kernel
theorem dX4_riseAt_27 : decode cX4_riseAt 27 = .ok (.iload 8, 2) := by decide +kernel
theorem dX4_riseAt_29 : decode cX4_riseAt 29 = .ok (.i2l, 1) := by decide +kernel
theorem dX4_riseAt_30 : decode cX4_riseAt 30 = .ok (.aload_n 0, 1) := by decide +kernel
theorem dX4_riseAt_31 : decode cX4_riseAt 31 = .ok (.getfield 9, 3) := by decide +kernel
theorem dX4_riseAt_34 : decode cX4_riseAt 34 = .ok (.iload 8, 2) := by decide +kernel
theorem dX4_riseAt_36 : decode cX4_riseAt 36 = .ok (.iaload, 1) := by decide +kernel
theorem dX4_riseAt_37 : decode cX4_riseAt 37 = .ok (.i2l, 1) := by decide +kernel
theorem dX4_riseAt_38 : decode cX4_riseAt 38 = .ok (.lmul, 1) := by decide +kernel
theorem dX4_riseAt_39 : decode cX4_riseAt 39 = .ok (.ladd, 1) := by decide +kernel
theorem dX4_riseAt_40 : decode cX4_riseAt 40 = .ok (.lload_n 3, 1) := by decide +kernel
theorem dX4_riseAt_41 : decode cX4_riseAt 41 = .ok (.invokestatic 44, 3) := by decide +kernel
theorem dX4_riseAt_44 : decode cX4_riseAt 44 = .ok (.lstore 6, 2) := by decide +kernel
theorem dX4_riseAt_46 : decode cX4_riseAt 46 = .ok (.iinc 8 (-1), 3) := by decide +kernel
theorem dX4_riseAt_49 : decode cX4_riseAt 49 = .ok (.goto (-32), 3) := by decide +kernel
theorem dX4_riseAt_52 : decode cX4_riseAt 52 = .ok (.lload 6, 2) := by decide +kernel
theorem dX4_riseAt_54 : decode cX4_riseAt 54 = .ok (.lreturn, 1) := by decide +kernel
theorem dX4_rootSign_0 : decode cX4_rootSign 0 = .ok (.aload_n 0, 1) := by decide +kernel
theorem dX4_rootSign_1 : decode cX4_rootSign 1 = .ok (.iload_n 1, 1) := by decide +kernel
theorem dX4_rootSign_2 : decode cX4_rootSign 2 = .ok (.i2l, 1) := by decide +kernel
theorem dX4_rootSign_3 : decode cX4_rootSign 3 = .ok (.iload_n 2, 1) := by decide +kernel
theorem dX4_rootSign_4 : decode cX4_rootSign 4 = .ok (.i2l, 1) := by decide +kernel
theorem dX4_rootSign_5 : decode cX4_rootSign 5 = .ok (.aload_n 0, 1) := by decide +kernel
theorem dX4_rootSign_6 : decode cX4_rootSign 6 = .ok (.getfield 13, 3) := by decide +kernel
theorem dX4_rootSign_9 : decode cX4_rootSign 9 = .ok (.invokevirtual 47, 3) := by decide +kernel
theorem dX4_rootSign_12 : decode cX4_rootSign 12 = .ok (.lconst 0, 1) := by decide +kernel
theorem dX4_rootSign_13 : decode cX4_rootSign 13 = .ok (.lcmp, 1) := by decide +kernel
theorem dX4_rootSign_14 : decode cX4_rootSign 14 = .ok (.ifCond .eq 6, 3) := by decide +kernel
theorem dX4_rootSign_17 : decode cX4_rootSign 17 = .ok (.bipush 45, 2) := by decide +kernel
theorem dX4_rootSign_19 : decode cX4_rootSign 19 = .ok (.ireturn, 1) := by decide +kernel
theorem dX4_rootSign_20 : decode cX4_rootSign 20 = .ok (.aload_n 0, 1) := by decide +kernel
theorem dX4_rootSign_21 : decode cX4_rootSign 21 = .ok (.iload_n 1, 1) := by decide +kernel
theorem dX4_rootSign_22 : decode cX4_rootSign 22 = .ok (.i2l, 1) := by decide +kernel
theorem dX4_rootSign_23 : decode cX4_rootSign 23 = .ok (.iload_n 2, 1) := by decide +kernel
theorem dX4_rootSign_24 : decode cX4_rootSign 24 = .ok (.i2l, 1) := by decide +kernel
theorem dX4_rootSign_25 : decode cX4_rootSign 25 = .ok (.aload_n 0, 1) := by decide +kernel
theorem dX4_rootSign_26 : decode cX4_rootSign 26 = .ok (.getfield 13, 3) := by decide +kernel
theorem dX4_rootSign_29 : decode cX4_rootSign 29 = .ok (.invokevirtual 51, 3) := by decide +kernel
theorem dX4_rootSign_32 : decode cX4_rootSign 32 = .ok (.lconst 0, 1) := by decide +kernel
theorem dX4_rootSign_33 : decode cX4_rootSign 33 = .ok (.lcmp, 1) := by decide +kernel
theorem dX4_rootSign_34 : decode cX4_rootSign 34 = .ok (.ifCond .eq 8, 3) := by decide +kernel
theorem dX4_rootSign_37 : decode cX4_rootSign 37 = .ok (.bipush 115, 2) := by decide +kernel
theorem dX4_rootSign_39 : decode cX4_rootSign 39 = .ok (.goto 5, 3) := by decide +kernel
theorem dX4_rootSign_42 : decode cX4_rootSign 42 = .ok (.bipush 109, 2) := by decide +kernel
theorem dX4_rootSign_44 : decode cX4_rootSign 44 = .ok (.ireturn, 1) := by decide +kernel
theorem dX4_rootCount_0 : decode cX4_rootCount 0 = .ok (.iconst 0, 1) := by decide +kernel
theorem dX4_rootCount_1 : decode cX4_rootCount 1 = .ok (.istore_n 2, 1) := by decide +kernel
theorem dX4_rootCount_2 : decode cX4_rootCount 2 = .ok (.iconst 0, 1) := by decide +kernel
theorem dX4_rootCount_3 : decode cX4_rootCount 3 = .ok (.istore_n 3, 1) := by decide +kernel
theorem dX4_rootCount_4 : decode cX4_rootCount 4 = .ok (.iload_n 3, 1) := by decide +kernel
theorem dX4_rootCount_5 : decode cX4_rootCount 5 = .ok (.iload_n 1, 1) := by decide +kernel
theorem dX4_rootCount_6 : decode cX4_rootCount 6 = .ok (.if_icmp .ge 29, 3) := by decide +kernel
theorem dX4_rootCount_9 : decode cX4_rootCount 9 = .ok (.aload_n 0, 1) := by decide +kernel
theorem dX4_rootCount_10 : decode cX4_rootCount 10 = .ok (.iload_n 3, 1) := by decide +kernel
theorem dX4_rootCount_11 : decode cX4_rootCount 11 = .ok (.i2l, 1) := by decide +kernel
theorem dX4_rootCount_12 : decode cX4_rootCount 12 = .ok (.iload_n 1, 1) := by decide +kernel
theorem dX4_rootCount_13 : decode cX4_rootCount 13 = .ok (.i2l, 1) := by decide +kernel
theorem dX4_rootCount_14 : decode cX4_rootCount 14 = .ok (.aload_n 0, 1) := by decide +kernel
theorem dX4_rootCount_15 : decode cX4_rootCount 15 = .ok (.getfield 13, 3) := by decide +kernel
theorem dX4_rootCount_18 : decode cX4_rootCount 18 = .ok (.invokevirtual 47, 3) := by decide +kernel
theorem dX4_rootCount_21 : decode cX4_rootCount 21 = .ok (.lconst 0, 1) := by decide +kernel
theorem dX4_rootCount_22 : decode cX4_rootCount 22 = .ok (.lcmp, 1) := by decide +kernel
theorem dX4_rootCount_23 : decode cX4_rootCount 23 = .ok (.ifCond .ne 6, 3) := by decide +kernel
theorem dX4_rootCount_26 : decode cX4_rootCount 26 = .ok (.iinc 2 1, 3) := by decide +kernel
theorem dX4_rootCount_29 : decode cX4_rootCount 29 = .ok (.iinc 3 1, 3) := by decide +kernel
theorem dX4_rootCount_32 : decode cX4_rootCount 32 = .ok (.goto (-28), 3) := by decide +kernel
theorem dX4_rootCount_35 : decode cX4_rootCount 35 = .ok (.iload_n 2, 1) := by decide +kernel
theorem dX4_rootCount_36 : decode cX4_rootCount 36 = .ok (.ireturn, 1) := by decide +kernel
theorem dX5_init_0 : decode cX5_init 0 = .ok (.aload_n 0, 1) := by decide +kernel
theorem dX5_init_1 : decode cX5_init 1 = .ok (.invokespecial 1, 3) := by decide +kernel
theorem dX5_init_4 : decode cX5_init 4 = .ok (.aload_n 0, 1) := by decide +kernel
theorem dX5_init_5 : decode cX5_init 5 = .ok (.new 7, 3) := by decide +kernel
theorem dX5_init_8 : decode cX5_init 8 = .ok (.dup, 1) := by decide +kernel
theorem dX5_init_9 : decode cX5_init 9 = .ok (.invokespecial 9, 3) := by decide +kernel
theorem dX5_init_12 : decode cX5_init 12 = .ok (.putfield 10, 3) := by decide +kernel
theorem dX5_init_15 : decode cX5_init 15 = .ok (.aload_n 0, 1) := by decide +kernel
theorem dX5_init_16 : decode cX5_init 16 = .ok (.new 16, 3) := by decide +kernel
theorem dX5_init_19 : decode cX5_init 19 = .ok (.dup, 1) := by decide +kernel
theorem dX5_init_20 : decode cX5_init 20 = .ok (.invokespecial 18, 3) := by decide +kernel
theorem dX5_init_23 : decode cX5_init 23 = .ok (.putfield 19, 3) := by decide +kernel
theorem dX5_init_26 : decode cX5_init 26 = .ok (.aload_n 0, 1) := by decide +kernel
theorem dX5_init_27 : decode cX5_init 27 = .ok (.new 23, 3) := by decide +kernel
theorem dX5_init_30 : decode cX5_init 30 = .ok (.dup, 1) := by decide +kernel
theorem dX5_init_31 : decode cX5_init 31 = .ok (.invokespecial 25, 3) := by decide +kernel
theorem dX5_init_34 : decode cX5_init 34 = .ok (.putfield 26, 3) := by decide +kernel
theorem dX5_init_37 : decode cX5_init 37 = .ok (.aload_n 0, 1) := by decide +kernel
theorem dX5_init_38 : decode cX5_init 38 = .ok (.bipush 40, 2) := by decide +kernel
theorem dX5_init_40 : decode cX5_init 40 = .ok (.anewarray 30, 3) := by decide +kernel
theorem dX5_init_43 : decode cX5_init 43 = .ok (.putfield 32, 3) := by decide +kernel
theorem dX5_init_46 : decode cX5_init 46 = .ok (.aload_n 0, 1) := by decide +kernel
theorem dX5_init_47 : decode cX5_init 47 = .ok (.new 30, 3) := by decide +kernel
theorem dX5_init_50 : decode cX5_init 50 = .ok (.dup, 1) := by decide +kernel
theorem dX5_init_51 : decode cX5_init 51 = .ok (.invokespecial 36, 3) := by decide +kernel
theorem dX5_init_54 : decode cX5_init 54 = .ok (.putfield 37, 3) := by decide +kernel
theorem dX5_init_57 : decode cX5_init 57 = .ok (.aload_n 0, 1) := by decide +kernel
theorem dX5_init_58 : decode cX5_init 58 = .ok (.new 30, 3) := by decide +kernel
theorem dX5_init_61 : decode cX5_init 61 = .ok (.dup, 1) := by decide +kernel
theorem dX5_init_62 : decode cX5_init 62 = .ok (.invokespecial 36, 3) := by decide +kernel
theorem dX5_init_65 : decode cX5_init 65 = .ok (.putfield 41, 3) := by decide +kernel
theorem dX5_init_68 : decode cX5_init 68 = .ok (.iconst 0, 1) := by decide +kernel
theorem dX5_init_69 : decode cX5_init 69 = .ok (.istore_n 1, 1) := by decide +kernel
theorem dX5_init_70 : decode cX5_init 70 = .ok (.iload_n 1, 1) := by decide +kernel
theorem dX5_init_71 : decode cX5_init 71 = .ok (.aload_n 0, 1) := by decide +kernel
theorem dX5_init_72 : decode cX5_init 72 = .ok (.getfield 32, 3) := by decide +kernel
theorem dX5_init_75 : decode cX5_init 75 = .ok (.arraylength, 1) := by decide +kernel
theorem dX5_init_76 : decode cX5_init 76 = .ok (.if_icmp .ge 22, 3) := by decide +kernel
theorem dX5_init_79 : decode cX5_init 79 = .ok (.aload_n 0, 1) := by decide +kernel
theorem dX5_init_80 : decode cX5_init 80 = .ok (.getfield 32, 3) := by decide +kernel
theorem dX5_init_83 : decode cX5_init 83 = .ok (.iload_n 1, 1) := by decide +kernel
theorem dX5_init_84 : decode cX5_init 84 = .ok (.new 30, 3) := by decide +kernel
theorem dX5_init_87 : decode cX5_init 87 = .ok (.dup, 1) := by decide +kernel
theorem dX5_init_88 : decode cX5_init 88 = .ok (.invokespecial 36, 3) := by decide +kernel
theorem dX5_init_91 : decode cX5_init 91 = .ok (.aastore, 1) := by decide +kernel
theorem dX5_init_92 : decode cX5_init 92 = .ok (.iinc 1 1, 3) := by decide +kernel
theorem dX5_init_95 : decode cX5_init 95 = .ok (.goto (-25), 3) := by decide +kernel
theorem dX5_init_98 : decode cX5_init 98 = .ok (.return_, 1) := by decide +kernel
theorem dX5_isFull_0 : decode cX5_isFull 0 = .ok (.aload_n 0, 1) := by decide +kernel
theorem dX5_isFull_1 : decode cX5_isFull 1 = .ok (.getfield 44, 3) := by decide +kernel
theorem dX5_isFull_4 : decode cX5_isFull 4 = .ok (.aload_n 0, 1) := by decide +kernel
theorem dX5_isFull_5 : decode cX5_isFull 5 = .ok (.getfield 32, 3) := by decide +kernel
theorem dX5_isFull_8 : decode cX5_isFull 8 = .ok (.arraylength, 1) := by decide +kernel
theorem dX5_isFull_9 : decode cX5_isFull 9 = .ok (.if_icmp .lt 7, 3) := by decide +kernel
theorem dX5_isFull_12 : decode cX5_isFull 12 = .ok (.iconst 1, 1) := by decide +kernel
theorem dX5_isFull_13 : decode cX5_isFull 13 = .ok (.goto 4, 3) := by decide +kernel
theorem dX5_isFull_16 : decode cX5_isFull 16 = .ok (.iconst 0, 1) := by decide +kernel
theorem dX5_isFull_17 : decode cX5_isFull 17 = .ok (.ireturn, 1) := by decide +kernel
theorem dX5_numbered_0 : decode cX5_numbered 0 = .ok (.iload_n 1, 1) := by decide +kernel
theorem dX5_numbered_1 : decode cX5_numbered 1 = .ok (.ifCond .lt 21, 3) := by decide +kernel
theorem dX5_numbered_4 : decode cX5_numbered 4 = .ok (.iload_n 1, 1) := by decide +kernel
theorem dX5_numbered_5 : decode cX5_numbered 5 = .ok (.aload_n 0, 1) := by decide +kernel
theorem dX5_numbered_6 : decode cX5_numbered 6 = .ok (.getfield 32, 3) := by decide +kernel
theorem dX5_numbered_9 : decode cX5_numbered 9 = .ok (.arraylength, 1) := by decide +kernel
theorem dX5_numbered_10 : decode cX5_numbered 10 = .ok (.if_icmp .ge 12, 3) := by decide +kernel
theorem dX5_numbered_13 : decode cX5_numbered 13 = .ok (.aload_n 0, 1) := by decide +kernel
theorem dX5_numbered_14 : decode cX5_numbered 14 = .ok (.getfield 32, 3) := by decide +kernel
theorem dX5_numbered_17 : decode cX5_numbered 17 = .ok (.iload_n 1, 1) := by decide +kernel
theorem dX5_numbered_18 : decode cX5_numbered 18 = .ok (.aaload, 1) := by decide +kernel
theorem dX5_numbered_19 : decode cX5_numbered 19 = .ok (.goto 7, 3) := by decide +kernel
theorem dX5_numbered_22 : decode cX5_numbered 22 = .ok (.aload_n 0, 1) := by decide +kernel
theorem dX5_numbered_23 : decode cX5_numbered 23 = .ok (.getfield 37, 3) := by decide +kernel
theorem dX5_numbered_26 : decode cX5_numbered 26 = .ok (.areturn, 1) := by decide +kernel
theorem dX5_addFraction_0 : decode cX5_addFraction 0 = .ok (.aload_n 0, 1) := by decide +kernel
theorem dX5_addFraction_1 : decode cX5_addFraction 1 = .ok (.aload_n 0, 1) := by decide +kernel
theorem dX5_addFraction_2 : decode cX5_addFraction 2 = .ok (.getfield 44, 3) := by decide +kernel
theorem dX5_addFraction_5 : decode cX5_addFraction 5 = .ok (.invokevirtual 48, 3) := by decide +kernel
theorem dX5_addFraction_8 : decode cX5_addFraction 8 = .ok (.astore 4, 2) := by decide +kernel
theorem dX5_addFraction_10 : decode cX5_addFraction 10 = .ok (.aload 4, 2) := by decide +kernel
theorem dX5_addFraction_12 : decode cX5_addFraction 12 = .ok (.iconst 0, 1) := by decide +kernel
theorem dX5_addFraction_13 : decode cX5_addFraction 13 = .ok (.iconst (-1), 1) := by decide +kernel
theorem dX5_addFraction_14 : decode cX5_addFraction 14 = .ok (.iconst (-1), 1) := by decide +kernel
theorem dX5_addFraction_15 : decode cX5_addFraction 15 = .ok (.invokevirtual 52, 3) := by decide +kernel
theorem dX5_addFraction_18 : decode cX5_addFraction 18 = .ok (.aload 4, 2) := by decide +kernel
theorem dX5_addFraction_20 : decode cX5_addFraction 20 = .ok (.iload_n 1, 1) := by decide +kernel
theorem dX5_addFraction_21 : decode cX5_addFraction 21 = .ok (.putfield 56, 3) := by decide +kernel
theorem dX5_addFraction_24 : decode cX5_addFraction 24 = .ok (.aload 4, 2) := by decide +kernel
theorem dX5_addFraction_26 : decode cX5_addFraction 26 = .ok (.iload_n 2, 1) := by decide +kernel
theorem dX5_addFraction_27 : decode cX5_addFraction 27 = .ok (.putfield 59, 3) := by decide +kernel
theorem dX5_addFraction_30 : decode cX5_addFraction 30 = .ok (.aload 4, 2) := by decide +kernel
theorem dX5_addFraction_32 : decode cX5_addFraction 32 = .ok (.iload_n 3, 1) := by decide +kernel
theorem dX5_addFraction_33 : decode cX5_addFraction 33 = .ok (.putfield 62, 3) := by decide +kernel
theorem dX5_addFraction_36 : decode cX5_addFraction 36 = .ok (.aload_n 0, 1) := by decide +kernel
theorem dX5_addFraction_37 : decode cX5_addFraction 37 = .ok (.aload 4, 2) := by decide +kernel
theorem dX5_addFraction_39 : decode cX5_addFraction 39 = .ok (.invokevirtual 65, 3) := by decide +kernel
theorem dX5_addFraction_42 : decode cX5_addFraction 42 = .ok (.aload_n 0, 1) := by decide +kernel
theorem dX5_addFraction_43 : decode cX5_addFraction 43 = .ok (.aload 4, 2) := by decide +kernel
theorem dX5_addFraction_45 : decode cX5_addFraction 45 = .ok (.invokevirtual 69, 3) := by decide +kernel
theorem dX5_addFraction_48 : decode cX5_addFraction 48 = .ok (.ireturn, 1) := by decide +kernel
theorem dX5_addMade_0 : decode cX5_addMade 0 = .ok (.aload_n 0, 1) := by decide +kernel
theorem dX5_addMade_1 : decode cX5_addMade 1 = .ok (.aload_n 0, 1) := by decide +kernel
theorem dX5_addMade_2 : decode cX5_addMade 2 = .ok (.getfield 44, 3) := by decide +kernel
theorem dX5_addMade_5 : decode cX5_addMade 5 = .ok (.invokevirtual 48, 3) := by decide +kernel
theorem dX5_addMade_8 : decode cX5_addMade 8 = .ok (.astore 4, 2) := by decide +kernel
theorem dX5_addMade_10 : decode cX5_addMade 10 = .ok (.aload 4, 2) := by decide +kernel
theorem dX5_addMade_12 : decode cX5_addMade 12 = .ok (.iload_n 1, 1) := by decide +kernel
theorem dX5_addMade_13 : decode cX5_addMade 13 = .ok (.iload_n 2, 1) := by decide +kernel
theorem dX5_addMade_14 : decode cX5_addMade 14 = .ok (.iload_n 3, 1) := by decide +kernel
theorem dX5_addMade_15 : decode cX5_addMade 15 = .ok (.invokevirtual 52, 3) := by decide +kernel
theorem dX5_addMade_18 : decode cX5_addMade 18 = .ok (.aload_n 0, 1) := by decide +kernel
theorem dX5_addMade_19 : decode cX5_addMade 19 = .ok (.aload 4, 2) := by decide +kernel
theorem dX5_addMade_21 : decode cX5_addMade 21 = .ok (.invokevirtual 65, 3) := by decide +kernel
theorem dX5_addMade_24 : decode cX5_addMade 24 = .ok (.aload_n 0, 1) := by decide +kernel
theorem dX5_addMade_25 : decode cX5_addMade 25 = .ok (.aload 4, 2) := by decide +kernel
theorem dX5_addMade_27 : decode cX5_addMade 27 = .ok (.invokevirtual 69, 3) := by decide +kernel
theorem dX5_addMade_30 : decode cX5_addMade 30 = .ok (.ireturn, 1) := by decide +kernel
theorem dX5_addLifted_0 : decode cX5_addLifted 0 = .ok (.aload_n 0, 1) := by decide +kernel
theorem dX5_addLifted_1 : decode cX5_addLifted 1 = .ok (.aload_n 0, 1) := by decide +kernel
theorem dX5_addLifted_2 : decode cX5_addLifted 2 = .ok (.getfield 44, 3) := by decide +kernel
theorem dX5_addLifted_5 : decode cX5_addLifted 5 = .ok (.invokevirtual 48, 3) := by decide +kernel
theorem dX5_addLifted_8 : decode cX5_addLifted 8 = .ok (.astore 4, 2) := by decide +kernel
theorem dX5_addLifted_10 : decode cX5_addLifted 10 = .ok (.aload 4, 2) := by decide +kernel
theorem dX5_addLifted_12 : decode cX5_addLifted 12 = .ok (.bipush 7, 2) := by decide +kernel
theorem dX5_addLifted_14 : decode cX5_addLifted 14 = .ok (.iconst (-1), 1) := by decide +kernel
theorem dX5_addLifted_15 : decode cX5_addLifted 15 = .ok (.iconst (-1), 1) := by decide +kernel
theorem dX5_addLifted_16 : decode cX5_addLifted 16 = .ok (.invokevirtual 52, 3) := by decide +kernel
theorem dX5_addLifted_19 : decode cX5_addLifted 19 = .ok (.aload 4, 2) := by decide +kernel
theorem dX5_addLifted_21 : decode cX5_addLifted 21 = .ok (.iload_n 1, 1) := by decide +kernel
theorem dX5_addLifted_22 : decode cX5_addLifted 22 = .ok (.putfield 56, 3) := by decide +kernel
theorem dX5_addLifted_25 : decode cX5_addLifted 25 = .ok (.aload 4, 2) := by decide +kernel
theorem dX5_addLifted_27 : decode cX5_addLifted 27 = .ok (.iload_n 2, 1) := by decide +kernel
theorem dX5_addLifted_28 : decode cX5_addLifted 28 = .ok (.putfield 59, 3) := by decide +kernel
theorem dX5_addLifted_31 : decode cX5_addLifted 31 = .ok (.aload 4, 2) := by decide +kernel
theorem dX5_addLifted_33 : decode cX5_addLifted 33 = .ok (.iload_n 3, 1) := by decide +kernel
theorem dX5_addLifted_34 : decode cX5_addLifted 34 = .ok (.putfield 62, 3) := by decide +kernel
theorem dX5_addLifted_37 : decode cX5_addLifted 37 = .ok (.aload 4, 2) := by decide +kernel
theorem dX5_addLifted_39 : decode cX5_addLifted 39 = .ok (.aload_n 0, 1) := by decide +kernel
theorem dX5_addLifted_40 : decode cX5_addLifted 40 = .ok (.getfield 19, 3) := by decide +kernel
theorem dX5_addLifted_43 : decode cX5_addLifted 43 = .ok (.iload_n 1, 1) := by decide +kernel
theorem dX5_addLifted_44 : decode cX5_addLifted 44 = .ok (.invokevirtual 73, 3) := by decide +kernel
theorem dX5_addLifted_47 : decode cX5_addLifted 47 = .ok (.getfield 77, 3) := by decide +kernel
theorem dX5_addLifted_50 : decode cX5_addLifted 50 = .ok (.putfield 80, 3) := by decide +kernel
theorem dX5_addLifted_53 : decode cX5_addLifted 53 = .ok (.aload_n 0, 1) := by decide +kernel
theorem dX5_addLifted_54 : decode cX5_addLifted 54 = .ok (.aload 4, 2) := by decide +kernel
theorem dX5_addLifted_56 : decode cX5_addLifted 56 = .ok (.invokevirtual 65, 3) := by decide +kernel
theorem dX5_addLifted_59 : decode cX5_addLifted 59 = .ok (.aload_n 0, 1) := by decide +kernel
theorem dX5_addLifted_60 : decode cX5_addLifted 60 = .ok (.aload 4, 2) := by decide +kernel
theorem dX5_addLifted_62 : decode cX5_addLifted 62 = .ok (.invokevirtual 69, 3) := by decide +kernel
theorem dX5_addLifted_65 : decode cX5_addLifted 65 = .ok (.ireturn, 1) := by decide +kernel
theorem dX5_addRowValue_0 : decode cX5_addRowValue 0 = .ok (.aload_n 0, 1) := by decide +kernel
theorem dX5_addRowValue_1 : decode cX5_addRowValue 1 = .ok (.aload_n 0, 1) := by decide +kernel
theorem dX5_addRowValue_2 : decode cX5_addRowValue 2 = .ok (.getfield 44, 3) := by decide +kernel
theorem dX5_addRowValue_5 : decode cX5_addRowValue 5 = .ok (.invokevirtual 48, 3) := by decide +kernel
theorem dX5_addRowValue_8 : decode cX5_addRowValue 8 = .ok (.astore_n 2, 1) := by decide +kernel
theorem dX5_addRowValue_9 : decode cX5_addRowValue 9 = .ok (.aload_n 2, 1) := by decide +kernel
theorem dX5_addRowValue_10 : decode cX5_addRowValue 10 = .ok (.bipush 8, 2) := by decide +kernel
theorem dX5_addRowValue_12 : decode cX5_addRowValue 12 = .ok (.iload_n 1, 1) := by decide +kernel
theorem dX5_addRowValue_13 : decode cX5_addRowValue 13 = .ok (.iconst (-1), 1) := by decide +kernel
theorem dX5_addRowValue_14 : decode cX5_addRowValue 14 = .ok (.invokevirtual 52, 3) := by decide +kernel
theorem dX5_addRowValue_17 : decode cX5_addRowValue 17 = .ok (.aload_n 2, 1) := by decide +kernel
theorem dX5_addRowValue_18 : decode cX5_addRowValue 18 = .ok (.aload_n 0, 1) := by decide +kernel
theorem dX5_addRowValue_19 : decode cX5_addRowValue 19 = .ok (.getfield 26, 3) := by decide +kernel
theorem dX5_addRowValue_22 : decode cX5_addRowValue 22 = .ok (.getfield 83, 3) := by decide +kernel
theorem dX5_addRowValue_25 : decode cX5_addRowValue 25 = .ok (.putfield 80, 3) := by decide +kernel
theorem dX5_addRowValue_28 : decode cX5_addRowValue 28 = .ok (.aload_n 0, 1) := by decide +kernel
theorem dX5_addRowValue_29 : decode cX5_addRowValue 29 = .ok (.aload_n 2, 1) := by decide +kernel
theorem dX5_addRowValue_30 : decode cX5_addRowValue 30 = .ok (.invokevirtual 65, 3) := by decide +kernel
theorem dX5_addRowValue_33 : decode cX5_addRowValue 33 = .ok (.aload_n 0, 1) := by decide +kernel
theorem dX5_addRowValue_34 : decode cX5_addRowValue 34 = .ok (.aload_n 2, 1) := by decide +kernel
theorem dX5_addRowValue_35 : decode cX5_addRowValue 35 = .ok (.invokevirtual 69, 3) := by decide +kernel
theorem dX5_addRowValue_38 : decode cX5_addRowValue 38 = .ok (.ireturn, 1) := by decide +kernel
theorem dX5_keep_0 : decode cX5_keep 0 = .ok (.aload_n 1, 1) := by decide +kernel
theorem dX5_keep_1 : decode cX5_keep 1 = .ok (.invokevirtual 84, 3) := by decide +kernel
theorem dX5_keep_4 : decode cX5_keep 4 = .ok (.aload_n 0, 1) := by decide +kernel
theorem dX5_keep_5 : decode cX5_keep 5 = .ok (.dup, 1) := by decide +kernel
theorem dX5_keep_6 : decode cX5_keep 6 = .ok (.getfield 44, 3) := by decide +kernel
theorem dX5_keep_9 : decode cX5_keep 9 = .ok (.iconst 1, 1) := by decide +kernel
theorem dX5_keep_10 : decode cX5_keep 10 = .ok (.iadd, 1) := by decide +kernel
theorem dX5_keep_11 : decode cX5_keep 11 = .ok (.putfield 44, 3) := by decide +kernel
theorem dX5_keep_14 : decode cX5_keep 14 = .ok (.aload_n 0, 1) := by decide +kernel
theorem dX5_keep_15 : decode cX5_keep 15 = .ok (.getfield 44, 3) := by decide +kernel
theorem dX5_keep_18 : decode cX5_keep 18 = .ok (.iconst 1, 1) := by decide +kernel
theorem dX5_keep_19 : decode cX5_keep 19 = .ok (.isub, 1) := by decide +kernel
theorem dX5_keep_20 : decode cX5_keep 20 = .ok (.ireturn, 1) := by decide +kernel
theorem dX5_find_0 : decode cX5_find 0 = .ok (.aload_n 0, 1) := by decide +kernel
theorem dX5_find_1 : decode cX5_find 1 = .ok (.aload_n 1, 1) := by decide +kernel
theorem dX5_find_2 : decode cX5_find 2 = .ok (.getfield 87, 3) := by decide +kernel
theorem dX5_find_5 : decode cX5_find 5 = .ok (.invokevirtual 48, 3) := by decide +kernel
theorem dX5_find_8 : decode cX5_find 8 = .ok (.astore_n 2, 1) := by decide +kernel
theorem dX5_find_9 : decode cX5_find 9 = .ok (.aload_n 0, 1) := by decide +kernel
theorem dX5_find_10 : decode cX5_find 10 = .ok (.aload_n 1, 1) := by decide +kernel
theorem dX5_find_11 : decode cX5_find 11 = .ok (.getfield 90, 3) := by decide +kernel
theorem dX5_find_14 : decode cX5_find 14 = .ok (.invokevirtual 48, 3) := by decide +kernel
theorem dX5_find_17 : decode cX5_find 17 = .ok (.astore_n 3, 1) := by decide +kernel
theorem dX5_find_18 : decode cX5_find 18 = .ok (.aload_n 1, 1) := by decide +kernel
theorem dX5_find_19 : decode cX5_find 19 = .ok (.getfield 93, 3) := by decide +kernel
theorem dX5_find_22 : decode cX5_find 22 = .ok (.tableswitch 122 0 7 #[46, 54, 65, 76, 86, 96, 105, 114], 46) := by decide +kernel
theorem dX5_find_68 : decode cX5_find 68 = .ok (.aload_n 0, 1) := by decide +kernel
theorem dX5_find_69 : decode cX5_find 69 = .ok (.aload_n 1, 1) := by decide +kernel
theorem dX5_find_70 : decode cX5_find 70 = .ok (.invokevirtual 96, 3) := by decide +kernel
theorem dX5_find_73 : decode cX5_find 73 = .ok (.goto 77, 3) := by decide +kernel
theorem dX5_find_76 : decode cX5_find 76 = .ok (.aload_n 0, 1) := by decide +kernel
theorem dX5_find_77 : decode cX5_find 77 = .ok (.aload_n 1, 1) := by decide +kernel
theorem dX5_find_78 : decode cX5_find 78 = .ok (.aload_n 2, 1) := by decide +kernel
theorem dX5_find_79 : decode cX5_find 79 = .ok (.aload_n 3, 1) := by decide +kernel
theorem dX5_find_80 : decode cX5_find 80 = .ok (.iconst 1, 1) := by decide +kernel
theorem dX5_find_81 : decode cX5_find 81 = .ok (.invokevirtual 99, 3) := by decide +kernel
theorem dX5_find_84 : decode cX5_find 84 = .ok (.goto 66, 3) := by decide +kernel
theorem dX5_find_87 : decode cX5_find 87 = .ok (.aload_n 0, 1) := by decide +kernel
theorem dX5_find_88 : decode cX5_find 88 = .ok (.aload_n 1, 1) := by decide +kernel
theorem dX5_find_89 : decode cX5_find 89 = .ok (.aload_n 2, 1) := by decide +kernel
theorem dX5_find_90 : decode cX5_find 90 = .ok (.aload_n 3, 1) := by decide +kernel
theorem dX5_find_91 : decode cX5_find 91 = .ok (.iconst (-1), 1) := by decide +kernel
theorem dX5_find_92 : decode cX5_find 92 = .ok (.invokevirtual 99, 3) := by decide +kernel
theorem dX5_find_95 : decode cX5_find 95 = .ok (.goto 55, 3) := by decide +kernel
theorem dX5_find_98 : decode cX5_find 98 = .ok (.aload_n 0, 1) := by decide +kernel
theorem dX5_find_99 : decode cX5_find 99 = .ok (.aload_n 1, 1) := by decide +kernel
theorem dX5_find_100 : decode cX5_find 100 = .ok (.aload_n 2, 1) := by decide +kernel
theorem dX5_find_101 : decode cX5_find 101 = .ok (.aload_n 3, 1) := by decide +kernel
theorem dX5_find_102 : decode cX5_find 102 = .ok (.invokevirtual 103, 3) := by decide +kernel
theorem dX5_find_105 : decode cX5_find 105 = .ok (.goto 45, 3) := by decide +kernel
theorem dX5_find_108 : decode cX5_find 108 = .ok (.aload_n 0, 1) := by decide +kernel
theorem dX5_find_109 : decode cX5_find 109 = .ok (.aload_n 1, 1) := by decide +kernel
theorem dX5_find_110 : decode cX5_find 110 = .ok (.aload_n 2, 1) := by decide +kernel
theorem dX5_find_111 : decode cX5_find 111 = .ok (.aload_n 3, 1) := by decide +kernel
theorem dX5_find_112 : decode cX5_find 112 = .ok (.invokevirtual 107, 3) := by decide +kernel
theorem dX5_find_115 : decode cX5_find 115 = .ok (.goto 35, 3) := by decide +kernel
theorem dX5_find_118 : decode cX5_find 118 = .ok (.aload_n 0, 1) := by decide +kernel
theorem dX5_find_119 : decode cX5_find 119 = .ok (.aload_n 1, 1) := by decide +kernel
theorem dX5_find_120 : decode cX5_find 120 = .ok (.aload_n 2, 1) := by decide +kernel
theorem dX5_find_121 : decode cX5_find 121 = .ok (.invokevirtual 110, 3) := by decide +kernel
theorem dX5_find_124 : decode cX5_find 124 = .ok (.goto 26, 3) := by decide +kernel
theorem dX5_find_127 : decode cX5_find 127 = .ok (.aload_n 0, 1) := by decide +kernel
theorem dX5_find_128 : decode cX5_find 128 = .ok (.aload_n 1, 1) := by decide +kernel
theorem dX5_find_129 : decode cX5_find 129 = .ok (.aload_n 2, 1) := by decide +kernel
theorem dX5_find_130 : decode cX5_find 130 = .ok (.invokevirtual 114, 3) := by decide +kernel
theorem dX5_find_133 : decode cX5_find 133 = .ok (.goto 17, 3) := by decide +kernel
theorem dX5_find_136 : decode cX5_find 136 = .ok (.aload_n 0, 1) := by decide +kernel
theorem dX5_find_137 : decode cX5_find 137 = .ok (.aload_n 1, 1) := by decide +kernel
theorem dX5_find_138 : decode cX5_find 138 = .ok (.invokevirtual 117, 3) := by decide +kernel
theorem dX5_find_141 : decode cX5_find 141 = .ok (.goto 9, 3) := by decide +kernel
theorem dX5_find_144 : decode cX5_find 144 = .ok (.aload_n 0, 1) := by decide +kernel
theorem dX5_find_145 : decode cX5_find 145 = .ok (.aload_n 1, 1) := by decide +kernel
theorem dX5_find_146 : decode cX5_find 146 = .ok (.aload_n 2, 1) := by decide +kernel
theorem dX5_find_147 : decode cX5_find 147 = .ok (.invokevirtual 120, 3) := by decide +kernel
theorem dX5_find_150 : decode cX5_find 150 = .ok (.return_, 1) := by decide +kernel
theorem dX5_settle_0 : decode cX5_settle 0 = .ok (.iload_n 3, 1) := by decide +kernel
theorem dX5_settle_1 : decode cX5_settle 1 = .ok (.bipush 60, 2) := by decide +kernel
theorem dX5_settle_3 : decode cX5_settle 3 = .ok (.invokestatic 123, 3) := by decide +kernel
theorem dX5_settle_6 : decode cX5_settle 6 = .ok (.istore 6, 2) := by decide +kernel
theorem dX5_settle_8 : decode cX5_settle 8 = .ok (.iload 6, 2) := by decide +kernel
theorem dX5_settle_10 : decode cX5_settle 10 = .ok (.iload_n 2, 1) := by decide +kernel
theorem dX5_settle_11 : decode cX5_settle 11 = .ok (.isub, 1) := by decide +kernel
theorem dX5_settle_12 : decode cX5_settle 12 = .ok (.aload_n 0, 1) := by decide +kernel
theorem dX5_settle_13 : decode cX5_settle 13 = .ok (.getfield 10, 3) := by decide +kernel
theorem dX5_settle_16 : decode cX5_settle 16 = .ok (.getfield 129, 3) := by decide +kernel
theorem dX5_settle_19 : decode cX5_settle 19 = .ok (.invokestatic 123, 3) := by decide +kernel
theorem dX5_settle_22 : decode cX5_settle 22 = .ok (.istore 7, 2) := by decide +kernel
theorem dX5_settle_24 : decode cX5_settle 24 = .ok (.iload 7, 2) := by decide +kernel
theorem dX5_settle_26 : decode cX5_settle 26 = .ok (.ifCond .le 20, 3) := by decide +kernel
theorem dX5_settle_29 : decode cX5_settle 29 = .ok (.lload 4, 2) := by decide +kernel
theorem dX5_settle_31 : decode cX5_settle 31 = .ok (.aload_n 0, 1) := by decide +kernel
theorem dX5_settle_32 : decode cX5_settle 32 = .ok (.getfield 10, 3) := by decide +kernel
theorem dX5_settle_35 : decode cX5_settle 35 = .ok (.iload 7, 2) := by decide +kernel
theorem dX5_settle_37 : decode cX5_settle 37 = .ok (.invokevirtual 132, 3) := by decide +kernel
theorem dX5_settle_40 : decode cX5_settle 40 = .ok (.invokestatic 136, 3) := by decide +kernel
theorem dX5_settle_43 : decode cX5_settle 43 = .ok (.goto 4, 3) := by decide +kernel
theorem dX5_settle_46 : decode cX5_settle 46 = .ok (.lconst 0, 1) := by decide +kernel
theorem dX5_settle_47 : decode cX5_settle 47 = .ok (.lstore 8, 2) := by decide +kernel
theorem dX5_settle_49 : decode cX5_settle 49 = .ok (.lload 8, 2) := by decide +kernel
theorem dX5_settle_51 : decode cX5_settle 51 = .ok (.lconst 0, 1) := by decide +kernel
theorem dX5_settle_52 : decode cX5_settle 52 = .ok (.lcmp, 1) := by decide +kernel
theorem dX5_settle_53 : decode cX5_settle 53 = .ok (.ifCond .ne 11, 3) := by decide +kernel
theorem dX5_settle_56 : decode cX5_settle 56 = .ok (.aload_n 0, 1) := by decide +kernel
theorem dX5_settle_57 : decode cX5_settle 57 = .ok (.aload_n 1, 1) := by decide +kernel
theorem dX5_settle_58 : decode cX5_settle 58 = .ok (.iload 6, 2) := by decide +kernel
theorem dX5_settle_60 : decode cX5_settle 60 = .ok (.invokevirtual 142, 3) := by decide +kernel
theorem dX5_settle_63 : decode cX5_settle 63 = .ok (.return_, 1) := by decide +kernel
theorem dX5_settle_64 : decode cX5_settle 64 = .ok (.aload_n 1, 1) := by decide +kernel
theorem dX5_settle_65 : decode cX5_settle 65 = .ok (.iload_n 2, 1) := by decide +kernel
theorem dX5_settle_66 : decode cX5_settle 66 = .ok (.lload 8, 2) := by decide +kernel
theorem dX5_settle_68 : decode cX5_settle 68 = .ok (.aload_n 0, 1) := by decide +kernel
theorem dX5_settle_69 : decode cX5_settle 69 = .ok (.getfield 10, 3) := by decide +kernel
theorem dX5_settle_72 : decode cX5_settle 72 = .ok (.getfield 146, 3) := by decide +kernel
theorem dX5_settle_75 : decode cX5_settle 75 = .ok (.invokestatic 149, 3) := by decide +kernel
theorem dX5_settle_78 : decode cX5_settle 78 = .ok (.iadd, 1) := by decide +kernel
theorem dX5_settle_79 : decode cX5_settle 79 = .ok (.putfield 153, 3) := by decide +kernel
theorem dX5_settle_82 : decode cX5_settle 82 = .ok (.aload_n 1, 1) := by decide +kernel
theorem dX5_settle_83 : decode cX5_settle 83 = .ok (.iload_n 2, 1) := by decide +kernel
theorem dX5_settle_84 : decode cX5_settle 84 = .ok (.iload 7, 2) := by decide +kernel
theorem dX5_settle_86 : decode cX5_settle 86 = .ok (.iadd, 1) := by decide +kernel
theorem dX5_settle_87 : decode cX5_settle 87 = .ok (.putfield 156, 3) := by decide +kernel
theorem dX5_settle_90 : decode cX5_settle 90 = .ok (.aload_n 1, 1) := by decide +kernel
theorem dX5_settle_91 : decode cX5_settle 91 = .ok (.lload 8, 2) := by decide +kernel
theorem dX5_settle_93 : decode cX5_settle 93 = .ok (.aload_n 0, 1) := by decide +kernel
theorem dX5_settle_94 : decode cX5_settle 94 = .ok (.getfield 10, 3) := by decide +kernel
theorem dX5_settle_97 : decode cX5_settle 97 = .ok (.getfield 146, 3) := by decide +kernel
theorem dX5_settle_100 : decode cX5_settle 100 = .ok (.invokestatic 159, 3) := by decide +kernel
theorem dX5_settle_103 : decode cX5_settle 103 = .ok (.putfield 163, 3) := by decide +kernel
theorem dX5_settle_106 : decode cX5_settle 106 = .ok (.return_, 1) := by decide +kernel
theorem dX5_settleNothing_0 : decode cX5_settleNothing 0 = .ok (.aload_n 1, 1) := by decide +kernel
theorem dX5_settleNothing_1 : decode cX5_settleNothing 1 = .ok (.iload_n 2, 1) := by decide +kernel
theorem dX5_settleNothing_2 : decode cX5_settleNothing 2 = .ok (.putfield 153, 3) := by decide +kernel
theorem dX5_settleNothing_5 : decode cX5_settleNothing 5 = .ok (.aload_n 1, 1) := by decide +kernel
theorem dX5_settleNothing_6 : decode cX5_settleNothing 6 = .ok (.iload_n 2, 1) := by decide +kernel
theorem dX5_settleNothing_7 : decode cX5_settleNothing 7 = .ok (.putfield 156, 3) := by decide +kernel
theorem dX5_settleNothing_10 : decode cX5_settleNothing 10 = .ok (.aload_n 1, 1) := by decide +kernel
theorem dX5_settleNothing_11 : decode cX5_settleNothing 11 = .ok (.lconst 0, 1) := by decide +kernel
theorem dX5_settleNothing_12 : decode cX5_settleNothing 12 = .ok (.putfield 163, 3) := by decide +kernel
theorem dX5_settleNothing_15 : decode cX5_settleNothing 15 = .ok (.return_, 1) := by decide +kernel
theorem dX5_findFraction_0 : decode cX5_findFraction 0 = .ok (.aload_n 1, 1) := by decide +kernel
theorem dX5_findFraction_1 : decode cX5_findFraction 1 = .ok (.getfield 56, 3) := by decide +kernel
theorem dX5_findFraction_4 : decode cX5_findFraction 4 = .ok (.i2l, 1) := by decide +kernel
theorem dX5_findFraction_5 : decode cX5_findFraction 5 = .ok (.aload_n 0, 1) := by decide +kernel
theorem dX5_findFraction_6 : decode cX5_findFraction 6 = .ok (.getfield 10, 3) := by decide +kernel
theorem dX5_findFraction_9 : decode cX5_findFraction 9 = .ok (.getfield 146, 3) := by decide +kernel
theorem dX5_findFraction_12 : decode cX5_findFraction 12 = .ok (.invokestatic 149, 3) := by decide +kernel
theorem dX5_findFraction_15 : decode cX5_findFraction 15 = .ok (.aload_n 1, 1) := by decide +kernel
theorem dX5_findFraction_16 : decode cX5_findFraction 16 = .ok (.getfield 59, 3) := by decide +kernel
theorem dX5_findFraction_19 : decode cX5_findFraction 19 = .ok (.i2l, 1) := by decide +kernel
theorem dX5_findFraction_20 : decode cX5_findFraction 20 = .ok (.aload_n 0, 1) := by decide +kernel
theorem dX5_findFraction_21 : decode cX5_findFraction 21 = .ok (.getfield 10, 3) := by decide +kernel
theorem dX5_findFraction_24 : decode cX5_findFraction 24 = .ok (.getfield 146, 3) := by decide +kernel
theorem dX5_findFraction_27 : decode cX5_findFraction 27 = .ok (.invokestatic 149, 3) := by decide +kernel
theorem dX5_findFraction_30 : decode cX5_findFraction 30 = .ok (.isub, 1) := by decide +kernel
theorem dX5_findFraction_31 : decode cX5_findFraction 31 = .ok (.istore_n 2, 1) := by decide +kernel
theorem dX5_findFraction_32 : decode cX5_findFraction 32 = .ok (.aload_n 1, 1) := by decide +kernel
theorem dX5_findFraction_33 : decode cX5_findFraction 33 = .ok (.getfield 56, 3) := by decide +kernel
theorem dX5_findFraction_36 : decode cX5_findFraction 36 = .ok (.ifCond .eq 11, 3) := by decide +kernel
theorem dX5_findFraction_39 : decode cX5_findFraction 39 = .ok (.iload_n 2, 1) := by decide +kernel
theorem dX5_findFraction_40 : decode cX5_findFraction 40 = .ok (.aload_n 1, 1) := by decide +kernel
theorem dX5_findFraction_41 : decode cX5_findFraction 41 = .ok (.getfield 62, 3) := by decide +kernel
theorem dX5_findFraction_44 : decode cX5_findFraction 44 = .ok (.if_icmp .lt 13, 3) := by decide +kernel
theorem dX5_findFraction_47 : decode cX5_findFraction 47 = .ok (.aload_n 0, 1) := by decide +kernel
theorem dX5_findFraction_48 : decode cX5_findFraction 48 = .ok (.aload_n 1, 1) := by decide +kernel
theorem dX5_findFraction_49 : decode cX5_findFraction 49 = .ok (.aload_n 1, 1) := by decide +kernel
theorem dX5_findFraction_50 : decode cX5_findFraction 50 = .ok (.getfield 62, 3) := by decide +kernel
theorem dX5_findFraction_53 : decode cX5_findFraction 53 = .ok (.invokevirtual 142, 3) := by decide +kernel
theorem dX5_findFraction_56 : decode cX5_findFraction 56 = .ok (.return_, 1) := by decide +kernel
theorem dX5_findFraction_57 : decode cX5_findFraction 57 = .ok (.aload_n 1, 1) := by decide +kernel
theorem dX5_findFraction_58 : decode cX5_findFraction 58 = .ok (.getfield 62, 3) := by decide +kernel
theorem dX5_findFraction_61 : decode cX5_findFraction 61 = .ok (.iload_n 2, 1) := by decide +kernel
theorem dX5_findFraction_62 : decode cX5_findFraction 62 = .ok (.aload_n 0, 1) := by decide +kernel
theorem dX5_findFraction_63 : decode cX5_findFraction 63 = .ok (.getfield 10, 3) := by decide +kernel
theorem dX5_findFraction_66 : decode cX5_findFraction 66 = .ok (.getfield 129, 3) := by decide +kernel
theorem dX5_findFraction_69 : decode cX5_findFraction 69 = .ok (.iadd, 1) := by decide +kernel
theorem dX5_findFraction_70 : decode cX5_findFraction 70 = .ok (.invokestatic 123, 3) := by decide +kernel
theorem dX5_findFraction_73 : decode cX5_findFraction 73 = .ok (.istore_n 3, 1) := by decide +kernel
theorem dX5_findFraction_74 : decode cX5_findFraction 74 = .ok (.aload_n 0, 1) := by decide +kernel
theorem dX5_findFraction_75 : decode cX5_findFraction 75 = .ok (.getfield 10, 3) := by decide +kernel
theorem dX5_findFraction_78 : decode cX5_findFraction 78 = .ok (.iload_n 3, 1) := by decide +kernel
theorem dX5_findFraction_79 : decode cX5_findFraction 79 = .ok (.iload_n 2, 1) := by decide +kernel
theorem dX5_findFraction_80 : decode cX5_findFraction 80 = .ok (.isub, 1) := by decide +kernel
theorem dX5_findFraction_81 : decode cX5_findFraction 81 = .ok (.invokevirtual 132, 3) := by decide +kernel
theorem dX5_findFraction_84 : decode cX5_findFraction 84 = .ok (.lstore 4, 2) := by decide +kernel
theorem dX5_findFraction_86 : decode cX5_findFraction 86 = .ok (.aload_n 1, 1) := by decide +kernel
theorem dX5_findFraction_87 : decode cX5_findFraction 87 = .ok (.getfield 56, 3) := by decide +kernel
theorem dX5_findFraction_90 : decode cX5_findFraction 90 = .ok (.i2l, 1) := by decide +kernel
theorem dX5_findFraction_91 : decode cX5_findFraction 91 = .ok (.aload_n 0, 1) := by decide +kernel
theorem dX5_findFraction_92 : decode cX5_findFraction 92 = .ok (.getfield 10, 3) := by decide +kernel
theorem dX5_findFraction_95 : decode cX5_findFraction 95 = .ok (.getfield 146, 3) := by decide +kernel
theorem dX5_findFraction_98 : decode cX5_findFraction 98 = .ok (.invokestatic 159, 3) := by decide +kernel
theorem dX5_findFraction_101 : decode cX5_findFraction 101 = .ok (.lstore 6, 2) := by decide +kernel
theorem dX5_findFraction_103 : decode cX5_findFraction 103 = .ok (.aload_n 1, 1) := by decide +kernel
theorem dX5_findFraction_104 : decode cX5_findFraction 104 = .ok (.getfield 59, 3) := by decide +kernel
theorem dX5_findFraction_107 : decode cX5_findFraction 107 = .ok (.i2l, 1) := by decide +kernel
theorem dX5_findFraction_108 : decode cX5_findFraction 108 = .ok (.aload_n 0, 1) := by decide +kernel
theorem dX5_findFraction_109 : decode cX5_findFraction 109 = .ok (.getfield 10, 3) := by decide +kernel
theorem dX5_findFraction_112 : decode cX5_findFraction 112 = .ok (.getfield 146, 3) := by decide +kernel
theorem dX5_findFraction_115 : decode cX5_findFraction 115 = .ok (.invokestatic 159, 3) := by decide +kernel
theorem dX5_findFraction_118 : decode cX5_findFraction 118 = .ok (.lload 4, 2) := by decide +kernel
theorem dX5_findFraction_120 : decode cX5_findFraction 120 = .ok (.invokestatic 167, 3) := by decide +kernel
theorem dX5_findFraction_123 : decode cX5_findFraction 123 = .ok (.lstore 8, 2) := by decide +kernel
theorem dX5_findFraction_125 : decode cX5_findFraction 125 = .ok (.aload_n 0, 1) := by decide +kernel
theorem dX5_findFraction_126 : decode cX5_findFraction 126 = .ok (.aload_n 1, 1) := by decide +kernel
theorem dX5_findFraction_127 : decode cX5_findFraction 127 = .ok (.iload_n 2, 1) := by decide +kernel
theorem dX5_findFraction_128 : decode cX5_findFraction 128 = .ok (.iload_n 3, 1) := by decide +kernel
theorem dX5_findFraction_129 : decode cX5_findFraction 129 = .ok (.lload 6, 2) := by decide +kernel
theorem dX5_findFraction_131 : decode cX5_findFraction 131 = .ok (.lload 8, 2) := by decide +kernel
theorem dX5_findFraction_133 : decode cX5_findFraction 133 = .ok (.lload 4, 2) := by decide +kernel
theorem dX5_findFraction_135 : decode cX5_findFraction 135 = .ok (.invokestatic 170, 3) := by decide +kernel
theorem dX5_findFraction_138 : decode cX5_findFraction 138 = .ok (.invokevirtual 174, 3) := by decide +kernel
theorem dX5_findFraction_141 : decode cX5_findFraction 141 = .ok (.return_, 1) := by decide +kernel
theorem dX5_wholeFrom_0 : decode cX5_wholeFrom 0 = .ok (.aload_n 1, 1) := by decide +kernel
theorem dX5_wholeFrom_1 : decode cX5_wholeFrom 1 = .ok (.getfield 153, 3) := by decide +kernel
theorem dX5_wholeFrom_4 : decode cX5_wholeFrom 4 = .ok (.iload_n 3, 1) := by decide +kernel
theorem dX5_wholeFrom_5 : decode cX5_wholeFrom 5 = .ok (.if_icmp .ge 11, 3) := by decide +kernel
theorem dX5_wholeFrom_8 : decode cX5_wholeFrom 8 = .ok (.aload_n 1, 1) := by decide +kernel
theorem dX5_wholeFrom_9 : decode cX5_wholeFrom 9 = .ok (.getfield 153, 3) := by decide +kernel
theorem dX5_wholeFrom_12 : decode cX5_wholeFrom 12 = .ok (.iload_n 2, 1) := by decide +kernel
theorem dX5_wholeFrom_13 : decode cX5_wholeFrom 13 = .ok (.if_icmp .ge 5, 3) := by decide +kernel
theorem dX5_wholeFrom_16 : decode cX5_wholeFrom 16 = .ok (.lconst 0, 1) := by decide +kernel
theorem dX5_wholeFrom_17 : decode cX5_wholeFrom 17 = .ok (.lreturn, 1) := by decide +kernel
theorem dX5_wholeFrom_18 : decode cX5_wholeFrom 18 = .ok (.aload_n 1, 1) := by decide +kernel
theorem dX5_wholeFrom_19 : decode cX5_wholeFrom 19 = .ok (.getfield 163, 3) := by decide +kernel
theorem dX5_wholeFrom_22 : decode cX5_wholeFrom 22 = .ok (.aload_n 0, 1) := by decide +kernel
theorem dX5_wholeFrom_23 : decode cX5_wholeFrom 23 = .ok (.getfield 10, 3) := by decide +kernel
theorem dX5_wholeFrom_26 : decode cX5_wholeFrom 26 = .ok (.aload_n 1, 1) := by decide +kernel
theorem dX5_wholeFrom_27 : decode cX5_wholeFrom 27 = .ok (.getfield 153, 3) := by decide +kernel
theorem dX5_wholeFrom_30 : decode cX5_wholeFrom 30 = .ok (.iload_n 2, 1) := by decide +kernel
theorem dX5_wholeFrom_31 : decode cX5_wholeFrom 31 = .ok (.isub, 1) := by decide +kernel
theorem dX5_wholeFrom_32 : decode cX5_wholeFrom 32 = .ok (.invokevirtual 132, 3) := by decide +kernel
theorem dX5_wholeFrom_35 : decode cX5_wholeFrom 35 = .ok (.aload_n 0, 1) := by decide +kernel
theorem dX5_wholeFrom_36 : decode cX5_wholeFrom 36 = .ok (.getfield 10, 3) := by decide +kernel
theorem dX5_wholeFrom_39 : decode cX5_wholeFrom 39 = .ok (.iload_n 3, 1) := by decide +kernel
theorem dX5_wholeFrom_40 : decode cX5_wholeFrom 40 = .ok (.iload_n 2, 1) := by decide +kernel
theorem dX5_wholeFrom_41 : decode cX5_wholeFrom 41 = .ok (.isub, 1) := by decide +kernel
theorem dX5_wholeFrom_42 : decode cX5_wholeFrom 42 = .ok (.invokevirtual 132, 3) := by decide +kernel
theorem dX5_wholeFrom_45 : decode cX5_wholeFrom 45 = .ok (.invokestatic 170, 3) := by decide +kernel
theorem dX5_wholeFrom_48 : decode cX5_wholeFrom 48 = .ok (.lreturn, 1) := by decide +kernel
theorem dX5_findSum_0 : decode cX5_findSum 0 = .ok (.aload_n 2, 1) := by decide +kernel
theorem dX5_findSum_1 : decode cX5_findSum 1 = .ok (.getfield 156, 3) := by decide +kernel
theorem dX5_findSum_4 : decode cX5_findSum 4 = .ok (.aload_n 3, 1) := by decide +kernel
theorem dX5_findSum_5 : decode cX5_findSum 5 = .ok (.getfield 156, 3) := by decide +kernel
theorem dX5_findSum_8 : decode cX5_findSum 8 = .ok (.invokestatic 123, 3) := by decide +kernel
theorem dX5_findSum_11 : decode cX5_findSum 11 = .ok (.istore 5, 2) := by decide +kernel
theorem dX5_findSum_13 : decode cX5_findSum 13 = .ok (.aload_n 2, 1) := by decide +kernel
theorem dX5_findSum_14 : decode cX5_findSum 14 = .ok (.getfield 153, 3) := by decide +kernel
theorem dX5_findSum_17 : decode cX5_findSum 17 = .ok (.aload_n 3, 1) := by decide +kernel
theorem dX5_findSum_18 : decode cX5_findSum 18 = .ok (.getfield 153, 3) := by decide +kernel
theorem dX5_findSum_21 : decode cX5_findSum 21 = .ok (.invokestatic 123, 3) := by decide +kernel
theorem dX5_findSum_24 : decode cX5_findSum 24 = .ok (.istore 6, 2) := by decide +kernel
theorem dX5_findSum_26 : decode cX5_findSum 26 = .ok (.aload_n 0, 1) := by decide +kernel
theorem dX5_findSum_27 : decode cX5_findSum 27 = .ok (.aload_n 1, 1) := by decide +kernel
theorem dX5_findSum_28 : decode cX5_findSum 28 = .ok (.iload 6, 2) := by decide +kernel
theorem dX5_findSum_30 : decode cX5_findSum 30 = .ok (.iload 5, 2) := by decide +kernel
theorem dX5_findSum_32 : decode cX5_findSum 32 = .ok (.aload_n 0, 1) := by decide +kernel
theorem dX5_findSum_33 : decode cX5_findSum 33 = .ok (.aload_n 2, 1) := by decide +kernel
theorem dX5_findSum_34 : decode cX5_findSum 34 = .ok (.iload 6, 2) := by decide +kernel
theorem dX5_findSum_36 : decode cX5_findSum 36 = .ok (.iload 5, 2) := by decide +kernel
theorem dX5_findSum_38 : decode cX5_findSum 38 = .ok (.invokevirtual 178, 3) := by decide +kernel
theorem dX5_findSum_41 : decode cX5_findSum 41 = .ok (.iload 4, 2) := by decide +kernel
theorem dX5_findSum_43 : decode cX5_findSum 43 = .ok (.i2l, 1) := by decide +kernel
theorem dX5_findSum_44 : decode cX5_findSum 44 = .ok (.aload_n 0, 1) := by decide +kernel
theorem dX5_findSum_45 : decode cX5_findSum 45 = .ok (.aload_n 3, 1) := by decide +kernel
theorem dX5_findSum_46 : decode cX5_findSum 46 = .ok (.iload 6, 2) := by decide +kernel
theorem dX5_findSum_48 : decode cX5_findSum 48 = .ok (.iload 5, 2) := by decide +kernel
theorem dX5_findSum_50 : decode cX5_findSum 50 = .ok (.invokevirtual 178, 3) := by decide +kernel
theorem dX5_findSum_53 : decode cX5_findSum 53 = .ok (.lmul, 1) := by decide +kernel
theorem dX5_findSum_54 : decode cX5_findSum 54 = .ok (.ladd, 1) := by decide +kernel
theorem dX5_findSum_55 : decode cX5_findSum 55 = .ok (.invokevirtual 174, 3) := by decide +kernel
theorem dX5_findSum_58 : decode cX5_findSum 58 = .ok (.return_, 1) := by decide +kernel
theorem dX5_findProduct_0 : decode cX5_findProduct 0 = .ok (.aload_n 2, 1) := by decide +kernel
theorem dX5_findProduct_1 : decode cX5_findProduct 1 = .ok (.getfield 153, 3) := by decide +kernel
theorem dX5_findProduct_4 : decode cX5_findProduct 4 = .ok (.aload_n 3, 1) := by decide +kernel
theorem dX5_findProduct_5 : decode cX5_findProduct 5 = .ok (.getfield 153, 3) := by decide +kernel
theorem dX5_findProduct_8 : decode cX5_findProduct 8 = .ok (.iadd, 1) := by decide +kernel
theorem dX5_findProduct_9 : decode cX5_findProduct 9 = .ok (.istore 4, 2) := by decide +kernel
theorem dX5_findProduct_11 : decode cX5_findProduct 11 = .ok (.aload_n 2, 1) := by decide +kernel
theorem dX5_findProduct_12 : decode cX5_findProduct 12 = .ok (.getfield 153, 3) := by decide +kernel
theorem dX5_findProduct_15 : decode cX5_findProduct 15 = .ok (.aload_n 3, 1) := by decide +kernel
theorem dX5_findProduct_16 : decode cX5_findProduct 16 = .ok (.getfield 156, 3) := by decide +kernel
theorem dX5_findProduct_19 : decode cX5_findProduct 19 = .ok (.iadd, 1) := by decide +kernel
theorem dX5_findProduct_20 : decode cX5_findProduct 20 = .ok (.aload_n 3, 1) := by decide +kernel
theorem dX5_findProduct_21 : decode cX5_findProduct 21 = .ok (.getfield 153, 3) := by decide +kernel
theorem dX5_findProduct_24 : decode cX5_findProduct 24 = .ok (.aload_n 2, 1) := by decide +kernel
theorem dX5_findProduct_25 : decode cX5_findProduct 25 = .ok (.getfield 156, 3) := by decide +kernel
theorem dX5_findProduct_28 : decode cX5_findProduct 28 = .ok (.iadd, 1) := by decide +kernel
theorem dX5_findProduct_29 : decode cX5_findProduct 29 = .ok (.invokestatic 123, 3) := by decide +kernel
theorem dX5_findProduct_32 : decode cX5_findProduct 32 = .ok (.istore 5, 2) := by decide +kernel
theorem dX5_findProduct_34 : decode cX5_findProduct 34 = .ok (.aload_n 0, 1) := by decide +kernel
theorem dX5_findProduct_35 : decode cX5_findProduct 35 = .ok (.aload_n 1, 1) := by decide +kernel
theorem dX5_findProduct_36 : decode cX5_findProduct 36 = .ok (.iload 4, 2) := by decide +kernel
theorem dX5_findProduct_38 : decode cX5_findProduct 38 = .ok (.iload 5, 2) := by decide +kernel
theorem dX5_findProduct_40 : decode cX5_findProduct 40 = .ok (.aload_n 2, 1) := by decide +kernel
theorem dX5_findProduct_41 : decode cX5_findProduct 41 = .ok (.getfield 163, 3) := by decide +kernel
theorem dX5_findProduct_44 : decode cX5_findProduct 44 = .ok (.aload_n 3, 1) := by decide +kernel
theorem dX5_findProduct_45 : decode cX5_findProduct 45 = .ok (.getfield 163, 3) := by decide +kernel
theorem dX5_findProduct_48 : decode cX5_findProduct 48 = .ok (.aload_n 0, 1) := by decide +kernel
theorem dX5_findProduct_49 : decode cX5_findProduct 49 = .ok (.getfield 10, 3) := by decide +kernel
theorem dX5_findProduct_52 : decode cX5_findProduct 52 = .ok (.iload 5, 2) := by decide +kernel
theorem dX5_findProduct_54 : decode cX5_findProduct 54 = .ok (.iload 4, 2) := by decide +kernel
theorem dX5_findProduct_56 : decode cX5_findProduct 56 = .ok (.isub, 1) := by decide +kernel
theorem dX5_findProduct_57 : decode cX5_findProduct 57 = .ok (.invokevirtual 132, 3) := by decide +kernel
theorem dX5_findProduct_60 : decode cX5_findProduct 60 = .ok (.invokestatic 170, 3) := by decide +kernel
theorem dX5_findProduct_63 : decode cX5_findProduct 63 = .ok (.invokevirtual 174, 3) := by decide +kernel
theorem dX5_findProduct_66 : decode cX5_findProduct 66 = .ok (.return_, 1) := by decide +kernel
theorem dX5_findQuotient_0 : decode cX5_findQuotient 0 = .ok (.aload_n 2, 1) := by decide +kernel
theorem dX5_findQuotient_1 : decode cX5_findQuotient 1 = .ok (.getfield 153, 3) := by decide +kernel
theorem dX5_findQuotient_4 : decode cX5_findQuotient 4 = .ok (.aload_n 3, 1) := by decide +kernel
theorem dX5_findQuotient_5 : decode cX5_findQuotient 5 = .ok (.getfield 153, 3) := by decide +kernel
theorem dX5_findQuotient_8 : decode cX5_findQuotient 8 = .ok (.isub, 1) := by decide +kernel
theorem dX5_findQuotient_9 : decode cX5_findQuotient 9 = .ok (.istore 4, 2) := by decide +kernel
theorem dX5_findQuotient_11 : decode cX5_findQuotient 11 = .ok (.aload_n 2, 1) := by decide +kernel
theorem dX5_findQuotient_12 : decode cX5_findQuotient 12 = .ok (.getfield 156, 3) := by decide +kernel
theorem dX5_findQuotient_15 : decode cX5_findQuotient 15 = .ok (.aload_n 3, 1) := by decide +kernel
theorem dX5_findQuotient_16 : decode cX5_findQuotient 16 = .ok (.getfield 153, 3) := by decide +kernel
theorem dX5_findQuotient_19 : decode cX5_findQuotient 19 = .ok (.isub, 1) := by decide +kernel
theorem dX5_findQuotient_20 : decode cX5_findQuotient 20 = .ok (.aload_n 2, 1) := by decide +kernel
theorem dX5_findQuotient_21 : decode cX5_findQuotient 21 = .ok (.getfield 153, 3) := by decide +kernel
theorem dX5_findQuotient_24 : decode cX5_findQuotient 24 = .ok (.aload_n 3, 1) := by decide +kernel
theorem dX5_findQuotient_25 : decode cX5_findQuotient 25 = .ok (.getfield 156, 3) := by decide +kernel
theorem dX5_findQuotient_28 : decode cX5_findQuotient 28 = .ok (.iadd, 1) := by decide +kernel
theorem dX5_findQuotient_29 : decode cX5_findQuotient 29 = .ok (.iconst 2, 1) := by decide +kernel
theorem dX5_findQuotient_30 : decode cX5_findQuotient 30 = .ok (.aload_n 3, 1) := by decide +kernel
theorem dX5_findQuotient_31 : decode cX5_findQuotient 31 = .ok (.getfield 153, 3) := by decide +kernel
theorem dX5_findQuotient_34 : decode cX5_findQuotient 34 = .ok (.imul, 1) := by decide +kernel
theorem dX5_findQuotient_35 : decode cX5_findQuotient 35 = .ok (.isub, 1) := by decide +kernel
theorem dX5_findQuotient_36 : decode cX5_findQuotient 36 = .ok (.invokestatic 123, 3) := by decide +kernel
theorem dX5_findQuotient_39 : decode cX5_findQuotient 39 = .ok (.istore 5, 2) := by decide +kernel
theorem dX5_findQuotient_41 : decode cX5_findQuotient 41 = .ok (.aload_n 0, 1) := by decide +kernel
theorem dX5_findQuotient_42 : decode cX5_findQuotient 42 = .ok (.getfield 10, 3) := by decide +kernel
theorem dX5_findQuotient_45 : decode cX5_findQuotient 45 = .ok (.iload 5, 2) := by decide +kernel
theorem dX5_findQuotient_47 : decode cX5_findQuotient 47 = .ok (.iload 4, 2) := by decide +kernel
theorem dX5_findQuotient_49 : decode cX5_findQuotient 49 = .ok (.isub, 1) := by decide +kernel
theorem dX5_findQuotient_50 : decode cX5_findQuotient 50 = .ok (.invokevirtual 132, 3) := by decide +kernel
theorem dX5_findQuotient_53 : decode cX5_findQuotient 53 = .ok (.lstore 6, 2) := by decide +kernel
theorem dX5_findQuotient_55 : decode cX5_findQuotient 55 = .ok (.aload_n 0, 1) := by decide +kernel
theorem dX5_findQuotient_56 : decode cX5_findQuotient 56 = .ok (.aload_n 1, 1) := by decide +kernel
theorem dX5_findQuotient_57 : decode cX5_findQuotient 57 = .ok (.iload 4, 2) := by decide +kernel
theorem dX5_findQuotient_59 : decode cX5_findQuotient 59 = .ok (.iload 5, 2) := by decide +kernel
theorem dX5_findQuotient_61 : decode cX5_findQuotient 61 = .ok (.aload_n 2, 1) := by decide +kernel
theorem dX5_findQuotient_62 : decode cX5_findQuotient 62 = .ok (.getfield 163, 3) := by decide +kernel
theorem dX5_findQuotient_65 : decode cX5_findQuotient 65 = .ok (.aload_n 3, 1) := by decide +kernel
theorem dX5_findQuotient_66 : decode cX5_findQuotient 66 = .ok (.getfield 163, 3) := by decide +kernel
theorem dX5_findQuotient_69 : decode cX5_findQuotient 69 = .ok (.lload 6, 2) := by decide +kernel
theorem dX5_findQuotient_71 : decode cX5_findQuotient 71 = .ok (.invokestatic 167, 3) := by decide +kernel
theorem dX5_findQuotient_74 : decode cX5_findQuotient 74 = .ok (.lload 6, 2) := by decide +kernel
theorem dX5_findQuotient_76 : decode cX5_findQuotient 76 = .ok (.invokestatic 170, 3) := by decide +kernel
theorem dX5_findQuotient_79 : decode cX5_findQuotient 79 = .ok (.invokevirtual 174, 3) := by decide +kernel
theorem dX5_findQuotient_82 : decode cX5_findQuotient 82 = .ok (.return_, 1) := by decide +kernel
theorem dX5_hasSquareRoot_0 : decode cX5_hasSquareRoot 0 = .ok (.aload_n 1, 1) := by decide +kernel
theorem dX5_hasSquareRoot_1 : decode cX5_hasSquareRoot 1 = .ok (.invokevirtual 182, 3) := by decide +kernel
theorem dX5_hasSquareRoot_4 : decode cX5_hasSquareRoot 4 = .ok (.ifCond .ne 12, 3) := by decide +kernel
theorem dX5_hasSquareRoot_7 : decode cX5_hasSquareRoot 7 = .ok (.aload_n 1, 1) := by decide +kernel
theorem dX5_hasSquareRoot_8 : decode cX5_hasSquareRoot 8 = .ok (.getfield 153, 3) := by decide +kernel
theorem dX5_hasSquareRoot_11 : decode cX5_hasSquareRoot 11 = .ok (.iconst 1, 1) := by decide +kernel
theorem dX5_hasSquareRoot_12 : decode cX5_hasSquareRoot 12 = .ok (.iand, 1) := by decide +kernel
theorem dX5_hasSquareRoot_13 : decode cX5_hasSquareRoot 13 = .ok (.ifCond .eq 5, 3) := by decide +kernel
theorem dX5_hasSquareRoot_16 : decode cX5_hasSquareRoot 16 = .ok (.iconst 0, 1) := by decide +kernel
theorem dX5_hasSquareRoot_17 : decode cX5_hasSquareRoot 17 = .ok (.ireturn, 1) := by decide +kernel
theorem dX5_hasSquareRoot_18 : decode cX5_hasSquareRoot 18 = .ok (.aload_n 0, 1) := by decide +kernel
theorem dX5_hasSquareRoot_19 : decode cX5_hasSquareRoot 19 = .ok (.getfield 10, 3) := by decide +kernel
theorem dX5_hasSquareRoot_22 : decode cX5_hasSquareRoot 22 = .ok (.getfield 146, 3) := by decide +kernel
theorem dX5_hasSquareRoot_25 : decode cX5_hasSquareRoot 25 = .ok (.iconst 2, 1) := by decide +kernel
theorem dX5_hasSquareRoot_26 : decode cX5_hasSquareRoot 26 = .ok (.if_icmp .ne 35, 3) := by decide +kernel
theorem dX5_hasSquareRoot_29 : decode cX5_hasSquareRoot 29 = .ok (.aload_n 1, 1) := by decide +kernel
theorem dX5_hasSquareRoot_30 : decode cX5_hasSquareRoot 30 = .ok (.getfield 156, 3) := by decide +kernel
theorem dX5_hasSquareRoot_33 : decode cX5_hasSquareRoot 33 = .ok (.aload_n 1, 1) := by decide +kernel
theorem dX5_hasSquareRoot_34 : decode cX5_hasSquareRoot 34 = .ok (.getfield 153, 3) := by decide +kernel
theorem dX5_hasSquareRoot_37 : decode cX5_hasSquareRoot 37 = .ok (.isub, 1) := by decide +kernel
theorem dX5_hasSquareRoot_38 : decode cX5_hasSquareRoot 38 = .ok (.iconst 3, 1) := by decide +kernel
theorem dX5_hasSquareRoot_39 : decode cX5_hasSquareRoot 39 = .ok (.if_icmp .lt 20, 3) := by decide +kernel
theorem dX5_hasSquareRoot_42 : decode cX5_hasSquareRoot 42 = .ok (.aload_n 1, 1) := by decide +kernel
theorem dX5_hasSquareRoot_43 : decode cX5_hasSquareRoot 43 = .ok (.getfield 163, 3) := by decide +kernel
theorem dX5_hasSquareRoot_46 : decode cX5_hasSquareRoot 46 = .ok (.ldc2_w 186, 3) := by decide +kernel
theorem dX5_hasSquareRoot_49 : decode cX5_hasSquareRoot 49 = .ok (.land, 1) := by decide +kernel
theorem dX5_hasSquareRoot_50 : decode cX5_hasSquareRoot 50 = .ok (.lconst 1, 1) := by decide +kernel
theorem dX5_hasSquareRoot_51 : decode cX5_hasSquareRoot 51 = .ok (.lcmp, 1) := by decide +kernel
theorem dX5_hasSquareRoot_52 : decode cX5_hasSquareRoot 52 = .ok (.ifCond .ne 7, 3) := by decide +kernel
theorem dX5_hasSquareRoot_55 : decode cX5_hasSquareRoot 55 = .ok (.iconst 1, 1) := by decide +kernel
theorem dX5_hasSquareRoot_56 : decode cX5_hasSquareRoot 56 = .ok (.goto 4, 3) := by decide +kernel
theorem dX5_hasSquareRoot_59 : decode cX5_hasSquareRoot 59 = .ok (.iconst 0, 1) := by decide +kernel
theorem dX5_hasSquareRoot_60 : decode cX5_hasSquareRoot 60 = .ok (.ireturn, 1) := by decide +kernel
theorem dX5_hasSquareRoot_61 : decode cX5_hasSquareRoot 61 = .ok (.aload_n 0, 1) := by decide +kernel
theorem dX5_hasSquareRoot_62 : decode cX5_hasSquareRoot 62 = .ok (.aload_n 1, 1) := by decide +kernel
theorem dX5_hasSquareRoot_63 : decode cX5_hasSquareRoot 63 = .ok (.getfield 163, 3) := by decide +kernel
theorem dX5_hasSquareRoot_66 : decode cX5_hasSquareRoot 66 = .ok (.aload_n 0, 1) := by decide +kernel
theorem dX5_hasSquareRoot_67 : decode cX5_hasSquareRoot 67 = .ok (.getfield 10, 3) := by decide +kernel
theorem dX5_hasSquareRoot_70 : decode cX5_hasSquareRoot 70 = .ok (.getfield 146, 3) := by decide +kernel
theorem dX5_hasSquareRoot_73 : decode cX5_hasSquareRoot 73 = .ok (.i2l, 1) := by decide +kernel
theorem dX5_hasSquareRoot_74 : decode cX5_hasSquareRoot 74 = .ok (.invokestatic 136, 3) := by decide +kernel
theorem dX5_hasSquareRoot_77 : decode cX5_hasSquareRoot 77 = .ok (.invokevirtual 188, 3) := by decide +kernel
theorem dX5_hasSquareRoot_80 : decode cX5_hasSquareRoot 80 = .ok (.ifCond .le 7, 3) := by decide +kernel
theorem dX5_hasSquareRoot_83 : decode cX5_hasSquareRoot 83 = .ok (.iconst 1, 1) := by decide +kernel
theorem dX5_hasSquareRoot_84 : decode cX5_hasSquareRoot 84 = .ok (.goto 4, 3) := by decide +kernel
theorem dX5_hasSquareRoot_87 : decode cX5_hasSquareRoot 87 = .ok (.iconst 0, 1) := by decide +kernel
theorem dX5_hasSquareRoot_88 : decode cX5_hasSquareRoot 88 = .ok (.ireturn, 1) := by decide +kernel
theorem dX5_rootDigit_0 : decode cX5_rootDigit 0 = .ok (.iconst 1, 1) := by decide +kernel
theorem dX5_rootDigit_1 : decode cX5_rootDigit 1 = .ok (.istore_n 3, 1) := by decide +kernel
theorem dX5_rootDigit_2 : decode cX5_rootDigit 2 = .ok (.iload_n 3, 1) := by decide +kernel
theorem dX5_rootDigit_3 : decode cX5_rootDigit 3 = .ok (.aload_n 0, 1) := by decide +kernel
theorem dX5_rootDigit_4 : decode cX5_rootDigit 4 = .ok (.getfield 10, 3) := by decide +kernel
theorem dX5_rootDigit_7 : decode cX5_rootDigit 7 = .ok (.getfield 146, 3) := by decide +kernel
theorem dX5_rootDigit_10 : decode cX5_rootDigit 10 = .ok (.if_icmp .ge 32, 3) := by decide +kernel
theorem dX5_rootDigit_13 : decode cX5_rootDigit 13 = .ok (.iload_n 3, 1) := by decide +kernel
theorem dX5_rootDigit_14 : decode cX5_rootDigit 14 = .ok (.i2l, 1) := by decide +kernel
theorem dX5_rootDigit_15 : decode cX5_rootDigit 15 = .ok (.iload_n 3, 1) := by decide +kernel
theorem dX5_rootDigit_16 : decode cX5_rootDigit 16 = .ok (.i2l, 1) := by decide +kernel
theorem dX5_rootDigit_17 : decode cX5_rootDigit 17 = .ok (.lmul, 1) := by decide +kernel
theorem dX5_rootDigit_18 : decode cX5_rootDigit 18 = .ok (.aload_n 0, 1) := by decide +kernel
theorem dX5_rootDigit_19 : decode cX5_rootDigit 19 = .ok (.getfield 10, 3) := by decide +kernel
theorem dX5_rootDigit_22 : decode cX5_rootDigit 22 = .ok (.getfield 146, 3) := by decide +kernel
theorem dX5_rootDigit_25 : decode cX5_rootDigit 25 = .ok (.i2l, 1) := by decide +kernel
theorem dX5_rootDigit_26 : decode cX5_rootDigit 26 = .ok (.invokestatic 136, 3) := by decide +kernel
theorem dX5_rootDigit_29 : decode cX5_rootDigit 29 = .ok (.lload_n 1, 1) := by decide +kernel
theorem dX5_rootDigit_30 : decode cX5_rootDigit 30 = .ok (.lcmp, 1) := by decide +kernel
theorem dX5_rootDigit_31 : decode cX5_rootDigit 31 = .ok (.ifCond .ne 5, 3) := by decide +kernel
theorem dX5_rootDigit_34 : decode cX5_rootDigit 34 = .ok (.iload_n 3, 1) := by decide +kernel
theorem dX5_rootDigit_35 : decode cX5_rootDigit 35 = .ok (.ireturn, 1) := by decide +kernel
theorem dX5_rootDigit_36 : decode cX5_rootDigit 36 = .ok (.iinc 3 1, 3) := by decide +kernel
theorem dX5_rootDigit_39 : decode cX5_rootDigit 39 = .ok (.goto (-37), 3) := by decide +kernel
theorem dX5_rootDigit_42 : decode cX5_rootDigit 42 = .ok (.iconst 0, 1) := by decide +kernel
theorem dX5_rootDigit_43 : decode cX5_rootDigit 43 = .ok (.ireturn, 1) := by decide +kernel
theorem dX5_findSquareRoot_0 : decode cX5_findSquareRoot 0 = .ok (.aload_n 2, 1) := by decide +kernel
theorem dX5_findSquareRoot_1 : decode cX5_findSquareRoot 1 = .ok (.getfield 153, 3) := by decide +kernel
theorem dX5_findSquareRoot_4 : decode cX5_findSquareRoot 4 = .ok (.iconst 2, 1) := by decide +kernel
theorem dX5_findSquareRoot_5 : decode cX5_findSquareRoot 5 = .ok (.idiv, 1) := by decide +kernel
theorem dX5_findSquareRoot_6 : decode cX5_findSquareRoot 6 = .ok (.istore_n 3, 1) := by decide +kernel
theorem dX5_findSquareRoot_7 : decode cX5_findSquareRoot 7 = .ok (.aload_n 2, 1) := by decide +kernel
theorem dX5_findSquareRoot_8 : decode cX5_findSquareRoot 8 = .ok (.getfield 156, 3) := by decide +kernel
theorem dX5_findSquareRoot_11 : decode cX5_findSquareRoot 11 = .ok (.aload_n 2, 1) := by decide +kernel
theorem dX5_findSquareRoot_12 : decode cX5_findSquareRoot 12 = .ok (.getfield 153, 3) := by decide +kernel
theorem dX5_findSquareRoot_15 : decode cX5_findSquareRoot 15 = .ok (.isub, 1) := by decide +kernel
theorem dX5_findSquareRoot_16 : decode cX5_findSquareRoot 16 = .ok (.istore 4, 2) := by decide +kernel
theorem dX5_findSquareRoot_18 : decode cX5_findSquareRoot 18 = .ok (.aload_n 0, 1) := by decide +kernel
theorem dX5_findSquareRoot_19 : decode cX5_findSquareRoot 19 = .ok (.getfield 10, 3) := by decide +kernel
theorem dX5_findSquareRoot_22 : decode cX5_findSquareRoot 22 = .ok (.getfield 146, 3) := by decide +kernel
theorem dX5_findSquareRoot_25 : decode cX5_findSquareRoot 25 = .ok (.iconst 2, 1) := by decide +kernel
theorem dX5_findSquareRoot_26 : decode cX5_findSquareRoot 26 = .ok (.if_icmp .ne 26, 3) := by decide +kernel
theorem dX5_findSquareRoot_29 : decode cX5_findSquareRoot 29 = .ok (.aload_n 0, 1) := by decide +kernel
theorem dX5_findSquareRoot_30 : decode cX5_findSquareRoot 30 = .ok (.aload_n 1, 1) := by decide +kernel
theorem dX5_findSquareRoot_31 : decode cX5_findSquareRoot 31 = .ok (.iload_n 3, 1) := by decide +kernel
theorem dX5_findSquareRoot_32 : decode cX5_findSquareRoot 32 = .ok (.iload_n 3, 1) := by decide +kernel
theorem dX5_findSquareRoot_33 : decode cX5_findSquareRoot 33 = .ok (.iload 4, 2) := by decide +kernel
theorem dX5_findSquareRoot_35 : decode cX5_findSquareRoot 35 = .ok (.iadd, 1) := by decide +kernel
theorem dX5_findSquareRoot_36 : decode cX5_findSquareRoot 36 = .ok (.iconst 1, 1) := by decide +kernel
theorem dX5_findSquareRoot_37 : decode cX5_findSquareRoot 37 = .ok (.isub, 1) := by decide +kernel
theorem dX5_findSquareRoot_38 : decode cX5_findSquareRoot 38 = .ok (.aload_n 0, 1) := by decide +kernel
theorem dX5_findSquareRoot_39 : decode cX5_findSquareRoot 39 = .ok (.aload_n 2, 1) := by decide +kernel
theorem dX5_findSquareRoot_40 : decode cX5_findSquareRoot 40 = .ok (.getfield 163, 3) := by decide +kernel
theorem dX5_findSquareRoot_43 : decode cX5_findSquareRoot 43 = .ok (.iload 4, 2) := by decide +kernel
theorem dX5_findSquareRoot_45 : decode cX5_findSquareRoot 45 = .ok (.invokevirtual 192, 3) := by decide +kernel
theorem dX5_findSquareRoot_48 : decode cX5_findSquareRoot 48 = .ok (.invokevirtual 174, 3) := by decide +kernel
theorem dX5_findSquareRoot_51 : decode cX5_findSquareRoot 51 = .ok (.return_, 1) := by decide +kernel
theorem dX5_findSquareRoot_52 : decode cX5_findSquareRoot 52 = .ok (.aload_n 0, 1) := by decide +kernel
theorem dX5_findSquareRoot_53 : decode cX5_findSquareRoot 53 = .ok (.getfield 10, 3) := by decide +kernel
theorem dX5_findSquareRoot_56 : decode cX5_findSquareRoot 56 = .ok (.iload 4, 2) := by decide +kernel
theorem dX5_findSquareRoot_58 : decode cX5_findSquareRoot 58 = .ok (.invokevirtual 132, 3) := by decide +kernel
theorem dX5_findSquareRoot_61 : decode cX5_findSquareRoot 61 = .ok (.lstore 5, 2) := by decide +kernel
theorem dX5_findSquareRoot_63 : decode cX5_findSquareRoot 63 = .ok (.ldc2_w 195, 3) := by decide +kernel
theorem dX5_findSquareRoot_66 : decode cX5_findSquareRoot 66 = .ok (.lload 5, 2) := by decide +kernel
theorem dX5_findSquareRoot_68 : decode cX5_findSquareRoot 68 = .ok (.invokestatic 167, 3) := by decide +kernel
theorem dX5_findSquareRoot_71 : decode cX5_findSquareRoot 71 = .ok (.lstore 7, 2) := by decide +kernel
theorem dX5_findSquareRoot_73 : decode cX5_findSquareRoot 73 = .ok (.aload_n 0, 1) := by decide +kernel
theorem dX5_findSquareRoot_74 : decode cX5_findSquareRoot 74 = .ok (.aload_n 2, 1) := by decide +kernel
theorem dX5_findSquareRoot_75 : decode cX5_findSquareRoot 75 = .ok (.getfield 163, 3) := by decide +kernel
theorem dX5_findSquareRoot_78 : decode cX5_findSquareRoot 78 = .ok (.aload_n 0, 1) := by decide +kernel
theorem dX5_findSquareRoot_79 : decode cX5_findSquareRoot 79 = .ok (.getfield 10, 3) := by decide +kernel
theorem dX5_findSquareRoot_82 : decode cX5_findSquareRoot 82 = .ok (.getfield 146, 3) := by decide +kernel
theorem dX5_findSquareRoot_85 : decode cX5_findSquareRoot 85 = .ok (.i2l, 1) := by decide +kernel
theorem dX5_findSquareRoot_86 : decode cX5_findSquareRoot 86 = .ok (.invokestatic 136, 3) := by decide +kernel
theorem dX5_findSquareRoot_89 : decode cX5_findSquareRoot 89 = .ok (.invokevirtual 188, 3) := by decide +kernel
theorem dX5_findSquareRoot_92 : decode cX5_findSquareRoot 92 = .ok (.i2l, 1) := by decide +kernel
theorem dX5_findSquareRoot_93 : decode cX5_findSquareRoot 93 = .ok (.lstore 9, 2) := by decide +kernel
theorem dX5_findSquareRoot_95 : decode cX5_findSquareRoot 95 = .ok (.iconst 0, 1) := by decide +kernel
theorem dX5_findSquareRoot_96 : decode cX5_findSquareRoot 96 = .ok (.istore 11, 2) := by decide +kernel
theorem dX5_findSquareRoot_98 : decode cX5_findSquareRoot 98 = .ok (.iload 11, 2) := by decide +kernel
theorem dX5_findSquareRoot_100 : decode cX5_findSquareRoot 100 = .ok (.bipush 6, 2) := by decide +kernel
theorem dX5_findSquareRoot_102 : decode cX5_findSquareRoot 102 = .ok (.if_icmp .ge 41, 3) := by decide +kernel
theorem dX5_findSquareRoot_105 : decode cX5_findSquareRoot 105 = .ok (.aload_n 2, 1) := by decide +kernel
theorem dX5_findSquareRoot_106 : decode cX5_findSquareRoot 106 = .ok (.getfield 163, 3) := by decide +kernel
theorem dX5_findSquareRoot_109 : decode cX5_findSquareRoot 109 = .ok (.lload 9, 2) := by decide +kernel
theorem dX5_findSquareRoot_111 : decode cX5_findSquareRoot 111 = .ok (.lload 5, 2) := by decide +kernel
theorem dX5_findSquareRoot_113 : decode cX5_findSquareRoot 113 = .ok (.invokestatic 167, 3) := by decide +kernel
theorem dX5_findSquareRoot_116 : decode cX5_findSquareRoot 116 = .ok (.lload 5, 2) := by decide +kernel
theorem dX5_findSquareRoot_118 : decode cX5_findSquareRoot 118 = .ok (.invokestatic 170, 3) := by decide +kernel
theorem dX5_findSquareRoot_121 : decode cX5_findSquareRoot 121 = .ok (.lstore 12, 2) := by decide +kernel
theorem dX5_findSquareRoot_123 : decode cX5_findSquareRoot 123 = .ok (.lload 9, 2) := by decide +kernel
theorem dX5_findSquareRoot_125 : decode cX5_findSquareRoot 125 = .ok (.lload 12, 2) := by decide +kernel
theorem dX5_findSquareRoot_127 : decode cX5_findSquareRoot 127 = .ok (.ladd, 1) := by decide +kernel
theorem dX5_findSquareRoot_128 : decode cX5_findSquareRoot 128 = .ok (.lload 7, 2) := by decide +kernel
theorem dX5_findSquareRoot_130 : decode cX5_findSquareRoot 130 = .ok (.lload 5, 2) := by decide +kernel
theorem dX5_findSquareRoot_132 : decode cX5_findSquareRoot 132 = .ok (.invokestatic 170, 3) := by decide +kernel
theorem dX5_findSquareRoot_135 : decode cX5_findSquareRoot 135 = .ok (.lstore 9, 2) := by decide +kernel
theorem dX5_findSquareRoot_137 : decode cX5_findSquareRoot 137 = .ok (.iinc 11 1, 3) := by decide +kernel
theorem dX5_findSquareRoot_140 : decode cX5_findSquareRoot 140 = .ok (.goto (-42), 3) := by decide +kernel
theorem dX5_findSquareRoot_143 : decode cX5_findSquareRoot 143 = .ok (.aload_n 0, 1) := by decide +kernel
theorem dX5_findSquareRoot_144 : decode cX5_findSquareRoot 144 = .ok (.aload_n 1, 1) := by decide +kernel
theorem dX5_findSquareRoot_145 : decode cX5_findSquareRoot 145 = .ok (.iload_n 3, 1) := by decide +kernel
theorem dX5_findSquareRoot_146 : decode cX5_findSquareRoot 146 = .ok (.iload_n 3, 1) := by decide +kernel
theorem dX5_findSquareRoot_147 : decode cX5_findSquareRoot 147 = .ok (.iload 4, 2) := by decide +kernel
theorem dX5_findSquareRoot_149 : decode cX5_findSquareRoot 149 = .ok (.iadd, 1) := by decide +kernel
theorem dX5_findSquareRoot_150 : decode cX5_findSquareRoot 150 = .ok (.lload 9, 2) := by decide +kernel
theorem dX5_findSquareRoot_152 : decode cX5_findSquareRoot 152 = .ok (.invokevirtual 174, 3) := by decide +kernel
theorem dX5_findSquareRoot_155 : decode cX5_findSquareRoot 155 = .ok (.return_, 1) := by decide +kernel
theorem dX5_rootNearTwo_0 : decode cX5_rootNearTwo 0 = .ok (.lconst 1, 1) := by decide +kernel
theorem dX5_rootNearTwo_1 : decode cX5_rootNearTwo 1 = .ok (.lstore 4, 2) := by decide +kernel
theorem dX5_rootNearTwo_3 : decode cX5_rootNearTwo 3 = .ok (.iconst 3, 1) := by decide +kernel
theorem dX5_rootNearTwo_4 : decode cX5_rootNearTwo 4 = .ok (.istore 6, 2) := by decide +kernel
theorem dX5_rootNearTwo_6 : decode cX5_rootNearTwo 6 = .ok (.iload 6, 2) := by decide +kernel
theorem dX5_rootNearTwo_8 : decode cX5_rootNearTwo 8 = .ok (.iload_n 3, 1) := by decide +kernel
theorem dX5_rootNearTwo_9 : decode cX5_rootNearTwo 9 = .ok (.if_icmp .ge 63, 3) := by decide +kernel
theorem dX5_rootNearTwo_12 : decode cX5_rootNearTwo 12 = .ok (.iload 6, 2) := by decide +kernel
theorem dX5_rootNearTwo_14 : decode cX5_rootNearTwo 14 = .ok (.aload_n 0, 1) := by decide +kernel
theorem dX5_rootNearTwo_15 : decode cX5_rootNearTwo 15 = .ok (.getfield 10, 3) := by decide +kernel
theorem dX5_rootNearTwo_18 : decode cX5_rootNearTwo 18 = .ok (.getfield 129, 3) := by decide +kernel
theorem dX5_rootNearTwo_21 : decode cX5_rootNearTwo 21 = .ok (.if_icmp .ge 51, 3) := by decide +kernel
theorem dX5_rootNearTwo_24 : decode cX5_rootNearTwo 24 = .ok (.lload 4, 2) := by decide +kernel
theorem dX5_rootNearTwo_26 : decode cX5_rootNearTwo 26 = .ok (.lload 4, 2) := by decide +kernel
theorem dX5_rootNearTwo_28 : decode cX5_rootNearTwo 28 = .ok (.lmul, 1) := by decide +kernel
theorem dX5_rootNearTwo_29 : decode cX5_rootNearTwo 29 = .ok (.lload_n 1, 1) := by decide +kernel
theorem dX5_rootNearTwo_30 : decode cX5_rootNearTwo 30 = .ok (.lsub, 1) := by decide +kernel
theorem dX5_rootNearTwo_31 : decode cX5_rootNearTwo 31 = .ok (.aload_n 0, 1) := by decide +kernel
theorem dX5_rootNearTwo_32 : decode cX5_rootNearTwo 32 = .ok (.getfield 10, 3) := by decide +kernel
theorem dX5_rootNearTwo_35 : decode cX5_rootNearTwo 35 = .ok (.iload 6, 2) := by decide +kernel
theorem dX5_rootNearTwo_37 : decode cX5_rootNearTwo 37 = .ok (.iconst 1, 1) := by decide +kernel
theorem dX5_rootNearTwo_38 : decode cX5_rootNearTwo 38 = .ok (.iadd, 1) := by decide +kernel
theorem dX5_rootNearTwo_39 : decode cX5_rootNearTwo 39 = .ok (.invokevirtual 132, 3) := by decide +kernel
theorem dX5_rootNearTwo_42 : decode cX5_rootNearTwo 42 = .ok (.invokestatic 136, 3) := by decide +kernel
theorem dX5_rootNearTwo_45 : decode cX5_rootNearTwo 45 = .ok (.lconst 0, 1) := by decide +kernel
theorem dX5_rootNearTwo_46 : decode cX5_rootNearTwo 46 = .ok (.lcmp, 1) := by decide +kernel
theorem dX5_rootNearTwo_47 : decode cX5_rootNearTwo 47 = .ok (.ifCond .eq 19, 3) := by decide +kernel
theorem dX5_rootNearTwo_50 : decode cX5_rootNearTwo 50 = .ok (.lload 4, 2) := by decide +kernel
theorem dX5_rootNearTwo_52 : decode cX5_rootNearTwo 52 = .ok (.aload_n 0, 1) := by decide +kernel
theorem dX5_rootNearTwo_53 : decode cX5_rootNearTwo 53 = .ok (.getfield 10, 3) := by decide +kernel
theorem dX5_rootNearTwo_56 : decode cX5_rootNearTwo 56 = .ok (.iload 6, 2) := by decide +kernel
theorem dX5_rootNearTwo_58 : decode cX5_rootNearTwo 58 = .ok (.iconst 1, 1) := by decide +kernel
theorem dX5_rootNearTwo_59 : decode cX5_rootNearTwo 59 = .ok (.isub, 1) := by decide +kernel
theorem dX5_rootNearTwo_60 : decode cX5_rootNearTwo 60 = .ok (.invokevirtual 132, 3) := by decide +kernel
theorem dX5_rootNearTwo_63 : decode cX5_rootNearTwo 63 = .ok (.ladd, 1) := by decide +kernel
theorem dX5_rootNearTwo_64 : decode cX5_rootNearTwo 64 = .ok (.lstore 4, 2) := by decide +kernel
theorem dX5_rootNearTwo_66 : decode cX5_rootNearTwo 66 = .ok (.iinc 6 1, 3) := by decide +kernel
theorem dX5_rootNearTwo_69 : decode cX5_rootNearTwo 69 = .ok (.goto (-63), 3) := by decide +kernel
theorem dX5_rootNearTwo_72 : decode cX5_rootNearTwo 72 = .ok (.lload 4, 2) := by decide +kernel
theorem dX5_rootNearTwo_74 : decode cX5_rootNearTwo 74 = .ok (.lreturn, 1) := by decide +kernel
theorem dX5_findRootOfUnity_0 : decode cX5_findRootOfUnity 0 = .ok (.aload_n 2, 1) := by decide +kernel
theorem dX5_findRootOfUnity_1 : decode cX5_findRootOfUnity 1 = .ok (.getfield 156, 3) := by decide +kernel
theorem dX5_findRootOfUnity_4 : decode cX5_findRootOfUnity 4 = .ok (.aload_n 2, 1) := by decide +kernel
theorem dX5_findRootOfUnity_5 : decode cX5_findRootOfUnity 5 = .ok (.getfield 153, 3) := by decide +kernel
theorem dX5_findRootOfUnity_8 : decode cX5_findRootOfUnity 8 = .ok (.isub, 1) := by decide +kernel
theorem dX5_findRootOfUnity_9 : decode cX5_findRootOfUnity 9 = .ok (.istore_n 3, 1) := by decide +kernel
theorem dX5_findRootOfUnity_10 : decode cX5_findRootOfUnity 10 = .ok (.aload_n 0, 1) := by decide +kernel
theorem dX5_findRootOfUnity_11 : decode cX5_findRootOfUnity 11 = .ok (.getfield 10, 3) := by decide +kernel
theorem dX5_findRootOfUnity_14 : decode cX5_findRootOfUnity 14 = .ok (.iload_n 3, 1) := by decide +kernel
theorem dX5_findRootOfUnity_15 : decode cX5_findRootOfUnity 15 = .ok (.invokevirtual 132, 3) := by decide +kernel
theorem dX5_findRootOfUnity_18 : decode cX5_findRootOfUnity 18 = .ok (.lstore 4, 2) := by decide +kernel
theorem dX5_findRootOfUnity_20 : decode cX5_findRootOfUnity 20 = .ok (.aload_n 2, 1) := by decide +kernel
theorem dX5_findRootOfUnity_21 : decode cX5_findRootOfUnity 21 = .ok (.getfield 163, 3) := by decide +kernel
theorem dX5_findRootOfUnity_24 : decode cX5_findRootOfUnity 24 = .ok (.lstore 6, 2) := by decide +kernel
theorem dX5_findRootOfUnity_26 : decode cX5_findRootOfUnity 26 = .ok (.iconst 0, 1) := by decide +kernel
theorem dX5_findRootOfUnity_27 : decode cX5_findRootOfUnity 27 = .ok (.istore 8, 2) := by decide +kernel
theorem dX5_findRootOfUnity_29 : decode cX5_findRootOfUnity 29 = .ok (.iload 8, 2) := by decide +kernel
theorem dX5_findRootOfUnity_31 : decode cX5_findRootOfUnity 31 = .ok (.iload_n 3, 1) := by decide +kernel
theorem dX5_findRootOfUnity_32 : decode cX5_findRootOfUnity 32 = .ok (.if_icmp .ge 26, 3) := by decide +kernel
theorem dX5_findRootOfUnity_35 : decode cX5_findRootOfUnity 35 = .ok (.lload 6, 2) := by decide +kernel
theorem dX5_findRootOfUnity_37 : decode cX5_findRootOfUnity 37 = .ok (.aload_n 0, 1) := by decide +kernel
theorem dX5_findRootOfUnity_38 : decode cX5_findRootOfUnity 38 = .ok (.getfield 10, 3) := by decide +kernel
theorem dX5_findRootOfUnity_41 : decode cX5_findRootOfUnity 41 = .ok (.getfield 146, 3) := by decide +kernel
theorem dX5_findRootOfUnity_44 : decode cX5_findRootOfUnity 44 = .ok (.i2l, 1) := by decide +kernel
theorem dX5_findRootOfUnity_45 : decode cX5_findRootOfUnity 45 = .ok (.lload 4, 2) := by decide +kernel
theorem dX5_findRootOfUnity_47 : decode cX5_findRootOfUnity 47 = .ok (.invokestatic 197, 3) := by decide +kernel
theorem dX5_findRootOfUnity_50 : decode cX5_findRootOfUnity 50 = .ok (.lstore 6, 2) := by decide +kernel
theorem dX5_findRootOfUnity_52 : decode cX5_findRootOfUnity 52 = .ok (.iinc 8 1, 3) := by decide +kernel
theorem dX5_findRootOfUnity_55 : decode cX5_findRootOfUnity 55 = .ok (.goto (-26), 3) := by decide +kernel
theorem dX5_findRootOfUnity_58 : decode cX5_findRootOfUnity 58 = .ok (.aload_n 0, 1) := by decide +kernel
theorem dX5_findRootOfUnity_59 : decode cX5_findRootOfUnity 59 = .ok (.aload_n 1, 1) := by decide +kernel
theorem dX5_findRootOfUnity_60 : decode cX5_findRootOfUnity 60 = .ok (.iconst 0, 1) := by decide +kernel
theorem dX5_findRootOfUnity_61 : decode cX5_findRootOfUnity 61 = .ok (.iload_n 3, 1) := by decide +kernel
theorem dX5_findRootOfUnity_62 : decode cX5_findRootOfUnity 62 = .ok (.lload 6, 2) := by decide +kernel
theorem dX5_findRootOfUnity_64 : decode cX5_findRootOfUnity 64 = .ok (.invokevirtual 174, 3) := by decide +kernel
theorem dX5_findRootOfUnity_67 : decode cX5_findRootOfUnity 67 = .ok (.return_, 1) := by decide +kernel
theorem dX5_findLifted_0 : decode cX5_findLifted 0 = .ok (.aload_n 0, 1) := by decide +kernel
theorem dX5_findLifted_1 : decode cX5_findLifted 1 = .ok (.getfield 19, 3) := by decide +kernel
theorem dX5_findLifted_4 : decode cX5_findLifted 4 = .ok (.aload_n 1, 1) := by decide +kernel
theorem dX5_findLifted_5 : decode cX5_findLifted 5 = .ok (.getfield 56, 3) := by decide +kernel
theorem dX5_findLifted_8 : decode cX5_findLifted 8 = .ok (.invokevirtual 73, 3) := by decide +kernel
theorem dX5_findLifted_11 : decode cX5_findLifted 11 = .ok (.astore_n 2, 1) := by decide +kernel
theorem dX5_findLifted_12 : decode cX5_findLifted 12 = .ok (.aload_n 0, 1) := by decide +kernel
theorem dX5_findLifted_13 : decode cX5_findLifted 13 = .ok (.getfield 10, 3) := by decide +kernel
theorem dX5_findLifted_16 : decode cX5_findLifted 16 = .ok (.aload_n 1, 1) := by decide +kernel
theorem dX5_findLifted_17 : decode cX5_findLifted 17 = .ok (.getfield 62, 3) := by decide +kernel
theorem dX5_findLifted_20 : decode cX5_findLifted 20 = .ok (.invokevirtual 132, 3) := by decide +kernel
theorem dX5_findLifted_23 : decode cX5_findLifted 23 = .ok (.lstore_n 3, 1) := by decide +kernel
theorem dX5_findLifted_24 : decode cX5_findLifted 24 = .ok (.aload_n 1, 1) := by decide +kernel
theorem dX5_findLifted_25 : decode cX5_findLifted 25 = .ok (.getfield 59, 3) := by decide +kernel
theorem dX5_findLifted_28 : decode cX5_findLifted 28 = .ok (.i2l, 1) := by decide +kernel
theorem dX5_findLifted_29 : decode cX5_findLifted 29 = .ok (.lstore 5, 2) := by decide +kernel
theorem dX5_findLifted_31 : decode cX5_findLifted 31 = .ok (.iconst 0, 1) := by decide +kernel
theorem dX5_findLifted_32 : decode cX5_findLifted 32 = .ok (.istore 7, 2) := by decide +kernel
theorem dX5_findLifted_34 : decode cX5_findLifted 34 = .ok (.iload 7, 2) := by decide +kernel
theorem dX5_findLifted_36 : decode cX5_findLifted 36 = .ok (.bipush 6, 2) := by decide +kernel
theorem dX5_findLifted_38 : decode cX5_findLifted 38 = .ok (.if_icmp .ge 56, 3) := by decide +kernel
theorem dX5_findLifted_41 : decode cX5_findLifted 41 = .ok (.aload_n 2, 1) := by decide +kernel
theorem dX5_findLifted_42 : decode cX5_findLifted 42 = .ok (.lload 5, 2) := by decide +kernel
theorem dX5_findLifted_44 : decode cX5_findLifted 44 = .ok (.lload_n 3, 1) := by decide +kernel
theorem dX5_findLifted_45 : decode cX5_findLifted 45 = .ok (.aload_n 1, 1) := by decide +kernel
theorem dX5_findLifted_46 : decode cX5_findLifted 46 = .ok (.getfield 80, 3) := by decide +kernel
theorem dX5_findLifted_49 : decode cX5_findLifted 49 = .ok (.invokevirtual 200, 3) := by decide +kernel
theorem dX5_findLifted_52 : decode cX5_findLifted 52 = .ok (.lstore 8, 2) := by decide +kernel
theorem dX5_findLifted_54 : decode cX5_findLifted 54 = .ok (.aload_n 2, 1) := by decide +kernel
theorem dX5_findLifted_55 : decode cX5_findLifted 55 = .ok (.lload 5, 2) := by decide +kernel
theorem dX5_findLifted_57 : decode cX5_findLifted 57 = .ok (.lload_n 3, 1) := by decide +kernel
theorem dX5_findLifted_58 : decode cX5_findLifted 58 = .ok (.aload_n 1, 1) := by decide +kernel
theorem dX5_findLifted_59 : decode cX5_findLifted 59 = .ok (.getfield 80, 3) := by decide +kernel
theorem dX5_findLifted_62 : decode cX5_findLifted 62 = .ok (.invokevirtual 204, 3) := by decide +kernel
theorem dX5_findLifted_65 : decode cX5_findLifted 65 = .ok (.lstore 10, 2) := by decide +kernel
theorem dX5_findLifted_67 : decode cX5_findLifted 67 = .ok (.lload 5, 2) := by decide +kernel
theorem dX5_findLifted_69 : decode cX5_findLifted 69 = .ok (.lload 10, 2) := by decide +kernel
theorem dX5_findLifted_71 : decode cX5_findLifted 71 = .ok (.lload 8, 2) := by decide +kernel
theorem dX5_findLifted_73 : decode cX5_findLifted 73 = .ok (.lload_n 3, 1) := by decide +kernel
theorem dX5_findLifted_74 : decode cX5_findLifted 74 = .ok (.invokestatic 167, 3) := by decide +kernel
theorem dX5_findLifted_77 : decode cX5_findLifted 77 = .ok (.lload_n 3, 1) := by decide +kernel
theorem dX5_findLifted_78 : decode cX5_findLifted 78 = .ok (.invokestatic 170, 3) := by decide +kernel
theorem dX5_findLifted_81 : decode cX5_findLifted 81 = .ok (.lsub, 1) := by decide +kernel
theorem dX5_findLifted_82 : decode cX5_findLifted 82 = .ok (.lload_n 3, 1) := by decide +kernel
theorem dX5_findLifted_83 : decode cX5_findLifted 83 = .ok (.invokestatic 136, 3) := by decide +kernel
theorem dX5_findLifted_86 : decode cX5_findLifted 86 = .ok (.lstore 5, 2) := by decide +kernel
theorem dX5_findLifted_88 : decode cX5_findLifted 88 = .ok (.iinc 7 1, 3) := by decide +kernel
theorem dX5_findLifted_91 : decode cX5_findLifted 91 = .ok (.goto (-57), 3) := by decide +kernel
theorem dX5_findLifted_94 : decode cX5_findLifted 94 = .ok (.aload_n 0, 1) := by decide +kernel
theorem dX5_findLifted_95 : decode cX5_findLifted 95 = .ok (.aload_n 1, 1) := by decide +kernel
theorem dX5_findLifted_96 : decode cX5_findLifted 96 = .ok (.iconst 0, 1) := by decide +kernel
theorem dX5_findLifted_97 : decode cX5_findLifted 97 = .ok (.aload_n 1, 1) := by decide +kernel
theorem dX5_findLifted_98 : decode cX5_findLifted 98 = .ok (.getfield 62, 3) := by decide +kernel
theorem dX5_findLifted_101 : decode cX5_findLifted 101 = .ok (.lload 5, 2) := by decide +kernel
theorem dX5_findLifted_103 : decode cX5_findLifted 103 = .ok (.invokevirtual 174, 3) := by decide +kernel
theorem dX5_findLifted_106 : decode cX5_findLifted 106 = .ok (.return_, 1) := by decide +kernel
theorem dX5_rowValueReach_0 : decode cX5_rowValueReach 0 = .ok (.aload_n 1, 1) := by decide +kernel
theorem dX5_rowValueReach_1 : decode cX5_rowValueReach 1 = .ok (.getfield 156, 3) := by decide +kernel
theorem dX5_rowValueReach_4 : decode cX5_rowValueReach 4 = .ok (.aload_n 0, 1) := by decide +kernel
theorem dX5_rowValueReach_5 : decode cX5_rowValueReach 5 = .ok (.getfield 10, 3) := by decide +kernel
theorem dX5_rowValueReach_8 : decode cX5_rowValueReach 8 = .ok (.getfield 129, 3) := by decide +kernel
theorem dX5_rowValueReach_11 : decode cX5_rowValueReach 11 = .ok (.invokestatic 123, 3) := by decide +kernel
theorem dX5_rowValueReach_14 : decode cX5_rowValueReach 14 = .ok (.aload_n 0, 1) := by decide +kernel
theorem dX5_rowValueReach_15 : decode cX5_rowValueReach 15 = .ok (.getfield 26, 3) := by decide +kernel
theorem dX5_rowValueReach_18 : decode cX5_rowValueReach 18 = .ok (.iload_n 2, 1) := by decide +kernel
theorem dX5_rowValueReach_19 : decode cX5_rowValueReach 19 = .ok (.aload_n 0, 1) := by decide +kernel
theorem dX5_rowValueReach_20 : decode cX5_rowValueReach 20 = .ok (.getfield 10, 3) := by decide +kernel
theorem dX5_rowValueReach_23 : decode cX5_rowValueReach 23 = .ok (.getfield 146, 3) := by decide +kernel
theorem dX5_rowValueReach_26 : decode cX5_rowValueReach 26 = .ok (.invokevirtual 207, 3) := by decide +kernel
theorem dX5_rowValueReach_29 : decode cX5_rowValueReach 29 = .ok (.isub, 1) := by decide +kernel
theorem dX5_rowValueReach_30 : decode cX5_rowValueReach 30 = .ok (.ireturn, 1) := by decide +kernel
theorem dX5_findRowValue_0 : decode cX5_findRowValue 0 = .ok (.aload_n 2, 1) := by decide +kernel
theorem dX5_findRowValue_1 : decode cX5_findRowValue 1 = .ok (.getfield 156, 3) := by decide +kernel
theorem dX5_findRowValue_4 : decode cX5_findRowValue 4 = .ok (.aload_n 0, 1) := by decide +kernel
theorem dX5_findRowValue_5 : decode cX5_findRowValue 5 = .ok (.getfield 10, 3) := by decide +kernel
theorem dX5_findRowValue_8 : decode cX5_findRowValue 8 = .ok (.getfield 129, 3) := by decide +kernel
theorem dX5_findRowValue_11 : decode cX5_findRowValue 11 = .ok (.invokestatic 123, 3) := by decide +kernel
theorem dX5_findRowValue_14 : decode cX5_findRowValue 14 = .ok (.istore_n 3, 1) := by decide +kernel
theorem dX5_findRowValue_15 : decode cX5_findRowValue 15 = .ok (.aload_n 0, 1) := by decide +kernel
theorem dX5_findRowValue_16 : decode cX5_findRowValue 16 = .ok (.aload_n 2, 1) := by decide +kernel
theorem dX5_findRowValue_17 : decode cX5_findRowValue 17 = .ok (.aload_n 1, 1) := by decide +kernel
theorem dX5_findRowValue_18 : decode cX5_findRowValue 18 = .ok (.getfield 80, 3) := by decide +kernel
theorem dX5_findRowValue_21 : decode cX5_findRowValue 21 = .ok (.invokevirtual 210, 3) := by decide +kernel
theorem dX5_findRowValue_24 : decode cX5_findRowValue 24 = .ok (.istore 4, 2) := by decide +kernel
theorem dX5_findRowValue_26 : decode cX5_findRowValue 26 = .ok (.aload_n 0, 1) := by decide +kernel
theorem dX5_findRowValue_27 : decode cX5_findRowValue 27 = .ok (.aload_n 2, 1) := by decide +kernel
theorem dX5_findRowValue_28 : decode cX5_findRowValue 28 = .ok (.iconst 0, 1) := by decide +kernel
theorem dX5_findRowValue_29 : decode cX5_findRowValue 29 = .ok (.iload_n 3, 1) := by decide +kernel
theorem dX5_findRowValue_30 : decode cX5_findRowValue 30 = .ok (.invokevirtual 178, 3) := by decide +kernel
theorem dX5_findRowValue_33 : decode cX5_findRowValue 33 = .ok (.lstore 5, 2) := by decide +kernel
theorem dX5_findRowValue_35 : decode cX5_findRowValue 35 = .ok (.aload_n 0, 1) := by decide +kernel
theorem dX5_findRowValue_36 : decode cX5_findRowValue 36 = .ok (.aload_n 1, 1) := by decide +kernel
theorem dX5_findRowValue_37 : decode cX5_findRowValue 37 = .ok (.iconst 0, 1) := by decide +kernel
theorem dX5_findRowValue_38 : decode cX5_findRowValue 38 = .ok (.iload 4, 2) := by decide +kernel
theorem dX5_findRowValue_40 : decode cX5_findRowValue 40 = .ok (.aload_n 0, 1) := by decide +kernel
theorem dX5_findRowValue_41 : decode cX5_findRowValue 41 = .ok (.lload 5, 2) := by decide +kernel
theorem dX5_findRowValue_43 : decode cX5_findRowValue 43 = .ok (.aload_n 0, 1) := by decide +kernel
theorem dX5_findRowValue_44 : decode cX5_findRowValue 44 = .ok (.getfield 10, 3) := by decide +kernel
theorem dX5_findRowValue_47 : decode cX5_findRowValue 47 = .ok (.iload_n 3, 1) := by decide +kernel
theorem dX5_findRowValue_48 : decode cX5_findRowValue 48 = .ok (.invokevirtual 132, 3) := by decide +kernel
theorem dX5_findRowValue_51 : decode cX5_findRowValue 51 = .ok (.aload_n 0, 1) := by decide +kernel
theorem dX5_findRowValue_52 : decode cX5_findRowValue 52 = .ok (.getfield 10, 3) := by decide +kernel
theorem dX5_findRowValue_55 : decode cX5_findRowValue 55 = .ok (.iload 4, 2) := by decide +kernel
theorem dX5_findRowValue_57 : decode cX5_findRowValue 57 = .ok (.invokevirtual 132, 3) := by decide +kernel
theorem dX5_findRowValue_60 : decode cX5_findRowValue 60 = .ok (.aload_n 1, 1) := by decide +kernel
theorem dX5_findRowValue_61 : decode cX5_findRowValue 61 = .ok (.getfield 80, 3) := by decide +kernel
theorem dX5_findRowValue_64 : decode cX5_findRowValue 64 = .ok (.invokevirtual 214, 3) := by decide +kernel
theorem dX5_findRowValue_67 : decode cX5_findRowValue 67 = .ok (.invokevirtual 174, 3) := by decide +kernel
theorem dX5_findRowValue_70 : decode cX5_findRowValue 70 = .ok (.return_, 1) := by decide +kernel
theorem dX5_rowSum_0 : decode cX5_rowSum 0 = .ok (.lconst 0, 1) := by decide +kernel
theorem dX5_rowSum_1 : decode cX5_rowSum 1 = .ok (.lstore 8, 2) := by decide +kernel
theorem dX5_rowSum_3 : decode cX5_rowSum 3 = .ok (.lconst 1, 1) := by decide +kernel
theorem dX5_rowSum_4 : decode cX5_rowSum 4 = .ok (.lload_n 3, 1) := by decide +kernel
theorem dX5_rowSum_5 : decode cX5_rowSum 5 = .ok (.invokestatic 136, 3) := by decide +kernel
theorem dX5_rowSum_8 : decode cX5_rowSum 8 = .ok (.lstore 10, 2) := by decide +kernel
theorem dX5_rowSum_10 : decode cX5_rowSum 10 = .ok (.lconst 1, 1) := by decide +kernel
theorem dX5_rowSum_11 : decode cX5_rowSum 11 = .ok (.lstore 12, 2) := by decide +kernel
theorem dX5_rowSum_13 : decode cX5_rowSum 13 = .ok (.lconst 1, 1) := by decide +kernel
theorem dX5_rowSum_14 : decode cX5_rowSum 14 = .ok (.lstore 14, 2) := by decide +kernel
theorem dX5_rowSum_16 : decode cX5_rowSum 16 = .ok (.iconst 0, 1) := by decide +kernel
theorem dX5_rowSum_17 : decode cX5_rowSum 17 = .ok (.istore 16, 2) := by decide +kernel
theorem dX5_rowSum_19 : decode cX5_rowSum 19 = .ok (.iload 16, 2) := by decide +kernel
theorem dX5_rowSum_21 : decode cX5_rowSum 21 = .ok (.iload 7, 2) := by decide +kernel
theorem dX5_rowSum_23 : decode cX5_rowSum 23 = .ok (.if_icmp .ge 131, 3) := by decide +kernel
theorem dX5_rowSum_26 : decode cX5_rowSum 26 = .ok (.iload 16, 2) := by decide +kernel
theorem dX5_rowSum_28 : decode cX5_rowSum 28 = .ok (.bipush 12, 2) := by decide +kernel
theorem dX5_rowSum_30 : decode cX5_rowSum 30 = .ok (.if_icmp .ge 124, 3) := by decide +kernel
theorem dX5_rowSum_33 : decode cX5_rowSum 33 = .ok (.iload 16, 2) := by decide +kernel
theorem dX5_rowSum_35 : decode cX5_rowSum 35 = .ok (.ifCond .le 65, 3) := by decide +kernel
theorem dX5_rowSum_38 : decode cX5_rowSum 38 = .ok (.lload 10, 2) := by decide +kernel
theorem dX5_rowSum_40 : decode cX5_rowSum 40 = .ok (.lload_n 1, 1) := by decide +kernel
theorem dX5_rowSum_41 : decode cX5_rowSum 41 = .ok (.iload 16, 2) := by decide +kernel
theorem dX5_rowSum_43 : decode cX5_rowSum 43 = .ok (.i2l, 1) := by decide +kernel
theorem dX5_rowSum_44 : decode cX5_rowSum 44 = .ok (.lsub, 1) := by decide +kernel
theorem dX5_rowSum_45 : decode cX5_rowSum 45 = .ok (.lconst 1, 1) := by decide +kernel
theorem dX5_rowSum_46 : decode cX5_rowSum 46 = .ok (.ladd, 1) := by decide +kernel
theorem dX5_rowSum_47 : decode cX5_rowSum 47 = .ok (.lload_n 3, 1) := by decide +kernel
theorem dX5_rowSum_48 : decode cX5_rowSum 48 = .ok (.invokestatic 170, 3) := by decide +kernel
theorem dX5_rowSum_51 : decode cX5_rowSum 51 = .ok (.lstore 10, 2) := by decide +kernel
theorem dX5_rowSum_53 : decode cX5_rowSum 53 = .ok (.lload 12, 2) := by decide +kernel
theorem dX5_rowSum_55 : decode cX5_rowSum 55 = .ok (.iload 16, 2) := by decide +kernel
theorem dX5_rowSum_57 : decode cX5_rowSum 57 = .ok (.i2l, 1) := by decide +kernel
theorem dX5_rowSum_58 : decode cX5_rowSum 58 = .ok (.aload_n 0, 1) := by decide +kernel
theorem dX5_rowSum_59 : decode cX5_rowSum 59 = .ok (.getfield 10, 3) := by decide +kernel
theorem dX5_rowSum_62 : decode cX5_rowSum 62 = .ok (.getfield 146, 3) := by decide +kernel
theorem dX5_rowSum_65 : decode cX5_rowSum 65 = .ok (.invokestatic 159, 3) := by decide +kernel
theorem dX5_rowSum_68 : decode cX5_rowSum 68 = .ok (.lload 5, 2) := by decide +kernel
theorem dX5_rowSum_70 : decode cX5_rowSum 70 = .ok (.invokestatic 170, 3) := by decide +kernel
theorem dX5_rowSum_73 : decode cX5_rowSum 73 = .ok (.lstore 12, 2) := by decide +kernel
theorem dX5_rowSum_75 : decode cX5_rowSum 75 = .ok (.lload 14, 2) := by decide +kernel
theorem dX5_rowSum_77 : decode cX5_rowSum 77 = .ok (.aload_n 0, 1) := by decide +kernel
theorem dX5_rowSum_78 : decode cX5_rowSum 78 = .ok (.getfield 10, 3) := by decide +kernel
theorem dX5_rowSum_81 : decode cX5_rowSum 81 = .ok (.iload 16, 2) := by decide +kernel
theorem dX5_rowSum_83 : decode cX5_rowSum 83 = .ok (.i2l, 1) := by decide +kernel
theorem dX5_rowSum_84 : decode cX5_rowSum 84 = .ok (.aload_n 0, 1) := by decide +kernel
theorem dX5_rowSum_85 : decode cX5_rowSum 85 = .ok (.getfield 10, 3) := by decide +kernel
theorem dX5_rowSum_88 : decode cX5_rowSum 88 = .ok (.getfield 146, 3) := by decide +kernel
theorem dX5_rowSum_91 : decode cX5_rowSum 91 = .ok (.invokestatic 149, 3) := by decide +kernel
theorem dX5_rowSum_94 : decode cX5_rowSum 94 = .ok (.invokevirtual 132, 3) := by decide +kernel
theorem dX5_rowSum_97 : decode cX5_rowSum 97 = .ok (.lmul, 1) := by decide +kernel
theorem dX5_rowSum_98 : decode cX5_rowSum 98 = .ok (.lstore 14, 2) := by decide +kernel
theorem dX5_rowSum_100 : decode cX5_rowSum 100 = .ok (.lload 10, 2) := by decide +kernel
theorem dX5_rowSum_102 : decode cX5_rowSum 102 = .ok (.lload 14, 2) := by decide +kernel
theorem dX5_rowSum_104 : decode cX5_rowSum 104 = .ok (.invokestatic 218, 3) := by decide +kernel
theorem dX5_rowSum_107 : decode cX5_rowSum 107 = .ok (.lload 12, 2) := by decide +kernel
theorem dX5_rowSum_109 : decode cX5_rowSum 109 = .ok (.lload 5, 2) := by decide +kernel
theorem dX5_rowSum_111 : decode cX5_rowSum 111 = .ok (.invokestatic 167, 3) := by decide +kernel
theorem dX5_rowSum_114 : decode cX5_rowSum 114 = .ok (.lload 5, 2) := by decide +kernel
theorem dX5_rowSum_116 : decode cX5_rowSum 116 = .ok (.invokestatic 170, 3) := by decide +kernel
theorem dX5_rowSum_119 : decode cX5_rowSum 119 = .ok (.lstore 17, 2) := by decide +kernel
theorem dX5_rowSum_121 : decode cX5_rowSum 121 = .ok (.lload 8, 2) := by decide +kernel
theorem dX5_rowSum_123 : decode cX5_rowSum 123 = .ok (.lload 17, 2) := by decide +kernel
theorem dX5_rowSum_125 : decode cX5_rowSum 125 = .ok (.aload_n 0, 1) := by decide +kernel
theorem dX5_rowSum_126 : decode cX5_rowSum 126 = .ok (.getfield 26, 3) := by decide +kernel
theorem dX5_rowSum_129 : decode cX5_rowSum 129 = .ok (.iload 16, 2) := by decide +kernel
theorem dX5_rowSum_131 : decode cX5_rowSum 131 = .ok (.invokevirtual 221, 3) := by decide +kernel
theorem dX5_rowSum_134 : decode cX5_rowSum 134 = .ok (.i2l, 1) := by decide +kernel
theorem dX5_rowSum_135 : decode cX5_rowSum 135 = .ok (.lload 5, 2) := by decide +kernel
theorem dX5_rowSum_137 : decode cX5_rowSum 137 = .ok (.invokestatic 170, 3) := by decide +kernel
theorem dX5_rowSum_140 : decode cX5_rowSum 140 = .ok (.ladd, 1) := by decide +kernel
theorem dX5_rowSum_141 : decode cX5_rowSum 141 = .ok (.lload 5, 2) := by decide +kernel
theorem dX5_rowSum_143 : decode cX5_rowSum 143 = .ok (.invokestatic 136, 3) := by decide +kernel
theorem dX5_rowSum_146 : decode cX5_rowSum 146 = .ok (.lstore 8, 2) := by decide +kernel
theorem dX5_rowSum_148 : decode cX5_rowSum 148 = .ok (.iinc 16 1, 3) := by decide +kernel
theorem dX5_rowSum_151 : decode cX5_rowSum 151 = .ok (.goto (-132), 3) := by decide +kernel
theorem dX5_rowSum_154 : decode cX5_rowSum 154 = .ok (.lload 8, 2) := by decide +kernel
theorem dX5_rowSum_156 : decode cX5_rowSum 156 = .ok (.lreturn, 1) := by decide +kernel
theorem dX5_digitOf_0 : decode cX5_digitOf 0 = .ok (.iload_n 2, 1) := by decide +kernel
theorem dX5_digitOf_1 : decode cX5_digitOf 1 = .ok (.aload_n 1, 1) := by decide +kernel
theorem dX5_digitOf_2 : decode cX5_digitOf 2 = .ok (.getfield 153, 3) := by decide +kernel
theorem dX5_digitOf_5 : decode cX5_digitOf 5 = .ok (.if_icmp .lt 11, 3) := by decide +kernel
theorem dX5_digitOf_8 : decode cX5_digitOf 8 = .ok (.iload_n 2, 1) := by decide +kernel
theorem dX5_digitOf_9 : decode cX5_digitOf 9 = .ok (.aload_n 1, 1) := by decide +kernel
theorem dX5_digitOf_10 : decode cX5_digitOf 10 = .ok (.getfield 156, 3) := by decide +kernel
theorem dX5_digitOf_13 : decode cX5_digitOf 13 = .ok (.if_icmp .lt 5, 3) := by decide +kernel
theorem dX5_digitOf_16 : decode cX5_digitOf 16 = .ok (.iconst 0, 1) := by decide +kernel
theorem dX5_digitOf_17 : decode cX5_digitOf 17 = .ok (.ireturn, 1) := by decide +kernel
theorem dX5_digitOf_18 : decode cX5_digitOf 18 = .ok (.aload_n 1, 1) := by decide +kernel
theorem dX5_digitOf_19 : decode cX5_digitOf 19 = .ok (.getfield 163, 3) := by decide +kernel
theorem dX5_digitOf_22 : decode cX5_digitOf 22 = .ok (.aload_n 0, 1) := by decide +kernel
theorem dX5_digitOf_23 : decode cX5_digitOf 23 = .ok (.getfield 10, 3) := by decide +kernel
theorem dX5_digitOf_26 : decode cX5_digitOf 26 = .ok (.iload_n 2, 1) := by decide +kernel
theorem dX5_digitOf_27 : decode cX5_digitOf 27 = .ok (.aload_n 1, 1) := by decide +kernel
theorem dX5_digitOf_28 : decode cX5_digitOf 28 = .ok (.getfield 153, 3) := by decide +kernel
theorem dX5_digitOf_31 : decode cX5_digitOf 31 = .ok (.isub, 1) := by decide +kernel
theorem dX5_digitOf_32 : decode cX5_digitOf 32 = .ok (.invokevirtual 132, 3) := by decide +kernel
theorem dX5_digitOf_35 : decode cX5_digitOf 35 = .ok (.invokestatic 218, 3) := by decide +kernel
theorem dX5_digitOf_38 : decode cX5_digitOf 38 = .ok (.aload_n 0, 1) := by decide +kernel
theorem dX5_digitOf_39 : decode cX5_digitOf 39 = .ok (.getfield 10, 3) := by decide +kernel
theorem dX5_digitOf_42 : decode cX5_digitOf 42 = .ok (.getfield 146, 3) := by decide +kernel
theorem dX5_digitOf_45 : decode cX5_digitOf 45 = .ok (.i2l, 1) := by decide +kernel
theorem dX5_digitOf_46 : decode cX5_digitOf 46 = .ok (.invokestatic 136, 3) := by decide +kernel
theorem dX5_digitOf_49 : decode cX5_digitOf 49 = .ok (.l2i, 1) := by decide +kernel
theorem dX5_digitOf_50 : decode cX5_digitOf 50 = .ok (.ireturn, 1) := by decide +kernel
theorem dX5_markFractionsUnder_0 : decode cX5_markFractionsUnder 0 = .ok (.iconst 0, 1) := by decide +kernel
theorem dX5_markFractionsUnder_1 : decode cX5_markFractionsUnder 1 = .ok (.istore_n 2, 1) := by decide +kernel
theorem dX5_markFractionsUnder_2 : decode cX5_markFractionsUnder 2 = .ok (.iload_n 2, 1) := by decide +kernel
theorem dX5_markFractionsUnder_3 : decode cX5_markFractionsUnder 3 = .ok (.aload_n 0, 1) := by decide +kernel
theorem dX5_markFractionsUnder_4 : decode cX5_markFractionsUnder 4 = .ok (.getfield 32, 3) := by decide +kernel
theorem dX5_markFractionsUnder_7 : decode cX5_markFractionsUnder 7 = .ok (.arraylength, 1) := by decide +kernel
theorem dX5_markFractionsUnder_8 : decode cX5_markFractionsUnder 8 = .ok (.if_icmp .ge 28, 3) := by decide +kernel
theorem dX5_markFractionsUnder_11 : decode cX5_markFractionsUnder 11 = .ok (.aload_n 0, 1) := by decide +kernel
theorem dX5_markFractionsUnder_12 : decode cX5_markFractionsUnder 12 = .ok (.getfield 32, 3) := by decide +kernel
theorem dX5_markFractionsUnder_15 : decode cX5_markFractionsUnder 15 = .ok (.iload_n 2, 1) := by decide +kernel
theorem dX5_markFractionsUnder_16 : decode cX5_markFractionsUnder 16 = .ok (.aaload, 1) := by decide +kernel
theorem dX5_markFractionsUnder_17 : decode cX5_markFractionsUnder 17 = .ok (.iload_n 2, 1) := by decide +kernel
theorem dX5_markFractionsUnder_18 : decode cX5_markFractionsUnder 18 = .ok (.iload_n 1, 1) := by decide +kernel
theorem dX5_markFractionsUnder_19 : decode cX5_markFractionsUnder 19 = .ok (.if_icmp .ne 7, 3) := by decide +kernel
theorem dX5_markFractionsUnder_22 : decode cX5_markFractionsUnder 22 = .ok (.iconst 1, 1) := by decide +kernel
theorem dX5_markFractionsUnder_23 : decode cX5_markFractionsUnder 23 = .ok (.goto 4, 3) := by decide +kernel
theorem dX5_markFractionsUnder_26 : decode cX5_markFractionsUnder 26 = .ok (.iconst 0, 1) := by decide +kernel
theorem dX5_markFractionsUnder_27 : decode cX5_markFractionsUnder 27 = .ok (.putfield 225, 3) := by decide +kernel
theorem dX5_markFractionsUnder_30 : decode cX5_markFractionsUnder 30 = .ok (.iinc 2 1, 3) := by decide +kernel
theorem dX5_markFractionsUnder_33 : decode cX5_markFractionsUnder 33 = .ok (.goto (-31), 3) := by decide +kernel
theorem dX5_markFractionsUnder_36 : decode cX5_markFractionsUnder 36 = .ok (.iconst 0, 1) := by decide +kernel
theorem dX5_markFractionsUnder_37 : decode cX5_markFractionsUnder 37 = .ok (.istore_n 2, 1) := by decide +kernel
theorem dX5_markFractionsUnder_38 : decode cX5_markFractionsUnder 38 = .ok (.iload_n 1, 1) := by decide +kernel
theorem dX5_markFractionsUnder_39 : decode cX5_markFractionsUnder 39 = .ok (.aload_n 0, 1) := by decide +kernel
theorem dX5_markFractionsUnder_40 : decode cX5_markFractionsUnder 40 = .ok (.getfield 32, 3) := by decide +kernel
theorem dX5_markFractionsUnder_43 : decode cX5_markFractionsUnder 43 = .ok (.arraylength, 1) := by decide +kernel
theorem dX5_markFractionsUnder_44 : decode cX5_markFractionsUnder 44 = .ok (.iconst 1, 1) := by decide +kernel
theorem dX5_markFractionsUnder_45 : decode cX5_markFractionsUnder 45 = .ok (.isub, 1) := by decide +kernel
theorem dX5_markFractionsUnder_46 : decode cX5_markFractionsUnder 46 = .ok (.invokestatic 123, 3) := by decide +kernel
theorem dX5_markFractionsUnder_49 : decode cX5_markFractionsUnder 49 = .ok (.istore_n 3, 1) := by decide +kernel
theorem dX5_markFractionsUnder_50 : decode cX5_markFractionsUnder 50 = .ok (.iload_n 3, 1) := by decide +kernel
theorem dX5_markFractionsUnder_51 : decode cX5_markFractionsUnder 51 = .ok (.ifCond .lt 69, 3) := by decide +kernel
theorem dX5_markFractionsUnder_54 : decode cX5_markFractionsUnder 54 = .ok (.aload_n 0, 1) := by decide +kernel
theorem dX5_markFractionsUnder_55 : decode cX5_markFractionsUnder 55 = .ok (.getfield 32, 3) := by decide +kernel
theorem dX5_markFractionsUnder_58 : decode cX5_markFractionsUnder 58 = .ok (.iload_n 3, 1) := by decide +kernel
theorem dX5_markFractionsUnder_59 : decode cX5_markFractionsUnder 59 = .ok (.aaload, 1) := by decide +kernel
theorem dX5_markFractionsUnder_60 : decode cX5_markFractionsUnder 60 = .ok (.getfield 225, 3) := by decide +kernel
theorem dX5_markFractionsUnder_63 : decode cX5_markFractionsUnder 63 = .ok (.ifCond .eq 51, 3) := by decide +kernel
theorem dX5_markFractionsUnder_66 : decode cX5_markFractionsUnder 66 = .ok (.aload_n 0, 1) := by decide +kernel
theorem dX5_markFractionsUnder_67 : decode cX5_markFractionsUnder 67 = .ok (.aload_n 0, 1) := by decide +kernel
theorem dX5_markFractionsUnder_68 : decode cX5_markFractionsUnder 68 = .ok (.getfield 32, 3) := by decide +kernel
theorem dX5_markFractionsUnder_71 : decode cX5_markFractionsUnder 71 = .ok (.iload_n 3, 1) := by decide +kernel
theorem dX5_markFractionsUnder_72 : decode cX5_markFractionsUnder 72 = .ok (.aaload, 1) := by decide +kernel
theorem dX5_markFractionsUnder_73 : decode cX5_markFractionsUnder 73 = .ok (.getfield 87, 3) := by decide +kernel
theorem dX5_markFractionsUnder_76 : decode cX5_markFractionsUnder 76 = .ok (.invokevirtual 229, 3) := by decide +kernel
theorem dX5_markFractionsUnder_79 : decode cX5_markFractionsUnder 79 = .ok (.aload_n 0, 1) := by decide +kernel
theorem dX5_markFractionsUnder_80 : decode cX5_markFractionsUnder 80 = .ok (.aload_n 0, 1) := by decide +kernel
theorem dX5_markFractionsUnder_81 : decode cX5_markFractionsUnder 81 = .ok (.getfield 32, 3) := by decide +kernel
theorem dX5_markFractionsUnder_84 : decode cX5_markFractionsUnder 84 = .ok (.iload_n 3, 1) := by decide +kernel
theorem dX5_markFractionsUnder_85 : decode cX5_markFractionsUnder 85 = .ok (.aaload, 1) := by decide +kernel
theorem dX5_markFractionsUnder_86 : decode cX5_markFractionsUnder 86 = .ok (.getfield 90, 3) := by decide +kernel
theorem dX5_markFractionsUnder_89 : decode cX5_markFractionsUnder 89 = .ok (.invokevirtual 229, 3) := by decide +kernel
theorem dX5_markFractionsUnder_92 : decode cX5_markFractionsUnder 92 = .ok (.iload_n 2, 1) := by decide +kernel
theorem dX5_markFractionsUnder_93 : decode cX5_markFractionsUnder 93 = .ok (.ifCond .ne 15, 3) := by decide +kernel
theorem dX5_markFractionsUnder_96 : decode cX5_markFractionsUnder 96 = .ok (.aload_n 0, 1) := by decide +kernel
theorem dX5_markFractionsUnder_97 : decode cX5_markFractionsUnder 97 = .ok (.getfield 32, 3) := by decide +kernel
theorem dX5_markFractionsUnder_100 : decode cX5_markFractionsUnder 100 = .ok (.iload_n 3, 1) := by decide +kernel
theorem dX5_markFractionsUnder_101 : decode cX5_markFractionsUnder 101 = .ok (.aaload, 1) := by decide +kernel
theorem dX5_markFractionsUnder_102 : decode cX5_markFractionsUnder 102 = .ok (.getfield 93, 3) := by decide +kernel
theorem dX5_markFractionsUnder_105 : decode cX5_markFractionsUnder 105 = .ok (.ifCond .ne 7, 3) := by decide +kernel
theorem dX5_markFractionsUnder_108 : decode cX5_markFractionsUnder 108 = .ok (.iconst 1, 1) := by decide +kernel
theorem dX5_markFractionsUnder_109 : decode cX5_markFractionsUnder 109 = .ok (.goto 4, 3) := by decide +kernel
theorem dX5_markFractionsUnder_112 : decode cX5_markFractionsUnder 112 = .ok (.iconst 0, 1) := by decide +kernel
theorem dX5_markFractionsUnder_113 : decode cX5_markFractionsUnder 113 = .ok (.istore_n 2, 1) := by decide +kernel
theorem dX5_markFractionsUnder_114 : decode cX5_markFractionsUnder 114 = .ok (.iinc 3 (-1), 3) := by decide +kernel
theorem dX5_markFractionsUnder_117 : decode cX5_markFractionsUnder 117 = .ok (.goto (-67), 3) := by decide +kernel
theorem dX5_markFractionsUnder_120 : decode cX5_markFractionsUnder 120 = .ok (.iload_n 2, 1) := by decide +kernel
theorem dX5_markFractionsUnder_121 : decode cX5_markFractionsUnder 121 = .ok (.ireturn, 1) := by decide +kernel
theorem dX5_mark_0 : decode cX5_mark 0 = .ok (.iload_n 1, 1) := by decide +kernel
theorem dX5_mark_1 : decode cX5_mark 1 = .ok (.ifCond .lt 22, 3) := by decide +kernel
theorem dX5_mark_4 : decode cX5_mark 4 = .ok (.iload_n 1, 1) := by decide +kernel
theorem dX5_mark_5 : decode cX5_mark 5 = .ok (.aload_n 0, 1) := by decide +kernel
theorem dX5_mark_6 : decode cX5_mark 6 = .ok (.getfield 32, 3) := by decide +kernel
theorem dX5_mark_9 : decode cX5_mark 9 = .ok (.arraylength, 1) := by decide +kernel
theorem dX5_mark_10 : decode cX5_mark 10 = .ok (.if_icmp .ge 13, 3) := by decide +kernel
theorem dX5_mark_13 : decode cX5_mark 13 = .ok (.aload_n 0, 1) := by decide +kernel
theorem dX5_mark_14 : decode cX5_mark 14 = .ok (.getfield 32, 3) := by decide +kernel
theorem dX5_mark_17 : decode cX5_mark 17 = .ok (.iload_n 1, 1) := by decide +kernel
theorem dX5_mark_18 : decode cX5_mark 18 = .ok (.aaload, 1) := by decide +kernel
theorem dX5_mark_19 : decode cX5_mark 19 = .ok (.iconst 1, 1) := by decide +kernel
theorem dX5_mark_20 : decode cX5_mark 20 = .ok (.putfield 225, 3) := by decide +kernel
theorem dX5_mark_23 : decode cX5_mark 23 = .ok (.return_, 1) := by decide +kernel
theorem dX5_findMore_0 : decode cX5_findMore 0 = .ok (.iconst 0, 1) := by decide +kernel
theorem dX5_findMore_1 : decode cX5_findMore 1 = .ok (.istore_n 2, 1) := by decide +kernel
theorem dX5_findMore_2 : decode cX5_findMore 2 = .ok (.iload_n 2, 1) := by decide +kernel
theorem dX5_findMore_3 : decode cX5_findMore 3 = .ok (.aload_n 0, 1) := by decide +kernel
theorem dX5_findMore_4 : decode cX5_findMore 4 = .ok (.getfield 44, 3) := by decide +kernel
theorem dX5_findMore_7 : decode cX5_findMore 7 = .ok (.if_icmp .ge 59, 3) := by decide +kernel
theorem dX5_findMore_10 : decode cX5_findMore 10 = .ok (.iload_n 2, 1) := by decide +kernel
theorem dX5_findMore_11 : decode cX5_findMore 11 = .ok (.aload_n 0, 1) := by decide +kernel
theorem dX5_findMore_12 : decode cX5_findMore 12 = .ok (.getfield 32, 3) := by decide +kernel
theorem dX5_findMore_15 : decode cX5_findMore 15 = .ok (.arraylength, 1) := by decide +kernel
theorem dX5_findMore_16 : decode cX5_findMore 16 = .ok (.if_icmp .ge 50, 3) := by decide +kernel
theorem dX5_findMore_19 : decode cX5_findMore 19 = .ok (.aload_n 0, 1) := by decide +kernel
theorem dX5_findMore_20 : decode cX5_findMore 20 = .ok (.getfield 32, 3) := by decide +kernel
theorem dX5_findMore_23 : decode cX5_findMore 23 = .ok (.iload_n 2, 1) := by decide +kernel
theorem dX5_findMore_24 : decode cX5_findMore 24 = .ok (.aaload, 1) := by decide +kernel
theorem dX5_findMore_25 : decode cX5_findMore 25 = .ok (.astore_n 3, 1) := by decide +kernel
theorem dX5_findMore_26 : decode cX5_findMore 26 = .ok (.aload_n 3, 1) := by decide +kernel
theorem dX5_findMore_27 : decode cX5_findMore 27 = .ok (.getfield 225, 3) := by decide +kernel
theorem dX5_findMore_30 : decode cX5_findMore 30 = .ok (.ifCond .eq 25, 3) := by decide +kernel
theorem dX5_findMore_33 : decode cX5_findMore 33 = .ok (.aload_n 3, 1) := by decide +kernel
theorem dX5_findMore_34 : decode cX5_findMore 34 = .ok (.getfield 93, 3) := by decide +kernel
theorem dX5_findMore_37 : decode cX5_findMore 37 = .ok (.ifCond .ne 18, 3) := by decide +kernel
theorem dX5_findMore_40 : decode cX5_findMore 40 = .ok (.aload_n 3, 1) := by decide +kernel
theorem dX5_findMore_41 : decode cX5_findMore 41 = .ok (.aload_n 3, 1) := by decide +kernel
theorem dX5_findMore_42 : decode cX5_findMore 42 = .ok (.getfield 62, 3) := by decide +kernel
theorem dX5_findMore_45 : decode cX5_findMore 45 = .ok (.iload_n 1, 1) := by decide +kernel
theorem dX5_findMore_46 : decode cX5_findMore 46 = .ok (.iadd, 1) := by decide +kernel
theorem dX5_findMore_47 : decode cX5_findMore 47 = .ok (.bipush 60, 2) := by decide +kernel
theorem dX5_findMore_49 : decode cX5_findMore 49 = .ok (.invokestatic 123, 3) := by decide +kernel
theorem dX5_findMore_52 : decode cX5_findMore 52 = .ok (.putfield 62, 3) := by decide +kernel
theorem dX5_findMore_55 : decode cX5_findMore 55 = .ok (.aload_n 0, 1) := by decide +kernel
theorem dX5_findMore_56 : decode cX5_findMore 56 = .ok (.aload_n 3, 1) := by decide +kernel
theorem dX5_findMore_57 : decode cX5_findMore 57 = .ok (.invokevirtual 65, 3) := by decide +kernel
theorem dX5_findMore_60 : decode cX5_findMore 60 = .ok (.iinc 2 1, 3) := by decide +kernel
theorem dX5_findMore_63 : decode cX5_findMore 63 = .ok (.goto (-61), 3) := by decide +kernel
theorem dX5_findMore_66 : decode cX5_findMore 66 = .ok (.return_, 1) := by decide +kernel
theorem dX5_lowestLike_0 : decode cX5_lowestLike 0 = .ok (.aload_n 0, 1) := by decide +kernel
theorem dX5_lowestLike_1 : decode cX5_lowestLike 1 = .ok (.iload_n 1, 1) := by decide +kernel
theorem dX5_lowestLike_2 : decode cX5_lowestLike 2 = .ok (.invokevirtual 48, 3) := by decide +kernel
theorem dX5_lowestLike_5 : decode cX5_lowestLike 5 = .ok (.astore_n 2, 1) := by decide +kernel
theorem dX5_lowestLike_6 : decode cX5_lowestLike 6 = .ok (.iconst 0, 1) := by decide +kernel
theorem dX5_lowestLike_7 : decode cX5_lowestLike 7 = .ok (.istore_n 3, 1) := by decide +kernel
theorem dX5_lowestLike_8 : decode cX5_lowestLike 8 = .ok (.iload_n 3, 1) := by decide +kernel
theorem dX5_lowestLike_9 : decode cX5_lowestLike 9 = .ok (.iload_n 1, 1) := by decide +kernel
theorem dX5_lowestLike_10 : decode cX5_lowestLike 10 = .ok (.if_icmp .ge 33, 3) := by decide +kernel
theorem dX5_lowestLike_13 : decode cX5_lowestLike 13 = .ok (.iload_n 3, 1) := by decide +kernel
theorem dX5_lowestLike_14 : decode cX5_lowestLike 14 = .ok (.aload_n 0, 1) := by decide +kernel
theorem dX5_lowestLike_15 : decode cX5_lowestLike 15 = .ok (.getfield 32, 3) := by decide +kernel
theorem dX5_lowestLike_18 : decode cX5_lowestLike 18 = .ok (.arraylength, 1) := by decide +kernel
theorem dX5_lowestLike_19 : decode cX5_lowestLike 19 = .ok (.if_icmp .ge 24, 3) := by decide +kernel
theorem dX5_lowestLike_22 : decode cX5_lowestLike 22 = .ok (.aload_n 0, 1) := by decide +kernel
theorem dX5_lowestLike_23 : decode cX5_lowestLike 23 = .ok (.getfield 32, 3) := by decide +kernel
theorem dX5_lowestLike_26 : decode cX5_lowestLike 26 = .ok (.iload_n 3, 1) := by decide +kernel
theorem dX5_lowestLike_27 : decode cX5_lowestLike 27 = .ok (.aaload, 1) := by decide +kernel
theorem dX5_lowestLike_28 : decode cX5_lowestLike 28 = .ok (.aload_n 2, 1) := by decide +kernel
theorem dX5_lowestLike_29 : decode cX5_lowestLike 29 = .ok (.invokevirtual 233, 3) := by decide +kernel
theorem dX5_lowestLike_32 : decode cX5_lowestLike 32 = .ok (.ifCond .eq 5, 3) := by decide +kernel
theorem dX5_lowestLike_35 : decode cX5_lowestLike 35 = .ok (.iload_n 3, 1) := by decide +kernel
theorem dX5_lowestLike_36 : decode cX5_lowestLike 36 = .ok (.ireturn, 1) := by decide +kernel
theorem dX5_lowestLike_37 : decode cX5_lowestLike 37 = .ok (.iinc 3 1, 3) := by decide +kernel
theorem dX5_lowestLike_40 : decode cX5_lowestLike 40 = .ok (.goto (-32), 3) := by decide +kernel
theorem dX5_lowestLike_43 : decode cX5_lowestLike 43 = .ok (.iload_n 1, 1) := by decide +kernel
theorem dX5_lowestLike_44 : decode cX5_lowestLike 44 = .ok (.ireturn, 1) := by decide +kernel
theorem dX5_splitsAt_0 : decode cX5_splitsAt 0 = .ok (.aload_n 0, 1) := by decide +kernel
theorem dX5_splitsAt_1 : decode cX5_splitsAt 1 = .ok (.aload_n 0, 1) := by decide +kernel
theorem dX5_splitsAt_2 : decode cX5_splitsAt 2 = .ok (.getfield 37, 3) := by decide +kernel
theorem dX5_splitsAt_5 : decode cX5_splitsAt 5 = .ok (.aload_n 1, 1) := by decide +kernel
theorem dX5_splitsAt_6 : decode cX5_splitsAt 6 = .ok (.aload_n 2, 1) := by decide +kernel
theorem dX5_splitsAt_7 : decode cX5_splitsAt 7 = .ok (.iconst (-1), 1) := by decide +kernel
theorem dX5_splitsAt_8 : decode cX5_splitsAt 8 = .ok (.invokevirtual 99, 3) := by decide +kernel
theorem dX5_splitsAt_11 : decode cX5_splitsAt 11 = .ok (.aload_n 0, 1) := by decide +kernel
theorem dX5_splitsAt_12 : decode cX5_splitsAt 12 = .ok (.getfield 37, 3) := by decide +kernel
theorem dX5_splitsAt_15 : decode cX5_splitsAt 15 = .ok (.invokevirtual 182, 3) := by decide +kernel
theorem dX5_splitsAt_18 : decode cX5_splitsAt 18 = .ok (.ifCond .eq 9, 3) := by decide +kernel
theorem dX5_splitsAt_21 : decode cX5_splitsAt 21 = .ok (.sipush 1000, 3) := by decide +kernel
theorem dX5_splitsAt_24 : decode cX5_splitsAt 24 = .ok (.goto 10, 3) := by decide +kernel
theorem dX5_splitsAt_27 : decode cX5_splitsAt 27 = .ok (.aload_n 0, 1) := by decide +kernel
theorem dX5_splitsAt_28 : decode cX5_splitsAt 28 = .ok (.getfield 37, 3) := by decide +kernel
theorem dX5_splitsAt_31 : decode cX5_splitsAt 31 = .ok (.getfield 153, 3) := by decide +kernel
theorem dX5_splitsAt_34 : decode cX5_splitsAt 34 = .ok (.ireturn, 1) := by decide +kernel
theorem dX5_guessSpan_0 : decode cX5_guessSpan 0 = .ok (.aload_n 1, 1) := by decide +kernel
theorem dX5_guessSpan_1 : decode cX5_guessSpan 1 = .ok (.getfield 156, 3) := by decide +kernel
theorem dX5_guessSpan_4 : decode cX5_guessSpan 4 = .ok (.aload_n 0, 1) := by decide +kernel
theorem dX5_guessSpan_5 : decode cX5_guessSpan 5 = .ok (.getfield 10, 3) := by decide +kernel
theorem dX5_guessSpan_8 : decode cX5_guessSpan 8 = .ok (.getfield 129, 3) := by decide +kernel
theorem dX5_guessSpan_11 : decode cX5_guessSpan 11 = .ok (.invokestatic 123, 3) := by decide +kernel
theorem dX5_guessSpan_14 : decode cX5_guessSpan 14 = .ok (.ireturn, 1) := by decide +kernel
theorem dX5_guessedBottom_0 : decode cX5_guessedBottom 0 = .ok (.aload_n 0, 1) := by decide +kernel
theorem dX5_guessedBottom_1 : decode cX5_guessedBottom 1 = .ok (.aload_n 1, 1) := by decide +kernel
theorem dX5_guessedBottom_2 : decode cX5_guessedBottom 2 = .ok (.invokevirtual 237, 3) := by decide +kernel
theorem dX5_guessedBottom_5 : decode cX5_guessedBottom 5 = .ok (.istore_n 2, 1) := by decide +kernel
theorem dX5_guessedBottom_6 : decode cX5_guessedBottom 6 = .ok (.aload_n 0, 1) := by decide +kernel
theorem dX5_guessedBottom_7 : decode cX5_guessedBottom 7 = .ok (.getfield 10, 3) := by decide +kernel
theorem dX5_guessedBottom_10 : decode cX5_guessedBottom 10 = .ok (.iload_n 2, 1) := by decide +kernel
theorem dX5_guessedBottom_11 : decode cX5_guessedBottom 11 = .ok (.invokevirtual 132, 3) := by decide +kernel
theorem dX5_guessedBottom_14 : decode cX5_guessedBottom 14 = .ok (.lstore_n 3, 1) := by decide +kernel
theorem dX5_guessedBottom_15 : decode cX5_guessedBottom 15 = .ok (.lload_n 3, 1) := by decide +kernel
theorem dX5_guessedBottom_16 : decode cX5_guessedBottom 16 = .ok (.lstore 5, 2) := by decide +kernel
theorem dX5_guessedBottom_18 : decode cX5_guessedBottom 18 = .ok (.aload_n 0, 1) := by decide +kernel
theorem dX5_guessedBottom_19 : decode cX5_guessedBottom 19 = .ok (.aload_n 1, 1) := by decide +kernel
theorem dX5_guessedBottom_20 : decode cX5_guessedBottom 20 = .ok (.iconst 0, 1) := by decide +kernel
theorem dX5_guessedBottom_21 : decode cX5_guessedBottom 21 = .ok (.iload_n 2, 1) := by decide +kernel
theorem dX5_guessedBottom_22 : decode cX5_guessedBottom 22 = .ok (.invokevirtual 178, 3) := by decide +kernel
theorem dX5_guessedBottom_25 : decode cX5_guessedBottom 25 = .ok (.lstore 7, 2) := by decide +kernel
theorem dX5_guessedBottom_27 : decode cX5_guessedBottom 27 = .ok (.lconst 0, 1) := by decide +kernel
theorem dX5_guessedBottom_28 : decode cX5_guessedBottom 28 = .ok (.lstore 9, 2) := by decide +kernel
theorem dX5_guessedBottom_30 : decode cX5_guessedBottom 30 = .ok (.lconst 1, 1) := by decide +kernel
theorem dX5_guessedBottom_31 : decode cX5_guessedBottom 31 = .ok (.lstore 11, 2) := by decide +kernel
theorem dX5_guessedBottom_33 : decode cX5_guessedBottom 33 = .ok (.iconst 0, 1) := by decide +kernel
theorem dX5_guessedBottom_34 : decode cX5_guessedBottom 34 = .ok (.istore 13, 2) := by decide +kernel
theorem dX5_guessedBottom_36 : decode cX5_guessedBottom 36 = .ok (.iload 13, 2) := by decide +kernel
theorem dX5_guessedBottom_38 : decode cX5_guessedBottom 38 = .ok (.bipush 100, 2) := by decide +kernel
theorem dX5_guessedBottom_40 : decode cX5_guessedBottom 40 = .ok (.if_icmp .ge 68, 3) := by decide +kernel
theorem dX5_guessedBottom_43 : decode cX5_guessedBottom 43 = .ok (.ldc2_w 195, 3) := by decide +kernel
theorem dX5_guessedBottom_46 : decode cX5_guessedBottom 46 = .ok (.lload 7, 2) := by decide +kernel
theorem dX5_guessedBottom_48 : decode cX5_guessedBottom 48 = .ok (.lmul, 1) := by decide +kernel
theorem dX5_guessedBottom_49 : decode cX5_guessedBottom 49 = .ok (.lload 7, 2) := by decide +kernel
theorem dX5_guessedBottom_51 : decode cX5_guessedBottom 51 = .ok (.lmul, 1) := by decide +kernel
theorem dX5_guessedBottom_52 : decode cX5_guessedBottom 52 = .ok (.lload_n 3, 1) := by decide +kernel
theorem dX5_guessedBottom_53 : decode cX5_guessedBottom 53 = .ok (.lcmp, 1) := by decide +kernel
theorem dX5_guessedBottom_54 : decode cX5_guessedBottom 54 = .ok (.ifCond .lt 54, 3) := by decide +kernel
theorem dX5_guessedBottom_57 : decode cX5_guessedBottom 57 = .ok (.lload 5, 2) := by decide +kernel
theorem dX5_guessedBottom_59 : decode cX5_guessedBottom 59 = .ok (.lload 7, 2) := by decide +kernel
theorem dX5_guessedBottom_61 : decode cX5_guessedBottom 61 = .ok (.invokestatic 218, 3) := by decide +kernel
theorem dX5_guessedBottom_64 : decode cX5_guessedBottom 64 = .ok (.lstore 14, 2) := by decide +kernel
theorem dX5_guessedBottom_66 : decode cX5_guessedBottom 66 = .ok (.lload 5, 2) := by decide +kernel
theorem dX5_guessedBottom_68 : decode cX5_guessedBottom 68 = .ok (.lload 14, 2) := by decide +kernel
theorem dX5_guessedBottom_70 : decode cX5_guessedBottom 70 = .ok (.lload 7, 2) := by decide +kernel
theorem dX5_guessedBottom_72 : decode cX5_guessedBottom 72 = .ok (.lmul, 1) := by decide +kernel
theorem dX5_guessedBottom_73 : decode cX5_guessedBottom 73 = .ok (.lsub, 1) := by decide +kernel
theorem dX5_guessedBottom_74 : decode cX5_guessedBottom 74 = .ok (.lstore 16, 2) := by decide +kernel
theorem dX5_guessedBottom_76 : decode cX5_guessedBottom 76 = .ok (.lload 9, 2) := by decide +kernel
theorem dX5_guessedBottom_78 : decode cX5_guessedBottom 78 = .ok (.lload 14, 2) := by decide +kernel
theorem dX5_guessedBottom_80 : decode cX5_guessedBottom 80 = .ok (.lload 11, 2) := by decide +kernel
theorem dX5_guessedBottom_82 : decode cX5_guessedBottom 82 = .ok (.lmul, 1) := by decide +kernel
theorem dX5_guessedBottom_83 : decode cX5_guessedBottom 83 = .ok (.lsub, 1) := by decide +kernel
theorem dX5_guessedBottom_84 : decode cX5_guessedBottom 84 = .ok (.lstore 18, 2) := by decide +kernel
theorem dX5_guessedBottom_86 : decode cX5_guessedBottom 86 = .ok (.lload 7, 2) := by decide +kernel
theorem dX5_guessedBottom_88 : decode cX5_guessedBottom 88 = .ok (.lstore 5, 2) := by decide +kernel
theorem dX5_guessedBottom_90 : decode cX5_guessedBottom 90 = .ok (.lload 11, 2) := by decide +kernel
theorem dX5_guessedBottom_92 : decode cX5_guessedBottom 92 = .ok (.lstore 9, 2) := by decide +kernel
theorem dX5_guessedBottom_94 : decode cX5_guessedBottom 94 = .ok (.lload 16, 2) := by decide +kernel
theorem dX5_guessedBottom_96 : decode cX5_guessedBottom 96 = .ok (.lstore 7, 2) := by decide +kernel
theorem dX5_guessedBottom_98 : decode cX5_guessedBottom 98 = .ok (.lload 18, 2) := by decide +kernel
theorem dX5_guessedBottom_100 : decode cX5_guessedBottom 100 = .ok (.lstore 11, 2) := by decide +kernel
theorem dX5_guessedBottom_102 : decode cX5_guessedBottom 102 = .ok (.iinc 13 1, 3) := by decide +kernel
theorem dX5_guessedBottom_105 : decode cX5_guessedBottom 105 = .ok (.goto (-69), 3) := by decide +kernel
theorem dX5_guessedBottom_108 : decode cX5_guessedBottom 108 = .ok (.lload 11, 2) := by decide +kernel
theorem dX5_guessedBottom_110 : decode cX5_guessedBottom 110 = .ok (.invokestatic 240, 3) := by decide +kernel
theorem dX5_guessedBottom_113 : decode cX5_guessedBottom 113 = .ok (.lstore 13, 2) := by decide +kernel
theorem dX5_guessedBottom_115 : decode cX5_guessedBottom 115 = .ok (.ldc2_w 195, 3) := by decide +kernel
theorem dX5_guessedBottom_118 : decode cX5_guessedBottom 118 = .ok (.lload 13, 2) := by decide +kernel
theorem dX5_guessedBottom_120 : decode cX5_guessedBottom 120 = .ok (.lmul, 1) := by decide +kernel
theorem dX5_guessedBottom_121 : decode cX5_guessedBottom 121 = .ok (.lload 13, 2) := by decide +kernel
theorem dX5_guessedBottom_123 : decode cX5_guessedBottom 123 = .ok (.lmul, 1) := by decide +kernel
theorem dX5_guessedBottom_124 : decode cX5_guessedBottom 124 = .ok (.lload_n 3, 1) := by decide +kernel
theorem dX5_guessedBottom_125 : decode cX5_guessedBottom 125 = .ok (.lcmp, 1) := by decide +kernel
theorem dX5_guessedBottom_126 : decode cX5_guessedBottom 126 = .ok (.ifCond .ge 7, 3) := by decide +kernel
theorem dX5_guessedBottom_129 : decode cX5_guessedBottom 129 = .ok (.iconst 1, 1) := by decide +kernel
theorem dX5_guessedBottom_130 : decode cX5_guessedBottom 130 = .ok (.goto 4, 3) := by decide +kernel
theorem dX5_guessedBottom_133 : decode cX5_guessedBottom 133 = .ok (.iconst 0, 1) := by decide +kernel
theorem dX5_guessedBottom_134 : decode cX5_guessedBottom 134 = .ok (.istore 15, 2) := by decide +kernel
theorem dX5_guessedBottom_136 : decode cX5_guessedBottom 136 = .ok (.lload 7, 2) := by decide +kernel
theorem dX5_guessedBottom_138 : decode cX5_guessedBottom 138 = .ok (.lload 13, 2) := by decide +kernel
theorem dX5_guessedBottom_140 : decode cX5_guessedBottom 140 = .ok (.invokestatic 244, 3) := by decide +kernel
theorem dX5_guessedBottom_143 : decode cX5_guessedBottom 143 = .ok (.lconst 1, 1) := by decide +kernel
theorem dX5_guessedBottom_144 : decode cX5_guessedBottom 144 = .ok (.lcmp, 1) := by decide +kernel
theorem dX5_guessedBottom_145 : decode cX5_guessedBottom 145 = .ok (.ifCond .ne 25, 3) := by decide +kernel
theorem dX5_guessedBottom_148 : decode cX5_guessedBottom 148 = .ok (.lload 13, 2) := by decide +kernel
theorem dX5_guessedBottom_150 : decode cX5_guessedBottom 150 = .ok (.aload_n 0, 1) := by decide +kernel
theorem dX5_guessedBottom_151 : decode cX5_guessedBottom 151 = .ok (.getfield 10, 3) := by decide +kernel
theorem dX5_guessedBottom_154 : decode cX5_guessedBottom 154 = .ok (.getfield 146, 3) := by decide +kernel
theorem dX5_guessedBottom_157 : decode cX5_guessedBottom 157 = .ok (.i2l, 1) := by decide +kernel
theorem dX5_guessedBottom_158 : decode cX5_guessedBottom 158 = .ok (.invokestatic 136, 3) := by decide +kernel
theorem dX5_guessedBottom_161 : decode cX5_guessedBottom 161 = .ok (.lconst 0, 1) := by decide +kernel
theorem dX5_guessedBottom_162 : decode cX5_guessedBottom 162 = .ok (.lcmp, 1) := by decide +kernel
theorem dX5_guessedBottom_163 : decode cX5_guessedBottom 163 = .ok (.ifCond .eq 7, 3) := by decide +kernel
theorem dX5_guessedBottom_166 : decode cX5_guessedBottom 166 = .ok (.iconst 1, 1) := by decide +kernel
theorem dX5_guessedBottom_167 : decode cX5_guessedBottom 167 = .ok (.goto 4, 3) := by decide +kernel
theorem dX5_guessedBottom_170 : decode cX5_guessedBottom 170 = .ok (.iconst 0, 1) := by decide +kernel
theorem dX5_guessedBottom_171 : decode cX5_guessedBottom 171 = .ok (.istore 16, 2) := by decide +kernel
theorem dX5_guessedBottom_173 : decode cX5_guessedBottom 173 = .ok (.iload 15, 2) := by decide +kernel
theorem dX5_guessedBottom_175 : decode cX5_guessedBottom 175 = .ok (.ifCond .eq 13, 3) := by decide +kernel
theorem dX5_guessedBottom_178 : decode cX5_guessedBottom 178 = .ok (.iload 16, 2) := by decide +kernel
theorem dX5_guessedBottom_180 : decode cX5_guessedBottom 180 = .ok (.ifCond .eq 8, 3) := by decide +kernel
theorem dX5_guessedBottom_183 : decode cX5_guessedBottom 183 = .ok (.lload 13, 2) := by decide +kernel
theorem dX5_guessedBottom_185 : decode cX5_guessedBottom 185 = .ok (.goto 4, 3) := by decide +kernel
theorem dX5_guessedBottom_188 : decode cX5_guessedBottom 188 = .ok (.lconst 0, 1) := by decide +kernel
theorem dX5_guessedBottom_189 : decode cX5_guessedBottom 189 = .ok (.lreturn, 1) := by decide +kernel
theorem dX5_guessedTop_0 : decode cX5_guessedTop 0 = .ok (.aload_n 0, 1) := by decide +kernel
theorem dX5_guessedTop_1 : decode cX5_guessedTop 1 = .ok (.aload_n 1, 1) := by decide +kernel
theorem dX5_guessedTop_2 : decode cX5_guessedTop 2 = .ok (.invokevirtual 237, 3) := by decide +kernel
theorem dX5_guessedTop_5 : decode cX5_guessedTop 5 = .ok (.istore 4, 2) := by decide +kernel
theorem dX5_guessedTop_7 : decode cX5_guessedTop 7 = .ok (.aload_n 0, 1) := by decide +kernel
theorem dX5_guessedTop_8 : decode cX5_guessedTop 8 = .ok (.getfield 10, 3) := by decide +kernel
theorem dX5_guessedTop_11 : decode cX5_guessedTop 11 = .ok (.iload 4, 2) := by decide +kernel
theorem dX5_guessedTop_13 : decode cX5_guessedTop 13 = .ok (.invokevirtual 132, 3) := by decide +kernel
theorem dX5_guessedTop_16 : decode cX5_guessedTop 16 = .ok (.lstore 5, 2) := by decide +kernel
theorem dX5_guessedTop_18 : decode cX5_guessedTop 18 = .ok (.lload_n 2, 1) := by decide +kernel
theorem dX5_guessedTop_19 : decode cX5_guessedTop 19 = .ok (.aload_n 0, 1) := by decide +kernel
theorem dX5_guessedTop_20 : decode cX5_guessedTop 20 = .ok (.aload_n 1, 1) := by decide +kernel
theorem dX5_guessedTop_21 : decode cX5_guessedTop 21 = .ok (.iconst 0, 1) := by decide +kernel
theorem dX5_guessedTop_22 : decode cX5_guessedTop 22 = .ok (.iload 4, 2) := by decide +kernel
theorem dX5_guessedTop_24 : decode cX5_guessedTop 24 = .ok (.invokevirtual 178, 3) := by decide +kernel
theorem dX5_guessedTop_27 : decode cX5_guessedTop 27 = .ok (.lload 5, 2) := by decide +kernel
theorem dX5_guessedTop_29 : decode cX5_guessedTop 29 = .ok (.invokestatic 170, 3) := by decide +kernel
theorem dX5_guessedTop_32 : decode cX5_guessedTop 32 = .ok (.lstore 7, 2) := by decide +kernel
theorem dX5_guessedTop_34 : decode cX5_guessedTop 34 = .ok (.ldc2_w 195, 3) := by decide +kernel
theorem dX5_guessedTop_37 : decode cX5_guessedTop 37 = .ok (.lload 7, 2) := by decide +kernel
theorem dX5_guessedTop_39 : decode cX5_guessedTop 39 = .ok (.lmul, 1) := by decide +kernel
theorem dX5_guessedTop_40 : decode cX5_guessedTop 40 = .ok (.lload 5, 2) := by decide +kernel
theorem dX5_guessedTop_42 : decode cX5_guessedTop 42 = .ok (.lcmp, 1) := by decide +kernel
theorem dX5_guessedTop_43 : decode cX5_guessedTop 43 = .ok (.ifCond .le 11, 3) := by decide +kernel
theorem dX5_guessedTop_46 : decode cX5_guessedTop 46 = .ok (.lload 7, 2) := by decide +kernel
theorem dX5_guessedTop_48 : decode cX5_guessedTop 48 = .ok (.lload 5, 2) := by decide +kernel
theorem dX5_guessedTop_50 : decode cX5_guessedTop 50 = .ok (.lsub, 1) := by decide +kernel
theorem dX5_guessedTop_51 : decode cX5_guessedTop 51 = .ok (.goto 5, 3) := by decide +kernel
theorem dX5_guessedTop_54 : decode cX5_guessedTop 54 = .ok (.lload 7, 2) := by decide +kernel
theorem dX5_guessedTop_56 : decode cX5_guessedTop 56 = .ok (.lreturn, 1) := by decide +kernel
theorem dX5_nothingCount_0 : decode cX5_nothingCount 0 = .ok (.iconst 0, 1) := by decide +kernel
theorem dX5_nothingCount_1 : decode cX5_nothingCount 1 = .ok (.istore_n 1, 1) := by decide +kernel
theorem dX5_nothingCount_2 : decode cX5_nothingCount 2 = .ok (.iconst 0, 1) := by decide +kernel
theorem dX5_nothingCount_3 : decode cX5_nothingCount 3 = .ok (.istore_n 2, 1) := by decide +kernel
theorem dX5_nothingCount_4 : decode cX5_nothingCount 4 = .ok (.iload_n 2, 1) := by decide +kernel
theorem dX5_nothingCount_5 : decode cX5_nothingCount 5 = .ok (.aload_n 0, 1) := by decide +kernel
theorem dX5_nothingCount_6 : decode cX5_nothingCount 6 = .ok (.getfield 44, 3) := by decide +kernel
theorem dX5_nothingCount_9 : decode cX5_nothingCount 9 = .ok (.if_icmp .ge 33, 3) := by decide +kernel
theorem dX5_nothingCount_12 : decode cX5_nothingCount 12 = .ok (.iload_n 2, 1) := by decide +kernel
theorem dX5_nothingCount_13 : decode cX5_nothingCount 13 = .ok (.aload_n 0, 1) := by decide +kernel
theorem dX5_nothingCount_14 : decode cX5_nothingCount 14 = .ok (.getfield 32, 3) := by decide +kernel
theorem dX5_nothingCount_17 : decode cX5_nothingCount 17 = .ok (.arraylength, 1) := by decide +kernel
theorem dX5_nothingCount_18 : decode cX5_nothingCount 18 = .ok (.if_icmp .ge 24, 3) := by decide +kernel
theorem dX5_nothingCount_21 : decode cX5_nothingCount 21 = .ok (.aload_n 0, 1) := by decide +kernel
theorem dX5_nothingCount_22 : decode cX5_nothingCount 22 = .ok (.getfield 32, 3) := by decide +kernel
theorem dX5_nothingCount_25 : decode cX5_nothingCount 25 = .ok (.iload_n 2, 1) := by decide +kernel
theorem dX5_nothingCount_26 : decode cX5_nothingCount 26 = .ok (.aaload, 1) := by decide +kernel
theorem dX5_nothingCount_27 : decode cX5_nothingCount 27 = .ok (.invokevirtual 182, 3) := by decide +kernel
theorem dX5_nothingCount_30 : decode cX5_nothingCount 30 = .ok (.ifCond .eq 6, 3) := by decide +kernel
theorem dX5_nothingCount_33 : decode cX5_nothingCount 33 = .ok (.iinc 1 1, 3) := by decide +kernel
theorem dX5_nothingCount_36 : decode cX5_nothingCount 36 = .ok (.iinc 2 1, 3) := by decide +kernel
theorem dX5_nothingCount_39 : decode cX5_nothingCount 39 = .ok (.goto (-35), 3) := by decide +kernel
theorem dX5_nothingCount_42 : decode cX5_nothingCount 42 = .ok (.iload_n 1, 1) := by decide +kernel
theorem dX5_nothingCount_43 : decode cX5_nothingCount 43 = .ok (.ireturn, 1) := by decide +kernel
theorem dX5_digitCount_0 : decode cX5_digitCount 0 = .ok (.iconst 0, 1) := by decide +kernel
theorem dX5_digitCount_1 : decode cX5_digitCount 1 = .ok (.istore_n 1, 1) := by decide +kernel
theorem dX5_digitCount_2 : decode cX5_digitCount 2 = .ok (.iconst 0, 1) := by decide +kernel
theorem dX5_digitCount_3 : decode cX5_digitCount 3 = .ok (.istore_n 2, 1) := by decide +kernel
theorem dX5_digitCount_4 : decode cX5_digitCount 4 = .ok (.iload_n 2, 1) := by decide +kernel
theorem dX5_digitCount_5 : decode cX5_digitCount 5 = .ok (.aload_n 0, 1) := by decide +kernel
theorem dX5_digitCount_6 : decode cX5_digitCount 6 = .ok (.getfield 44, 3) := by decide +kernel
theorem dX5_digitCount_9 : decode cX5_digitCount 9 = .ok (.if_icmp .ge 40, 3) := by decide +kernel
theorem dX5_digitCount_12 : decode cX5_digitCount 12 = .ok (.iload_n 2, 1) := by decide +kernel
theorem dX5_digitCount_13 : decode cX5_digitCount 13 = .ok (.aload_n 0, 1) := by decide +kernel
theorem dX5_digitCount_14 : decode cX5_digitCount 14 = .ok (.getfield 32, 3) := by decide +kernel
theorem dX5_digitCount_17 : decode cX5_digitCount 17 = .ok (.arraylength, 1) := by decide +kernel
theorem dX5_digitCount_18 : decode cX5_digitCount 18 = .ok (.if_icmp .ge 31, 3) := by decide +kernel
theorem dX5_digitCount_21 : decode cX5_digitCount 21 = .ok (.iload_n 1, 1) := by decide +kernel
theorem dX5_digitCount_22 : decode cX5_digitCount 22 = .ok (.aload_n 0, 1) := by decide +kernel
theorem dX5_digitCount_23 : decode cX5_digitCount 23 = .ok (.getfield 32, 3) := by decide +kernel
theorem dX5_digitCount_26 : decode cX5_digitCount 26 = .ok (.iload_n 2, 1) := by decide +kernel
theorem dX5_digitCount_27 : decode cX5_digitCount 27 = .ok (.aaload, 1) := by decide +kernel
theorem dX5_digitCount_28 : decode cX5_digitCount 28 = .ok (.getfield 156, 3) := by decide +kernel
theorem dX5_digitCount_31 : decode cX5_digitCount 31 = .ok (.iadd, 1) := by decide +kernel
theorem dX5_digitCount_32 : decode cX5_digitCount 32 = .ok (.aload_n 0, 1) := by decide +kernel
theorem dX5_digitCount_33 : decode cX5_digitCount 33 = .ok (.getfield 32, 3) := by decide +kernel
theorem dX5_digitCount_36 : decode cX5_digitCount 36 = .ok (.iload_n 2, 1) := by decide +kernel
theorem dX5_digitCount_37 : decode cX5_digitCount 37 = .ok (.aaload, 1) := by decide +kernel
theorem dX5_digitCount_38 : decode cX5_digitCount 38 = .ok (.getfield 153, 3) := by decide +kernel
theorem dX5_digitCount_41 : decode cX5_digitCount 41 = .ok (.isub, 1) := by decide +kernel
theorem dX5_digitCount_42 : decode cX5_digitCount 42 = .ok (.istore_n 1, 1) := by decide +kernel
theorem dX5_digitCount_43 : decode cX5_digitCount 43 = .ok (.iinc 2 1, 3) := by decide +kernel
theorem dX5_digitCount_46 : decode cX5_digitCount 46 = .ok (.goto (-42), 3) := by decide +kernel
theorem dX5_digitCount_49 : decode cX5_digitCount 49 = .ok (.iload_n 1, 1) := by decide +kernel
theorem dX5_digitCount_50 : decode cX5_digitCount 50 = .ok (.ireturn, 1) := by decide +kernel
theorem dX5_isTrueStill_0 : decode cX5_isTrueStill 0 = .ok (.aload_n 0, 1) := by decide +kernel
theorem dX5_isTrueStill_1 : decode cX5_isTrueStill 1 = .ok (.iload_n 1, 1) := by decide +kernel
theorem dX5_isTrueStill_2 : decode cX5_isTrueStill 2 = .ok (.invokevirtual 48, 3) := by decide +kernel
theorem dX5_isTrueStill_5 : decode cX5_isTrueStill 5 = .ok (.astore_n 2, 1) := by decide +kernel
theorem dX5_isTrueStill_6 : decode cX5_isTrueStill 6 = .ok (.aload_n 2, 1) := by decide +kernel
theorem dX5_isTrueStill_7 : decode cX5_isTrueStill 7 = .ok (.invokevirtual 247, 3) := by decide +kernel
theorem dX5_isTrueStill_10 : decode cX5_isTrueStill 10 = .ok (.ifCond .eq 28, 3) := by decide +kernel
theorem dX5_isTrueStill_13 : decode cX5_isTrueStill 13 = .ok (.aload_n 0, 1) := by decide +kernel
theorem dX5_isTrueStill_14 : decode cX5_isTrueStill 14 = .ok (.getfield 41, 3) := by decide +kernel
theorem dX5_isTrueStill_17 : decode cX5_isTrueStill 17 = .ok (.aload_n 2, 1) := by decide +kernel
theorem dX5_isTrueStill_18 : decode cX5_isTrueStill 18 = .ok (.invokevirtual 250, 3) := by decide +kernel
theorem dX5_isTrueStill_21 : decode cX5_isTrueStill 21 = .ok (.aload_n 0, 1) := by decide +kernel
theorem dX5_isTrueStill_22 : decode cX5_isTrueStill 22 = .ok (.aload_n 2, 1) := by decide +kernel
theorem dX5_isTrueStill_23 : decode cX5_isTrueStill 23 = .ok (.aload_n 0, 1) := by decide +kernel
theorem dX5_isTrueStill_24 : decode cX5_isTrueStill 24 = .ok (.getfield 41, 3) := by decide +kernel
theorem dX5_isTrueStill_27 : decode cX5_isTrueStill 27 = .ok (.invokevirtual 253, 3) := by decide +kernel
theorem dX5_isTrueStill_30 : decode cX5_isTrueStill 30 = .ok (.sipush 1000, 3) := by decide +kernel
theorem dX5_isTrueStill_33 : decode cX5_isTrueStill 33 = .ok (.if_icmp .eq 5, 3) := by decide +kernel
theorem dX5_isTrueStill_36 : decode cX5_isTrueStill 36 = .ok (.iconst 0, 1) := by decide +kernel
theorem dX5_isTrueStill_37 : decode cX5_isTrueStill 37 = .ok (.ireturn, 1) := by decide +kernel
theorem dX5_isTrueStill_38 : decode cX5_isTrueStill 38 = .ok (.aload_n 2, 1) := by decide +kernel
theorem dX5_isTrueStill_39 : decode cX5_isTrueStill 39 = .ok (.getfield 93, 3) := by decide +kernel
theorem dX5_isTrueStill_42 : decode cX5_isTrueStill 42 = .ok (.iconst 5, 1) := by decide +kernel
theorem dX5_isTrueStill_43 : decode cX5_isTrueStill 43 = .ok (.if_icmp .ne 41, 3) := by decide +kernel
theorem dX5_isTrueStill_46 : decode cX5_isTrueStill 46 = .ok (.aload_n 0, 1) := by decide +kernel
theorem dX5_isTrueStill_47 : decode cX5_isTrueStill 47 = .ok (.aload_n 0, 1) := by decide +kernel
theorem dX5_isTrueStill_48 : decode cX5_isTrueStill 48 = .ok (.getfield 41, 3) := by decide +kernel
theorem dX5_isTrueStill_51 : decode cX5_isTrueStill 51 = .ok (.aload_n 2, 1) := by decide +kernel
theorem dX5_isTrueStill_52 : decode cX5_isTrueStill 52 = .ok (.aload_n 2, 1) := by decide +kernel
theorem dX5_isTrueStill_53 : decode cX5_isTrueStill 53 = .ok (.invokevirtual 103, 3) := by decide +kernel
theorem dX5_isTrueStill_56 : decode cX5_isTrueStill 56 = .ok (.aload_n 0, 1) := by decide +kernel
theorem dX5_isTrueStill_57 : decode cX5_isTrueStill 57 = .ok (.aload_n 0, 1) := by decide +kernel
theorem dX5_isTrueStill_58 : decode cX5_isTrueStill 58 = .ok (.getfield 41, 3) := by decide +kernel
theorem dX5_isTrueStill_61 : decode cX5_isTrueStill 61 = .ok (.aload_n 0, 1) := by decide +kernel
theorem dX5_isTrueStill_62 : decode cX5_isTrueStill 62 = .ok (.aload_n 2, 1) := by decide +kernel
theorem dX5_isTrueStill_63 : decode cX5_isTrueStill 63 = .ok (.getfield 87, 3) := by decide +kernel
theorem dX5_isTrueStill_66 : decode cX5_isTrueStill 66 = .ok (.invokevirtual 48, 3) := by decide +kernel
theorem dX5_isTrueStill_69 : decode cX5_isTrueStill 69 = .ok (.invokevirtual 253, 3) := by decide +kernel
theorem dX5_isTrueStill_72 : decode cX5_isTrueStill 72 = .ok (.sipush 1000, 3) := by decide +kernel
theorem dX5_isTrueStill_75 : decode cX5_isTrueStill 75 = .ok (.if_icmp .ne 7, 3) := by decide +kernel
theorem dX5_isTrueStill_78 : decode cX5_isTrueStill 78 = .ok (.iconst 1, 1) := by decide +kernel
theorem dX5_isTrueStill_79 : decode cX5_isTrueStill 79 = .ok (.goto 4, 3) := by decide +kernel
theorem dX5_isTrueStill_82 : decode cX5_isTrueStill 82 = .ok (.iconst 0, 1) := by decide +kernel
theorem dX5_isTrueStill_83 : decode cX5_isTrueStill 83 = .ok (.ireturn, 1) := by decide +kernel
theorem dX5_isTrueStill_84 : decode cX5_isTrueStill 84 = .ok (.aload_n 2, 1) := by decide +kernel
theorem dX5_isTrueStill_85 : decode cX5_isTrueStill 85 = .ok (.getfield 93, 3) := by decide +kernel
theorem dX5_isTrueStill_88 : decode cX5_isTrueStill 88 = .ok (.bipush 7, 2) := by decide +kernel
theorem dX5_isTrueStill_90 : decode cX5_isTrueStill 90 = .ok (.if_icmp .ne 11, 3) := by decide +kernel
theorem dX5_isTrueStill_93 : decode cX5_isTrueStill 93 = .ok (.aload_n 0, 1) := by decide +kernel
theorem dX5_isTrueStill_94 : decode cX5_isTrueStill 94 = .ok (.aload_n 2, 1) := by decide +kernel
theorem dX5_isTrueStill_95 : decode cX5_isTrueStill 95 = .ok (.invokevirtual 257, 3) := by decide +kernel
theorem dX5_isTrueStill_98 : decode cX5_isTrueStill 98 = .ok (.ifCond .eq 7, 3) := by decide +kernel
theorem dX5_isTrueStill_101 : decode cX5_isTrueStill 101 = .ok (.iconst 1, 1) := by decide +kernel
theorem dX5_isTrueStill_102 : decode cX5_isTrueStill 102 = .ok (.goto 4, 3) := by decide +kernel
theorem dX5_isTrueStill_105 : decode cX5_isTrueStill 105 = .ok (.iconst 0, 1) := by decide +kernel
theorem dX5_isTrueStill_106 : decode cX5_isTrueStill 106 = .ok (.ireturn, 1) := by decide +kernel
theorem dX5_isLiftedRoot_0 : decode cX5_isLiftedRoot 0 = .ok (.aload_n 0, 1) := by decide +kernel
theorem dX5_isLiftedRoot_1 : decode cX5_isLiftedRoot 1 = .ok (.aload_n 1, 1) := by decide +kernel
theorem dX5_isLiftedRoot_2 : decode cX5_isLiftedRoot 2 = .ok (.iconst 0, 1) := by decide +kernel
theorem dX5_isLiftedRoot_3 : decode cX5_isLiftedRoot 3 = .ok (.aload_n 1, 1) := by decide +kernel
theorem dX5_isLiftedRoot_4 : decode cX5_isLiftedRoot 4 = .ok (.getfield 156, 3) := by decide +kernel
theorem dX5_isLiftedRoot_7 : decode cX5_isLiftedRoot 7 = .ok (.invokevirtual 178, 3) := by decide +kernel
theorem dX5_isLiftedRoot_10 : decode cX5_isLiftedRoot 10 = .ok (.lstore_n 2, 1) := by decide +kernel
theorem dX5_isLiftedRoot_11 : decode cX5_isLiftedRoot 11 = .ok (.aload_n 0, 1) := by decide +kernel
theorem dX5_isLiftedRoot_12 : decode cX5_isLiftedRoot 12 = .ok (.getfield 19, 3) := by decide +kernel
theorem dX5_isLiftedRoot_15 : decode cX5_isLiftedRoot 15 = .ok (.aload_n 1, 1) := by decide +kernel
theorem dX5_isLiftedRoot_16 : decode cX5_isLiftedRoot 16 = .ok (.getfield 56, 3) := by decide +kernel
theorem dX5_isLiftedRoot_19 : decode cX5_isLiftedRoot 19 = .ok (.invokevirtual 73, 3) := by decide +kernel
theorem dX5_isLiftedRoot_22 : decode cX5_isLiftedRoot 22 = .ok (.lload_n 2, 1) := by decide +kernel
theorem dX5_isLiftedRoot_23 : decode cX5_isLiftedRoot 23 = .ok (.aload_n 0, 1) := by decide +kernel
theorem dX5_isLiftedRoot_24 : decode cX5_isLiftedRoot 24 = .ok (.getfield 10, 3) := by decide +kernel
theorem dX5_isLiftedRoot_27 : decode cX5_isLiftedRoot 27 = .ok (.aload_n 1, 1) := by decide +kernel
theorem dX5_isLiftedRoot_28 : decode cX5_isLiftedRoot 28 = .ok (.getfield 156, 3) := by decide +kernel
theorem dX5_isLiftedRoot_31 : decode cX5_isLiftedRoot 31 = .ok (.invokevirtual 132, 3) := by decide +kernel
theorem dX5_isLiftedRoot_34 : decode cX5_isLiftedRoot 34 = .ok (.aload_n 1, 1) := by decide +kernel
theorem dX5_isLiftedRoot_35 : decode cX5_isLiftedRoot 35 = .ok (.getfield 80, 3) := by decide +kernel
theorem dX5_isLiftedRoot_38 : decode cX5_isLiftedRoot 38 = .ok (.invokevirtual 204, 3) := by decide +kernel
theorem dX5_isLiftedRoot_41 : decode cX5_isLiftedRoot 41 = .ok (.lconst 0, 1) := by decide +kernel
theorem dX5_isLiftedRoot_42 : decode cX5_isLiftedRoot 42 = .ok (.lcmp, 1) := by decide +kernel
theorem dX5_isLiftedRoot_43 : decode cX5_isLiftedRoot 43 = .ok (.ifCond .ne 7, 3) := by decide +kernel
theorem dX5_isLiftedRoot_46 : decode cX5_isLiftedRoot 46 = .ok (.iconst 1, 1) := by decide +kernel
theorem dX5_isLiftedRoot_47 : decode cX5_isLiftedRoot 47 = .ok (.goto 4, 3) := by decide +kernel
theorem dX5_isLiftedRoot_50 : decode cX5_isLiftedRoot 50 = .ok (.iconst 0, 1) := by decide +kernel
theorem dX5_isLiftedRoot_51 : decode cX5_isLiftedRoot 51 = .ok (.ireturn, 1) := by decide +kernel
theorem dX6_init_0 : decode cX6_init 0 = .ok (.aload_n 0, 1) := by decide +kernel
theorem dX6_init_1 : decode cX6_init 1 = .ok (.invokespecial 1, 3) := by decide +kernel
theorem dX6_init_4 : decode cX6_init 4 = .ok (.aload_n 0, 1) := by decide +kernel
theorem dX6_init_5 : decode cX6_init 5 = .ok (.bipush 12, 2) := by decide +kernel
theorem dX6_init_7 : decode cX6_init 7 = .ok (.newarray .int, 2) := by decide +kernel
theorem dX6_init_9 : decode cX6_init 9 = .ok (.putfield 9, 3) := by decide +kernel
theorem dX6_init_12 : decode cX6_init 12 = .ok (.return_, 1) := by decide +kernel
theorem dX6_isFull_0 : decode cX6_isFull 0 = .ok (.aload_n 0, 1) := by decide +kernel
theorem dX6_isFull_1 : decode cX6_isFull 1 = .ok (.getfield 13, 3) := by decide +kernel
theorem dX6_isFull_4 : decode cX6_isFull 4 = .ok (.aload_n 0, 1) := by decide +kernel
theorem dX6_isFull_5 : decode cX6_isFull 5 = .ok (.getfield 9, 3) := by decide +kernel
theorem dX6_isFull_8 : decode cX6_isFull 8 = .ok (.arraylength, 1) := by decide +kernel
theorem dX6_isFull_9 : decode cX6_isFull 9 = .ok (.if_icmp .lt 7, 3) := by decide +kernel
theorem dX6_isFull_12 : decode cX6_isFull 12 = .ok (.iconst 1, 1) := by decide +kernel
theorem dX6_isFull_13 : decode cX6_isFull 13 = .ok (.goto 4, 3) := by decide +kernel
theorem dX6_isFull_16 : decode cX6_isFull 16 = .ok (.iconst 0, 1) := by decide +kernel
theorem dX6_isFull_17 : decode cX6_isFull 17 = .ok (.ireturn, 1) := by decide +kernel
theorem dX6_append_0 : decode cX6_append 0 = .ok (.aload_n 0, 1) := by decide +kernel
theorem dX6_append_1 : decode cX6_append 1 = .ok (.getfield 13, 3) := by decide +kernel
theorem dX6_append_4 : decode cX6_append 4 = .ok (.ifCond .lt 35, 3) := by decide +kernel
theorem dX6_append_7 : decode cX6_append 7 = .ok (.aload_n 0, 1) := by decide +kernel
theorem dX6_append_8 : decode cX6_append 8 = .ok (.getfield 13, 3) := by decide +kernel
theorem dX6_append_11 : decode cX6_append 11 = .ok (.aload_n 0, 1) := by decide +kernel
theorem dX6_append_12 : decode cX6_append 12 = .ok (.getfield 9, 3) := by decide +kernel
theorem dX6_append_15 : decode cX6_append 15 = .ok (.arraylength, 1) := by decide +kernel
theorem dX6_append_16 : decode cX6_append 16 = .ok (.if_icmp .ge 23, 3) := by decide +kernel
theorem dX6_append_19 : decode cX6_append 19 = .ok (.aload_n 0, 1) := by decide +kernel
theorem dX6_append_20 : decode cX6_append 20 = .ok (.getfield 9, 3) := by decide +kernel
theorem dX6_append_23 : decode cX6_append 23 = .ok (.aload_n 0, 1) := by decide +kernel
theorem dX6_append_24 : decode cX6_append 24 = .ok (.getfield 13, 3) := by decide +kernel
theorem dX6_append_27 : decode cX6_append 27 = .ok (.iload_n 1, 1) := by decide +kernel
theorem dX6_append_28 : decode cX6_append 28 = .ok (.iastore, 1) := by decide +kernel
theorem dX6_append_29 : decode cX6_append 29 = .ok (.aload_n 0, 1) := by decide +kernel
theorem dX6_append_30 : decode cX6_append 30 = .ok (.dup, 1) := by decide +kernel
theorem dX6_append_31 : decode cX6_append 31 = .ok (.getfield 13, 3) := by decide +kernel
theorem dX6_append_34 : decode cX6_append 34 = .ok (.iconst 1, 1) := by decide +kernel
theorem dX6_append_35 : decode cX6_append 35 = .ok (.iadd, 1) := by decide +kernel
theorem dX6_append_36 : decode cX6_append 36 = .ok (.putfield 13, 3) := by decide +kernel
theorem dX6_append_39 : decode cX6_append 39 = .ok (.aload_n 0, 1) := by decide +kernel
theorem dX6_append_40 : decode cX6_append 40 = .ok (.getfield 13, 3) := by decide +kernel
theorem dX6_append_43 : decode cX6_append 43 = .ok (.ireturn, 1) := by decide +kernel
theorem dX6_differenceOf_0 : decode cX6_differenceOf 0 = .ok (.lconst 0, 1) := by decide +kernel
theorem dX6_differenceOf_1 : decode cX6_differenceOf 1 = .ok (.lstore_n 2, 1) := by decide +kernel
theorem dX6_differenceOf_2 : decode cX6_differenceOf 2 = .ok (.lconst 1, 1) := by decide +kernel
theorem dX6_differenceOf_3 : decode cX6_differenceOf 3 = .ok (.lstore 4, 2) := by decide +kernel
theorem dX6_differenceOf_5 : decode cX6_differenceOf 5 = .ok (.iconst 0, 1) := by decide +kernel
theorem dX6_differenceOf_6 : decode cX6_differenceOf 6 = .ok (.istore 6, 2) := by decide +kernel
theorem dX6_differenceOf_8 : decode cX6_differenceOf 8 = .ok (.iload 6, 2) := by decide +kernel
theorem dX6_differenceOf_10 : decode cX6_differenceOf 10 = .ok (.iload_n 1, 1) := by decide +kernel
theorem dX6_differenceOf_11 : decode cX6_differenceOf 11 = .ok (.if_icmp .gt 72, 3) := by decide +kernel
theorem dX6_differenceOf_14 : decode cX6_differenceOf 14 = .ok (.iload 6, 2) := by decide +kernel
theorem dX6_differenceOf_16 : decode cX6_differenceOf 16 = .ok (.aload_n 0, 1) := by decide +kernel
theorem dX6_differenceOf_17 : decode cX6_differenceOf 17 = .ok (.getfield 9, 3) := by decide +kernel
theorem dX6_differenceOf_20 : decode cX6_differenceOf 20 = .ok (.arraylength, 1) := by decide +kernel
theorem dX6_differenceOf_21 : decode cX6_differenceOf 21 = .ok (.if_icmp .ge 62, 3) := by decide +kernel
theorem dX6_differenceOf_24 : decode cX6_differenceOf 24 = .ok (.lload 4, 2) := by decide +kernel
theorem dX6_differenceOf_26 : decode cX6_differenceOf 26 = .ok (.aload_n 0, 1) := by decide +kernel
theorem dX6_differenceOf_27 : decode cX6_differenceOf 27 = .ok (.getfield 9, 3) := by decide +kernel
theorem dX6_differenceOf_30 : decode cX6_differenceOf 30 = .ok (.iload 6, 2) := by decide +kernel
theorem dX6_differenceOf_32 : decode cX6_differenceOf 32 = .ok (.iaload, 1) := by decide +kernel
theorem dX6_differenceOf_33 : decode cX6_differenceOf 33 = .ok (.i2l, 1) := by decide +kernel
theorem dX6_differenceOf_34 : decode cX6_differenceOf 34 = .ok (.lmul, 1) := by decide +kernel
theorem dX6_differenceOf_35 : decode cX6_differenceOf 35 = .ok (.lstore 7, 2) := by decide +kernel
theorem dX6_differenceOf_37 : decode cX6_differenceOf 37 = .ok (.iload_n 1, 1) := by decide +kernel
theorem dX6_differenceOf_38 : decode cX6_differenceOf 38 = .ok (.iload 6, 2) := by decide +kernel
theorem dX6_differenceOf_40 : decode cX6_differenceOf 40 = .ok (.isub, 1) := by decide +kernel
theorem dX6_differenceOf_41 : decode cX6_differenceOf 41 = .ok (.iconst 1, 1) := by decide +kernel
theorem dX6_differenceOf_42 : decode cX6_differenceOf 42 = .ok (.iand, 1) := by decide +kernel
theorem dX6_differenceOf_43 : decode cX6_differenceOf 43 = .ok (.iconst 1, 1) := by decide +kernel
theorem dX6_differenceOf_44 : decode cX6_differenceOf 44 = .ok (.if_icmp .ne 10, 3) := by decide +kernel
theorem dX6_differenceOf_47 : decode cX6_differenceOf 47 = .ok (.lload_n 2, 1) := by decide +kernel
theorem dX6_differenceOf_48 : decode cX6_differenceOf 48 = .ok (.lload 7, 2) := by decide +kernel
theorem dX6_differenceOf_50 : decode cX6_differenceOf 50 = .ok (.lsub, 1) := by decide +kernel
theorem dX6_differenceOf_51 : decode cX6_differenceOf 51 = .ok (.goto 7, 3) := by decide +kernel
theorem dX6_differenceOf_54 : decode cX6_differenceOf 54 = .ok (.lload_n 2, 1) := by decide +kernel
theorem dX6_differenceOf_55 : decode cX6_differenceOf 55 = .ok (.lload 7, 2) := by decide +kernel
theorem dX6_differenceOf_57 : decode cX6_differenceOf 57 = .ok (.ladd, 1) := by decide +kernel
theorem dX6_differenceOf_58 : decode cX6_differenceOf 58 = .ok (.lstore_n 2, 1) := by decide +kernel
theorem dX6_differenceOf_59 : decode cX6_differenceOf 59 = .ok (.lload 4, 2) := by decide +kernel
theorem dX6_differenceOf_61 : decode cX6_differenceOf 61 = .ok (.iload_n 1, 1) := by decide +kernel
theorem dX6_differenceOf_62 : decode cX6_differenceOf 62 = .ok (.iload 6, 2) := by decide +kernel
theorem dX6_differenceOf_64 : decode cX6_differenceOf 64 = .ok (.isub, 1) := by decide +kernel
theorem dX6_differenceOf_65 : decode cX6_differenceOf 65 = .ok (.i2l, 1) := by decide +kernel
theorem dX6_differenceOf_66 : decode cX6_differenceOf 66 = .ok (.lmul, 1) := by decide +kernel
theorem dX6_differenceOf_67 : decode cX6_differenceOf 67 = .ok (.iload 6, 2) := by decide +kernel
theorem dX6_differenceOf_69 : decode cX6_differenceOf 69 = .ok (.iconst 1, 1) := by decide +kernel
theorem dX6_differenceOf_70 : decode cX6_differenceOf 70 = .ok (.iadd, 1) := by decide +kernel
theorem dX6_differenceOf_71 : decode cX6_differenceOf 71 = .ok (.i2l, 1) := by decide +kernel
theorem dX6_differenceOf_72 : decode cX6_differenceOf 72 = .ok (.invokestatic 17, 3) := by decide +kernel
theorem dX6_differenceOf_75 : decode cX6_differenceOf 75 = .ok (.lstore 4, 2) := by decide +kernel
theorem dX6_differenceOf_77 : decode cX6_differenceOf 77 = .ok (.iinc 6 1, 3) := by decide +kernel
theorem dX6_differenceOf_80 : decode cX6_differenceOf 80 = .ok (.goto (-72), 3) := by decide +kernel
theorem dX6_differenceOf_83 : decode cX6_differenceOf 83 = .ok (.lload_n 2, 1) := by decide +kernel
theorem dX6_differenceOf_84 : decode cX6_differenceOf 84 = .ok (.l2i, 1) := by decide +kernel
theorem dX6_differenceOf_85 : decode cX6_differenceOf 85 = .ok (.ireturn, 1) := by decide +kernel
theorem dX6_greatestLoss_0 : decode cX6_greatestLoss 0 = .ok (.iconst 0, 1) := by decide +kernel
theorem dX6_greatestLoss_1 : decode cX6_greatestLoss 1 = .ok (.istore_n 3, 1) := by decide +kernel
theorem dX6_greatestLoss_2 : decode cX6_greatestLoss 2 = .ok (.iconst 2, 1) := by decide +kernel
theorem dX6_greatestLoss_3 : decode cX6_greatestLoss 3 = .ok (.istore 4, 2) := by decide +kernel
theorem dX6_greatestLoss_5 : decode cX6_greatestLoss 5 = .ok (.iload 4, 2) := by decide +kernel
theorem dX6_greatestLoss_7 : decode cX6_greatestLoss 7 = .ok (.iload_n 1, 1) := by decide +kernel
theorem dX6_greatestLoss_8 : decode cX6_greatestLoss 8 = .ok (.if_icmp .ge 26, 3) := by decide +kernel
theorem dX6_greatestLoss_11 : decode cX6_greatestLoss 11 = .ok (.iload 4, 2) := by decide +kernel
theorem dX6_greatestLoss_13 : decode cX6_greatestLoss 13 = .ok (.bipush 12, 2) := by decide +kernel
theorem dX6_greatestLoss_15 : decode cX6_greatestLoss 15 = .ok (.if_icmp .ge 19, 3) := by decide +kernel
theorem dX6_greatestLoss_18 : decode cX6_greatestLoss 18 = .ok (.iload_n 3, 1) := by decide +kernel
theorem dX6_greatestLoss_19 : decode cX6_greatestLoss 19 = .ok (.iload 4, 2) := by decide +kernel
theorem dX6_greatestLoss_21 : decode cX6_greatestLoss 21 = .ok (.i2l, 1) := by decide +kernel
theorem dX6_greatestLoss_22 : decode cX6_greatestLoss 22 = .ok (.iload_n 2, 1) := by decide +kernel
theorem dX6_greatestLoss_23 : decode cX6_greatestLoss 23 = .ok (.invokestatic 23, 3) := by decide +kernel
theorem dX6_greatestLoss_26 : decode cX6_greatestLoss 26 = .ok (.iadd, 1) := by decide +kernel
theorem dX6_greatestLoss_27 : decode cX6_greatestLoss 27 = .ok (.istore_n 3, 1) := by decide +kernel
theorem dX6_greatestLoss_28 : decode cX6_greatestLoss 28 = .ok (.iinc 4 1, 3) := by decide +kernel
theorem dX6_greatestLoss_31 : decode cX6_greatestLoss 31 = .ok (.goto (-26), 3) := by decide +kernel
theorem dX6_greatestLoss_34 : decode cX6_greatestLoss 34 = .ok (.iload_n 3, 1) := by decide +kernel
theorem dX6_greatestLoss_35 : decode cX6_greatestLoss 35 = .ok (.ireturn, 1) := by decide +kernel
theorem dX7_signAt_0 : decode cX7_signAt 0 = .ok (.iload_n 2, 1) := by decide +kernel
theorem dX7_signAt_1 : decode cX7_signAt 1 = .ok (.ifCond .ne 17, 3) := by decide +kernel
theorem dX7_signAt_4 : decode cX7_signAt 4 = .ok (.iload_n 0, 1) := by decide +kernel
theorem dX7_signAt_5 : decode cX7_signAt 5 = .ok (.ifCond .ge 11, 3) := by decide +kernel
theorem dX7_signAt_8 : decode cX7_signAt 8 = .ok (.iload_n 1, 1) := by decide +kernel
theorem dX7_signAt_9 : decode cX7_signAt 9 = .ok (.ifCond .ge 7, 3) := by decide +kernel
theorem dX7_signAt_12 : decode cX7_signAt 12 = .ok (.iconst (-1), 1) := by decide +kernel
theorem dX7_signAt_13 : decode cX7_signAt 13 = .ok (.goto 4, 3) := by decide +kernel
theorem dX7_signAt_16 : decode cX7_signAt 16 = .ok (.iconst 1, 1) := by decide +kernel
theorem dX7_signAt_17 : decode cX7_signAt 17 = .ok (.ireturn, 1) := by decide +kernel
theorem dX7_signAt_18 : decode cX7_signAt 18 = .ok (.iload_n 2, 1) := by decide +kernel
theorem dX7_signAt_19 : decode cX7_signAt 19 = .ok (.iconst 2, 1) := by decide +kernel
theorem dX7_signAt_20 : decode cX7_signAt 20 = .ok (.if_icmp .ne 11, 3) := by decide +kernel
theorem dX7_signAt_23 : decode cX7_signAt 23 = .ok (.iload_n 0, 1) := by decide +kernel
theorem dX7_signAt_24 : decode cX7_signAt 24 = .ok (.iload_n 1, 1) := by decide +kernel
theorem dX7_signAt_25 : decode cX7_signAt 25 = .ok (.invokestatic 7, 3) := by decide +kernel
theorem dX7_signAt_28 : decode cX7_signAt 28 = .ok (.goto 9, 3) := by decide +kernel
theorem dX7_signAt_31 : decode cX7_signAt 31 = .ok (.iload_n 0, 1) := by decide +kernel
theorem dX7_signAt_32 : decode cX7_signAt 32 = .ok (.iload_n 1, 1) := by decide +kernel
theorem dX7_signAt_33 : decode cX7_signAt 33 = .ok (.iload_n 2, 1) := by decide +kernel
theorem dX7_signAt_34 : decode cX7_signAt 34 = .ok (.invokestatic 13, 3) := by decide +kernel
theorem dX7_signAt_37 : decode cX7_signAt 37 = .ok (.istore_n 3, 1) := by decide +kernel
theorem dX7_signAt_38 : decode cX7_signAt 38 = .ok (.iload_n 3, 1) := by decide +kernel
theorem dX7_signAt_39 : decode cX7_signAt 39 = .ok (.ifCond .eq 7, 3) := by decide +kernel
theorem dX7_signAt_42 : decode cX7_signAt 42 = .ok (.iconst (-1), 1) := by decide +kernel
theorem dX7_signAt_43 : decode cX7_signAt 43 = .ok (.goto 4, 3) := by decide +kernel
theorem dX7_signAt_46 : decode cX7_signAt 46 = .ok (.iconst 1, 1) := by decide +kernel
theorem dX7_signAt_47 : decode cX7_signAt 47 = .ok (.ireturn, 1) := by decide +kernel
theorem dX7_isMinusAtTwo_0 : decode cX7_isMinusAtTwo 0 = .ok (.iload_n 0, 1) := by decide +kernel
theorem dX7_isMinusAtTwo_1 : decode cX7_isMinusAtTwo 1 = .ok (.i2l, 1) := by decide +kernel
theorem dX7_isMinusAtTwo_2 : decode cX7_isMinusAtTwo 2 = .ok (.iconst 2, 1) := by decide +kernel
theorem dX7_isMinusAtTwo_3 : decode cX7_isMinusAtTwo 3 = .ok (.invokestatic 17, 3) := by decide +kernel
theorem dX7_isMinusAtTwo_6 : decode cX7_isMinusAtTwo 6 = .ok (.istore_n 2, 1) := by decide +kernel
theorem dX7_isMinusAtTwo_7 : decode cX7_isMinusAtTwo 7 = .ok (.iload_n 1, 1) := by decide +kernel
theorem dX7_isMinusAtTwo_8 : decode cX7_isMinusAtTwo 8 = .ok (.i2l, 1) := by decide +kernel
theorem dX7_isMinusAtTwo_9 : decode cX7_isMinusAtTwo 9 = .ok (.iconst 2, 1) := by decide +kernel
theorem dX7_isMinusAtTwo_10 : decode cX7_isMinusAtTwo 10 = .ok (.invokestatic 17, 3) := by decide +kernel
theorem dX7_isMinusAtTwo_13 : decode cX7_isMinusAtTwo 13 = .ok (.istore_n 3, 1) := by decide +kernel
theorem dX7_isMinusAtTwo_14 : decode cX7_isMinusAtTwo 14 = .ok (.iload_n 0, 1) := by decide +kernel
theorem dX7_isMinusAtTwo_15 : decode cX7_isMinusAtTwo 15 = .ok (.i2l, 1) := by decide +kernel
theorem dX7_isMinusAtTwo_16 : decode cX7_isMinusAtTwo 16 = .ok (.iconst 2, 1) := by decide +kernel
theorem dX7_isMinusAtTwo_17 : decode cX7_isMinusAtTwo 17 = .ok (.invokestatic 23, 3) := by decide +kernel
theorem dX7_isMinusAtTwo_20 : decode cX7_isMinusAtTwo 20 = .ok (.lstore 4, 2) := by decide +kernel
theorem dX7_isMinusAtTwo_22 : decode cX7_isMinusAtTwo 22 = .ok (.iload_n 1, 1) := by decide +kernel
theorem dX7_isMinusAtTwo_23 : decode cX7_isMinusAtTwo 23 = .ok (.i2l, 1) := by decide +kernel
theorem dX7_isMinusAtTwo_24 : decode cX7_isMinusAtTwo 24 = .ok (.iconst 2, 1) := by decide +kernel
theorem dX7_isMinusAtTwo_25 : decode cX7_isMinusAtTwo 25 = .ok (.invokestatic 23, 3) := by decide +kernel
theorem dX7_isMinusAtTwo_28 : decode cX7_isMinusAtTwo 28 = .ok (.lstore 6, 2) := by decide +kernel
theorem dX7_isMinusAtTwo_30 : decode cX7_isMinusAtTwo 30 = .ok (.lload 4, 2) := by decide +kernel
theorem dX7_isMinusAtTwo_32 : decode cX7_isMinusAtTwo 32 = .ok (.lconst 1, 1) := by decide +kernel
theorem dX7_isMinusAtTwo_33 : decode cX7_isMinusAtTwo 33 = .ok (.lsub, 1) := by decide +kernel
theorem dX7_isMinusAtTwo_34 : decode cX7_isMinusAtTwo 34 = .ok (.ldc2_w 27, 3) := by decide +kernel
theorem dX7_isMinusAtTwo_37 : decode cX7_isMinusAtTwo 37 = .ok (.ldiv, 1) := by decide +kernel
theorem dX7_isMinusAtTwo_38 : decode cX7_isMinusAtTwo 38 = .ok (.lload 6, 2) := by decide +kernel
theorem dX7_isMinusAtTwo_40 : decode cX7_isMinusAtTwo 40 = .ok (.lconst 1, 1) := by decide +kernel
theorem dX7_isMinusAtTwo_41 : decode cX7_isMinusAtTwo 41 = .ok (.lsub, 1) := by decide +kernel
theorem dX7_isMinusAtTwo_42 : decode cX7_isMinusAtTwo 42 = .ok (.ldc2_w 27, 3) := by decide +kernel
theorem dX7_isMinusAtTwo_45 : decode cX7_isMinusAtTwo 45 = .ok (.ldiv, 1) := by decide +kernel
theorem dX7_isMinusAtTwo_46 : decode cX7_isMinusAtTwo 46 = .ok (.lmul, 1) := by decide +kernel
theorem dX7_isMinusAtTwo_47 : decode cX7_isMinusAtTwo 47 = .ok (.iload_n 2, 1) := by decide +kernel
theorem dX7_isMinusAtTwo_48 : decode cX7_isMinusAtTwo 48 = .ok (.i2l, 1) := by decide +kernel
theorem dX7_isMinusAtTwo_49 : decode cX7_isMinusAtTwo 49 = .ok (.lload 6, 2) := by decide +kernel
theorem dX7_isMinusAtTwo_51 : decode cX7_isMinusAtTwo 51 = .ok (.lload 6, 2) := by decide +kernel
theorem dX7_isMinusAtTwo_53 : decode cX7_isMinusAtTwo 53 = .ok (.lmul, 1) := by decide +kernel
theorem dX7_isMinusAtTwo_54 : decode cX7_isMinusAtTwo 54 = .ok (.lconst 1, 1) := by decide +kernel
theorem dX7_isMinusAtTwo_55 : decode cX7_isMinusAtTwo 55 = .ok (.lsub, 1) := by decide +kernel
theorem dX7_isMinusAtTwo_56 : decode cX7_isMinusAtTwo 56 = .ok (.ldc2_w 29, 3) := by decide +kernel
theorem dX7_isMinusAtTwo_59 : decode cX7_isMinusAtTwo 59 = .ok (.ldiv, 1) := by decide +kernel
theorem dX7_isMinusAtTwo_60 : decode cX7_isMinusAtTwo 60 = .ok (.lmul, 1) := by decide +kernel
theorem dX7_isMinusAtTwo_61 : decode cX7_isMinusAtTwo 61 = .ok (.ladd, 1) := by decide +kernel
theorem dX7_isMinusAtTwo_62 : decode cX7_isMinusAtTwo 62 = .ok (.iload_n 3, 1) := by decide +kernel
theorem dX7_isMinusAtTwo_63 : decode cX7_isMinusAtTwo 63 = .ok (.i2l, 1) := by decide +kernel
theorem dX7_isMinusAtTwo_64 : decode cX7_isMinusAtTwo 64 = .ok (.lload 4, 2) := by decide +kernel
theorem dX7_isMinusAtTwo_66 : decode cX7_isMinusAtTwo 66 = .ok (.lload 4, 2) := by decide +kernel
theorem dX7_isMinusAtTwo_68 : decode cX7_isMinusAtTwo 68 = .ok (.lmul, 1) := by decide +kernel
theorem dX7_isMinusAtTwo_69 : decode cX7_isMinusAtTwo 69 = .ok (.lconst 1, 1) := by decide +kernel
theorem dX7_isMinusAtTwo_70 : decode cX7_isMinusAtTwo 70 = .ok (.lsub, 1) := by decide +kernel
theorem dX7_isMinusAtTwo_71 : decode cX7_isMinusAtTwo 71 = .ok (.ldc2_w 29, 3) := by decide +kernel
theorem dX7_isMinusAtTwo_74 : decode cX7_isMinusAtTwo 74 = .ok (.ldiv, 1) := by decide +kernel
theorem dX7_isMinusAtTwo_75 : decode cX7_isMinusAtTwo 75 = .ok (.lmul, 1) := by decide +kernel
theorem dX7_isMinusAtTwo_76 : decode cX7_isMinusAtTwo 76 = .ok (.ladd, 1) := by decide +kernel
theorem dX7_isMinusAtTwo_77 : decode cX7_isMinusAtTwo 77 = .ok (.lstore 8, 2) := by decide +kernel
theorem dX7_isMinusAtTwo_79 : decode cX7_isMinusAtTwo 79 = .ok (.lload 8, 2) := by decide +kernel
theorem dX7_isMinusAtTwo_81 : decode cX7_isMinusAtTwo 81 = .ok (.lconst 1, 1) := by decide +kernel
theorem dX7_isMinusAtTwo_82 : decode cX7_isMinusAtTwo 82 = .ok (.land, 1) := by decide +kernel
theorem dX7_isMinusAtTwo_83 : decode cX7_isMinusAtTwo 83 = .ok (.lconst 1, 1) := by decide +kernel
theorem dX7_isMinusAtTwo_84 : decode cX7_isMinusAtTwo 84 = .ok (.lcmp, 1) := by decide +kernel
theorem dX7_isMinusAtTwo_85 : decode cX7_isMinusAtTwo 85 = .ok (.ifCond .ne 7, 3) := by decide +kernel
theorem dX7_isMinusAtTwo_88 : decode cX7_isMinusAtTwo 88 = .ok (.iconst 1, 1) := by decide +kernel
theorem dX7_isMinusAtTwo_89 : decode cX7_isMinusAtTwo 89 = .ok (.goto 4, 3) := by decide +kernel
theorem dX7_isMinusAtTwo_92 : decode cX7_isMinusAtTwo 92 = .ok (.iconst 0, 1) := by decide +kernel
theorem dX7_isMinusAtTwo_93 : decode cX7_isMinusAtTwo 93 = .ok (.ireturn, 1) := by decide +kernel
theorem dX7_isMinusAtOdd_0 : decode cX7_isMinusAtOdd 0 = .ok (.iload_n 0, 1) := by decide +kernel
theorem dX7_isMinusAtOdd_1 : decode cX7_isMinusAtOdd 1 = .ok (.i2l, 1) := by decide +kernel
theorem dX7_isMinusAtOdd_2 : decode cX7_isMinusAtOdd 2 = .ok (.iload_n 2, 1) := by decide +kernel
theorem dX7_isMinusAtOdd_3 : decode cX7_isMinusAtOdd 3 = .ok (.invokestatic 17, 3) := by decide +kernel
theorem dX7_isMinusAtOdd_6 : decode cX7_isMinusAtOdd 6 = .ok (.istore_n 3, 1) := by decide +kernel
theorem dX7_isMinusAtOdd_7 : decode cX7_isMinusAtOdd 7 = .ok (.iload_n 1, 1) := by decide +kernel
theorem dX7_isMinusAtOdd_8 : decode cX7_isMinusAtOdd 8 = .ok (.i2l, 1) := by decide +kernel
theorem dX7_isMinusAtOdd_9 : decode cX7_isMinusAtOdd 9 = .ok (.iload_n 2, 1) := by decide +kernel
theorem dX7_isMinusAtOdd_10 : decode cX7_isMinusAtOdd 10 = .ok (.invokestatic 17, 3) := by decide +kernel
theorem dX7_isMinusAtOdd_13 : decode cX7_isMinusAtOdd 13 = .ok (.istore 4, 2) := by decide +kernel
theorem dX7_isMinusAtOdd_15 : decode cX7_isMinusAtOdd 15 = .ok (.iload_n 3, 1) := by decide +kernel
theorem dX7_isMinusAtOdd_16 : decode cX7_isMinusAtOdd 16 = .ok (.iload 4, 2) := by decide +kernel
theorem dX7_isMinusAtOdd_18 : decode cX7_isMinusAtOdd 18 = .ok (.iand, 1) := by decide +kernel
theorem dX7_isMinusAtOdd_19 : decode cX7_isMinusAtOdd 19 = .ok (.iload_n 2, 1) := by decide +kernel
theorem dX7_isMinusAtOdd_20 : decode cX7_isMinusAtOdd 20 = .ok (.iconst 1, 1) := by decide +kernel
theorem dX7_isMinusAtOdd_21 : decode cX7_isMinusAtOdd 21 = .ok (.isub, 1) := by decide +kernel
theorem dX7_isMinusAtOdd_22 : decode cX7_isMinusAtOdd 22 = .ok (.iconst 2, 1) := by decide +kernel
theorem dX7_isMinusAtOdd_23 : decode cX7_isMinusAtOdd 23 = .ok (.idiv, 1) := by decide +kernel
theorem dX7_isMinusAtOdd_24 : decode cX7_isMinusAtOdd 24 = .ok (.iand, 1) := by decide +kernel
theorem dX7_isMinusAtOdd_25 : decode cX7_isMinusAtOdd 25 = .ok (.iconst 1, 1) := by decide +kernel
theorem dX7_isMinusAtOdd_26 : decode cX7_isMinusAtOdd 26 = .ok (.iand, 1) := by decide +kernel
theorem dX7_isMinusAtOdd_27 : decode cX7_isMinusAtOdd 27 = .ok (.iconst 1, 1) := by decide +kernel
theorem dX7_isMinusAtOdd_28 : decode cX7_isMinusAtOdd 28 = .ok (.if_icmp .ne 7, 3) := by decide +kernel
theorem dX7_isMinusAtOdd_31 : decode cX7_isMinusAtOdd 31 = .ok (.iconst 1, 1) := by decide +kernel
theorem dX7_isMinusAtOdd_32 : decode cX7_isMinusAtOdd 32 = .ok (.goto 4, 3) := by decide +kernel
theorem dX7_isMinusAtOdd_35 : decode cX7_isMinusAtOdd 35 = .ok (.iconst 0, 1) := by decide +kernel
theorem dX7_isMinusAtOdd_36 : decode cX7_isMinusAtOdd 36 = .ok (.istore 5, 2) := by decide +kernel
theorem dX7_isMinusAtOdd_38 : decode cX7_isMinusAtOdd 38 = .ok (.iload 4, 2) := by decide +kernel
theorem dX7_isMinusAtOdd_40 : decode cX7_isMinusAtOdd 40 = .ok (.iconst 1, 1) := by decide +kernel
theorem dX7_isMinusAtOdd_41 : decode cX7_isMinusAtOdd 41 = .ok (.iand, 1) := by decide +kernel
theorem dX7_isMinusAtOdd_42 : decode cX7_isMinusAtOdd 42 = .ok (.iconst 1, 1) := by decide +kernel
theorem dX7_isMinusAtOdd_43 : decode cX7_isMinusAtOdd 43 = .ok (.if_icmp .ne 28, 3) := by decide +kernel
theorem dX7_isMinusAtOdd_46 : decode cX7_isMinusAtOdd 46 = .ok (.iload_n 0, 1) := by decide +kernel
theorem dX7_isMinusAtOdd_47 : decode cX7_isMinusAtOdd 47 = .ok (.i2l, 1) := by decide +kernel
theorem dX7_isMinusAtOdd_48 : decode cX7_isMinusAtOdd 48 = .ok (.iload_n 2, 1) := by decide +kernel
theorem dX7_isMinusAtOdd_49 : decode cX7_isMinusAtOdd 49 = .ok (.invokestatic 23, 3) := by decide +kernel
theorem dX7_isMinusAtOdd_52 : decode cX7_isMinusAtOdd 52 = .ok (.iload_n 2, 1) := by decide +kernel
theorem dX7_isMinusAtOdd_53 : decode cX7_isMinusAtOdd 53 = .ok (.invokestatic 31, 3) := by decide +kernel
theorem dX7_isMinusAtOdd_56 : decode cX7_isMinusAtOdd 56 = .ok (.ifCond .ne 15, 3) := by decide +kernel
theorem dX7_isMinusAtOdd_59 : decode cX7_isMinusAtOdd 59 = .ok (.iload 5, 2) := by decide +kernel
theorem dX7_isMinusAtOdd_61 : decode cX7_isMinusAtOdd 61 = .ok (.ifCond .ne 7, 3) := by decide +kernel
theorem dX7_isMinusAtOdd_64 : decode cX7_isMinusAtOdd 64 = .ok (.iconst 1, 1) := by decide +kernel
theorem dX7_isMinusAtOdd_65 : decode cX7_isMinusAtOdd 65 = .ok (.goto 4, 3) := by decide +kernel
theorem dX7_isMinusAtOdd_68 : decode cX7_isMinusAtOdd 68 = .ok (.iconst 0, 1) := by decide +kernel
theorem dX7_isMinusAtOdd_69 : decode cX7_isMinusAtOdd 69 = .ok (.istore 5, 2) := by decide +kernel
theorem dX7_isMinusAtOdd_71 : decode cX7_isMinusAtOdd 71 = .ok (.iload_n 3, 1) := by decide +kernel
theorem dX7_isMinusAtOdd_72 : decode cX7_isMinusAtOdd 72 = .ok (.iconst 1, 1) := by decide +kernel
theorem dX7_isMinusAtOdd_73 : decode cX7_isMinusAtOdd 73 = .ok (.iand, 1) := by decide +kernel
theorem dX7_isMinusAtOdd_74 : decode cX7_isMinusAtOdd 74 = .ok (.iconst 1, 1) := by decide +kernel
theorem dX7_isMinusAtOdd_75 : decode cX7_isMinusAtOdd 75 = .ok (.if_icmp .ne 28, 3) := by decide +kernel
theorem dX7_isMinusAtOdd_78 : decode cX7_isMinusAtOdd 78 = .ok (.iload_n 1, 1) := by decide +kernel
theorem dX7_isMinusAtOdd_79 : decode cX7_isMinusAtOdd 79 = .ok (.i2l, 1) := by decide +kernel
theorem dX7_isMinusAtOdd_80 : decode cX7_isMinusAtOdd 80 = .ok (.iload_n 2, 1) := by decide +kernel
theorem dX7_isMinusAtOdd_81 : decode cX7_isMinusAtOdd 81 = .ok (.invokestatic 23, 3) := by decide +kernel
theorem dX7_isMinusAtOdd_84 : decode cX7_isMinusAtOdd 84 = .ok (.iload_n 2, 1) := by decide +kernel
theorem dX7_isMinusAtOdd_85 : decode cX7_isMinusAtOdd 85 = .ok (.invokestatic 31, 3) := by decide +kernel
theorem dX7_isMinusAtOdd_88 : decode cX7_isMinusAtOdd 88 = .ok (.ifCond .ne 15, 3) := by decide +kernel
theorem dX7_isMinusAtOdd_91 : decode cX7_isMinusAtOdd 91 = .ok (.iload 5, 2) := by decide +kernel
theorem dX7_isMinusAtOdd_93 : decode cX7_isMinusAtOdd 93 = .ok (.ifCond .ne 7, 3) := by decide +kernel
theorem dX7_isMinusAtOdd_96 : decode cX7_isMinusAtOdd 96 = .ok (.iconst 1, 1) := by decide +kernel
theorem dX7_isMinusAtOdd_97 : decode cX7_isMinusAtOdd 97 = .ok (.goto 4, 3) := by decide +kernel
theorem dX7_isMinusAtOdd_100 : decode cX7_isMinusAtOdd 100 = .ok (.iconst 0, 1) := by decide +kernel
theorem dX7_isMinusAtOdd_101 : decode cX7_isMinusAtOdd 101 = .ok (.istore 5, 2) := by decide +kernel
theorem dX7_isMinusAtOdd_103 : decode cX7_isMinusAtOdd 103 = .ok (.iload 5, 2) := by decide +kernel
theorem dX7_isMinusAtOdd_105 : decode cX7_isMinusAtOdd 105 = .ok (.ireturn, 1) := by decide +kernel
theorem dX7_isSquareModulo_0 : decode cX7_isSquareModulo 0 = .ok (.lload_n 0, 1) := by decide +kernel
theorem dX7_isSquareModulo_1 : decode cX7_isSquareModulo 1 = .ok (.iload_n 2, 1) := by decide +kernel
theorem dX7_isSquareModulo_2 : decode cX7_isSquareModulo 2 = .ok (.iconst 1, 1) := by decide +kernel
theorem dX7_isSquareModulo_3 : decode cX7_isSquareModulo 3 = .ok (.isub, 1) := by decide +kernel
theorem dX7_isSquareModulo_4 : decode cX7_isSquareModulo 4 = .ok (.iconst 2, 1) := by decide +kernel
theorem dX7_isSquareModulo_5 : decode cX7_isSquareModulo 5 = .ok (.idiv, 1) := by decide +kernel
theorem dX7_isSquareModulo_6 : decode cX7_isSquareModulo 6 = .ok (.i2l, 1) := by decide +kernel
theorem dX7_isSquareModulo_7 : decode cX7_isSquareModulo 7 = .ok (.iload_n 2, 1) := by decide +kernel
theorem dX7_isSquareModulo_8 : decode cX7_isSquareModulo 8 = .ok (.i2l, 1) := by decide +kernel
theorem dX7_isSquareModulo_9 : decode cX7_isSquareModulo 9 = .ok (.invokestatic 35, 3) := by decide +kernel
theorem dX7_isSquareModulo_12 : decode cX7_isSquareModulo 12 = .ok (.lconst 1, 1) := by decide +kernel
theorem dX7_isSquareModulo_13 : decode cX7_isSquareModulo 13 = .ok (.lcmp, 1) := by decide +kernel
theorem dX7_isSquareModulo_14 : decode cX7_isSquareModulo 14 = .ok (.ifCond .ne 7, 3) := by decide +kernel
theorem dX7_isSquareModulo_17 : decode cX7_isSquareModulo 17 = .ok (.iconst 1, 1) := by decide +kernel
theorem dX7_isSquareModulo_18 : decode cX7_isSquareModulo 18 = .ok (.goto 4, 3) := by decide +kernel
theorem dX7_isSquareModulo_21 : decode cX7_isSquareModulo 21 = .ok (.iconst 0, 1) := by decide +kernel
theorem dX7_isSquareModulo_22 : decode cX7_isSquareModulo 22 = .ok (.ireturn, 1) := by decide +kernel
theorem dX7_firstMinus_0 : decode cX7_firstMinus 0 = .ok (.iconst 0, 1) := by decide +kernel
theorem dX7_firstMinus_1 : decode cX7_firstMinus 1 = .ok (.istore_n 3, 1) := by decide +kernel
theorem dX7_firstMinus_2 : decode cX7_firstMinus 2 = .ok (.iload_n 3, 1) := by decide +kernel
theorem dX7_firstMinus_3 : decode cX7_firstMinus 3 = .ok (.iload_n 2, 1) := by decide +kernel
theorem dX7_firstMinus_4 : decode cX7_firstMinus 4 = .ok (.if_icmp .gt 77, 3) := by decide +kernel
theorem dX7_firstMinus_7 : decode cX7_firstMinus 7 = .ok (.iload_n 3, 1) := by decide +kernel
theorem dX7_firstMinus_8 : decode cX7_firstMinus 8 = .ok (.ifCond .eq 32, 3) := by decide +kernel
theorem dX7_firstMinus_11 : decode cX7_firstMinus 11 = .ok (.iload_n 3, 1) := by decide +kernel
theorem dX7_firstMinus_12 : decode cX7_firstMinus 12 = .ok (.iconst 2, 1) := by decide +kernel
theorem dX7_firstMinus_13 : decode cX7_firstMinus 13 = .ok (.if_icmp .eq 27, 3) := by decide +kernel
theorem dX7_firstMinus_16 : decode cX7_firstMinus 16 = .ok (.iload_n 0, 1) := by decide +kernel
theorem dX7_firstMinus_17 : decode cX7_firstMinus 17 = .ok (.i2l, 1) := by decide +kernel
theorem dX7_firstMinus_18 : decode cX7_firstMinus 18 = .ok (.iload_n 3, 1) := by decide +kernel
theorem dX7_firstMinus_19 : decode cX7_firstMinus 19 = .ok (.i2l, 1) := by decide +kernel
theorem dX7_firstMinus_20 : decode cX7_firstMinus 20 = .ok (.invokestatic 39, 3) := by decide +kernel
theorem dX7_firstMinus_23 : decode cX7_firstMinus 23 = .ok (.lconst 0, 1) := by decide +kernel
theorem dX7_firstMinus_24 : decode cX7_firstMinus 24 = .ok (.lcmp, 1) := by decide +kernel
theorem dX7_firstMinus_25 : decode cX7_firstMinus 25 = .ok (.ifCond .eq 15, 3) := by decide +kernel
theorem dX7_firstMinus_28 : decode cX7_firstMinus 28 = .ok (.iload_n 1, 1) := by decide +kernel
theorem dX7_firstMinus_29 : decode cX7_firstMinus 29 = .ok (.i2l, 1) := by decide +kernel
theorem dX7_firstMinus_30 : decode cX7_firstMinus 30 = .ok (.iload_n 3, 1) := by decide +kernel
theorem dX7_firstMinus_31 : decode cX7_firstMinus 31 = .ok (.i2l, 1) := by decide +kernel
theorem dX7_firstMinus_32 : decode cX7_firstMinus 32 = .ok (.invokestatic 39, 3) := by decide +kernel
theorem dX7_firstMinus_35 : decode cX7_firstMinus 35 = .ok (.lconst 0, 1) := by decide +kernel
theorem dX7_firstMinus_36 : decode cX7_firstMinus 36 = .ok (.lcmp, 1) := by decide +kernel
theorem dX7_firstMinus_37 : decode cX7_firstMinus 37 = .ok (.ifCond .ne 7, 3) := by decide +kernel
theorem dX7_firstMinus_40 : decode cX7_firstMinus 40 = .ok (.iconst 1, 1) := by decide +kernel
theorem dX7_firstMinus_41 : decode cX7_firstMinus 41 = .ok (.goto 4, 3) := by decide +kernel
theorem dX7_firstMinus_44 : decode cX7_firstMinus 44 = .ok (.iconst 0, 1) := by decide +kernel
theorem dX7_firstMinus_45 : decode cX7_firstMinus 45 = .ok (.istore 4, 2) := by decide +kernel
theorem dX7_firstMinus_47 : decode cX7_firstMinus 47 = .ok (.iload 4, 2) := by decide +kernel
theorem dX7_firstMinus_49 : decode cX7_firstMinus 49 = .ok (.ifCond .eq 26, 3) := by decide +kernel
theorem dX7_firstMinus_52 : decode cX7_firstMinus 52 = .ok (.iload_n 3, 1) := by decide +kernel
theorem dX7_firstMinus_53 : decode cX7_firstMinus 53 = .ok (.ifCond .eq 10, 3) := by decide +kernel
theorem dX7_firstMinus_56 : decode cX7_firstMinus 56 = .ok (.iload_n 3, 1) := by decide +kernel
theorem dX7_firstMinus_57 : decode cX7_firstMinus 57 = .ok (.invokestatic 43, 3) := by decide +kernel
theorem dX7_firstMinus_60 : decode cX7_firstMinus 60 = .ok (.ifCond .eq 15, 3) := by decide +kernel
theorem dX7_firstMinus_63 : decode cX7_firstMinus 63 = .ok (.iload_n 0, 1) := by decide +kernel
theorem dX7_firstMinus_64 : decode cX7_firstMinus 64 = .ok (.iload_n 1, 1) := by decide +kernel
theorem dX7_firstMinus_65 : decode cX7_firstMinus 65 = .ok (.iload_n 3, 1) := by decide +kernel
theorem dX7_firstMinus_66 : decode cX7_firstMinus 66 = .ok (.invokestatic 47, 3) := by decide +kernel
theorem dX7_firstMinus_69 : decode cX7_firstMinus 69 = .ok (.iconst (-1), 1) := by decide +kernel
theorem dX7_firstMinus_70 : decode cX7_firstMinus 70 = .ok (.if_icmp .ne 5, 3) := by decide +kernel
theorem dX7_firstMinus_73 : decode cX7_firstMinus 73 = .ok (.iload_n 3, 1) := by decide +kernel
theorem dX7_firstMinus_74 : decode cX7_firstMinus 74 = .ok (.ireturn, 1) := by decide +kernel
theorem dX7_firstMinus_75 : decode cX7_firstMinus 75 = .ok (.iinc 3 1, 3) := by decide +kernel
theorem dX7_firstMinus_78 : decode cX7_firstMinus 78 = .ok (.goto (-76), 3) := by decide +kernel
theorem dX7_firstMinus_81 : decode cX7_firstMinus 81 = .ok (.iconst (-1), 1) := by decide +kernel
theorem dX7_firstMinus_82 : decode cX7_firstMinus 82 = .ok (.ireturn, 1) := by decide +kernel
theorem dX8_rest_0 : decode cX8_rest 0 = .ok (.lload_n 2, 1) := by decide +kernel
theorem dX8_rest_1 : decode cX8_rest 1 = .ok (.lconst 0, 1) := by decide +kernel
theorem dX8_rest_2 : decode cX8_rest 2 = .ok (.lcmp, 1) := by decide +kernel
theorem dX8_rest_3 : decode cX8_rest 3 = .ok (.ifCond .gt 5, 3) := by decide +kernel
theorem dX8_rest_6 : decode cX8_rest 6 = .ok (.lconst 0, 1) := by decide +kernel
theorem dX8_rest_7 : decode cX8_rest 7 = .ok (.lreturn, 1) := by decide +kernel
theorem dX8_rest_8 : decode cX8_rest 8 = .ok (.lload_n 0, 1) := by decide +kernel
theorem dX8_rest_9 : decode cX8_rest 9 = .ok (.lload_n 2, 1) := by decide +kernel
theorem dX8_rest_10 : decode cX8_rest 10 = .ok (.lrem, 1) := by decide +kernel
theorem dX8_rest_11 : decode cX8_rest 11 = .ok (.lstore 4, 2) := by decide +kernel
theorem dX8_rest_13 : decode cX8_rest 13 = .ok (.lload 4, 2) := by decide +kernel
theorem dX8_rest_15 : decode cX8_rest 15 = .ok (.lconst 0, 1) := by decide +kernel
theorem dX8_rest_16 : decode cX8_rest 16 = .ok (.lcmp, 1) := by decide +kernel
theorem dX8_rest_17 : decode cX8_rest 17 = .ok (.ifCond .ge 10, 3) := by decide +kernel
theorem dX8_rest_20 : decode cX8_rest 20 = .ok (.lload 4, 2) := by decide +kernel
theorem dX8_rest_22 : decode cX8_rest 22 = .ok (.lload_n 2, 1) := by decide +kernel
theorem dX8_rest_23 : decode cX8_rest 23 = .ok (.ladd, 1) := by decide +kernel
theorem dX8_rest_24 : decode cX8_rest 24 = .ok (.goto 5, 3) := by decide +kernel
theorem dX8_rest_27 : decode cX8_rest 27 = .ok (.lload 4, 2) := by decide +kernel
theorem dX8_rest_29 : decode cX8_rest 29 = .ok (.lreturn, 1) := by decide +kernel
theorem dX8_part_0 : decode cX8_part 0 = .ok (.lload_n 2, 1) := by decide +kernel
theorem dX8_part_1 : decode cX8_part 1 = .ok (.lconst 0, 1) := by decide +kernel
theorem dX8_part_2 : decode cX8_part 2 = .ok (.lcmp, 1) := by decide +kernel
theorem dX8_part_3 : decode cX8_part 3 = .ok (.ifCond .eq 9, 3) := by decide +kernel
theorem dX8_part_6 : decode cX8_part 6 = .ok (.lload_n 0, 1) := by decide +kernel
theorem dX8_part_7 : decode cX8_part 7 = .ok (.lload_n 2, 1) := by decide +kernel
theorem dX8_part_8 : decode cX8_part 8 = .ok (.ldiv, 1) := by decide +kernel
theorem dX8_part_9 : decode cX8_part 9 = .ok (.goto 4, 3) := by decide +kernel
theorem dX8_part_12 : decode cX8_part 12 = .ok (.lconst 0, 1) := by decide +kernel
theorem dX8_part_13 : decode cX8_part 13 = .ok (.lreturn, 1) := by decide +kernel
theorem dX8_timesModulo_0 : decode cX8_timesModulo 0 = .ok (.lload_n 0, 1) := by decide +kernel
theorem dX8_timesModulo_1 : decode cX8_timesModulo 1 = .ok (.lload 4, 2) := by decide +kernel
theorem dX8_timesModulo_3 : decode cX8_timesModulo 3 = .ok (.invokestatic 7, 3) := by decide +kernel
theorem dX8_timesModulo_6 : decode cX8_timesModulo 6 = .ok (.lload_n 2, 1) := by decide +kernel
theorem dX8_timesModulo_7 : decode cX8_timesModulo 7 = .ok (.lload 4, 2) := by decide +kernel
theorem dX8_timesModulo_9 : decode cX8_timesModulo 9 = .ok (.invokestatic 7, 3) := by decide +kernel
theorem dX8_timesModulo_12 : decode cX8_timesModulo 12 = .ok (.lmul, 1) := by decide +kernel
theorem dX8_timesModulo_13 : decode cX8_timesModulo 13 = .ok (.lload 4, 2) := by decide +kernel
theorem dX8_timesModulo_15 : decode cX8_timesModulo 15 = .ok (.invokestatic 7, 3) := by decide +kernel
theorem dX8_timesModulo_18 : decode cX8_timesModulo 18 = .ok (.lreturn, 1) := by decide +kernel
theorem dX8_powerModulo_0 : decode cX8_powerModulo 0 = .ok (.lconst 1, 1) := by decide +kernel
theorem dX8_powerModulo_1 : decode cX8_powerModulo 1 = .ok (.lload 4, 2) := by decide +kernel
theorem dX8_powerModulo_3 : decode cX8_powerModulo 3 = .ok (.invokestatic 7, 3) := by decide +kernel
theorem dX8_powerModulo_6 : decode cX8_powerModulo 6 = .ok (.lstore 6, 2) := by decide +kernel
theorem dX8_powerModulo_8 : decode cX8_powerModulo 8 = .ok (.lload_n 0, 1) := by decide +kernel
theorem dX8_powerModulo_9 : decode cX8_powerModulo 9 = .ok (.lload 4, 2) := by decide +kernel
theorem dX8_powerModulo_11 : decode cX8_powerModulo 11 = .ok (.invokestatic 7, 3) := by decide +kernel
theorem dX8_powerModulo_14 : decode cX8_powerModulo 14 = .ok (.lstore 8, 2) := by decide +kernel
theorem dX8_powerModulo_16 : decode cX8_powerModulo 16 = .ok (.lload_n 2, 1) := by decide +kernel
theorem dX8_powerModulo_17 : decode cX8_powerModulo 17 = .ok (.lstore 10, 2) := by decide +kernel
theorem dX8_powerModulo_19 : decode cX8_powerModulo 19 = .ok (.lload 10, 2) := by decide +kernel
theorem dX8_powerModulo_21 : decode cX8_powerModulo 21 = .ok (.lconst 0, 1) := by decide +kernel
theorem dX8_powerModulo_22 : decode cX8_powerModulo 22 = .ok (.lcmp, 1) := by decide +kernel
theorem dX8_powerModulo_23 : decode cX8_powerModulo 23 = .ok (.ifCond .le 43, 3) := by decide +kernel
theorem dX8_powerModulo_26 : decode cX8_powerModulo 26 = .ok (.lload 10, 2) := by decide +kernel
theorem dX8_powerModulo_28 : decode cX8_powerModulo 28 = .ok (.lconst 1, 1) := by decide +kernel
theorem dX8_powerModulo_29 : decode cX8_powerModulo 29 = .ok (.land, 1) := by decide +kernel
theorem dX8_powerModulo_30 : decode cX8_powerModulo 30 = .ok (.lconst 1, 1) := by decide +kernel
theorem dX8_powerModulo_31 : decode cX8_powerModulo 31 = .ok (.lcmp, 1) := by decide +kernel
theorem dX8_powerModulo_32 : decode cX8_powerModulo 32 = .ok (.ifCond .ne 14, 3) := by decide +kernel
theorem dX8_powerModulo_35 : decode cX8_powerModulo 35 = .ok (.lload 6, 2) := by decide +kernel
theorem dX8_powerModulo_37 : decode cX8_powerModulo 37 = .ok (.lload 8, 2) := by decide +kernel
theorem dX8_powerModulo_39 : decode cX8_powerModulo 39 = .ok (.lload 4, 2) := by decide +kernel
theorem dX8_powerModulo_41 : decode cX8_powerModulo 41 = .ok (.invokestatic 13, 3) := by decide +kernel
theorem dX8_powerModulo_44 : decode cX8_powerModulo 44 = .ok (.lstore 6, 2) := by decide +kernel
theorem dX8_powerModulo_46 : decode cX8_powerModulo 46 = .ok (.lload 8, 2) := by decide +kernel
theorem dX8_powerModulo_48 : decode cX8_powerModulo 48 = .ok (.lload 8, 2) := by decide +kernel
theorem dX8_powerModulo_50 : decode cX8_powerModulo 50 = .ok (.lload 4, 2) := by decide +kernel
theorem dX8_powerModulo_52 : decode cX8_powerModulo 52 = .ok (.invokestatic 13, 3) := by decide +kernel
theorem dX8_powerModulo_55 : decode cX8_powerModulo 55 = .ok (.lstore 8, 2) := by decide +kernel
theorem dX8_powerModulo_57 : decode cX8_powerModulo 57 = .ok (.lload 10, 2) := by decide +kernel
theorem dX8_powerModulo_59 : decode cX8_powerModulo 59 = .ok (.iconst 1, 1) := by decide +kernel
theorem dX8_powerModulo_60 : decode cX8_powerModulo 60 = .ok (.lshr, 1) := by decide +kernel
theorem dX8_powerModulo_61 : decode cX8_powerModulo 61 = .ok (.lstore 10, 2) := by decide +kernel
theorem dX8_powerModulo_63 : decode cX8_powerModulo 63 = .ok (.goto (-44), 3) := by decide +kernel
theorem dX8_powerModulo_66 : decode cX8_powerModulo 66 = .ok (.lload 6, 2) := by decide +kernel
theorem dX8_powerModulo_68 : decode cX8_powerModulo 68 = .ok (.lreturn, 1) := by decide +kernel
theorem dX8_inverseModulo_0 : decode cX8_inverseModulo 0 = .ok (.lload_n 2, 1) := by decide +kernel
theorem dX8_inverseModulo_1 : decode cX8_inverseModulo 1 = .ok (.lstore 4, 2) := by decide +kernel
theorem dX8_inverseModulo_3 : decode cX8_inverseModulo 3 = .ok (.lload_n 0, 1) := by decide +kernel
theorem dX8_inverseModulo_4 : decode cX8_inverseModulo 4 = .ok (.lload_n 2, 1) := by decide +kernel
theorem dX8_inverseModulo_5 : decode cX8_inverseModulo 5 = .ok (.invokestatic 7, 3) := by decide +kernel
theorem dX8_inverseModulo_8 : decode cX8_inverseModulo 8 = .ok (.lstore 6, 2) := by decide +kernel
theorem dX8_inverseModulo_10 : decode cX8_inverseModulo 10 = .ok (.lconst 0, 1) := by decide +kernel
theorem dX8_inverseModulo_11 : decode cX8_inverseModulo 11 = .ok (.lstore 8, 2) := by decide +kernel
theorem dX8_inverseModulo_13 : decode cX8_inverseModulo 13 = .ok (.lconst 1, 1) := by decide +kernel
theorem dX8_inverseModulo_14 : decode cX8_inverseModulo 14 = .ok (.lstore 10, 2) := by decide +kernel
theorem dX8_inverseModulo_16 : decode cX8_inverseModulo 16 = .ok (.iconst 0, 1) := by decide +kernel
theorem dX8_inverseModulo_17 : decode cX8_inverseModulo 17 = .ok (.istore 12, 2) := by decide +kernel
theorem dX8_inverseModulo_19 : decode cX8_inverseModulo 19 = .ok (.iload 12, 2) := by decide +kernel
theorem dX8_inverseModulo_21 : decode cX8_inverseModulo 21 = .ok (.bipush 100, 2) := by decide +kernel
theorem dX8_inverseModulo_23 : decode cX8_inverseModulo 23 = .ok (.if_icmp .ge 61, 3) := by decide +kernel
theorem dX8_inverseModulo_26 : decode cX8_inverseModulo 26 = .ok (.lload 6, 2) := by decide +kernel
theorem dX8_inverseModulo_28 : decode cX8_inverseModulo 28 = .ok (.lconst 0, 1) := by decide +kernel
theorem dX8_inverseModulo_29 : decode cX8_inverseModulo 29 = .ok (.lcmp, 1) := by decide +kernel
theorem dX8_inverseModulo_30 : decode cX8_inverseModulo 30 = .ok (.ifCond .eq 54, 3) := by decide +kernel
theorem dX8_inverseModulo_33 : decode cX8_inverseModulo 33 = .ok (.lload 4, 2) := by decide +kernel
theorem dX8_inverseModulo_35 : decode cX8_inverseModulo 35 = .ok (.lload 6, 2) := by decide +kernel
theorem dX8_inverseModulo_37 : decode cX8_inverseModulo 37 = .ok (.invokestatic 17, 3) := by decide +kernel
theorem dX8_inverseModulo_40 : decode cX8_inverseModulo 40 = .ok (.lstore 13, 2) := by decide +kernel
theorem dX8_inverseModulo_42 : decode cX8_inverseModulo 42 = .ok (.lload 4, 2) := by decide +kernel
theorem dX8_inverseModulo_44 : decode cX8_inverseModulo 44 = .ok (.lload 13, 2) := by decide +kernel
theorem dX8_inverseModulo_46 : decode cX8_inverseModulo 46 = .ok (.lload 6, 2) := by decide +kernel
theorem dX8_inverseModulo_48 : decode cX8_inverseModulo 48 = .ok (.lmul, 1) := by decide +kernel
theorem dX8_inverseModulo_49 : decode cX8_inverseModulo 49 = .ok (.lsub, 1) := by decide +kernel
theorem dX8_inverseModulo_50 : decode cX8_inverseModulo 50 = .ok (.lstore 15, 2) := by decide +kernel
theorem dX8_inverseModulo_52 : decode cX8_inverseModulo 52 = .ok (.lload 8, 2) := by decide +kernel
theorem dX8_inverseModulo_54 : decode cX8_inverseModulo 54 = .ok (.lload 13, 2) := by decide +kernel
theorem dX8_inverseModulo_56 : decode cX8_inverseModulo 56 = .ok (.lload 10, 2) := by decide +kernel
theorem dX8_inverseModulo_58 : decode cX8_inverseModulo 58 = .ok (.lmul, 1) := by decide +kernel
theorem dX8_inverseModulo_59 : decode cX8_inverseModulo 59 = .ok (.lsub, 1) := by decide +kernel
theorem dX8_inverseModulo_60 : decode cX8_inverseModulo 60 = .ok (.lstore 17, 2) := by decide +kernel
theorem dX8_inverseModulo_62 : decode cX8_inverseModulo 62 = .ok (.lload 6, 2) := by decide +kernel
theorem dX8_inverseModulo_64 : decode cX8_inverseModulo 64 = .ok (.lstore 4, 2) := by decide +kernel
theorem dX8_inverseModulo_66 : decode cX8_inverseModulo 66 = .ok (.lload 10, 2) := by decide +kernel
theorem dX8_inverseModulo_68 : decode cX8_inverseModulo 68 = .ok (.lstore 8, 2) := by decide +kernel
theorem dX8_inverseModulo_70 : decode cX8_inverseModulo 70 = .ok (.lload 15, 2) := by decide +kernel
theorem dX8_inverseModulo_72 : decode cX8_inverseModulo 72 = .ok (.lstore 6, 2) := by decide +kernel
theorem dX8_inverseModulo_74 : decode cX8_inverseModulo 74 = .ok (.lload 17, 2) := by decide +kernel
theorem dX8_inverseModulo_76 : decode cX8_inverseModulo 76 = .ok (.lstore 10, 2) := by decide +kernel
theorem dX8_inverseModulo_78 : decode cX8_inverseModulo 78 = .ok (.iinc 12 1, 3) := by decide +kernel
theorem dX8_inverseModulo_81 : decode cX8_inverseModulo 81 = .ok (.goto (-62), 3) := by decide +kernel
theorem dX8_inverseModulo_84 : decode cX8_inverseModulo 84 = .ok (.lload 8, 2) := by decide +kernel
theorem dX8_inverseModulo_86 : decode cX8_inverseModulo 86 = .ok (.lload_n 2, 1) := by decide +kernel
theorem dX8_inverseModulo_87 : decode cX8_inverseModulo 87 = .ok (.invokestatic 7, 3) := by decide +kernel
theorem dX8_inverseModulo_90 : decode cX8_inverseModulo 90 = .ok (.lreturn, 1) := by decide +kernel
theorem dX8_greatestCommon_0 : decode cX8_greatestCommon 0 = .ok (.lload_n 0, 1) := by decide +kernel
theorem dX8_greatestCommon_1 : decode cX8_greatestCommon 1 = .ok (.invokestatic 20, 3) := by decide +kernel
theorem dX8_greatestCommon_4 : decode cX8_greatestCommon 4 = .ok (.lstore 4, 2) := by decide +kernel
theorem dX8_greatestCommon_6 : decode cX8_greatestCommon 6 = .ok (.lload_n 2, 1) := by decide +kernel
theorem dX8_greatestCommon_7 : decode cX8_greatestCommon 7 = .ok (.invokestatic 20, 3) := by decide +kernel
theorem dX8_greatestCommon_10 : decode cX8_greatestCommon 10 = .ok (.lstore 6, 2) := by decide +kernel
theorem dX8_greatestCommon_12 : decode cX8_greatestCommon 12 = .ok (.iconst 0, 1) := by decide +kernel
theorem dX8_greatestCommon_13 : decode cX8_greatestCommon 13 = .ok (.istore 8, 2) := by decide +kernel
theorem dX8_greatestCommon_15 : decode cX8_greatestCommon 15 = .ok (.iload 8, 2) := by decide +kernel
theorem dX8_greatestCommon_17 : decode cX8_greatestCommon 17 = .ok (.bipush 100, 2) := by decide +kernel
theorem dX8_greatestCommon_19 : decode cX8_greatestCommon 19 = .ok (.if_icmp .ge 33, 3) := by decide +kernel
theorem dX8_greatestCommon_22 : decode cX8_greatestCommon 22 = .ok (.lload 6, 2) := by decide +kernel
theorem dX8_greatestCommon_24 : decode cX8_greatestCommon 24 = .ok (.lconst 0, 1) := by decide +kernel
theorem dX8_greatestCommon_25 : decode cX8_greatestCommon 25 = .ok (.lcmp, 1) := by decide +kernel
theorem dX8_greatestCommon_26 : decode cX8_greatestCommon 26 = .ok (.ifCond .eq 26, 3) := by decide +kernel
theorem dX8_greatestCommon_29 : decode cX8_greatestCommon 29 = .ok (.lload 4, 2) := by decide +kernel
theorem dX8_greatestCommon_31 : decode cX8_greatestCommon 31 = .ok (.lload 6, 2) := by decide +kernel
theorem dX8_greatestCommon_33 : decode cX8_greatestCommon 33 = .ok (.invokestatic 7, 3) := by decide +kernel
theorem dX8_greatestCommon_36 : decode cX8_greatestCommon 36 = .ok (.lstore 9, 2) := by decide +kernel
theorem dX8_greatestCommon_38 : decode cX8_greatestCommon 38 = .ok (.lload 6, 2) := by decide +kernel
theorem dX8_greatestCommon_40 : decode cX8_greatestCommon 40 = .ok (.lstore 4, 2) := by decide +kernel
theorem dX8_greatestCommon_42 : decode cX8_greatestCommon 42 = .ok (.lload 9, 2) := by decide +kernel
theorem dX8_greatestCommon_44 : decode cX8_greatestCommon 44 = .ok (.lstore 6, 2) := by decide +kernel
theorem dX8_greatestCommon_46 : decode cX8_greatestCommon 46 = .ok (.iinc 8 1, 3) := by decide +kernel
theorem dX8_greatestCommon_49 : decode cX8_greatestCommon 49 = .ok (.goto (-34), 3) := by decide +kernel
theorem dX8_greatestCommon_52 : decode cX8_greatestCommon 52 = .ok (.lload 4, 2) := by decide +kernel
theorem dX8_greatestCommon_54 : decode cX8_greatestCommon 54 = .ok (.lreturn, 1) := by decide +kernel
theorem dX8_factorCount_0 : decode cX8_factorCount 0 = .ok (.lload_n 0, 1) := by decide +kernel
theorem dX8_factorCount_1 : decode cX8_factorCount 1 = .ok (.lstore_n 3, 1) := by decide +kernel
theorem dX8_factorCount_2 : decode cX8_factorCount 2 = .ok (.iconst 0, 1) := by decide +kernel
theorem dX8_factorCount_3 : decode cX8_factorCount 3 = .ok (.istore 5, 2) := by decide +kernel
theorem dX8_factorCount_5 : decode cX8_factorCount 5 = .ok (.iload 5, 2) := by decide +kernel
theorem dX8_factorCount_7 : decode cX8_factorCount 7 = .ok (.bipush 64, 2) := by decide +kernel
theorem dX8_factorCount_9 : decode cX8_factorCount 9 = .ok (.if_icmp .ge 33, 3) := by decide +kernel
theorem dX8_factorCount_12 : decode cX8_factorCount 12 = .ok (.lload_n 3, 1) := by decide +kernel
theorem dX8_factorCount_13 : decode cX8_factorCount 13 = .ok (.lconst 0, 1) := by decide +kernel
theorem dX8_factorCount_14 : decode cX8_factorCount 14 = .ok (.lcmp, 1) := by decide +kernel
theorem dX8_factorCount_15 : decode cX8_factorCount 15 = .ok (.ifCond .eq 27, 3) := by decide +kernel
theorem dX8_factorCount_18 : decode cX8_factorCount 18 = .ok (.lload_n 3, 1) := by decide +kernel
theorem dX8_factorCount_19 : decode cX8_factorCount 19 = .ok (.iload_n 2, 1) := by decide +kernel
theorem dX8_factorCount_20 : decode cX8_factorCount 20 = .ok (.i2l, 1) := by decide +kernel
theorem dX8_factorCount_21 : decode cX8_factorCount 21 = .ok (.invokestatic 7, 3) := by decide +kernel
theorem dX8_factorCount_24 : decode cX8_factorCount 24 = .ok (.lconst 0, 1) := by decide +kernel
theorem dX8_factorCount_25 : decode cX8_factorCount 25 = .ok (.lcmp, 1) := by decide +kernel
theorem dX8_factorCount_26 : decode cX8_factorCount 26 = .ok (.ifCond .ne 16, 3) := by decide +kernel
theorem dX8_factorCount_29 : decode cX8_factorCount 29 = .ok (.lload_n 3, 1) := by decide +kernel
theorem dX8_factorCount_30 : decode cX8_factorCount 30 = .ok (.iload_n 2, 1) := by decide +kernel
theorem dX8_factorCount_31 : decode cX8_factorCount 31 = .ok (.i2l, 1) := by decide +kernel
theorem dX8_factorCount_32 : decode cX8_factorCount 32 = .ok (.invokestatic 17, 3) := by decide +kernel
theorem dX8_factorCount_35 : decode cX8_factorCount 35 = .ok (.lstore_n 3, 1) := by decide +kernel
theorem dX8_factorCount_36 : decode cX8_factorCount 36 = .ok (.iinc 5 1, 3) := by decide +kernel
theorem dX8_factorCount_39 : decode cX8_factorCount 39 = .ok (.goto (-34), 3) := by decide +kernel
theorem dX8_factorCount_42 : decode cX8_factorCount 42 = .ok (.iload 5, 2) := by decide +kernel
theorem dX8_factorCount_44 : decode cX8_factorCount 44 = .ok (.ireturn, 1) := by decide +kernel
theorem dX8_withoutFactors_0 : decode cX8_withoutFactors 0 = .ok (.lload_n 0, 1) := by decide +kernel
theorem dX8_withoutFactors_1 : decode cX8_withoutFactors 1 = .ok (.lstore_n 3, 1) := by decide +kernel
theorem dX8_withoutFactors_2 : decode cX8_withoutFactors 2 = .ok (.iconst 0, 1) := by decide +kernel
theorem dX8_withoutFactors_3 : decode cX8_withoutFactors 3 = .ok (.istore 5, 2) := by decide +kernel
theorem dX8_withoutFactors_5 : decode cX8_withoutFactors 5 = .ok (.iload 5, 2) := by decide +kernel
theorem dX8_withoutFactors_7 : decode cX8_withoutFactors 7 = .ok (.bipush 64, 2) := by decide +kernel
theorem dX8_withoutFactors_9 : decode cX8_withoutFactors 9 = .ok (.if_icmp .ge 33, 3) := by decide +kernel
theorem dX8_withoutFactors_12 : decode cX8_withoutFactors 12 = .ok (.lload_n 3, 1) := by decide +kernel
theorem dX8_withoutFactors_13 : decode cX8_withoutFactors 13 = .ok (.lconst 0, 1) := by decide +kernel
theorem dX8_withoutFactors_14 : decode cX8_withoutFactors 14 = .ok (.lcmp, 1) := by decide +kernel
theorem dX8_withoutFactors_15 : decode cX8_withoutFactors 15 = .ok (.ifCond .eq 27, 3) := by decide +kernel
theorem dX8_withoutFactors_18 : decode cX8_withoutFactors 18 = .ok (.lload_n 3, 1) := by decide +kernel
theorem dX8_withoutFactors_19 : decode cX8_withoutFactors 19 = .ok (.iload_n 2, 1) := by decide +kernel
theorem dX8_withoutFactors_20 : decode cX8_withoutFactors 20 = .ok (.i2l, 1) := by decide +kernel
theorem dX8_withoutFactors_21 : decode cX8_withoutFactors 21 = .ok (.invokestatic 7, 3) := by decide +kernel
theorem dX8_withoutFactors_24 : decode cX8_withoutFactors 24 = .ok (.lconst 0, 1) := by decide +kernel
theorem dX8_withoutFactors_25 : decode cX8_withoutFactors 25 = .ok (.lcmp, 1) := by decide +kernel
theorem dX8_withoutFactors_26 : decode cX8_withoutFactors 26 = .ok (.ifCond .ne 16, 3) := by decide +kernel
theorem dX8_withoutFactors_29 : decode cX8_withoutFactors 29 = .ok (.lload_n 3, 1) := by decide +kernel
theorem dX8_withoutFactors_30 : decode cX8_withoutFactors 30 = .ok (.iload_n 2, 1) := by decide +kernel
theorem dX8_withoutFactors_31 : decode cX8_withoutFactors 31 = .ok (.i2l, 1) := by decide +kernel
theorem dX8_withoutFactors_32 : decode cX8_withoutFactors 32 = .ok (.invokestatic 17, 3) := by decide +kernel
theorem dX8_withoutFactors_35 : decode cX8_withoutFactors 35 = .ok (.lstore_n 3, 1) := by decide +kernel
theorem dX8_withoutFactors_36 : decode cX8_withoutFactors 36 = .ok (.iinc 5 1, 3) := by decide +kernel
theorem dX8_withoutFactors_39 : decode cX8_withoutFactors 39 = .ok (.goto (-34), 3) := by decide +kernel
theorem dX8_withoutFactors_42 : decode cX8_withoutFactors 42 = .ok (.lload_n 3, 1) := by decide +kernel
theorem dX8_withoutFactors_43 : decode cX8_withoutFactors 43 = .ok (.lreturn, 1) := by decide +kernel
theorem dX8_isPrime_0 : decode cX8_isPrime 0 = .ok (.iload_n 0, 1) := by decide +kernel
theorem dX8_isPrime_1 : decode cX8_isPrime 1 = .ok (.iconst 2, 1) := by decide +kernel
theorem dX8_isPrime_2 : decode cX8_isPrime 2 = .ok (.if_icmp .ge 5, 3) := by decide +kernel
theorem dX8_isPrime_5 : decode cX8_isPrime 5 = .ok (.iconst 0, 1) := by decide +kernel
theorem dX8_isPrime_6 : decode cX8_isPrime 6 = .ok (.ireturn, 1) := by decide +kernel
theorem dX8_isPrime_7 : decode cX8_isPrime 7 = .ok (.iconst 2, 1) := by decide +kernel
theorem dX8_isPrime_8 : decode cX8_isPrime 8 = .ok (.istore_n 1, 1) := by decide +kernel
theorem dX8_isPrime_9 : decode cX8_isPrime 9 = .ok (.iload_n 1, 1) := by decide +kernel
theorem dX8_isPrime_10 : decode cX8_isPrime 10 = .ok (.i2l, 1) := by decide +kernel
theorem dX8_isPrime_11 : decode cX8_isPrime 11 = .ok (.iload_n 1, 1) := by decide +kernel
theorem dX8_isPrime_12 : decode cX8_isPrime 12 = .ok (.i2l, 1) := by decide +kernel
theorem dX8_isPrime_13 : decode cX8_isPrime 13 = .ok (.lmul, 1) := by decide +kernel
theorem dX8_isPrime_14 : decode cX8_isPrime 14 = .ok (.iload_n 0, 1) := by decide +kernel
theorem dX8_isPrime_15 : decode cX8_isPrime 15 = .ok (.i2l, 1) := by decide +kernel
theorem dX8_isPrime_16 : decode cX8_isPrime 16 = .ok (.lcmp, 1) := by decide +kernel
theorem dX8_isPrime_17 : decode cX8_isPrime 17 = .ok (.ifCond .gt 23, 3) := by decide +kernel
theorem dX8_isPrime_20 : decode cX8_isPrime 20 = .ok (.iload_n 0, 1) := by decide +kernel
theorem dX8_isPrime_21 : decode cX8_isPrime 21 = .ok (.i2l, 1) := by decide +kernel
theorem dX8_isPrime_22 : decode cX8_isPrime 22 = .ok (.iload_n 1, 1) := by decide +kernel
theorem dX8_isPrime_23 : decode cX8_isPrime 23 = .ok (.i2l, 1) := by decide +kernel
theorem dX8_isPrime_24 : decode cX8_isPrime 24 = .ok (.invokestatic 7, 3) := by decide +kernel
theorem dX8_isPrime_27 : decode cX8_isPrime 27 = .ok (.lconst 0, 1) := by decide +kernel
theorem dX8_isPrime_28 : decode cX8_isPrime 28 = .ok (.lcmp, 1) := by decide +kernel
theorem dX8_isPrime_29 : decode cX8_isPrime 29 = .ok (.ifCond .ne 5, 3) := by decide +kernel
theorem dX8_isPrime_32 : decode cX8_isPrime 32 = .ok (.iconst 0, 1) := by decide +kernel
theorem dX8_isPrime_33 : decode cX8_isPrime 33 = .ok (.ireturn, 1) := by decide +kernel
theorem dX8_isPrime_34 : decode cX8_isPrime 34 = .ok (.iinc 1 1, 3) := by decide +kernel
theorem dX8_isPrime_37 : decode cX8_isPrime 37 = .ok (.goto (-28), 3) := by decide +kernel
theorem dX8_isPrime_40 : decode cX8_isPrime 40 = .ok (.iconst 1, 1) := by decide +kernel
theorem dX8_isPrime_41 : decode cX8_isPrime 41 = .ok (.ireturn, 1) := by decide +kernel
theorem dX9_init_0 : decode cX9_init 0 = .ok (.aload_n 0, 1) := by decide +kernel
theorem dX9_init_1 : decode cX9_init 1 = .ok (.invokespecial 1, 3) := by decide +kernel
theorem dX9_init_4 : decode cX9_init 4 = .ok (.aload_n 0, 1) := by decide +kernel
theorem dX9_init_5 : decode cX9_init 5 = .ok (.new 7, 3) := by decide +kernel
theorem dX9_init_8 : decode cX9_init 8 = .ok (.dup, 1) := by decide +kernel
theorem dX9_init_9 : decode cX9_init 9 = .ok (.invokespecial 9, 3) := by decide +kernel
theorem dX9_init_12 : decode cX9_init 12 = .ok (.putfield 10, 3) := by decide +kernel
theorem dX9_init_15 : decode cX9_init 15 = .ok (.aload_n 0, 1) := by decide +kernel
theorem dX9_init_16 : decode cX9_init 16 = .ok (.new 16, 3) := by decide +kernel
theorem dX9_init_19 : decode cX9_init 19 = .ok (.dup, 1) := by decide +kernel
theorem dX9_init_20 : decode cX9_init 20 = .ok (.invokespecial 18, 3) := by decide +kernel
theorem dX9_init_23 : decode cX9_init 23 = .ok (.putfield 19, 3) := by decide +kernel
theorem dX9_init_26 : decode cX9_init 26 = .ok (.return_, 1) := by decide +kernel
theorem dX9_setPrime_0 : decode cX9_setPrime 0 = .ok (.iload_n 1, 1) := by decide +kernel
theorem dX9_setPrime_1 : decode cX9_setPrime 1 = .ok (.bipush 97, 2) := by decide +kernel
theorem dX9_setPrime_3 : decode cX9_setPrime 3 = .ok (.if_icmp .gt 10, 3) := by decide +kernel
theorem dX9_setPrime_6 : decode cX9_setPrime 6 = .ok (.iload_n 1, 1) := by decide +kernel
theorem dX9_setPrime_7 : decode cX9_setPrime 7 = .ok (.invokestatic 23, 3) := by decide +kernel
theorem dX9_setPrime_10 : decode cX9_setPrime 10 = .ok (.ifCond .ne 13, 3) := by decide +kernel
theorem dX9_setPrime_13 : decode cX9_setPrime 13 = .ok (.new 29, 3) := by decide +kernel
theorem dX9_setPrime_16 : decode cX9_setPrime 16 = .ok (.dup, 1) := by decide +kernel
theorem dX9_setPrime_17 : decode cX9_setPrime 17 = .ok (.ldc 31, 2) := by decide +kernel
theorem dX9_setPrime_19 : decode cX9_setPrime 19 = .ok (.invokespecial 33, 3) := by decide +kernel
theorem dX9_setPrime_22 : decode cX9_setPrime 22 = .ok (.athrow, 1) := by decide +kernel
theorem dX9_setPrime_23 : decode cX9_setPrime 23 = .ok (.aload_n 0, 1) := by decide +kernel
theorem dX9_setPrime_24 : decode cX9_setPrime 24 = .ok (.getfield 10, 3) := by decide +kernel
theorem dX9_setPrime_27 : decode cX9_setPrime 27 = .ok (.getfield 36, 3) := by decide +kernel
theorem dX9_setPrime_30 : decode cX9_setPrime 30 = .ok (.ifCond .le 13, 3) := by decide +kernel
theorem dX9_setPrime_33 : decode cX9_setPrime 33 = .ok (.new 40, 3) := by decide +kernel
theorem dX9_setPrime_36 : decode cX9_setPrime 36 = .ok (.dup, 1) := by decide +kernel
theorem dX9_setPrime_37 : decode cX9_setPrime 37 = .ok (.ldc 42, 2) := by decide +kernel
theorem dX9_setPrime_39 : decode cX9_setPrime 39 = .ok (.invokespecial 44, 3) := by decide +kernel
theorem dX9_setPrime_42 : decode cX9_setPrime 42 = .ok (.athrow, 1) := by decide +kernel
theorem dX9_setPrime_43 : decode cX9_setPrime 43 = .ok (.aload_n 0, 1) := by decide +kernel
theorem dX9_setPrime_44 : decode cX9_setPrime 44 = .ok (.getfield 10, 3) := by decide +kernel
theorem dX9_setPrime_47 : decode cX9_setPrime 47 = .ok (.getfield 45, 3) := by decide +kernel
theorem dX9_setPrime_50 : decode cX9_setPrime 50 = .ok (.getfield 49, 3) := by decide +kernel
theorem dX9_setPrime_53 : decode cX9_setPrime 53 = .ok (.istore_n 2, 1) := by decide +kernel
theorem dX9_setPrime_54 : decode cX9_setPrime 54 = .ok (.aload_n 0, 1) := by decide +kernel
theorem dX9_setPrime_55 : decode cX9_setPrime 55 = .ok (.getfield 10, 3) := by decide +kernel
theorem dX9_setPrime_58 : decode cX9_setPrime 58 = .ok (.getfield 45, 3) := by decide +kernel
theorem dX9_setPrime_61 : decode cX9_setPrime 61 = .ok (.iload_n 1, 1) := by decide +kernel
theorem dX9_setPrime_62 : decode cX9_setPrime 62 = .ok (.invokevirtual 54, 3) := by decide +kernel
theorem dX9_setPrime_65 : decode cX9_setPrime 65 = .ok (.iload_n 2, 1) := by decide +kernel
theorem dX9_setPrime_66 : decode cX9_setPrime 66 = .ok (.ireturn, 1) := by decide +kernel
theorem dX9_reach_0 : decode cX9_reach 0 = .ok (.aload_n 0, 1) := by decide +kernel
theorem dX9_reach_1 : decode cX9_reach 1 = .ok (.getfield 10, 3) := by decide +kernel
theorem dX9_reach_4 : decode cX9_reach 4 = .ok (.getfield 45, 3) := by decide +kernel
theorem dX9_reach_7 : decode cX9_reach 7 = .ok (.getfield 58, 3) := by decide +kernel
theorem dX9_reach_10 : decode cX9_reach 10 = .ok (.ireturn, 1) := by decide +kernel
theorem dX9_give_0 : decode cX9_give 0 = .ok (.iload_n 1, 1) := by decide +kernel
theorem dX9_give_1 : decode cX9_give 1 = .ok (.ldc 61, 2) := by decide +kernel
theorem dX9_give_3 : decode cX9_give 3 = .ok (.ldc 62, 2) := by decide +kernel
theorem dX9_give_5 : decode cX9_give 5 = .ok (.invokestatic 63, 3) := by decide +kernel
theorem dX9_give_8 : decode cX9_give 8 = .ok (.iload_n 2, 1) := by decide +kernel
theorem dX9_give_9 : decode cX9_give 9 = .ok (.iconst 1, 1) := by decide +kernel
theorem dX9_give_10 : decode cX9_give 10 = .ok (.ldc 62, 2) := by decide +kernel
theorem dX9_give_12 : decode cX9_give 12 = .ok (.invokestatic 63, 3) := by decide +kernel
theorem dX9_give_15 : decode cX9_give 15 = .ok (.iload_n 3, 1) := by decide +kernel
theorem dX9_give_16 : decode cX9_give 16 = .ok (.bipush (-20), 2) := by decide +kernel
theorem dX9_give_18 : decode cX9_give 18 = .ok (.bipush 20, 2) := by decide +kernel
theorem dX9_give_20 : decode cX9_give 20 = .ok (.invokestatic 63, 3) := by decide +kernel
theorem dX9_give_23 : decode cX9_give 23 = .ok (.aload_n 0, 1) := by decide +kernel
theorem dX9_give_24 : decode cX9_give 24 = .ok (.invokevirtual 67, 3) := by decide +kernel
theorem dX9_give_27 : decode cX9_give 27 = .ok (.aload_n 0, 1) := by decide +kernel
theorem dX9_give_28 : decode cX9_give 28 = .ok (.getfield 10, 3) := by decide +kernel
theorem dX9_give_31 : decode cX9_give 31 = .ok (.iload_n 1, 1) := by decide +kernel
theorem dX9_give_32 : decode cX9_give 32 = .ok (.iload_n 2, 1) := by decide +kernel
theorem dX9_give_33 : decode cX9_give 33 = .ok (.iload_n 3, 1) := by decide +kernel
theorem dX9_give_34 : decode cX9_give 34 = .ok (.invokevirtual 70, 3) := by decide +kernel
theorem dX9_give_37 : decode cX9_give 37 = .ok (.ireturn, 1) := by decide +kernel
theorem dX9_add_0 : decode cX9_add 0 = .ok (.aload_n 0, 1) := by decide +kernel
theorem dX9_add_1 : decode cX9_add 1 = .ok (.iload_n 1, 1) := by decide +kernel
theorem dX9_add_2 : decode cX9_add 2 = .ok (.invokevirtual 74, 3) := by decide +kernel
theorem dX9_add_5 : decode cX9_add 5 = .ok (.aload_n 0, 1) := by decide +kernel
theorem dX9_add_6 : decode cX9_add 6 = .ok (.iload_n 2, 1) := by decide +kernel
theorem dX9_add_7 : decode cX9_add 7 = .ok (.invokevirtual 74, 3) := by decide +kernel
theorem dX9_add_10 : decode cX9_add 10 = .ok (.aload_n 0, 1) := by decide +kernel
theorem dX9_add_11 : decode cX9_add 11 = .ok (.invokevirtual 67, 3) := by decide +kernel
theorem dX9_add_14 : decode cX9_add 14 = .ok (.aload_n 0, 1) := by decide +kernel
theorem dX9_add_15 : decode cX9_add 15 = .ok (.getfield 10, 3) := by decide +kernel
theorem dX9_add_18 : decode cX9_add 18 = .ok (.iconst 1, 1) := by decide +kernel
theorem dX9_add_19 : decode cX9_add 19 = .ok (.iload_n 1, 1) := by decide +kernel
theorem dX9_add_20 : decode cX9_add 20 = .ok (.iload_n 2, 1) := by decide +kernel
theorem dX9_add_21 : decode cX9_add 21 = .ok (.invokevirtual 79, 3) := by decide +kernel
theorem dX9_add_24 : decode cX9_add 24 = .ok (.ireturn, 1) := by decide +kernel
theorem dX9_subtract_0 : decode cX9_subtract 0 = .ok (.aload_n 0, 1) := by decide +kernel
theorem dX9_subtract_1 : decode cX9_subtract 1 = .ok (.iload_n 1, 1) := by decide +kernel
theorem dX9_subtract_2 : decode cX9_subtract 2 = .ok (.invokevirtual 74, 3) := by decide +kernel
theorem dX9_subtract_5 : decode cX9_subtract 5 = .ok (.aload_n 0, 1) := by decide +kernel
theorem dX9_subtract_6 : decode cX9_subtract 6 = .ok (.iload_n 2, 1) := by decide +kernel
theorem dX9_subtract_7 : decode cX9_subtract 7 = .ok (.invokevirtual 74, 3) := by decide +kernel
theorem dX9_subtract_10 : decode cX9_subtract 10 = .ok (.aload_n 0, 1) := by decide +kernel
theorem dX9_subtract_11 : decode cX9_subtract 11 = .ok (.invokevirtual 67, 3) := by decide +kernel
theorem dX9_subtract_14 : decode cX9_subtract 14 = .ok (.aload_n 0, 1) := by decide +kernel
theorem dX9_subtract_15 : decode cX9_subtract 15 = .ok (.getfield 10, 3) := by decide +kernel
theorem dX9_subtract_18 : decode cX9_subtract 18 = .ok (.iconst 2, 1) := by decide +kernel
theorem dX9_subtract_19 : decode cX9_subtract 19 = .ok (.iload_n 1, 1) := by decide +kernel
theorem dX9_subtract_20 : decode cX9_subtract 20 = .ok (.iload_n 2, 1) := by decide +kernel
theorem dX9_subtract_21 : decode cX9_subtract 21 = .ok (.invokevirtual 79, 3) := by decide +kernel
theorem dX9_subtract_24 : decode cX9_subtract 24 = .ok (.ireturn, 1) := by decide +kernel
theorem dX9_multiply_0 : decode cX9_multiply 0 = .ok (.aload_n 0, 1) := by decide +kernel
theorem dX9_multiply_1 : decode cX9_multiply 1 = .ok (.iload_n 1, 1) := by decide +kernel
theorem dX9_multiply_2 : decode cX9_multiply 2 = .ok (.invokevirtual 74, 3) := by decide +kernel
theorem dX9_multiply_5 : decode cX9_multiply 5 = .ok (.aload_n 0, 1) := by decide +kernel
theorem dX9_multiply_6 : decode cX9_multiply 6 = .ok (.iload_n 2, 1) := by decide +kernel
theorem dX9_multiply_7 : decode cX9_multiply 7 = .ok (.invokevirtual 74, 3) := by decide +kernel
theorem dX9_multiply_10 : decode cX9_multiply 10 = .ok (.aload_n 0, 1) := by decide +kernel
theorem dX9_multiply_11 : decode cX9_multiply 11 = .ok (.getfield 10, 3) := by decide +kernel
theorem dX9_multiply_14 : decode cX9_multiply 14 = .ok (.iload_n 1, 1) := by decide +kernel
theorem dX9_multiply_15 : decode cX9_multiply 15 = .ok (.invokevirtual 82, 3) := by decide +kernel
theorem dX9_multiply_18 : decode cX9_multiply 18 = .ok (.getfield 86, 3) := by decide +kernel
theorem dX9_multiply_21 : decode cX9_multiply 21 = .ok (.aload_n 0, 1) := by decide +kernel
theorem dX9_multiply_22 : decode cX9_multiply 22 = .ok (.getfield 10, 3) := by decide +kernel
theorem dX9_multiply_25 : decode cX9_multiply 25 = .ok (.iload_n 2, 1) := by decide +kernel
theorem dX9_multiply_26 : decode cX9_multiply 26 = .ok (.invokevirtual 82, 3) := by decide +kernel
theorem dX9_multiply_29 : decode cX9_multiply 29 = .ok (.getfield 86, 3) := by decide +kernel
theorem dX9_multiply_32 : decode cX9_multiply 32 = .ok (.iadd, 1) := by decide +kernel
theorem dX9_multiply_33 : decode cX9_multiply 33 = .ok (.bipush (-60), 2) := by decide +kernel
theorem dX9_multiply_35 : decode cX9_multiply 35 = .ok (.if_icmp .ge 13, 3) := by decide +kernel
theorem dX9_multiply_38 : decode cX9_multiply 38 = .ok (.new 89, 3) := by decide +kernel
theorem dX9_multiply_41 : decode cX9_multiply 41 = .ok (.dup, 1) := by decide +kernel
theorem dX9_multiply_42 : decode cX9_multiply 42 = .ok (.ldc 91, 2) := by decide +kernel
theorem dX9_multiply_44 : decode cX9_multiply 44 = .ok (.invokespecial 93, 3) := by decide +kernel
theorem dX9_multiply_47 : decode cX9_multiply 47 = .ok (.athrow, 1) := by decide +kernel
theorem dX9_multiply_48 : decode cX9_multiply 48 = .ok (.aload_n 0, 1) := by decide +kernel
theorem dX9_multiply_49 : decode cX9_multiply 49 = .ok (.invokevirtual 67, 3) := by decide +kernel
theorem dX9_multiply_52 : decode cX9_multiply 52 = .ok (.aload_n 0, 1) := by decide +kernel
theorem dX9_multiply_53 : decode cX9_multiply 53 = .ok (.getfield 10, 3) := by decide +kernel
theorem dX9_multiply_56 : decode cX9_multiply 56 = .ok (.iconst 3, 1) := by decide +kernel
theorem dX9_multiply_57 : decode cX9_multiply 57 = .ok (.iload_n 1, 1) := by decide +kernel
theorem dX9_multiply_58 : decode cX9_multiply 58 = .ok (.iload_n 2, 1) := by decide +kernel
theorem dX9_multiply_59 : decode cX9_multiply 59 = .ok (.invokevirtual 79, 3) := by decide +kernel
theorem dX9_multiply_62 : decode cX9_multiply 62 = .ok (.ireturn, 1) := by decide +kernel
theorem dX9_divide_0 : decode cX9_divide 0 = .ok (.aload_n 0, 1) := by decide +kernel
theorem dX9_divide_1 : decode cX9_divide 1 = .ok (.iload_n 1, 1) := by decide +kernel
theorem dX9_divide_2 : decode cX9_divide 2 = .ok (.invokevirtual 74, 3) := by decide +kernel
theorem dX9_divide_5 : decode cX9_divide 5 = .ok (.aload_n 0, 1) := by decide +kernel
theorem dX9_divide_6 : decode cX9_divide 6 = .ok (.iload_n 2, 1) := by decide +kernel
theorem dX9_divide_7 : decode cX9_divide 7 = .ok (.invokevirtual 74, 3) := by decide +kernel
theorem dX9_divide_10 : decode cX9_divide 10 = .ok (.aload_n 0, 1) := by decide +kernel
theorem dX9_divide_11 : decode cX9_divide 11 = .ok (.getfield 10, 3) := by decide +kernel
theorem dX9_divide_14 : decode cX9_divide 14 = .ok (.iload_n 2, 1) := by decide +kernel
theorem dX9_divide_15 : decode cX9_divide 15 = .ok (.invokevirtual 82, 3) := by decide +kernel
theorem dX9_divide_18 : decode cX9_divide 18 = .ok (.astore_n 3, 1) := by decide +kernel
theorem dX9_divide_19 : decode cX9_divide 19 = .ok (.aload_n 3, 1) := by decide +kernel
theorem dX9_divide_20 : decode cX9_divide 20 = .ok (.invokevirtual 94, 3) := by decide +kernel
theorem dX9_divide_23 : decode cX9_divide 23 = .ok (.ifCond .eq 13, 3) := by decide +kernel
theorem dX9_divide_26 : decode cX9_divide 26 = .ok (.new 89, 3) := by decide +kernel
theorem dX9_divide_29 : decode cX9_divide 29 = .ok (.dup, 1) := by decide +kernel
theorem dX9_divide_30 : decode cX9_divide 30 = .ok (.ldc 98, 2) := by decide +kernel
theorem dX9_divide_32 : decode cX9_divide 32 = .ok (.invokespecial 93, 3) := by decide +kernel
theorem dX9_divide_35 : decode cX9_divide 35 = .ok (.athrow, 1) := by decide +kernel
theorem dX9_divide_36 : decode cX9_divide 36 = .ok (.aload_n 0, 1) := by decide +kernel
theorem dX9_divide_37 : decode cX9_divide 37 = .ok (.getfield 10, 3) := by decide +kernel
theorem dX9_divide_40 : decode cX9_divide 40 = .ok (.iload_n 1, 1) := by decide +kernel
theorem dX9_divide_41 : decode cX9_divide 41 = .ok (.invokevirtual 82, 3) := by decide +kernel
theorem dX9_divide_44 : decode cX9_divide 44 = .ok (.getfield 86, 3) := by decide +kernel
theorem dX9_divide_47 : decode cX9_divide 47 = .ok (.aload_n 3, 1) := by decide +kernel
theorem dX9_divide_48 : decode cX9_divide 48 = .ok (.getfield 86, 3) := by decide +kernel
theorem dX9_divide_51 : decode cX9_divide 51 = .ok (.isub, 1) := by decide +kernel
theorem dX9_divide_52 : decode cX9_divide 52 = .ok (.bipush (-60), 2) := by decide +kernel
theorem dX9_divide_54 : decode cX9_divide 54 = .ok (.if_icmp .ge 13, 3) := by decide +kernel
theorem dX9_divide_57 : decode cX9_divide 57 = .ok (.new 89, 3) := by decide +kernel
theorem dX9_divide_60 : decode cX9_divide 60 = .ok (.dup, 1) := by decide +kernel
theorem dX9_divide_61 : decode cX9_divide 61 = .ok (.ldc 91, 2) := by decide +kernel
theorem dX9_divide_63 : decode cX9_divide 63 = .ok (.invokespecial 93, 3) := by decide +kernel
theorem dX9_divide_66 : decode cX9_divide 66 = .ok (.athrow, 1) := by decide +kernel
theorem dX9_divide_67 : decode cX9_divide 67 = .ok (.aload_n 0, 1) := by decide +kernel
theorem dX9_divide_68 : decode cX9_divide 68 = .ok (.invokevirtual 67, 3) := by decide +kernel
theorem dX9_divide_71 : decode cX9_divide 71 = .ok (.aload_n 0, 1) := by decide +kernel
theorem dX9_divide_72 : decode cX9_divide 72 = .ok (.getfield 10, 3) := by decide +kernel
theorem dX9_divide_75 : decode cX9_divide 75 = .ok (.iconst 4, 1) := by decide +kernel
theorem dX9_divide_76 : decode cX9_divide 76 = .ok (.iload_n 1, 1) := by decide +kernel
theorem dX9_divide_77 : decode cX9_divide 77 = .ok (.iload_n 2, 1) := by decide +kernel
theorem dX9_divide_78 : decode cX9_divide 78 = .ok (.invokevirtual 79, 3) := by decide +kernel
theorem dX9_divide_81 : decode cX9_divide 81 = .ok (.ireturn, 1) := by decide +kernel
theorem dX9_root_0 : decode cX9_root 0 = .ok (.aload_n 0, 1) := by decide +kernel
theorem dX9_root_1 : decode cX9_root 1 = .ok (.iload_n 1, 1) := by decide +kernel
theorem dX9_root_2 : decode cX9_root 2 = .ok (.invokevirtual 74, 3) := by decide +kernel
theorem dX9_root_5 : decode cX9_root 5 = .ok (.aload_n 0, 1) := by decide +kernel
theorem dX9_root_6 : decode cX9_root 6 = .ok (.getfield 10, 3) := by decide +kernel
theorem dX9_root_9 : decode cX9_root 9 = .ok (.aload_n 0, 1) := by decide +kernel
theorem dX9_root_10 : decode cX9_root 10 = .ok (.getfield 10, 3) := by decide +kernel
theorem dX9_root_13 : decode cX9_root 13 = .ok (.iload_n 1, 1) := by decide +kernel
theorem dX9_root_14 : decode cX9_root 14 = .ok (.invokevirtual 82, 3) := by decide +kernel
theorem dX9_root_17 : decode cX9_root 17 = .ok (.invokevirtual 100, 3) := by decide +kernel
theorem dX9_root_20 : decode cX9_root 20 = .ok (.ifCond .ne 13, 3) := by decide +kernel
theorem dX9_root_23 : decode cX9_root 23 = .ok (.new 40, 3) := by decide +kernel
theorem dX9_root_26 : decode cX9_root 26 = .ok (.dup, 1) := by decide +kernel
theorem dX9_root_27 : decode cX9_root 27 = .ok (.ldc 104, 2) := by decide +kernel
theorem dX9_root_29 : decode cX9_root 29 = .ok (.invokespecial 44, 3) := by decide +kernel
theorem dX9_root_32 : decode cX9_root 32 = .ok (.athrow, 1) := by decide +kernel
theorem dX9_root_33 : decode cX9_root 33 = .ok (.aload_n 0, 1) := by decide +kernel
theorem dX9_root_34 : decode cX9_root 34 = .ok (.invokevirtual 67, 3) := by decide +kernel
theorem dX9_root_37 : decode cX9_root 37 = .ok (.aload_n 0, 1) := by decide +kernel
theorem dX9_root_38 : decode cX9_root 38 = .ok (.getfield 10, 3) := by decide +kernel
theorem dX9_root_41 : decode cX9_root 41 = .ok (.iconst 5, 1) := by decide +kernel
theorem dX9_root_42 : decode cX9_root 42 = .ok (.iload_n 1, 1) := by decide +kernel
theorem dX9_root_43 : decode cX9_root 43 = .ok (.iconst (-1), 1) := by decide +kernel
theorem dX9_root_44 : decode cX9_root 44 = .ok (.invokevirtual 79, 3) := by decide +kernel
theorem dX9_root_47 : decode cX9_root 47 = .ok (.ireturn, 1) := by decide +kernel
theorem dX9_unity_0 : decode cX9_unity 0 = .ok (.aload_n 0, 1) := by decide +kernel
theorem dX9_unity_1 : decode cX9_unity 1 = .ok (.iload_n 1, 1) := by decide +kernel
theorem dX9_unity_2 : decode cX9_unity 2 = .ok (.invokevirtual 74, 3) := by decide +kernel
theorem dX9_unity_5 : decode cX9_unity 5 = .ok (.aload_n 0, 1) := by decide +kernel
theorem dX9_unity_6 : decode cX9_unity 6 = .ok (.getfield 10, 3) := by decide +kernel
theorem dX9_unity_9 : decode cX9_unity 9 = .ok (.iload_n 1, 1) := by decide +kernel
theorem dX9_unity_10 : decode cX9_unity 10 = .ok (.invokevirtual 82, 3) := by decide +kernel
theorem dX9_unity_13 : decode cX9_unity 13 = .ok (.astore_n 2, 1) := by decide +kernel
theorem dX9_unity_14 : decode cX9_unity 14 = .ok (.aload_n 2, 1) := by decide +kernel
theorem dX9_unity_15 : decode cX9_unity 15 = .ok (.invokevirtual 94, 3) := by decide +kernel
theorem dX9_unity_18 : decode cX9_unity 18 = .ok (.ifCond .ne 10, 3) := by decide +kernel
theorem dX9_unity_21 : decode cX9_unity 21 = .ok (.aload_n 2, 1) := by decide +kernel
theorem dX9_unity_22 : decode cX9_unity 22 = .ok (.getfield 86, 3) := by decide +kernel
theorem dX9_unity_25 : decode cX9_unity 25 = .ok (.ifCond .eq 13, 3) := by decide +kernel
theorem dX9_unity_28 : decode cX9_unity 28 = .ok (.new 40, 3) := by decide +kernel
theorem dX9_unity_31 : decode cX9_unity 31 = .ok (.dup, 1) := by decide +kernel
theorem dX9_unity_32 : decode cX9_unity 32 = .ok (.ldc 106, 2) := by decide +kernel
theorem dX9_unity_34 : decode cX9_unity 34 = .ok (.invokespecial 44, 3) := by decide +kernel
theorem dX9_unity_37 : decode cX9_unity 37 = .ok (.athrow, 1) := by decide +kernel
theorem dX9_unity_38 : decode cX9_unity 38 = .ok (.aload_n 0, 1) := by decide +kernel
theorem dX9_unity_39 : decode cX9_unity 39 = .ok (.invokevirtual 67, 3) := by decide +kernel
theorem dX9_unity_42 : decode cX9_unity 42 = .ok (.aload_n 0, 1) := by decide +kernel
theorem dX9_unity_43 : decode cX9_unity 43 = .ok (.getfield 10, 3) := by decide +kernel
theorem dX9_unity_46 : decode cX9_unity 46 = .ok (.bipush 6, 2) := by decide +kernel
theorem dX9_unity_48 : decode cX9_unity 48 = .ok (.iload_n 1, 1) := by decide +kernel
theorem dX9_unity_49 : decode cX9_unity 49 = .ok (.iconst (-1), 1) := by decide +kernel
theorem dX9_unity_50 : decode cX9_unity 50 = .ok (.invokevirtual 79, 3) := by decide +kernel
theorem dX9_unity_53 : decode cX9_unity 53 = .ok (.ireturn, 1) := by decide +kernel
theorem dX9_precision_0 : decode cX9_precision 0 = .ok (.aload_n 0, 1) := by decide +kernel
theorem dX9_precision_1 : decode cX9_precision 1 = .ok (.iload_n 1, 1) := by decide +kernel
theorem dX9_precision_2 : decode cX9_precision 2 = .ok (.invokevirtual 74, 3) := by decide +kernel
theorem dX9_precision_5 : decode cX9_precision 5 = .ok (.aload_n 0, 1) := by decide +kernel
theorem dX9_precision_6 : decode cX9_precision 6 = .ok (.getfield 10, 3) := by decide +kernel
theorem dX9_precision_9 : decode cX9_precision 9 = .ok (.iload_n 1, 1) := by decide +kernel
theorem dX9_precision_10 : decode cX9_precision 10 = .ok (.invokevirtual 82, 3) := by decide +kernel
theorem dX9_precision_13 : decode cX9_precision 13 = .ok (.getfield 108, 3) := by decide +kernel
theorem dX9_precision_16 : decode cX9_precision 16 = .ok (.ireturn, 1) := by decide +kernel
theorem dX9_valuation_0 : decode cX9_valuation 0 = .ok (.aload_n 0, 1) := by decide +kernel
theorem dX9_valuation_1 : decode cX9_valuation 1 = .ok (.iload_n 1, 1) := by decide +kernel
theorem dX9_valuation_2 : decode cX9_valuation 2 = .ok (.invokevirtual 74, 3) := by decide +kernel
theorem dX9_valuation_5 : decode cX9_valuation 5 = .ok (.aload_n 0, 1) := by decide +kernel
theorem dX9_valuation_6 : decode cX9_valuation 6 = .ok (.getfield 10, 3) := by decide +kernel
theorem dX9_valuation_9 : decode cX9_valuation 9 = .ok (.iload_n 1, 1) := by decide +kernel
theorem dX9_valuation_10 : decode cX9_valuation 10 = .ok (.invokevirtual 82, 3) := by decide +kernel
theorem dX9_valuation_13 : decode cX9_valuation 13 = .ok (.getfield 86, 3) := by decide +kernel
theorem dX9_valuation_16 : decode cX9_valuation 16 = .ok (.ireturn, 1) := by decide +kernel
theorem dX9_digit_0 : decode cX9_digit 0 = .ok (.aload_n 0, 1) := by decide +kernel
theorem dX9_digit_1 : decode cX9_digit 1 = .ok (.iload_n 1, 1) := by decide +kernel
theorem dX9_digit_2 : decode cX9_digit 2 = .ok (.invokevirtual 74, 3) := by decide +kernel
theorem dX9_digit_5 : decode cX9_digit 5 = .ok (.aload_n 0, 1) := by decide +kernel
theorem dX9_digit_6 : decode cX9_digit 6 = .ok (.getfield 10, 3) := by decide +kernel
theorem dX9_digit_9 : decode cX9_digit 9 = .ok (.iload_n 1, 1) := by decide +kernel
theorem dX9_digit_10 : decode cX9_digit 10 = .ok (.invokevirtual 82, 3) := by decide +kernel
theorem dX9_digit_13 : decode cX9_digit 13 = .ok (.astore_n 3, 1) := by decide +kernel
theorem dX9_digit_14 : decode cX9_digit 14 = .ok (.iload_n 2, 1) := by decide +kernel
theorem dX9_digit_15 : decode cX9_digit 15 = .ok (.aload_n 3, 1) := by decide +kernel
theorem dX9_digit_16 : decode cX9_digit 16 = .ok (.getfield 108, 3) := by decide +kernel
theorem dX9_digit_19 : decode cX9_digit 19 = .ok (.if_icmp .lt 13, 3) := by decide +kernel
theorem dX9_digit_22 : decode cX9_digit 22 = .ok (.new 111, 3) := by decide +kernel
theorem dX9_digit_25 : decode cX9_digit 25 = .ok (.dup, 1) := by decide +kernel
theorem dX9_digit_26 : decode cX9_digit 26 = .ok (.ldc 113, 2) := by decide +kernel
theorem dX9_digit_28 : decode cX9_digit 28 = .ok (.invokespecial 115, 3) := by decide +kernel
theorem dX9_digit_31 : decode cX9_digit 31 = .ok (.athrow, 1) := by decide +kernel
theorem dX9_digit_32 : decode cX9_digit 32 = .ok (.aload_n 0, 1) := by decide +kernel
theorem dX9_digit_33 : decode cX9_digit 33 = .ok (.getfield 10, 3) := by decide +kernel
theorem dX9_digit_36 : decode cX9_digit 36 = .ok (.aload_n 3, 1) := by decide +kernel
theorem dX9_digit_37 : decode cX9_digit 37 = .ok (.iload_n 2, 1) := by decide +kernel
theorem dX9_digit_38 : decode cX9_digit 38 = .ok (.invokevirtual 116, 3) := by decide +kernel
theorem dX9_digit_41 : decode cX9_digit 41 = .ok (.ireturn, 1) := by decide +kernel
theorem dX9_refine_0 : decode cX9_refine 0 = .ok (.aload_n 0, 1) := by decide +kernel
theorem dX9_refine_1 : decode cX9_refine 1 = .ok (.iload_n 1, 1) := by decide +kernel
theorem dX9_refine_2 : decode cX9_refine 2 = .ok (.invokevirtual 74, 3) := by decide +kernel
theorem dX9_refine_5 : decode cX9_refine 5 = .ok (.iload_n 2, 1) := by decide +kernel
theorem dX9_refine_6 : decode cX9_refine 6 = .ok (.iconst 1, 1) := by decide +kernel
theorem dX9_refine_7 : decode cX9_refine 7 = .ok (.bipush 20, 2) := by decide +kernel
theorem dX9_refine_9 : decode cX9_refine 9 = .ok (.invokestatic 63, 3) := by decide +kernel
theorem dX9_refine_12 : decode cX9_refine 12 = .ok (.aload_n 0, 1) := by decide +kernel
theorem dX9_refine_13 : decode cX9_refine 13 = .ok (.getfield 10, 3) := by decide +kernel
theorem dX9_refine_16 : decode cX9_refine 16 = .ok (.iload_n 1, 1) := by decide +kernel
theorem dX9_refine_17 : decode cX9_refine 17 = .ok (.invokevirtual 120, 3) := by decide +kernel
theorem dX9_refine_20 : decode cX9_refine 20 = .ok (.ifCond .ne 13, 3) := by decide +kernel
theorem dX9_refine_23 : decode cX9_refine 23 = .ok (.new 40, 3) := by decide +kernel
theorem dX9_refine_26 : decode cX9_refine 26 = .ok (.dup, 1) := by decide +kernel
theorem dX9_refine_27 : decode cX9_refine 27 = .ok (.ldc 123, 2) := by decide +kernel
theorem dX9_refine_29 : decode cX9_refine 29 = .ok (.invokespecial 44, 3) := by decide +kernel
theorem dX9_refine_32 : decode cX9_refine 32 = .ok (.athrow, 1) := by decide +kernel
theorem dX9_refine_33 : decode cX9_refine 33 = .ok (.aload_n 0, 1) := by decide +kernel
theorem dX9_refine_34 : decode cX9_refine 34 = .ok (.getfield 10, 3) := by decide +kernel
theorem dX9_refine_37 : decode cX9_refine 37 = .ok (.iload_n 2, 1) := by decide +kernel
theorem dX9_refine_38 : decode cX9_refine 38 = .ok (.invokevirtual 125, 3) := by decide +kernel
theorem dX9_refine_41 : decode cX9_refine 41 = .ok (.aload_n 0, 1) := by decide +kernel
theorem dX9_refine_42 : decode cX9_refine 42 = .ok (.getfield 10, 3) := by decide +kernel
theorem dX9_refine_45 : decode cX9_refine 45 = .ok (.iload_n 1, 1) := by decide +kernel
theorem dX9_refine_46 : decode cX9_refine 46 = .ok (.invokevirtual 82, 3) := by decide +kernel
theorem dX9_refine_49 : decode cX9_refine 49 = .ok (.getfield 108, 3) := by decide +kernel
theorem dX9_refine_52 : decode cX9_refine 52 = .ok (.ireturn, 1) := by decide +kernel
theorem dX9_like_0 : decode cX9_like 0 = .ok (.aload_n 0, 1) := by decide +kernel
theorem dX9_like_1 : decode cX9_like 1 = .ok (.iload_n 1, 1) := by decide +kernel
theorem dX9_like_2 : decode cX9_like 2 = .ok (.invokevirtual 74, 3) := by decide +kernel
theorem dX9_like_5 : decode cX9_like 5 = .ok (.aload_n 0, 1) := by decide +kernel
theorem dX9_like_6 : decode cX9_like 6 = .ok (.getfield 10, 3) := by decide +kernel
theorem dX9_like_9 : decode cX9_like 9 = .ok (.iload_n 1, 1) := by decide +kernel
theorem dX9_like_10 : decode cX9_like 10 = .ok (.invokevirtual 128, 3) := by decide +kernel
theorem dX9_like_13 : decode cX9_like 13 = .ok (.ireturn, 1) := by decide +kernel
theorem dX9_agree_0 : decode cX9_agree 0 = .ok (.aload_n 0, 1) := by decide +kernel
theorem dX9_agree_1 : decode cX9_agree 1 = .ok (.iload_n 1, 1) := by decide +kernel
theorem dX9_agree_2 : decode cX9_agree 2 = .ok (.invokevirtual 74, 3) := by decide +kernel
theorem dX9_agree_5 : decode cX9_agree 5 = .ok (.aload_n 0, 1) := by decide +kernel
theorem dX9_agree_6 : decode cX9_agree 6 = .ok (.iload_n 2, 1) := by decide +kernel
theorem dX9_agree_7 : decode cX9_agree 7 = .ok (.invokevirtual 74, 3) := by decide +kernel
theorem dX9_agree_10 : decode cX9_agree 10 = .ok (.aload_n 0, 1) := by decide +kernel
theorem dX9_agree_11 : decode cX9_agree 11 = .ok (.getfield 10, 3) := by decide +kernel
theorem dX9_agree_14 : decode cX9_agree 14 = .ok (.aload_n 0, 1) := by decide +kernel
theorem dX9_agree_15 : decode cX9_agree 15 = .ok (.getfield 10, 3) := by decide +kernel
theorem dX9_agree_18 : decode cX9_agree 18 = .ok (.iload_n 1, 1) := by decide +kernel
theorem dX9_agree_19 : decode cX9_agree 19 = .ok (.invokevirtual 82, 3) := by decide +kernel
theorem dX9_agree_22 : decode cX9_agree 22 = .ok (.aload_n 0, 1) := by decide +kernel
theorem dX9_agree_23 : decode cX9_agree 23 = .ok (.getfield 10, 3) := by decide +kernel
theorem dX9_agree_26 : decode cX9_agree 26 = .ok (.iload_n 2, 1) := by decide +kernel
theorem dX9_agree_27 : decode cX9_agree 27 = .ok (.invokevirtual 82, 3) := by decide +kernel
theorem dX9_agree_30 : decode cX9_agree 30 = .ok (.invokevirtual 132, 3) := by decide +kernel
theorem dX9_agree_33 : decode cX9_agree 33 = .ok (.sipush 1000, 3) := by decide +kernel
theorem dX9_agree_36 : decode cX9_agree 36 = .ok (.if_icmp .ne 7, 3) := by decide +kernel
theorem dX9_agree_39 : decode cX9_agree 39 = .ok (.iconst 1, 1) := by decide +kernel
theorem dX9_agree_40 : decode cX9_agree 40 = .ok (.goto 4, 3) := by decide +kernel
theorem dX9_agree_43 : decode cX9_agree 43 = .ok (.iconst 0, 1) := by decide +kernel
theorem dX9_agree_44 : decode cX9_agree 44 = .ok (.ireturn, 1) := by decide +kernel
theorem dX9_numerator_0 : decode cX9_numerator 0 = .ok (.aload_n 0, 1) := by decide +kernel
theorem dX9_numerator_1 : decode cX9_numerator 1 = .ok (.iload_n 1, 1) := by decide +kernel
theorem dX9_numerator_2 : decode cX9_numerator 2 = .ok (.invokevirtual 74, 3) := by decide +kernel
theorem dX9_numerator_5 : decode cX9_numerator 5 = .ok (.aload_n 0, 1) := by decide +kernel
theorem dX9_numerator_6 : decode cX9_numerator 6 = .ok (.getfield 10, 3) := by decide +kernel
theorem dX9_numerator_9 : decode cX9_numerator 9 = .ok (.iload_n 1, 1) := by decide +kernel
theorem dX9_numerator_10 : decode cX9_numerator 10 = .ok (.invokevirtual 82, 3) := by decide +kernel
theorem dX9_numerator_13 : decode cX9_numerator 13 = .ok (.astore_n 2, 1) := by decide +kernel
theorem dX9_numerator_14 : decode cX9_numerator 14 = .ok (.aload_n 0, 1) := by decide +kernel
theorem dX9_numerator_15 : decode cX9_numerator 15 = .ok (.getfield 10, 3) := by decide +kernel
theorem dX9_numerator_18 : decode cX9_numerator 18 = .ok (.aload_n 2, 1) := by decide +kernel
theorem dX9_numerator_19 : decode cX9_numerator 19 = .ok (.aload_n 0, 1) := by decide +kernel
theorem dX9_numerator_20 : decode cX9_numerator 20 = .ok (.aload_n 2, 1) := by decide +kernel
theorem dX9_numerator_21 : decode cX9_numerator 21 = .ok (.invokevirtual 136, 3) := by decide +kernel
theorem dX9_numerator_24 : decode cX9_numerator 24 = .ok (.invokevirtual 140, 3) := by decide +kernel
theorem dX9_numerator_27 : decode cX9_numerator 27 = .ok (.l2i, 1) := by decide +kernel
theorem dX9_numerator_28 : decode cX9_numerator 28 = .ok (.ireturn, 1) := by decide +kernel
theorem dX9_denominator_0 : decode cX9_denominator 0 = .ok (.aload_n 0, 1) := by decide +kernel
theorem dX9_denominator_1 : decode cX9_denominator 1 = .ok (.iload_n 1, 1) := by decide +kernel
theorem dX9_denominator_2 : decode cX9_denominator 2 = .ok (.invokevirtual 74, 3) := by decide +kernel
theorem dX9_denominator_5 : decode cX9_denominator 5 = .ok (.aload_n 0, 1) := by decide +kernel
theorem dX9_denominator_6 : decode cX9_denominator 6 = .ok (.aload_n 0, 1) := by decide +kernel
theorem dX9_denominator_7 : decode cX9_denominator 7 = .ok (.getfield 10, 3) := by decide +kernel
theorem dX9_denominator_10 : decode cX9_denominator 10 = .ok (.iload_n 1, 1) := by decide +kernel
theorem dX9_denominator_11 : decode cX9_denominator 11 = .ok (.invokevirtual 82, 3) := by decide +kernel
theorem dX9_denominator_14 : decode cX9_denominator 14 = .ok (.invokevirtual 136, 3) := by decide +kernel
theorem dX9_denominator_17 : decode cX9_denominator 17 = .ok (.l2i, 1) := by decide +kernel
theorem dX9_denominator_18 : decode cX9_denominator 18 = .ok (.ireturn, 1) := by decide +kernel
theorem dX9_distance_0 : decode cX9_distance 0 = .ok (.aload_n 0, 1) := by decide +kernel
theorem dX9_distance_1 : decode cX9_distance 1 = .ok (.iload_n 1, 1) := by decide +kernel
theorem dX9_distance_2 : decode cX9_distance 2 = .ok (.invokevirtual 74, 3) := by decide +kernel
theorem dX9_distance_5 : decode cX9_distance 5 = .ok (.aload_n 0, 1) := by decide +kernel
theorem dX9_distance_6 : decode cX9_distance 6 = .ok (.iload_n 3, 1) := by decide +kernel
theorem dX9_distance_7 : decode cX9_distance 7 = .ok (.invokevirtual 74, 3) := by decide +kernel
theorem dX9_distance_10 : decode cX9_distance 10 = .ok (.aload_n 0, 1) := by decide +kernel
theorem dX9_distance_11 : decode cX9_distance 11 = .ok (.getfield 10, 3) := by decide +kernel
theorem dX9_distance_14 : decode cX9_distance 14 = .ok (.iload_n 1, 1) := by decide +kernel
theorem dX9_distance_15 : decode cX9_distance 15 = .ok (.invokevirtual 82, 3) := by decide +kernel
theorem dX9_distance_18 : decode cX9_distance 18 = .ok (.astore 5, 2) := by decide +kernel
theorem dX9_distance_20 : decode cX9_distance 20 = .ok (.aload_n 0, 1) := by decide +kernel
theorem dX9_distance_21 : decode cX9_distance 21 = .ok (.getfield 10, 3) := by decide +kernel
theorem dX9_distance_24 : decode cX9_distance 24 = .ok (.iload_n 3, 1) := by decide +kernel
theorem dX9_distance_25 : decode cX9_distance 25 = .ok (.invokevirtual 82, 3) := by decide +kernel
theorem dX9_distance_28 : decode cX9_distance 28 = .ok (.astore 6, 2) := by decide +kernel
theorem dX9_distance_30 : decode cX9_distance 30 = .ok (.iload_n 2, 1) := by decide +kernel
theorem dX9_distance_31 : decode cX9_distance 31 = .ok (.bipush (-60), 2) := by decide +kernel
theorem dX9_distance_33 : decode cX9_distance 33 = .ok (.aload 5, 2) := by decide +kernel
theorem dX9_distance_35 : decode cX9_distance 35 = .ok (.getfield 108, 3) := by decide +kernel
theorem dX9_distance_38 : decode cX9_distance 38 = .ok (.invokestatic 63, 3) := by decide +kernel
theorem dX9_distance_41 : decode cX9_distance 41 = .ok (.iload 4, 2) := by decide +kernel
theorem dX9_distance_43 : decode cX9_distance 43 = .ok (.bipush (-60), 2) := by decide +kernel
theorem dX9_distance_45 : decode cX9_distance 45 = .ok (.aload 6, 2) := by decide +kernel
theorem dX9_distance_47 : decode cX9_distance 47 = .ok (.getfield 108, 3) := by decide +kernel
theorem dX9_distance_50 : decode cX9_distance 50 = .ok (.invokestatic 63, 3) := by decide +kernel
theorem dX9_distance_53 : decode cX9_distance 53 = .ok (.iload_n 2, 1) := by decide +kernel
theorem dX9_distance_54 : decode cX9_distance 54 = .ok (.iload 4, 2) := by decide +kernel
theorem dX9_distance_56 : decode cX9_distance 56 = .ok (.invokestatic 144, 3) := by decide +kernel
theorem dX9_distance_59 : decode cX9_distance 59 = .ok (.aload_n 0, 1) := by decide +kernel
theorem dX9_distance_60 : decode cX9_distance 60 = .ok (.getfield 10, 3) := by decide +kernel
theorem dX9_distance_63 : decode cX9_distance 63 = .ok (.aload 5, 2) := by decide +kernel
theorem dX9_distance_65 : decode cX9_distance 65 = .ok (.aload 6, 2) := by decide +kernel
theorem dX9_distance_67 : decode cX9_distance 67 = .ok (.invokevirtual 132, 3) := by decide +kernel
theorem dX9_distance_70 : decode cX9_distance 70 = .ok (.invokestatic 144, 3) := by decide +kernel
theorem dX9_distance_73 : decode cX9_distance 73 = .ok (.istore 7, 2) := by decide +kernel
theorem dX9_distance_75 : decode cX9_distance 75 = .ok (.iload_n 2, 1) := by decide +kernel
theorem dX9_distance_76 : decode cX9_distance 76 = .ok (.iload 7, 2) := by decide +kernel
theorem dX9_distance_78 : decode cX9_distance 78 = .ok (.isub, 1) := by decide +kernel
theorem dX9_distance_79 : decode cX9_distance 79 = .ok (.iload 4, 2) := by decide +kernel
theorem dX9_distance_81 : decode cX9_distance 81 = .ok (.iadd, 1) := by decide +kernel
theorem dX9_distance_82 : decode cX9_distance 82 = .ok (.iload 7, 2) := by decide +kernel
theorem dX9_distance_84 : decode cX9_distance 84 = .ok (.isub, 1) := by decide +kernel
theorem dX9_distance_85 : decode cX9_distance 85 = .ok (.ireturn, 1) := by decide +kernel
theorem dX9_begin_0 : decode cX9_begin 0 = .ok (.iload_n 1, 1) := by decide +kernel
theorem dX9_begin_1 : decode cX9_begin 1 = .ok (.invokestatic 150, 3) := by decide +kernel
theorem dX9_begin_4 : decode cX9_begin 4 = .ok (.aload_n 0, 1) := by decide +kernel
theorem dX9_begin_5 : decode cX9_begin 5 = .ok (.getfield 10, 3) := by decide +kernel
theorem dX9_begin_8 : decode cX9_begin 8 = .ok (.getfield 153, 3) := by decide +kernel
theorem dX9_begin_11 : decode cX9_begin 11 = .ok (.invokevirtual 157, 3) := by decide +kernel
theorem dX9_begin_14 : decode cX9_begin 14 = .ok (.ifCond .eq 13, 3) := by decide +kernel
theorem dX9_begin_17 : decode cX9_begin 17 = .ok (.new 162, 3) := by decide +kernel
theorem dX9_begin_20 : decode cX9_begin 20 = .ok (.dup, 1) := by decide +kernel
theorem dX9_begin_21 : decode cX9_begin 21 = .ok (.ldc 164, 2) := by decide +kernel
theorem dX9_begin_23 : decode cX9_begin 23 = .ok (.invokespecial 166, 3) := by decide +kernel
theorem dX9_begin_26 : decode cX9_begin 26 = .ok (.athrow, 1) := by decide +kernel
theorem dX9_begin_27 : decode cX9_begin 27 = .ok (.aload_n 0, 1) := by decide +kernel
theorem dX9_begin_28 : decode cX9_begin 28 = .ok (.getfield 10, 3) := by decide +kernel
theorem dX9_begin_31 : decode cX9_begin 31 = .ok (.getfield 153, 3) := by decide +kernel
theorem dX9_begin_34 : decode cX9_begin 34 = .ok (.iload_n 1, 1) := by decide +kernel
theorem dX9_begin_35 : decode cX9_begin 35 = .ok (.invokevirtual 167, 3) := by decide +kernel
theorem dX9_begin_38 : decode cX9_begin 38 = .ok (.ireturn, 1) := by decide +kernel
theorem dX9_term_0 : decode cX9_term 0 = .ok (.aload_n 0, 1) := by decide +kernel
theorem dX9_term_1 : decode cX9_term 1 = .ok (.iload_n 1, 1) := by decide +kernel
theorem dX9_term_2 : decode cX9_term 2 = .ok (.invokevirtual 170, 3) := by decide +kernel
theorem dX9_term_5 : decode cX9_term 5 = .ok (.aload_n 0, 1) := by decide +kernel
theorem dX9_term_6 : decode cX9_term 6 = .ok (.getfield 10, 3) := by decide +kernel
theorem dX9_term_9 : decode cX9_term 9 = .ok (.getfield 153, 3) := by decide +kernel
theorem dX9_term_12 : decode cX9_term 12 = .ok (.iload_n 1, 1) := by decide +kernel
theorem dX9_term_13 : decode cX9_term 13 = .ok (.invokevirtual 173, 3) := by decide +kernel
theorem dX9_term_16 : decode cX9_term 16 = .ok (.astore 4, 2) := by decide +kernel
theorem dX9_term_18 : decode cX9_term 18 = .ok (.iload_n 2, 1) := by decide +kernel
theorem dX9_term_19 : decode cX9_term 19 = .ok (.aload 4, 2) := by decide +kernel
theorem dX9_term_21 : decode cX9_term 21 = .ok (.getfield 177, 3) := by decide +kernel
theorem dX9_term_24 : decode cX9_term 24 = .ok (.bipush 6, 2) := by decide +kernel
theorem dX9_term_26 : decode cX9_term 26 = .ok (.invokestatic 63, 3) := by decide +kernel
theorem dX9_term_29 : decode cX9_term 29 = .ok (.iload_n 3, 1) := by decide +kernel
theorem dX9_term_30 : decode cX9_term 30 = .ok (.invokestatic 150, 3) := by decide +kernel
theorem dX9_term_33 : decode cX9_term 33 = .ok (.aload 4, 2) := by decide +kernel
theorem dX9_term_35 : decode cX9_term 35 = .ok (.iload_n 2, 1) := by decide +kernel
theorem dX9_term_36 : decode cX9_term 36 = .ok (.iload_n 3, 1) := by decide +kernel
theorem dX9_term_37 : decode cX9_term 37 = .ok (.invokevirtual 180, 3) := by decide +kernel
theorem dX9_term_40 : decode cX9_term 40 = .ok (.aload 4, 2) := by decide +kernel
theorem dX9_term_42 : decode cX9_term 42 = .ok (.invokevirtual 184, 3) := by decide +kernel
theorem dX9_term_45 : decode cX9_term 45 = .ok (.ireturn, 1) := by decide +kernel
theorem dX9_sides_0 : decode cX9_sides 0 = .ok (.aload_n 0, 1) := by decide +kernel
theorem dX9_sides_1 : decode cX9_sides 1 = .ok (.iload_n 1, 1) := by decide +kernel
theorem dX9_sides_2 : decode cX9_sides 2 = .ok (.invokevirtual 170, 3) := by decide +kernel
theorem dX9_sides_5 : decode cX9_sides 5 = .ok (.aload_n 0, 1) := by decide +kernel
theorem dX9_sides_6 : decode cX9_sides 6 = .ok (.getfield 10, 3) := by decide +kernel
theorem dX9_sides_9 : decode cX9_sides 9 = .ok (.getfield 153, 3) := by decide +kernel
theorem dX9_sides_12 : decode cX9_sides 12 = .ok (.iload_n 1, 1) := by decide +kernel
theorem dX9_sides_13 : decode cX9_sides 13 = .ok (.invokevirtual 173, 3) := by decide +kernel
theorem dX9_sides_16 : decode cX9_sides 16 = .ok (.aload_n 0, 1) := by decide +kernel
theorem dX9_sides_17 : decode cX9_sides 17 = .ok (.getfield 10, 3) := by decide +kernel
theorem dX9_sides_20 : decode cX9_sides 20 = .ok (.getfield 45, 3) := by decide +kernel
theorem dX9_sides_23 : decode cX9_sides 23 = .ok (.getfield 49, 3) := by decide +kernel
theorem dX9_sides_26 : decode cX9_sides 26 = .ok (.invokevirtual 188, 3) := by decide +kernel
theorem dX9_sides_29 : decode cX9_sides 29 = .ok (.ireturn, 1) := by decide +kernel
theorem dX9_length_0 : decode cX9_length 0 = .ok (.aload_n 0, 1) := by decide +kernel
theorem dX9_length_1 : decode cX9_length 1 = .ok (.iload_n 1, 1) := by decide +kernel
theorem dX9_length_2 : decode cX9_length 2 = .ok (.iload_n 2, 1) := by decide +kernel
theorem dX9_length_3 : decode cX9_length 3 = .ok (.invokevirtual 191, 3) := by decide +kernel
theorem dX9_length_6 : decode cX9_length 6 = .ok (.aload_n 0, 1) := by decide +kernel
theorem dX9_length_7 : decode cX9_length 7 = .ok (.getfield 10, 3) := by decide +kernel
theorem dX9_length_10 : decode cX9_length 10 = .ok (.getfield 153, 3) := by decide +kernel
theorem dX9_length_13 : decode cX9_length 13 = .ok (.iload_n 1, 1) := by decide +kernel
theorem dX9_length_14 : decode cX9_length 14 = .ok (.invokevirtual 173, 3) := by decide +kernel
theorem dX9_length_17 : decode cX9_length 17 = .ok (.astore_n 3, 1) := by decide +kernel
theorem dX9_length_18 : decode cX9_length 18 = .ok (.aload_n 3, 1) := by decide +kernel
theorem dX9_length_19 : decode cX9_length 19 = .ok (.iload_n 2, 1) := by decide +kernel
theorem dX9_length_20 : decode cX9_length 20 = .ok (.aload_n 0, 1) := by decide +kernel
theorem dX9_length_21 : decode cX9_length 21 = .ok (.getfield 10, 3) := by decide +kernel
theorem dX9_length_24 : decode cX9_length 24 = .ok (.getfield 45, 3) := by decide +kernel
theorem dX9_length_27 : decode cX9_length 27 = .ok (.getfield 49, 3) := by decide +kernel
theorem dX9_length_30 : decode cX9_length 30 = .ok (.invokevirtual 194, 3) := by decide +kernel
theorem dX9_length_33 : decode cX9_length 33 = .ok (.istore 4, 2) := by decide +kernel
theorem dX9_length_35 : decode cX9_length 35 = .ok (.aload_n 3, 1) := by decide +kernel
theorem dX9_length_36 : decode cX9_length 36 = .ok (.iload 4, 2) := by decide +kernel
theorem dX9_length_38 : decode cX9_length 38 = .ok (.aload_n 0, 1) := by decide +kernel
theorem dX9_length_39 : decode cX9_length 39 = .ok (.getfield 10, 3) := by decide +kernel
theorem dX9_length_42 : decode cX9_length 42 = .ok (.getfield 45, 3) := by decide +kernel
theorem dX9_length_45 : decode cX9_length 45 = .ok (.getfield 49, 3) := by decide +kernel
theorem dX9_length_48 : decode cX9_length 48 = .ok (.invokevirtual 197, 3) := by decide +kernel
theorem dX9_length_51 : decode cX9_length 51 = .ok (.iload 4, 2) := by decide +kernel
theorem dX9_length_53 : decode cX9_length 53 = .ok (.isub, 1) := by decide +kernel
theorem dX9_length_54 : decode cX9_length 54 = .ok (.ireturn, 1) := by decide +kernel
theorem dX9_slope_0 : decode cX9_slope 0 = .ok (.aload_n 0, 1) := by decide +kernel
theorem dX9_slope_1 : decode cX9_slope 1 = .ok (.iload_n 1, 1) := by decide +kernel
theorem dX9_slope_2 : decode cX9_slope 2 = .ok (.iload_n 2, 1) := by decide +kernel
theorem dX9_slope_3 : decode cX9_slope 3 = .ok (.invokevirtual 191, 3) := by decide +kernel
theorem dX9_slope_6 : decode cX9_slope 6 = .ok (.aload_n 0, 1) := by decide +kernel
theorem dX9_slope_7 : decode cX9_slope 7 = .ok (.getfield 10, 3) := by decide +kernel
theorem dX9_slope_10 : decode cX9_slope 10 = .ok (.getfield 153, 3) := by decide +kernel
theorem dX9_slope_13 : decode cX9_slope 13 = .ok (.iload_n 1, 1) := by decide +kernel
theorem dX9_slope_14 : decode cX9_slope 14 = .ok (.invokevirtual 173, 3) := by decide +kernel
theorem dX9_slope_17 : decode cX9_slope 17 = .ok (.astore_n 3, 1) := by decide +kernel
theorem dX9_slope_18 : decode cX9_slope 18 = .ok (.aload_n 3, 1) := by decide +kernel
theorem dX9_slope_19 : decode cX9_slope 19 = .ok (.aload_n 3, 1) := by decide +kernel
theorem dX9_slope_20 : decode cX9_slope 20 = .ok (.iload_n 2, 1) := by decide +kernel
theorem dX9_slope_21 : decode cX9_slope 21 = .ok (.aload_n 0, 1) := by decide +kernel
theorem dX9_slope_22 : decode cX9_slope 22 = .ok (.getfield 10, 3) := by decide +kernel
theorem dX9_slope_25 : decode cX9_slope 25 = .ok (.getfield 45, 3) := by decide +kernel
theorem dX9_slope_28 : decode cX9_slope 28 = .ok (.getfield 49, 3) := by decide +kernel
theorem dX9_slope_31 : decode cX9_slope 31 = .ok (.invokevirtual 194, 3) := by decide +kernel
theorem dX9_slope_34 : decode cX9_slope 34 = .ok (.aload_n 0, 1) := by decide +kernel
theorem dX9_slope_35 : decode cX9_slope 35 = .ok (.getfield 10, 3) := by decide +kernel
theorem dX9_slope_38 : decode cX9_slope 38 = .ok (.getfield 45, 3) := by decide +kernel
theorem dX9_slope_41 : decode cX9_slope 41 = .ok (.getfield 49, 3) := by decide +kernel
theorem dX9_slope_44 : decode cX9_slope 44 = .ok (.invokevirtual 200, 3) := by decide +kernel
theorem dX9_slope_47 : decode cX9_slope 47 = .ok (.ireturn, 1) := by decide +kernel
theorem dX9_residue_0 : decode cX9_residue 0 = .ok (.aload_n 0, 1) := by decide +kernel
theorem dX9_residue_1 : decode cX9_residue 1 = .ok (.iload_n 1, 1) := by decide +kernel
theorem dX9_residue_2 : decode cX9_residue 2 = .ok (.invokevirtual 170, 3) := by decide +kernel
theorem dX9_residue_5 : decode cX9_residue 5 = .ok (.iload_n 2, 1) := by decide +kernel
theorem dX9_residue_6 : decode cX9_residue 6 = .ok (.iconst 0, 1) := by decide +kernel
theorem dX9_residue_7 : decode cX9_residue 7 = .ok (.aload_n 0, 1) := by decide +kernel
theorem dX9_residue_8 : decode cX9_residue 8 = .ok (.getfield 10, 3) := by decide +kernel
theorem dX9_residue_11 : decode cX9_residue 11 = .ok (.getfield 45, 3) := by decide +kernel
theorem dX9_residue_14 : decode cX9_residue 14 = .ok (.getfield 49, 3) := by decide +kernel
theorem dX9_residue_17 : decode cX9_residue 17 = .ok (.iconst 1, 1) := by decide +kernel
theorem dX9_residue_18 : decode cX9_residue 18 = .ok (.isub, 1) := by decide +kernel
theorem dX9_residue_19 : decode cX9_residue 19 = .ok (.invokestatic 63, 3) := by decide +kernel
theorem dX9_residue_22 : decode cX9_residue 22 = .ok (.aload_n 0, 1) := by decide +kernel
theorem dX9_residue_23 : decode cX9_residue 23 = .ok (.getfield 10, 3) := by decide +kernel
theorem dX9_residue_26 : decode cX9_residue 26 = .ok (.getfield 153, 3) := by decide +kernel
theorem dX9_residue_29 : decode cX9_residue 29 = .ok (.iload_n 1, 1) := by decide +kernel
theorem dX9_residue_30 : decode cX9_residue 30 = .ok (.invokevirtual 173, 3) := by decide +kernel
theorem dX9_residue_33 : decode cX9_residue 33 = .ok (.iload_n 2, 1) := by decide +kernel
theorem dX9_residue_34 : decode cX9_residue 34 = .ok (.aload_n 0, 1) := by decide +kernel
theorem dX9_residue_35 : decode cX9_residue 35 = .ok (.getfield 10, 3) := by decide +kernel
theorem dX9_residue_38 : decode cX9_residue 38 = .ok (.getfield 45, 3) := by decide +kernel
theorem dX9_residue_41 : decode cX9_residue 41 = .ok (.getfield 49, 3) := by decide +kernel
theorem dX9_residue_44 : decode cX9_residue 44 = .ok (.invokevirtual 203, 3) := by decide +kernel
theorem dX9_residue_47 : decode cX9_residue 47 = .ok (.ireturn, 1) := by decide +kernel
theorem dX9_lift_0 : decode cX9_lift 0 = .ok (.aload_n 0, 1) := by decide +kernel
theorem dX9_lift_1 : decode cX9_lift 1 = .ok (.iload_n 1, 1) := by decide +kernel
theorem dX9_lift_2 : decode cX9_lift 2 = .ok (.invokevirtual 170, 3) := by decide +kernel
theorem dX9_lift_5 : decode cX9_lift 5 = .ok (.iload_n 2, 1) := by decide +kernel
theorem dX9_lift_6 : decode cX9_lift 6 = .ok (.iconst 0, 1) := by decide +kernel
theorem dX9_lift_7 : decode cX9_lift 7 = .ok (.aload_n 0, 1) := by decide +kernel
theorem dX9_lift_8 : decode cX9_lift 8 = .ok (.getfield 10, 3) := by decide +kernel
theorem dX9_lift_11 : decode cX9_lift 11 = .ok (.getfield 45, 3) := by decide +kernel
theorem dX9_lift_14 : decode cX9_lift 14 = .ok (.getfield 49, 3) := by decide +kernel
theorem dX9_lift_17 : decode cX9_lift 17 = .ok (.iconst 1, 1) := by decide +kernel
theorem dX9_lift_18 : decode cX9_lift 18 = .ok (.isub, 1) := by decide +kernel
theorem dX9_lift_19 : decode cX9_lift 19 = .ok (.invokestatic 63, 3) := by decide +kernel
theorem dX9_lift_22 : decode cX9_lift 22 = .ok (.iload_n 3, 1) := by decide +kernel
theorem dX9_lift_23 : decode cX9_lift 23 = .ok (.iconst 1, 1) := by decide +kernel
theorem dX9_lift_24 : decode cX9_lift 24 = .ok (.aload_n 0, 1) := by decide +kernel
theorem dX9_lift_25 : decode cX9_lift 25 = .ok (.getfield 10, 3) := by decide +kernel
theorem dX9_lift_28 : decode cX9_lift 28 = .ok (.getfield 45, 3) := by decide +kernel
theorem dX9_lift_31 : decode cX9_lift 31 = .ok (.getfield 58, 3) := by decide +kernel
theorem dX9_lift_34 : decode cX9_lift 34 = .ok (.invokestatic 63, 3) := by decide +kernel
theorem dX9_lift_37 : decode cX9_lift 37 = .ok (.aload_n 0, 1) := by decide +kernel
theorem dX9_lift_38 : decode cX9_lift 38 = .ok (.getfield 10, 3) := by decide +kernel
theorem dX9_lift_41 : decode cX9_lift 41 = .ok (.getfield 153, 3) := by decide +kernel
theorem dX9_lift_44 : decode cX9_lift 44 = .ok (.iload_n 1, 1) := by decide +kernel
theorem dX9_lift_45 : decode cX9_lift 45 = .ok (.invokevirtual 173, 3) := by decide +kernel
theorem dX9_lift_48 : decode cX9_lift 48 = .ok (.iload_n 2, 1) := by decide +kernel
theorem dX9_lift_49 : decode cX9_lift 49 = .ok (.aload_n 0, 1) := by decide +kernel
theorem dX9_lift_50 : decode cX9_lift 50 = .ok (.getfield 10, 3) := by decide +kernel
theorem dX9_lift_53 : decode cX9_lift 53 = .ok (.getfield 45, 3) := by decide +kernel
theorem dX9_lift_56 : decode cX9_lift 56 = .ok (.getfield 49, 3) := by decide +kernel
theorem dX9_lift_59 : decode cX9_lift 59 = .ok (.invokevirtual 203, 3) := by decide +kernel
theorem dX9_lift_62 : decode cX9_lift 62 = .ok (.bipush 115, 2) := by decide +kernel
theorem dX9_lift_64 : decode cX9_lift 64 = .ok (.if_icmp .eq 13, 3) := by decide +kernel
theorem dX9_lift_67 : decode cX9_lift 67 = .ok (.new 40, 3) := by decide +kernel
theorem dX9_lift_70 : decode cX9_lift 70 = .ok (.dup, 1) := by decide +kernel
theorem dX9_lift_71 : decode cX9_lift 71 = .ok (.ldc 207, 2) := by decide +kernel
theorem dX9_lift_73 : decode cX9_lift 73 = .ok (.invokespecial 44, 3) := by decide +kernel
theorem dX9_lift_76 : decode cX9_lift 76 = .ok (.athrow, 1) := by decide +kernel
theorem dX9_lift_77 : decode cX9_lift 77 = .ok (.aload_n 0, 1) := by decide +kernel
theorem dX9_lift_78 : decode cX9_lift 78 = .ok (.invokevirtual 67, 3) := by decide +kernel
theorem dX9_lift_81 : decode cX9_lift 81 = .ok (.aload_n 0, 1) := by decide +kernel
theorem dX9_lift_82 : decode cX9_lift 82 = .ok (.getfield 10, 3) := by decide +kernel
theorem dX9_lift_85 : decode cX9_lift 85 = .ok (.iload_n 1, 1) := by decide +kernel
theorem dX9_lift_86 : decode cX9_lift 86 = .ok (.iload_n 2, 1) := by decide +kernel
theorem dX9_lift_87 : decode cX9_lift 87 = .ok (.iload_n 3, 1) := by decide +kernel
theorem dX9_lift_88 : decode cX9_lift 88 = .ok (.invokevirtual 209, 3) := by decide +kernel
theorem dX9_lift_91 : decode cX9_lift 91 = .ok (.ireturn, 1) := by decide +kernel
theorem dX9_rootsModulo_0 : decode cX9_rootsModulo 0 = .ok (.aload_n 0, 1) := by decide +kernel
theorem dX9_rootsModulo_1 : decode cX9_rootsModulo 1 = .ok (.iload_n 1, 1) := by decide +kernel
theorem dX9_rootsModulo_2 : decode cX9_rootsModulo 2 = .ok (.invokevirtual 170, 3) := by decide +kernel
theorem dX9_rootsModulo_5 : decode cX9_rootsModulo 5 = .ok (.iload_n 2, 1) := by decide +kernel
theorem dX9_rootsModulo_6 : decode cX9_rootsModulo 6 = .ok (.iconst 1, 1) := by decide +kernel
theorem dX9_rootsModulo_7 : decode cX9_rootsModulo 7 = .ok (.aload_n 0, 1) := by decide +kernel
theorem dX9_rootsModulo_8 : decode cX9_rootsModulo 8 = .ok (.getfield 10, 3) := by decide +kernel
theorem dX9_rootsModulo_11 : decode cX9_rootsModulo 11 = .ok (.getfield 45, 3) := by decide +kernel
theorem dX9_rootsModulo_14 : decode cX9_rootsModulo 14 = .ok (.getfield 58, 3) := by decide +kernel
theorem dX9_rootsModulo_17 : decode cX9_rootsModulo 17 = .ok (.invokestatic 63, 3) := by decide +kernel
theorem dX9_rootsModulo_20 : decode cX9_rootsModulo 20 = .ok (.aload_n 0, 1) := by decide +kernel
theorem dX9_rootsModulo_21 : decode cX9_rootsModulo 21 = .ok (.getfield 10, 3) := by decide +kernel
theorem dX9_rootsModulo_24 : decode cX9_rootsModulo 24 = .ok (.getfield 45, 3) := by decide +kernel
theorem dX9_rootsModulo_27 : decode cX9_rootsModulo 27 = .ok (.iload_n 2, 1) := by decide +kernel
theorem dX9_rootsModulo_28 : decode cX9_rootsModulo 28 = .ok (.invokevirtual 212, 3) := by decide +kernel
theorem dX9_rootsModulo_31 : decode cX9_rootsModulo 31 = .ok (.lstore_n 3, 1) := by decide +kernel
theorem dX9_rootsModulo_32 : decode cX9_rootsModulo 32 = .ok (.lload_n 3, 1) := by decide +kernel
theorem dX9_rootsModulo_33 : decode cX9_rootsModulo 33 = .ok (.ldc2_w 216, 3) := by decide +kernel
theorem dX9_rootsModulo_36 : decode cX9_rootsModulo 36 = .ok (.lcmp, 1) := by decide +kernel
theorem dX9_rootsModulo_37 : decode cX9_rootsModulo 37 = .ok (.ifCond .le 13, 3) := by decide +kernel
theorem dX9_rootsModulo_40 : decode cX9_rootsModulo 40 = .ok (.new 29, 3) := by decide +kernel
theorem dX9_rootsModulo_43 : decode cX9_rootsModulo 43 = .ok (.dup, 1) := by decide +kernel
theorem dX9_rootsModulo_44 : decode cX9_rootsModulo 44 = .ok (.ldc 218, 2) := by decide +kernel
theorem dX9_rootsModulo_46 : decode cX9_rootsModulo 46 = .ok (.invokespecial 33, 3) := by decide +kernel
theorem dX9_rootsModulo_49 : decode cX9_rootsModulo 49 = .ok (.athrow, 1) := by decide +kernel
theorem dX9_rootsModulo_50 : decode cX9_rootsModulo 50 = .ok (.aload_n 0, 1) := by decide +kernel
theorem dX9_rootsModulo_51 : decode cX9_rootsModulo 51 = .ok (.getfield 10, 3) := by decide +kernel
theorem dX9_rootsModulo_54 : decode cX9_rootsModulo 54 = .ok (.getfield 153, 3) := by decide +kernel
theorem dX9_rootsModulo_57 : decode cX9_rootsModulo 57 = .ok (.iload_n 1, 1) := by decide +kernel
theorem dX9_rootsModulo_58 : decode cX9_rootsModulo 58 = .ok (.invokevirtual 173, 3) := by decide +kernel
theorem dX9_rootsModulo_61 : decode cX9_rootsModulo 61 = .ok (.lload_n 3, 1) := by decide +kernel
theorem dX9_rootsModulo_62 : decode cX9_rootsModulo 62 = .ok (.l2i, 1) := by decide +kernel
theorem dX9_rootsModulo_63 : decode cX9_rootsModulo 63 = .ok (.invokevirtual 220, 3) := by decide +kernel
theorem dX9_rootsModulo_66 : decode cX9_rootsModulo 66 = .ok (.ireturn, 1) := by decide +kernel
theorem dX9_symbol_0 : decode cX9_symbol 0 = .ok (.iload_n 1, 1) := by decide +kernel
theorem dX9_symbol_1 : decode cX9_symbol 1 = .ok (.invokestatic 150, 3) := by decide +kernel
theorem dX9_symbol_4 : decode cX9_symbol 4 = .ok (.iload_n 2, 1) := by decide +kernel
theorem dX9_symbol_5 : decode cX9_symbol 5 = .ok (.invokestatic 150, 3) := by decide +kernel
theorem dX9_symbol_8 : decode cX9_symbol 8 = .ok (.iload_n 3, 1) := by decide +kernel
theorem dX9_symbol_9 : decode cX9_symbol 9 = .ok (.iconst 0, 1) := by decide +kernel
theorem dX9_symbol_10 : decode cX9_symbol 10 = .ok (.sipush 10000, 3) := by decide +kernel
theorem dX9_symbol_13 : decode cX9_symbol 13 = .ok (.invokestatic 63, 3) := by decide +kernel
theorem dX9_symbol_16 : decode cX9_symbol 16 = .ok (.iload_n 3, 1) := by decide +kernel
theorem dX9_symbol_17 : decode cX9_symbol 17 = .ok (.ifCond .eq 20, 3) := by decide +kernel
theorem dX9_symbol_20 : decode cX9_symbol 20 = .ok (.iload_n 3, 1) := by decide +kernel
theorem dX9_symbol_21 : decode cX9_symbol 21 = .ok (.invokestatic 23, 3) := by decide +kernel
theorem dX9_symbol_24 : decode cX9_symbol 24 = .ok (.ifCond .ne 13, 3) := by decide +kernel
theorem dX9_symbol_27 : decode cX9_symbol 27 = .ok (.new 29, 3) := by decide +kernel
theorem dX9_symbol_30 : decode cX9_symbol 30 = .ok (.dup, 1) := by decide +kernel
theorem dX9_symbol_31 : decode cX9_symbol 31 = .ok (.ldc 223, 2) := by decide +kernel
theorem dX9_symbol_33 : decode cX9_symbol 33 = .ok (.invokespecial 33, 3) := by decide +kernel
theorem dX9_symbol_36 : decode cX9_symbol 36 = .ok (.athrow, 1) := by decide +kernel
theorem dX9_symbol_37 : decode cX9_symbol 37 = .ok (.iload_n 1, 1) := by decide +kernel
theorem dX9_symbol_38 : decode cX9_symbol 38 = .ok (.iload_n 2, 1) := by decide +kernel
theorem dX9_symbol_39 : decode cX9_symbol 39 = .ok (.iload_n 3, 1) := by decide +kernel
theorem dX9_symbol_40 : decode cX9_symbol 40 = .ok (.invokestatic 225, 3) := by decide +kernel
theorem dX9_symbol_43 : decode cX9_symbol 43 = .ok (.ireturn, 1) := by decide +kernel
theorem dX9_obstacle_0 : decode cX9_obstacle 0 = .ok (.iload_n 1, 1) := by decide +kernel
theorem dX9_obstacle_1 : decode cX9_obstacle 1 = .ok (.invokestatic 150, 3) := by decide +kernel
theorem dX9_obstacle_4 : decode cX9_obstacle 4 = .ok (.iload_n 2, 1) := by decide +kernel
theorem dX9_obstacle_5 : decode cX9_obstacle 5 = .ok (.invokestatic 150, 3) := by decide +kernel
theorem dX9_obstacle_8 : decode cX9_obstacle 8 = .ok (.iload_n 1, 1) := by decide +kernel
theorem dX9_obstacle_9 : decode cX9_obstacle 9 = .ok (.iload_n 2, 1) := by decide +kernel
theorem dX9_obstacle_10 : decode cX9_obstacle 10 = .ok (.sipush 10000, 3) := by decide +kernel
theorem dX9_obstacle_13 : decode cX9_obstacle 13 = .ok (.invokestatic 230, 3) := by decide +kernel
theorem dX9_obstacle_16 : decode cX9_obstacle 16 = .ok (.istore_n 3, 1) := by decide +kernel
theorem dX9_obstacle_17 : decode cX9_obstacle 17 = .ok (.iload_n 3, 1) := by decide +kernel
theorem dX9_obstacle_18 : decode cX9_obstacle 18 = .ok (.ifCond .ge 13, 3) := by decide +kernel
theorem dX9_obstacle_21 : decode cX9_obstacle 21 = .ok (.new 111, 3) := by decide +kernel
theorem dX9_obstacle_24 : decode cX9_obstacle 24 = .ok (.dup, 1) := by decide +kernel
theorem dX9_obstacle_25 : decode cX9_obstacle 25 = .ok (.ldc 233, 2) := by decide +kernel
theorem dX9_obstacle_27 : decode cX9_obstacle 27 = .ok (.invokespecial 115, 3) := by decide +kernel
theorem dX9_obstacle_30 : decode cX9_obstacle 30 = .ok (.athrow, 1) := by decide +kernel
theorem dX9_obstacle_31 : decode cX9_obstacle 31 = .ok (.iload_n 3, 1) := by decide +kernel
theorem dX9_obstacle_32 : decode cX9_obstacle 32 = .ok (.ireturn, 1) := by decide +kernel
theorem dX9_setSize_0 : decode cX9_setSize 0 = .ok (.iload_n 1, 1) := by decide +kernel
theorem dX9_setSize_1 : decode cX9_setSize 1 = .ok (.iconst 1, 1) := by decide +kernel
theorem dX9_setSize_2 : decode cX9_setSize 2 = .ok (.iconst 4, 1) := by decide +kernel
theorem dX9_setSize_3 : decode cX9_setSize 3 = .ok (.invokestatic 63, 3) := by decide +kernel
theorem dX9_setSize_6 : decode cX9_setSize 6 = .ok (.aload_n 0, 1) := by decide +kernel
theorem dX9_setSize_7 : decode cX9_setSize 7 = .ok (.getfield 19, 3) := by decide +kernel
theorem dX9_setSize_10 : decode cX9_setSize 10 = .ok (.getfield 235, 3) := by decide +kernel
theorem dX9_setSize_13 : decode cX9_setSize 13 = .ok (.istore_n 2, 1) := by decide +kernel
theorem dX9_setSize_14 : decode cX9_setSize 14 = .ok (.aload_n 0, 1) := by decide +kernel
theorem dX9_setSize_15 : decode cX9_setSize 15 = .ok (.getfield 19, 3) := by decide +kernel
theorem dX9_setSize_18 : decode cX9_setSize 18 = .ok (.iload_n 1, 1) := by decide +kernel
theorem dX9_setSize_19 : decode cX9_setSize 19 = .ok (.invokevirtual 238, 3) := by decide +kernel
theorem dX9_setSize_22 : decode cX9_setSize 22 = .ok (.iload_n 2, 1) := by decide +kernel
theorem dX9_setSize_23 : decode cX9_setSize 23 = .ok (.ireturn, 1) := by decide +kernel
theorem dX9_setEntry_0 : decode cX9_setEntry 0 = .ok (.aload_n 0, 1) := by decide +kernel
theorem dX9_setEntry_1 : decode cX9_setEntry 1 = .ok (.getfield 19, 3) := by decide +kernel
theorem dX9_setEntry_4 : decode cX9_setEntry 4 = .ok (.iload_n 1, 1) := by decide +kernel
theorem dX9_setEntry_5 : decode cX9_setEntry 5 = .ok (.iload_n 2, 1) := by decide +kernel
theorem dX9_setEntry_6 : decode cX9_setEntry 6 = .ok (.invokevirtual 241, 3) := by decide +kernel
theorem dX9_setEntry_9 : decode cX9_setEntry 9 = .ok (.ifCond .ne 13, 3) := by decide +kernel
theorem dX9_setEntry_12 : decode cX9_setEntry 12 = .ok (.new 245, 3) := by decide +kernel
theorem dX9_setEntry_15 : decode cX9_setEntry 15 = .ok (.dup, 1) := by decide +kernel
theorem dX9_setEntry_16 : decode cX9_setEntry 16 = .ok (.ldc 247, 2) := by decide +kernel
theorem dX9_setEntry_18 : decode cX9_setEntry 18 = .ok (.invokespecial 249, 3) := by decide +kernel
theorem dX9_setEntry_21 : decode cX9_setEntry 21 = .ok (.athrow, 1) := by decide +kernel
theorem dX9_setEntry_22 : decode cX9_setEntry 22 = .ok (.iload_n 3, 1) := by decide +kernel
theorem dX9_setEntry_23 : decode cX9_setEntry 23 = .ok (.sipush (-999), 3) := by decide +kernel
theorem dX9_setEntry_26 : decode cX9_setEntry 26 = .ok (.sipush 999, 3) := by decide +kernel
theorem dX9_setEntry_29 : decode cX9_setEntry 29 = .ok (.invokestatic 63, 3) := by decide +kernel
theorem dX9_setEntry_32 : decode cX9_setEntry 32 = .ok (.aload_n 0, 1) := by decide +kernel
theorem dX9_setEntry_33 : decode cX9_setEntry 33 = .ok (.getfield 19, 3) := by decide +kernel
theorem dX9_setEntry_36 : decode cX9_setEntry 36 = .ok (.iload_n 1, 1) := by decide +kernel
theorem dX9_setEntry_37 : decode cX9_setEntry 37 = .ok (.iload_n 2, 1) := by decide +kernel
theorem dX9_setEntry_38 : decode cX9_setEntry 38 = .ok (.iload_n 3, 1) := by decide +kernel
theorem dX9_setEntry_39 : decode cX9_setEntry 39 = .ok (.invokevirtual 250, 3) := by decide +kernel
theorem dX9_setEntry_42 : decode cX9_setEntry 42 = .ok (.ireturn, 1) := by decide +kernel
theorem dX9_determinant_0 : decode cX9_determinant 0 = .ok (.aload_n 0, 1) := by decide +kernel
theorem dX9_determinant_1 : decode cX9_determinant 1 = .ok (.getfield 19, 3) := by decide +kernel
theorem dX9_determinant_4 : decode cX9_determinant 4 = .ok (.invokevirtual 253, 3) := by decide +kernel
theorem dX9_determinant_7 : decode cX9_determinant 7 = .ok (.lreturn, 1) := by decide +kernel
theorem dX9_rank_0 : decode cX9_rank 0 = .ok (.aload_n 0, 1) := by decide +kernel
theorem dX9_rank_1 : decode cX9_rank 1 = .ok (.getfield 19, 3) := by decide +kernel
theorem dX9_rank_4 : decode cX9_rank 4 = .ok (.invokevirtual 257, 3) := by decide +kernel
theorem dX9_rank_7 : decode cX9_rank 7 = .ok (.ireturn, 1) := by decide +kernel
theorem dX9_shape_0 : decode cX9_shape 0 = .ok (.iload_n 1, 1) := by decide +kernel
theorem dX9_shape_1 : decode cX9_shape 1 = .ok (.ifCond .lt 14, 3) := by decide +kernel
theorem dX9_shape_4 : decode cX9_shape 4 = .ok (.iload_n 1, 1) := by decide +kernel
theorem dX9_shape_5 : decode cX9_shape 5 = .ok (.aload_n 0, 1) := by decide +kernel
theorem dX9_shape_6 : decode cX9_shape 6 = .ok (.getfield 19, 3) := by decide +kernel
theorem dX9_shape_9 : decode cX9_shape 9 = .ok (.invokevirtual 257, 3) := by decide +kernel
theorem dX9_shape_12 : decode cX9_shape 12 = .ok (.if_icmp .lt 14, 3) := by decide +kernel
theorem dX9_shape_15 : decode cX9_shape 15 = .ok (.new 111, 3) := by decide +kernel
theorem dX9_shape_18 : decode cX9_shape 18 = .ok (.dup, 1) := by decide +kernel
theorem dX9_shape_19 : decode cX9_shape 19 = .ok (.ldc_w 260, 3) := by decide +kernel
theorem dX9_shape_22 : decode cX9_shape 22 = .ok (.invokespecial 115, 3) := by decide +kernel
theorem dX9_shape_25 : decode cX9_shape 25 = .ok (.athrow, 1) := by decide +kernel
theorem dX9_shape_26 : decode cX9_shape 26 = .ok (.aload_n 0, 1) := by decide +kernel
theorem dX9_shape_27 : decode cX9_shape 27 = .ok (.getfield 19, 3) := by decide +kernel
theorem dX9_shape_30 : decode cX9_shape 30 = .ok (.iload_n 1, 1) := by decide +kernel
theorem dX9_shape_31 : decode cX9_shape 31 = .ok (.aload_n 0, 1) := by decide +kernel
theorem dX9_shape_32 : decode cX9_shape 32 = .ok (.getfield 10, 3) := by decide +kernel
theorem dX9_shape_35 : decode cX9_shape 35 = .ok (.getfield 45, 3) := by decide +kernel
theorem dX9_shape_38 : decode cX9_shape 38 = .ok (.getfield 49, 3) := by decide +kernel
theorem dX9_shape_41 : decode cX9_shape 41 = .ok (.invokevirtual 262, 3) := by decide +kernel
theorem dX9_shape_44 : decode cX9_shape 44 = .ok (.ireturn, 1) := by decide +kernel
theorem dX9_value_0 : decode cX9_value 0 = .ok (.iload_n 1, 1) := by decide +kernel
theorem dX9_value_1 : decode cX9_value 1 = .ok (.sipush (-10000), 3) := by decide +kernel
theorem dX9_value_4 : decode cX9_value 4 = .ok (.sipush 10000, 3) := by decide +kernel
theorem dX9_value_7 : decode cX9_value 7 = .ok (.invokestatic 63, 3) := by decide +kernel
theorem dX9_value_10 : decode cX9_value 10 = .ok (.aload_n 0, 1) := by decide +kernel
theorem dX9_value_11 : decode cX9_value 11 = .ok (.getfield 10, 3) := by decide +kernel
theorem dX9_value_14 : decode cX9_value 14 = .ok (.getfield 265, 3) := by decide +kernel
theorem dX9_value_17 : decode cX9_value 17 = .ok (.invokevirtual 269, 3) := by decide +kernel
theorem dX9_value_20 : decode cX9_value 20 = .ok (.ifCond .eq 14, 3) := by decide +kernel
theorem dX9_value_23 : decode cX9_value 23 = .ok (.new 162, 3) := by decide +kernel
theorem dX9_value_26 : decode cX9_value 26 = .ok (.dup, 1) := by decide +kernel
theorem dX9_value_27 : decode cX9_value 27 = .ok (.ldc_w 272, 3) := by decide +kernel
theorem dX9_value_30 : decode cX9_value 30 = .ok (.invokespecial 166, 3) := by decide +kernel
theorem dX9_value_33 : decode cX9_value 33 = .ok (.athrow, 1) := by decide +kernel
theorem dX9_value_34 : decode cX9_value 34 = .ok (.aload_n 0, 1) := by decide +kernel
theorem dX9_value_35 : decode cX9_value 35 = .ok (.getfield 10, 3) := by decide +kernel
theorem dX9_value_38 : decode cX9_value 38 = .ok (.getfield 265, 3) := by decide +kernel
theorem dX9_value_41 : decode cX9_value 41 = .ok (.iload_n 1, 1) := by decide +kernel
theorem dX9_value_42 : decode cX9_value 42 = .ok (.invokevirtual 274, 3) := by decide +kernel
theorem dX9_value_45 : decode cX9_value 45 = .ok (.ireturn, 1) := by decide +kernel
theorem dX9_difference_0 : decode cX9_difference 0 = .ok (.iload_n 1, 1) := by decide +kernel
theorem dX9_difference_1 : decode cX9_difference 1 = .ok (.ifCond .lt 17, 3) := by decide +kernel
theorem dX9_difference_4 : decode cX9_difference 4 = .ok (.iload_n 1, 1) := by decide +kernel
theorem dX9_difference_5 : decode cX9_difference 5 = .ok (.aload_n 0, 1) := by decide +kernel
theorem dX9_difference_6 : decode cX9_difference 6 = .ok (.getfield 10, 3) := by decide +kernel
theorem dX9_difference_9 : decode cX9_difference 9 = .ok (.getfield 265, 3) := by decide +kernel
theorem dX9_difference_12 : decode cX9_difference 12 = .ok (.getfield 276, 3) := by decide +kernel
theorem dX9_difference_15 : decode cX9_difference 15 = .ok (.if_icmp .lt 14, 3) := by decide +kernel
theorem dX9_difference_18 : decode cX9_difference 18 = .ok (.new 111, 3) := by decide +kernel
theorem dX9_difference_21 : decode cX9_difference 21 = .ok (.dup, 1) := by decide +kernel
theorem dX9_difference_22 : decode cX9_difference 22 = .ok (.ldc_w 277, 3) := by decide +kernel
theorem dX9_difference_25 : decode cX9_difference 25 = .ok (.invokespecial 115, 3) := by decide +kernel
theorem dX9_difference_28 : decode cX9_difference 28 = .ok (.athrow, 1) := by decide +kernel
theorem dX9_difference_29 : decode cX9_difference 29 = .ok (.aload_n 0, 1) := by decide +kernel
theorem dX9_difference_30 : decode cX9_difference 30 = .ok (.getfield 10, 3) := by decide +kernel
theorem dX9_difference_33 : decode cX9_difference 33 = .ok (.getfield 265, 3) := by decide +kernel
theorem dX9_difference_36 : decode cX9_difference 36 = .ok (.iload_n 1, 1) := by decide +kernel
theorem dX9_difference_37 : decode cX9_difference 37 = .ok (.invokevirtual 279, 3) := by decide +kernel
theorem dX9_difference_40 : decode cX9_difference 40 = .ok (.ireturn, 1) := by decide +kernel
theorem dX9_at_0 : decode cX9_at 0 = .ok (.aload_n 0, 1) := by decide +kernel
theorem dX9_at_1 : decode cX9_at 1 = .ok (.iload_n 1, 1) := by decide +kernel
theorem dX9_at_2 : decode cX9_at 2 = .ok (.invokevirtual 74, 3) := by decide +kernel
theorem dX9_at_5 : decode cX9_at 5 = .ok (.aload_n 0, 1) := by decide +kernel
theorem dX9_at_6 : decode cX9_at 6 = .ok (.getfield 10, 3) := by decide +kernel
theorem dX9_at_9 : decode cX9_at 9 = .ok (.iload_n 1, 1) := by decide +kernel
theorem dX9_at_10 : decode cX9_at 10 = .ok (.invokevirtual 82, 3) := by decide +kernel
theorem dX9_at_13 : decode cX9_at 13 = .ok (.astore_n 2, 1) := by decide +kernel
theorem dX9_at_14 : decode cX9_at 14 = .ok (.aload_n 2, 1) := by decide +kernel
theorem dX9_at_15 : decode cX9_at 15 = .ok (.getfield 86, 3) := by decide +kernel
theorem dX9_at_18 : decode cX9_at 18 = .ok (.ifCond .lt 24, 3) := by decide +kernel
theorem dX9_at_21 : decode cX9_at 21 = .ok (.aload_n 0, 1) := by decide +kernel
theorem dX9_at_22 : decode cX9_at 22 = .ok (.getfield 10, 3) := by decide +kernel
theorem dX9_at_25 : decode cX9_at 25 = .ok (.aload_n 2, 1) := by decide +kernel
theorem dX9_at_26 : decode cX9_at 26 = .ok (.aload_n 0, 1) := by decide +kernel
theorem dX9_at_27 : decode cX9_at 27 = .ok (.getfield 10, 3) := by decide +kernel
theorem dX9_at_30 : decode cX9_at 30 = .ok (.getfield 265, 3) := by decide +kernel
theorem dX9_at_33 : decode cX9_at 33 = .ok (.getfield 276, 3) := by decide +kernel
theorem dX9_at_36 : decode cX9_at 36 = .ok (.invokevirtual 282, 3) := by decide +kernel
theorem dX9_at_39 : decode cX9_at 39 = .ok (.ifCond .gt 14, 3) := by decide +kernel
theorem dX9_at_42 : decode cX9_at 42 = .ok (.new 40, 3) := by decide +kernel
theorem dX9_at_45 : decode cX9_at 45 = .ok (.dup, 1) := by decide +kernel
theorem dX9_at_46 : decode cX9_at 46 = .ok (.ldc_w 285, 3) := by decide +kernel
theorem dX9_at_49 : decode cX9_at 49 = .ok (.invokespecial 44, 3) := by decide +kernel
theorem dX9_at_52 : decode cX9_at 52 = .ok (.athrow, 1) := by decide +kernel
theorem dX9_at_53 : decode cX9_at 53 = .ok (.aload_n 0, 1) := by decide +kernel
theorem dX9_at_54 : decode cX9_at 54 = .ok (.invokevirtual 67, 3) := by decide +kernel
theorem dX9_at_57 : decode cX9_at 57 = .ok (.aload_n 0, 1) := by decide +kernel
theorem dX9_at_58 : decode cX9_at 58 = .ok (.getfield 10, 3) := by decide +kernel
theorem dX9_at_61 : decode cX9_at 61 = .ok (.iload_n 1, 1) := by decide +kernel
theorem dX9_at_62 : decode cX9_at 62 = .ok (.invokevirtual 287, 3) := by decide +kernel
theorem dX9_at_65 : decode cX9_at 65 = .ok (.ireturn, 1) := by decide +kernel
theorem dX9_nothingShare_0 : decode cX9_nothingShare 0 = .ok (.aload_n 0, 1) := by decide +kernel
theorem dX9_nothingShare_1 : decode cX9_nothingShare 1 = .ok (.getfield 10, 3) := by decide +kernel
theorem dX9_nothingShare_4 : decode cX9_nothingShare 4 = .ok (.getfield 36, 3) := by decide +kernel
theorem dX9_nothingShare_7 : decode cX9_nothingShare 7 = .ok (.ifCond .ne 14, 3) := by decide +kernel
theorem dX9_nothingShare_10 : decode cX9_nothingShare 10 = .ok (.new 89, 3) := by decide +kernel
theorem dX9_nothingShare_13 : decode cX9_nothingShare 13 = .ok (.dup, 1) := by decide +kernel
theorem dX9_nothingShare_14 : decode cX9_nothingShare 14 = .ok (.ldc_w 290, 3) := by decide +kernel
theorem dX9_nothingShare_17 : decode cX9_nothingShare 17 = .ok (.invokespecial 93, 3) := by decide +kernel
theorem dX9_nothingShare_20 : decode cX9_nothingShare 20 = .ok (.athrow, 1) := by decide +kernel
theorem dX9_nothingShare_21 : decode cX9_nothingShare 21 = .ok (.aload_n 0, 1) := by decide +kernel
theorem dX9_nothingShare_22 : decode cX9_nothingShare 22 = .ok (.getfield 10, 3) := by decide +kernel
theorem dX9_nothingShare_25 : decode cX9_nothingShare 25 = .ok (.invokevirtual 292, 3) := by decide +kernel
theorem dX9_nothingShare_28 : decode cX9_nothingShare 28 = .ok (.i2f, 1) := by decide +kernel
theorem dX9_nothingShare_29 : decode cX9_nothingShare 29 = .ok (.aload_n 0, 1) := by decide +kernel
theorem dX9_nothingShare_30 : decode cX9_nothingShare 30 = .ok (.getfield 10, 3) := by decide +kernel
theorem dX9_nothingShare_33 : decode cX9_nothingShare 33 = .ok (.getfield 36, 3) := by decide +kernel
theorem dX9_nothingShare_36 : decode cX9_nothingShare 36 = .ok (.i2f, 1) := by decide +kernel
theorem dX9_nothingShare_37 : decode cX9_nothingShare 37 = .ok (.fdiv, 1) := by decide +kernel
theorem dX9_nothingShare_38 : decode cX9_nothingShare 38 = .ok (.freturn, 1) := by decide +kernel
theorem dX9_meanDigits_0 : decode cX9_meanDigits 0 = .ok (.aload_n 0, 1) := by decide +kernel
theorem dX9_meanDigits_1 : decode cX9_meanDigits 1 = .ok (.getfield 10, 3) := by decide +kernel
theorem dX9_meanDigits_4 : decode cX9_meanDigits 4 = .ok (.getfield 36, 3) := by decide +kernel
theorem dX9_meanDigits_7 : decode cX9_meanDigits 7 = .ok (.ifCond .ne 14, 3) := by decide +kernel
theorem dX9_meanDigits_10 : decode cX9_meanDigits 10 = .ok (.new 89, 3) := by decide +kernel
theorem dX9_meanDigits_13 : decode cX9_meanDigits 13 = .ok (.dup, 1) := by decide +kernel
theorem dX9_meanDigits_14 : decode cX9_meanDigits 14 = .ok (.ldc_w 290, 3) := by decide +kernel
theorem dX9_meanDigits_17 : decode cX9_meanDigits 17 = .ok (.invokespecial 93, 3) := by decide +kernel
theorem dX9_meanDigits_20 : decode cX9_meanDigits 20 = .ok (.athrow, 1) := by decide +kernel
theorem dX9_meanDigits_21 : decode cX9_meanDigits 21 = .ok (.aload_n 0, 1) := by decide +kernel
theorem dX9_meanDigits_22 : decode cX9_meanDigits 22 = .ok (.getfield 10, 3) := by decide +kernel
theorem dX9_meanDigits_25 : decode cX9_meanDigits 25 = .ok (.invokevirtual 295, 3) := by decide +kernel
theorem dX9_meanDigits_28 : decode cX9_meanDigits 28 = .ok (.i2d, 1) := by decide +kernel
theorem dX9_meanDigits_29 : decode cX9_meanDigits 29 = .ok (.aload_n 0, 1) := by decide +kernel
theorem dX9_meanDigits_30 : decode cX9_meanDigits 30 = .ok (.getfield 10, 3) := by decide +kernel
theorem dX9_meanDigits_33 : decode cX9_meanDigits 33 = .ok (.getfield 36, 3) := by decide +kernel
theorem dX9_meanDigits_36 : decode cX9_meanDigits 36 = .ok (.i2d, 1) := by decide +kernel
theorem dX9_meanDigits_37 : decode cX9_meanDigits 37 = .ok (.ddiv, 1) := by decide +kernel
theorem dX9_meanDigits_38 : decode cX9_meanDigits 38 = .ok (.dreturn, 1) := by decide +kernel
theorem dX9_isSound_0 : decode cX9_isSound 0 = .ok (.iconst 0, 1) := by decide +kernel
theorem dX9_isSound_1 : decode cX9_isSound 1 = .ok (.istore_n 1, 1) := by decide +kernel
theorem dX9_isSound_2 : decode cX9_isSound 2 = .ok (.iload_n 1, 1) := by decide +kernel
theorem dX9_isSound_3 : decode cX9_isSound 3 = .ok (.aload_n 0, 1) := by decide +kernel
theorem dX9_isSound_4 : decode cX9_isSound 4 = .ok (.getfield 10, 3) := by decide +kernel
theorem dX9_isSound_7 : decode cX9_isSound 7 = .ok (.getfield 36, 3) := by decide +kernel
theorem dX9_isSound_10 : decode cX9_isSound 10 = .ok (.if_icmp .ge 22, 3) := by decide +kernel
theorem dX9_isSound_13 : decode cX9_isSound 13 = .ok (.aload_n 0, 1) := by decide +kernel
theorem dX9_isSound_14 : decode cX9_isSound 14 = .ok (.getfield 10, 3) := by decide +kernel
theorem dX9_isSound_17 : decode cX9_isSound 17 = .ok (.iload_n 1, 1) := by decide +kernel
theorem dX9_isSound_18 : decode cX9_isSound 18 = .ok (.invokevirtual 298, 3) := by decide +kernel
theorem dX9_isSound_21 : decode cX9_isSound 21 = .ok (.ifCond .ne 5, 3) := by decide +kernel
theorem dX9_isSound_24 : decode cX9_isSound 24 = .ok (.iconst 0, 1) := by decide +kernel
theorem dX9_isSound_25 : decode cX9_isSound 25 = .ok (.ireturn, 1) := by decide +kernel
theorem dX9_isSound_26 : decode cX9_isSound 26 = .ok (.iinc 1 1, 3) := by decide +kernel
theorem dX9_isSound_29 : decode cX9_isSound 29 = .ok (.goto (-27), 3) := by decide +kernel
theorem dX9_isSound_32 : decode cX9_isSound 32 = .ok (.aload_n 0, 1) := by decide +kernel
theorem dX9_isSound_33 : decode cX9_isSound 33 = .ok (.getfield 19, 3) := by decide +kernel
theorem dX9_isSound_36 : decode cX9_isSound 36 = .ok (.aload_n 0, 1) := by decide +kernel
theorem dX9_isSound_37 : decode cX9_isSound 37 = .ok (.getfield 10, 3) := by decide +kernel
theorem dX9_isSound_40 : decode cX9_isSound 40 = .ok (.getfield 45, 3) := by decide +kernel
theorem dX9_isSound_43 : decode cX9_isSound 43 = .ok (.getfield 49, 3) := by decide +kernel
theorem dX9_isSound_46 : decode cX9_isSound 46 = .ok (.invokevirtual 301, 3) := by decide +kernel
theorem dX9_isSound_49 : decode cX9_isSound 49 = .ok (.ireturn, 1) := by decide +kernel
theorem dX9_needNumber_0 : decode cX9_needNumber 0 = .ok (.iload_n 1, 1) := by decide +kernel
theorem dX9_needNumber_1 : decode cX9_needNumber 1 = .ok (.ifCond .lt 14, 3) := by decide +kernel
theorem dX9_needNumber_4 : decode cX9_needNumber 4 = .ok (.iload_n 1, 1) := by decide +kernel
theorem dX9_needNumber_5 : decode cX9_needNumber 5 = .ok (.aload_n 0, 1) := by decide +kernel
theorem dX9_needNumber_6 : decode cX9_needNumber 6 = .ok (.getfield 10, 3) := by decide +kernel
theorem dX9_needNumber_9 : decode cX9_needNumber 9 = .ok (.getfield 36, 3) := by decide +kernel
theorem dX9_needNumber_12 : decode cX9_needNumber 12 = .ok (.if_icmp .lt 14, 3) := by decide +kernel
theorem dX9_needNumber_15 : decode cX9_needNumber 15 = .ok (.new 245, 3) := by decide +kernel
theorem dX9_needNumber_18 : decode cX9_needNumber 18 = .ok (.dup, 1) := by decide +kernel
theorem dX9_needNumber_19 : decode cX9_needNumber 19 = .ok (.ldc_w 304, 3) := by decide +kernel
theorem dX9_needNumber_22 : decode cX9_needNumber 22 = .ok (.invokespecial 249, 3) := by decide +kernel
theorem dX9_needNumber_25 : decode cX9_needNumber 25 = .ok (.athrow, 1) := by decide +kernel
theorem dX9_needNumber_26 : decode cX9_needNumber 26 = .ok (.return_, 1) := by decide +kernel
theorem dX9_needRoom_0 : decode cX9_needRoom 0 = .ok (.aload_n 0, 1) := by decide +kernel
theorem dX9_needRoom_1 : decode cX9_needRoom 1 = .ok (.getfield 10, 3) := by decide +kernel
theorem dX9_needRoom_4 : decode cX9_needRoom 4 = .ok (.invokevirtual 306, 3) := by decide +kernel
theorem dX9_needRoom_7 : decode cX9_needRoom 7 = .ok (.ifCond .eq 14, 3) := by decide +kernel
theorem dX9_needRoom_10 : decode cX9_needRoom 10 = .ok (.new 162, 3) := by decide +kernel
theorem dX9_needRoom_13 : decode cX9_needRoom 13 = .ok (.dup, 1) := by decide +kernel
theorem dX9_needRoom_14 : decode cX9_needRoom 14 = .ok (.ldc_w 307, 3) := by decide +kernel
theorem dX9_needRoom_17 : decode cX9_needRoom 17 = .ok (.invokespecial 166, 3) := by decide +kernel
theorem dX9_needRoom_20 : decode cX9_needRoom 20 = .ok (.athrow, 1) := by decide +kernel
theorem dX9_needRoom_21 : decode cX9_needRoom 21 = .ok (.return_, 1) := by decide +kernel
theorem dX9_needPolynomial_0 : decode cX9_needPolynomial 0 = .ok (.iload_n 1, 1) := by decide +kernel
theorem dX9_needPolynomial_1 : decode cX9_needPolynomial 1 = .ok (.ifCond .lt 17, 3) := by decide +kernel
theorem dX9_needPolynomial_4 : decode cX9_needPolynomial 4 = .ok (.iload_n 1, 1) := by decide +kernel
theorem dX9_needPolynomial_5 : decode cX9_needPolynomial 5 = .ok (.aload_n 0, 1) := by decide +kernel
theorem dX9_needPolynomial_6 : decode cX9_needPolynomial 6 = .ok (.getfield 10, 3) := by decide +kernel
theorem dX9_needPolynomial_9 : decode cX9_needPolynomial 9 = .ok (.getfield 153, 3) := by decide +kernel
theorem dX9_needPolynomial_12 : decode cX9_needPolynomial 12 = .ok (.getfield 309, 3) := by decide +kernel
theorem dX9_needPolynomial_15 : decode cX9_needPolynomial 15 = .ok (.if_icmp .lt 14, 3) := by decide +kernel
theorem dX9_needPolynomial_18 : decode cX9_needPolynomial 18 = .ok (.new 245, 3) := by decide +kernel
theorem dX9_needPolynomial_21 : decode cX9_needPolynomial 21 = .ok (.dup, 1) := by decide +kernel
theorem dX9_needPolynomial_22 : decode cX9_needPolynomial 22 = .ok (.ldc_w 310, 3) := by decide +kernel
theorem dX9_needPolynomial_25 : decode cX9_needPolynomial 25 = .ok (.invokespecial 249, 3) := by decide +kernel
theorem dX9_needPolynomial_28 : decode cX9_needPolynomial 28 = .ok (.athrow, 1) := by decide +kernel
theorem dX9_needPolynomial_29 : decode cX9_needPolynomial 29 = .ok (.return_, 1) := by decide +kernel
theorem dX9_needSide_0 : decode cX9_needSide 0 = .ok (.aload_n 0, 1) := by decide +kernel
theorem dX9_needSide_1 : decode cX9_needSide 1 = .ok (.iload_n 1, 1) := by decide +kernel
theorem dX9_needSide_2 : decode cX9_needSide 2 = .ok (.invokevirtual 170, 3) := by decide +kernel
theorem dX9_needSide_5 : decode cX9_needSide 5 = .ok (.iload_n 2, 1) := by decide +kernel
theorem dX9_needSide_6 : decode cX9_needSide 6 = .ok (.ifCond .lt 31, 3) := by decide +kernel
theorem dX9_needSide_9 : decode cX9_needSide 9 = .ok (.iload_n 2, 1) := by decide +kernel
theorem dX9_needSide_10 : decode cX9_needSide 10 = .ok (.aload_n 0, 1) := by decide +kernel
theorem dX9_needSide_11 : decode cX9_needSide 11 = .ok (.getfield 10, 3) := by decide +kernel
theorem dX9_needSide_14 : decode cX9_needSide 14 = .ok (.getfield 153, 3) := by decide +kernel
theorem dX9_needSide_17 : decode cX9_needSide 17 = .ok (.iload_n 1, 1) := by decide +kernel
theorem dX9_needSide_18 : decode cX9_needSide 18 = .ok (.invokevirtual 173, 3) := by decide +kernel
theorem dX9_needSide_21 : decode cX9_needSide 21 = .ok (.aload_n 0, 1) := by decide +kernel
theorem dX9_needSide_22 : decode cX9_needSide 22 = .ok (.getfield 10, 3) := by decide +kernel
theorem dX9_needSide_25 : decode cX9_needSide 25 = .ok (.getfield 45, 3) := by decide +kernel
theorem dX9_needSide_28 : decode cX9_needSide 28 = .ok (.getfield 49, 3) := by decide +kernel
theorem dX9_needSide_31 : decode cX9_needSide 31 = .ok (.invokevirtual 188, 3) := by decide +kernel
theorem dX9_needSide_34 : decode cX9_needSide 34 = .ok (.if_icmp .lt 14, 3) := by decide +kernel
theorem dX9_needSide_37 : decode cX9_needSide 37 = .ok (.new 245, 3) := by decide +kernel
theorem dX9_needSide_40 : decode cX9_needSide 40 = .ok (.dup, 1) := by decide +kernel
theorem dX9_needSide_41 : decode cX9_needSide 41 = .ok (.ldc_w 312, 3) := by decide +kernel
theorem dX9_needSide_44 : decode cX9_needSide 44 = .ok (.invokespecial 249, 3) := by decide +kernel
theorem dX9_needSide_47 : decode cX9_needSide 47 = .ok (.athrow, 1) := by decide +kernel
theorem dX9_needSide_48 : decode cX9_needSide 48 = .ok (.return_, 1) := by decide +kernel
theorem dX9_needWithin_0 : decode cX9_needWithin 0 = .ok (.iload_n 0, 1) := by decide +kernel
theorem dX9_needWithin_1 : decode cX9_needWithin 1 = .ok (.iload_n 1, 1) := by decide +kernel
theorem dX9_needWithin_2 : decode cX9_needWithin 2 = .ok (.if_icmp .lt 8, 3) := by decide +kernel
theorem dX9_needWithin_5 : decode cX9_needWithin 5 = .ok (.iload_n 0, 1) := by decide +kernel
theorem dX9_needWithin_6 : decode cX9_needWithin 6 = .ok (.iload_n 2, 1) := by decide +kernel
theorem dX9_needWithin_7 : decode cX9_needWithin 7 = .ok (.if_icmp .le 14, 3) := by decide +kernel
theorem dX9_needWithin_10 : decode cX9_needWithin 10 = .ok (.new 29, 3) := by decide +kernel
theorem dX9_needWithin_13 : decode cX9_needWithin 13 = .ok (.dup, 1) := by decide +kernel
theorem dX9_needWithin_14 : decode cX9_needWithin 14 = .ok (.ldc_w 314, 3) := by decide +kernel
theorem dX9_needWithin_17 : decode cX9_needWithin 17 = .ok (.invokespecial 33, 3) := by decide +kernel
theorem dX9_needWithin_20 : decode cX9_needWithin 20 = .ok (.athrow, 1) := by decide +kernel
theorem dX9_needWithin_21 : decode cX9_needWithin 21 = .ok (.return_, 1) := by decide +kernel
theorem dX9_needWholeNotZero_0 : decode cX9_needWholeNotZero 0 = .ok (.iload_n 0, 1) := by decide +kernel
theorem dX9_needWholeNotZero_1 : decode cX9_needWholeNotZero 1 = .ok (.ifCond .eq 17, 3) := by decide +kernel
theorem dX9_needWholeNotZero_4 : decode cX9_needWholeNotZero 4 = .ok (.iload_n 0, 1) := by decide +kernel
theorem dX9_needWholeNotZero_5 : decode cX9_needWholeNotZero 5 = .ok (.sipush (-10000), 3) := by decide +kernel
theorem dX9_needWholeNotZero_8 : decode cX9_needWholeNotZero 8 = .ok (.if_icmp .lt 10, 3) := by decide +kernel
theorem dX9_needWholeNotZero_11 : decode cX9_needWholeNotZero 11 = .ok (.iload_n 0, 1) := by decide +kernel
theorem dX9_needWholeNotZero_12 : decode cX9_needWholeNotZero 12 = .ok (.sipush 10000, 3) := by decide +kernel
theorem dX9_needWholeNotZero_15 : decode cX9_needWholeNotZero 15 = .ok (.if_icmp .le 14, 3) := by decide +kernel
theorem dX9_needWholeNotZero_18 : decode cX9_needWholeNotZero 18 = .ok (.new 29, 3) := by decide +kernel
theorem dX9_needWholeNotZero_21 : decode cX9_needWholeNotZero 21 = .ok (.dup, 1) := by decide +kernel
theorem dX9_needWholeNotZero_22 : decode cX9_needWholeNotZero 22 = .ok (.ldc_w 316, 3) := by decide +kernel
theorem dX9_needWholeNotZero_25 : decode cX9_needWholeNotZero 25 = .ok (.invokespecial 33, 3) := by decide +kernel
theorem dX9_needWholeNotZero_28 : decode cX9_needWholeNotZero 28 = .ok (.athrow, 1) := by decide +kernel
theorem dX9_needWholeNotZero_29 : decode cX9_needWholeNotZero 29 = .ok (.return_, 1) := by decide +kernel
theorem dX9_guessedBottomOrThrow_0 : decode cX9_guessedBottomOrThrow 0 = .ok (.aload_n 1, 1) := by decide +kernel
theorem dX9_guessedBottomOrThrow_1 : decode cX9_guessedBottomOrThrow 1 = .ok (.invokevirtual 318, 3) := by decide +kernel
theorem dX9_guessedBottomOrThrow_4 : decode cX9_guessedBottomOrThrow 4 = .ok (.ifCond .ne 14, 3) := by decide +kernel
theorem dX9_guessedBottomOrThrow_7 : decode cX9_guessedBottomOrThrow 7 = .ok (.new 40, 3) := by decide +kernel
theorem dX9_guessedBottomOrThrow_10 : decode cX9_guessedBottomOrThrow 10 = .ok (.dup, 1) := by decide +kernel
theorem dX9_guessedBottomOrThrow_11 : decode cX9_guessedBottomOrThrow 11 = .ok (.ldc_w 321, 3) := by decide +kernel
theorem dX9_guessedBottomOrThrow_14 : decode cX9_guessedBottomOrThrow 14 = .ok (.invokespecial 44, 3) := by decide +kernel
theorem dX9_guessedBottomOrThrow_17 : decode cX9_guessedBottomOrThrow 17 = .ok (.athrow, 1) := by decide +kernel
theorem dX9_guessedBottomOrThrow_18 : decode cX9_guessedBottomOrThrow 18 = .ok (.aload_n 0, 1) := by decide +kernel
theorem dX9_guessedBottomOrThrow_19 : decode cX9_guessedBottomOrThrow 19 = .ok (.getfield 10, 3) := by decide +kernel
theorem dX9_guessedBottomOrThrow_22 : decode cX9_guessedBottomOrThrow 22 = .ok (.aload_n 1, 1) := by decide +kernel
theorem dX9_guessedBottomOrThrow_23 : decode cX9_guessedBottomOrThrow 23 = .ok (.invokevirtual 323, 3) := by decide +kernel
theorem dX9_guessedBottomOrThrow_26 : decode cX9_guessedBottomOrThrow 26 = .ok (.lstore_n 2, 1) := by decide +kernel
theorem dX9_guessedBottomOrThrow_27 : decode cX9_guessedBottomOrThrow 27 = .ok (.lload_n 2, 1) := by decide +kernel
theorem dX9_guessedBottomOrThrow_28 : decode cX9_guessedBottomOrThrow 28 = .ok (.lconst 0, 1) := by decide +kernel
theorem dX9_guessedBottomOrThrow_29 : decode cX9_guessedBottomOrThrow 29 = .ok (.lcmp, 1) := by decide +kernel
theorem dX9_guessedBottomOrThrow_30 : decode cX9_guessedBottomOrThrow 30 = .ok (.ifCond .ne 14, 3) := by decide +kernel
theorem dX9_guessedBottomOrThrow_33 : decode cX9_guessedBottomOrThrow 33 = .ok (.new 111, 3) := by decide +kernel
theorem dX9_guessedBottomOrThrow_36 : decode cX9_guessedBottomOrThrow 36 = .ok (.dup, 1) := by decide +kernel
theorem dX9_guessedBottomOrThrow_37 : decode cX9_guessedBottomOrThrow 37 = .ok (.ldc_w 326, 3) := by decide +kernel
theorem dX9_guessedBottomOrThrow_40 : decode cX9_guessedBottomOrThrow 40 = .ok (.invokespecial 115, 3) := by decide +kernel
theorem dX9_guessedBottomOrThrow_43 : decode cX9_guessedBottomOrThrow 43 = .ok (.athrow, 1) := by decide +kernel
theorem dX9_guessedBottomOrThrow_44 : decode cX9_guessedBottomOrThrow 44 = .ok (.lload_n 2, 1) := by decide +kernel
theorem dX9_guessedBottomOrThrow_45 : decode cX9_guessedBottomOrThrow 45 = .ok (.lreturn, 1) := by decide +kernel
