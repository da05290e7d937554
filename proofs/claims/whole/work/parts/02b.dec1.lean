theorem dJ6_bitCount_0f7a4_0 : decode cJ6_bitCount_0f7a4 0 = .ok (.iload_n 0, 1) := by decide +kernel
theorem dJ6_bitCount_0f7a4_1 : decode cJ6_bitCount_0f7a4 1 = .ok (.iload_n 0, 1) := by decide +kernel
theorem dJ6_bitCount_0f7a4_2 : decode cJ6_bitCount_0f7a4 2 = .ok (.iconst 1, 1) := by decide +kernel
theorem dJ6_bitCount_0f7a4_3 : decode cJ6_bitCount_0f7a4 3 = .ok (.iushr, 1) := by decide +kernel
theorem dJ6_bitCount_0f7a4_4 : decode cJ6_bitCount_0f7a4 4 = .ok (.ldc_w 265, 3) := by decide +kernel
theorem dJ6_bitCount_0f7a4_7 : decode cJ6_bitCount_0f7a4 7 = .ok (.iand, 1) := by decide +kernel
theorem dJ6_bitCount_0f7a4_8 : decode cJ6_bitCount_0f7a4 8 = .ok (.isub, 1) := by decide +kernel
theorem dJ6_bitCount_0f7a4_9 : decode cJ6_bitCount_0f7a4 9 = .ok (.istore_n 0, 1) := by decide +kernel
theorem dJ6_bitCount_0f7a4_10 : decode cJ6_bitCount_0f7a4 10 = .ok (.iload_n 0, 1) := by decide +kernel
theorem dJ6_bitCount_0f7a4_11 : decode cJ6_bitCount_0f7a4 11 = .ok (.ldc_w 266, 3) := by decide +kernel
theorem dJ6_bitCount_0f7a4_14 : decode cJ6_bitCount_0f7a4 14 = .ok (.iand, 1) := by decide +kernel
theorem dJ6_bitCount_0f7a4_15 : decode cJ6_bitCount_0f7a4 15 = .ok (.iload_n 0, 1) := by decide +kernel
theorem dJ6_bitCount_0f7a4_16 : decode cJ6_bitCount_0f7a4 16 = .ok (.iconst 2, 1) := by decide +kernel
theorem dJ6_bitCount_0f7a4_17 : decode cJ6_bitCount_0f7a4 17 = .ok (.iushr, 1) := by decide +kernel
theorem dJ6_bitCount_0f7a4_18 : decode cJ6_bitCount_0f7a4 18 = .ok (.ldc_w 266, 3) := by decide +kernel
theorem dJ6_bitCount_0f7a4_21 : decode cJ6_bitCount_0f7a4 21 = .ok (.iand, 1) := by decide +kernel
theorem dJ6_bitCount_0f7a4_22 : decode cJ6_bitCount_0f7a4 22 = .ok (.iadd, 1) := by decide +kernel
theorem dJ6_bitCount_0f7a4_23 : decode cJ6_bitCount_0f7a4 23 = .ok (.istore_n 0, 1) := by decide +kernel
theorem dJ6_bitCount_0f7a4_24 : decode cJ6_bitCount_0f7a4 24 = .ok (.iload_n 0, 1) := by decide +kernel
theorem dJ6_bitCount_0f7a4_25 : decode cJ6_bitCount_0f7a4 25 = .ok (.iload_n 0, 1) := by decide +kernel
theorem dJ6_bitCount_0f7a4_26 : decode cJ6_bitCount_0f7a4 26 = .ok (.iconst 4, 1) := by decide +kernel
theorem dJ6_bitCount_0f7a4_27 : decode cJ6_bitCount_0f7a4 27 = .ok (.iushr, 1) := by decide +kernel
theorem dJ6_bitCount_0f7a4_28 : decode cJ6_bitCount_0f7a4 28 = .ok (.iadd, 1) := by decide +kernel
theorem dJ6_bitCount_0f7a4_29 : decode cJ6_bitCount_0f7a4 29 = .ok (.ldc_w 267, 3) := by decide +kernel
theorem dJ6_bitCount_0f7a4_32 : decode cJ6_bitCount_0f7a4 32 = .ok (.iand, 1) := by decide +kernel
theorem dJ6_bitCount_0f7a4_33 : decode cJ6_bitCount_0f7a4 33 = .ok (.istore_n 0, 1) := by decide +kernel
theorem dJ6_bitCount_0f7a4_34 : decode cJ6_bitCount_0f7a4 34 = .ok (.iload_n 0, 1) := by decide +kernel
theorem dJ6_bitCount_0f7a4_35 : decode cJ6_bitCount_0f7a4 35 = .ok (.iload_n 0, 1) := by decide +kernel
theorem dJ6_bitCount_0f7a4_36 : decode cJ6_bitCount_0f7a4 36 = .ok (.bipush 8, 2) := by decide +kernel
theorem dJ6_bitCount_0f7a4_38 : decode cJ6_bitCount_0f7a4 38 = .ok (.iushr, 1) := by decide +kernel
theorem dJ6_bitCount_0f7a4_39 : decode cJ6_bitCount_0f7a4 39 = .ok (.iadd, 1) := by decide +kernel
theorem dJ6_bitCount_0f7a4_40 : decode cJ6_bitCount_0f7a4 40 = .ok (.istore_n 0, 1) := by decide +kernel
theorem dJ6_bitCount_0f7a4_41 : decode cJ6_bitCount_0f7a4 41 = .ok (.iload_n 0, 1) := by decide +kernel
theorem dJ6_bitCount_0f7a4_42 : decode cJ6_bitCount_0f7a4 42 = .ok (.iload_n 0, 1) := by decide +kernel
theorem dJ6_bitCount_0f7a4_43 : decode cJ6_bitCount_0f7a4 43 = .ok (.bipush 16, 2) := by decide +kernel
theorem dJ6_bitCount_0f7a4_45 : decode cJ6_bitCount_0f7a4 45 = .ok (.iushr, 1) := by decide +kernel
theorem dJ6_bitCount_0f7a4_46 : decode cJ6_bitCount_0f7a4 46 = .ok (.iadd, 1) := by decide +kernel
theorem dJ6_bitCount_0f7a4_47 : decode cJ6_bitCount_0f7a4 47 = .ok (.istore_n 0, 1) := by decide +kernel
theorem dJ6_bitCount_0f7a4_48 : decode cJ6_bitCount_0f7a4 48 = .ok (.iload_n 0, 1) := by decide +kernel
theorem dJ6_bitCount_0f7a4_49 : decode cJ6_bitCount_0f7a4 49 = .ok (.bipush 63, 2) := by decide +kernel
theorem dJ6_bitCount_0f7a4_51 : decode cJ6_bitCount_0f7a4 51 = .ok (.iand, 1) := by decide +kernel
theorem dJ6_bitCount_0f7a4_52 : decode cJ6_bitCount_0f7a4 52 = .ok (.ireturn, 1) := by decide +kernel
theorem dJ7_fill_d0a16_0 : decode cJ7_fill_d0a16 0 = .ok (.iconst 0, 1) := by decide +kernel
theorem dJ7_fill_d0a16_1 : decode cJ7_fill_d0a16 1 = .ok (.istore_n 3, 1) := by decide +kernel
theorem dJ7_fill_d0a16_2 : decode cJ7_fill_d0a16 2 = .ok (.aload_n 0, 1) := by decide +kernel
theorem dJ7_fill_d0a16_3 : decode cJ7_fill_d0a16 3 = .ok (.arraylength, 1) := by decide +kernel
theorem dJ7_fill_d0a16_4 : decode cJ7_fill_d0a16 4 = .ok (.istore 4, 2) := by decide +kernel
theorem dJ7_fill_d0a16_6 : decode cJ7_fill_d0a16 6 = .ok (.iload_n 3, 1) := by decide +kernel
theorem dJ7_fill_d0a16_7 : decode cJ7_fill_d0a16 7 = .ok (.iload 4, 2) := by decide +kernel
theorem dJ7_fill_d0a16_9 : decode cJ7_fill_d0a16 9 = .ok (.if_icmp .ge 13, 3) := by decide +kernel
theorem dJ7_fill_d0a16_12 : decode cJ7_fill_d0a16 12 = .ok (.aload_n 0, 1) := by decide +kernel
theorem dJ7_fill_d0a16_13 : decode cJ7_fill_d0a16 13 = .ok (.iload_n 3, 1) := by decide +kernel
theorem dJ7_fill_d0a16_14 : decode cJ7_fill_d0a16 14 = .ok (.lload_n 1, 1) := by decide +kernel
theorem dJ7_fill_d0a16_15 : decode cJ7_fill_d0a16 15 = .ok (.lastore, 1) := by decide +kernel
theorem dJ7_fill_d0a16_16 : decode cJ7_fill_d0a16 16 = .ok (.iinc 3 1, 3) := by decide +kernel
theorem dJ7_fill_d0a16_19 : decode cJ7_fill_d0a16 19 = .ok (.goto (-13), 3) := by decide +kernel
theorem dJ7_fill_d0a16_22 : decode cJ7_fill_d0a16 22 = .ok (.return_, 1) := by decide +kernel
theorem dJ7_fill_53178_0 : decode cJ7_fill_53178 0 = .ok (.iconst 0, 1) := by decide +kernel
theorem dJ7_fill_53178_1 : decode cJ7_fill_53178 1 = .ok (.istore_n 2, 1) := by decide +kernel
theorem dJ7_fill_53178_2 : decode cJ7_fill_53178 2 = .ok (.aload_n 0, 1) := by decide +kernel
theorem dJ7_fill_53178_3 : decode cJ7_fill_53178 3 = .ok (.arraylength, 1) := by decide +kernel
theorem dJ7_fill_53178_4 : decode cJ7_fill_53178 4 = .ok (.istore_n 3, 1) := by decide +kernel
theorem dJ7_fill_53178_5 : decode cJ7_fill_53178 5 = .ok (.iload_n 2, 1) := by decide +kernel
theorem dJ7_fill_53178_6 : decode cJ7_fill_53178 6 = .ok (.iload_n 3, 1) := by decide +kernel
theorem dJ7_fill_53178_7 : decode cJ7_fill_53178 7 = .ok (.if_icmp .ge 13, 3) := by decide +kernel
theorem dJ7_fill_53178_10 : decode cJ7_fill_53178 10 = .ok (.aload_n 0, 1) := by decide +kernel
theorem dJ7_fill_53178_11 : decode cJ7_fill_53178 11 = .ok (.iload_n 2, 1) := by decide +kernel
theorem dJ7_fill_53178_12 : decode cJ7_fill_53178 12 = .ok (.iload_n 1, 1) := by decide +kernel
theorem dJ7_fill_53178_13 : decode cJ7_fill_53178 13 = .ok (.iastore, 1) := by decide +kernel
theorem dJ7_fill_53178_14 : decode cJ7_fill_53178 14 = .ok (.iinc 2 1, 3) := by decide +kernel
theorem dJ7_fill_53178_17 : decode cJ7_fill_53178 17 = .ok (.goto (-12), 3) := by decide +kernel
theorem dJ7_fill_53178_20 : decode cJ7_fill_53178 20 = .ok (.return_, 1) := by decide +kernel
theorem dJ9_max_7cf53_0 : decode cJ9_max_7cf53 0 = .ok (.iload_n 0, 1) := by decide +kernel
theorem dJ9_max_7cf53_1 : decode cJ9_max_7cf53 1 = .ok (.iload_n 1, 1) := by decide +kernel
theorem dJ9_max_7cf53_2 : decode cJ9_max_7cf53 2 = .ok (.if_icmp .lt 7, 3) := by decide +kernel
theorem dJ9_max_7cf53_5 : decode cJ9_max_7cf53 5 = .ok (.iload_n 0, 1) := by decide +kernel
theorem dJ9_max_7cf53_6 : decode cJ9_max_7cf53 6 = .ok (.goto 4, 3) := by decide +kernel
theorem dJ9_max_7cf53_9 : decode cJ9_max_7cf53 9 = .ok (.iload_n 1, 1) := by decide +kernel
theorem dJ9_max_7cf53_10 : decode cJ9_max_7cf53 10 = .ok (.ireturn, 1) := by decide +kernel
theorem dJ9_min_7cf53_0 : decode cJ9_min_7cf53 0 = .ok (.iload_n 0, 1) := by decide +kernel
theorem dJ9_min_7cf53_1 : decode cJ9_min_7cf53 1 = .ok (.iload_n 1, 1) := by decide +kernel
theorem dJ9_min_7cf53_2 : decode cJ9_min_7cf53 2 = .ok (.if_icmp .gt 7, 3) := by decide +kernel
theorem dJ9_min_7cf53_5 : decode cJ9_min_7cf53 5 = .ok (.iload_n 0, 1) := by decide +kernel
theorem dJ9_min_7cf53_6 : decode cJ9_min_7cf53 6 = .ok (.goto 4, 3) := by decide +kernel
theorem dJ9_min_7cf53_9 : decode cJ9_min_7cf53 9 = .ok (.iload_n 1, 1) := by decide +kernel
theorem dJ9_min_7cf53_10 : decode cJ9_min_7cf53 10 = .ok (.ireturn, 1) := by decide +kernel
theorem dX0_isFull_0 : decode cX0_isFull 0 = .ok (.aload_n 0, 1) := by decide +kernel
theorem dX0_isFull_1 : decode cX0_isFull 1 = .ok (.getfield 25, 3) := by decide +kernel
theorem dX0_isFull_4 : decode cX0_isFull 4 = .ok (.sipush 400, 3) := by decide +kernel
theorem dX0_isFull_7 : decode cX0_isFull 7 = .ok (.if_icmp .lt 7, 3) := by decide +kernel
theorem dX0_isFull_10 : decode cX0_isFull 10 = .ok (.iconst 1, 1) := by decide +kernel
theorem dX0_isFull_11 : decode cX0_isFull 11 = .ok (.goto 4, 3) := by decide +kernel
theorem dX0_isFull_14 : decode cX0_isFull 14 = .ok (.iconst 0, 1) := by decide +kernel
theorem dX0_isFull_15 : decode cX0_isFull 15 = .ok (.ireturn, 1) := by decide +kernel
theorem dX0_enter_0 : decode cX0_enter 0 = .ok (.aload_n 0, 1) := by decide +kernel
theorem dX0_enter_1 : decode cX0_enter 1 = .ok (.dup, 1) := by decide +kernel
theorem dX0_enter_2 : decode cX0_enter 2 = .ok (.getfield 21, 3) := by decide +kernel
theorem dX0_enter_5 : decode cX0_enter 5 = .ok (.iload_n 3, 1) := by decide +kernel
theorem dX0_enter_6 : decode cX0_enter 6 = .ok (.iadd, 1) := by decide +kernel
theorem dX0_enter_7 : decode cX0_enter 7 = .ok (.putfield 21, 3) := by decide +kernel
theorem dX0_enter_10 : decode cX0_enter 10 = .ok (.aload_n 0, 1) := by decide +kernel
theorem dX0_enter_11 : decode cX0_enter 11 = .ok (.dup, 1) := by decide +kernel
theorem dX0_enter_12 : decode cX0_enter 12 = .ok (.getfield 25, 3) := by decide +kernel
theorem dX0_enter_15 : decode cX0_enter 15 = .ok (.iconst 1, 1) := by decide +kernel
theorem dX0_enter_16 : decode cX0_enter 16 = .ok (.iadd, 1) := by decide +kernel
theorem dX0_enter_17 : decode cX0_enter 17 = .ok (.putfield 25, 3) := by decide +kernel
theorem dX0_enter_20 : decode cX0_enter 20 = .ok (.aload_n 0, 1) := by decide +kernel
theorem dX0_enter_21 : decode cX0_enter 21 = .ok (.getfield 9, 3) := by decide +kernel
theorem dX0_enter_24 : decode cX0_enter 24 = .ok (.bipush 110, 2) := by decide +kernel
theorem dX0_enter_26 : decode cX0_enter 26 = .ok (.iload_n 1, 1) := by decide +kernel
theorem dX0_enter_27 : decode cX0_enter 27 = .ok (.imul, 1) := by decide +kernel
theorem dX0_enter_28 : decode cX0_enter 28 = .ok (.iload_n 2, 1) := by decide +kernel
theorem dX0_enter_29 : decode cX0_enter 29 = .ok (.iadd, 1) := by decide +kernel
theorem dX0_enter_30 : decode cX0_enter 30 = .ok (.dup2, 1) := by decide +kernel
theorem dX0_enter_31 : decode cX0_enter 31 = .ok (.iaload, 1) := by decide +kernel
theorem dX0_enter_32 : decode cX0_enter 32 = .ok (.iload_n 3, 1) := by decide +kernel
theorem dX0_enter_33 : decode cX0_enter 33 = .ok (.iadd, 1) := by decide +kernel
theorem dX0_enter_34 : decode cX0_enter 34 = .ok (.iastore, 1) := by decide +kernel
theorem dX0_enter_35 : decode cX0_enter 35 = .ok (.return_, 1) := by decide +kernel
theorem dX0_beginYear_0 : decode cX0_beginYear 0 = .ok (.iload_n 1, 1) := by decide +kernel
theorem dX0_beginYear_1 : decode cX0_beginYear 1 = .ok (.aload_n 0, 1) := by decide +kernel
theorem dX0_beginYear_2 : decode cX0_beginYear 2 = .ok (.getfield 34, 3) := by decide +kernel
theorem dX0_beginYear_5 : decode cX0_beginYear 5 = .ok (.if_icmp .eq 16, 3) := by decide +kernel
theorem dX0_beginYear_8 : decode cX0_beginYear 8 = .ok (.aload_n 0, 1) := by decide +kernel
theorem dX0_beginYear_9 : decode cX0_beginYear 9 = .ok (.iload_n 1, 1) := by decide +kernel
theorem dX0_beginYear_10 : decode cX0_beginYear 10 = .ok (.putfield 34, 3) := by decide +kernel
theorem dX0_beginYear_13 : decode cX0_beginYear 13 = .ok (.aload_n 0, 1) := by decide +kernel
theorem dX0_beginYear_14 : decode cX0_beginYear 14 = .ok (.getfield 15, 3) := by decide +kernel
theorem dX0_beginYear_17 : decode cX0_beginYear 17 = .ok (.iconst 0, 1) := by decide +kernel
theorem dX0_beginYear_18 : decode cX0_beginYear 18 = .ok (.invokestatic 37, 3) := by decide +kernel
theorem dX0_beginYear_21 : decode cX0_beginYear 21 = .ok (.return_, 1) := by decide +kernel
theorem dX0_keep_0 : decode cX0_keep 0 = .ok (.aload_n 0, 1) := by decide +kernel
theorem dX0_keep_1 : decode cX0_keep 1 = .ok (.iload_n 3, 1) := by decide +kernel
theorem dX0_keep_2 : decode cX0_keep 2 = .ok (.invokevirtual 43, 3) := by decide +kernel
theorem dX0_keep_5 : decode cX0_keep 5 = .ok (.aload_n 0, 1) := by decide +kernel
theorem dX0_keep_6 : decode cX0_keep 6 = .ok (.getfield 15, 3) := by decide +kernel
theorem dX0_keep_9 : decode cX0_keep 9 = .ok (.iload_n 1, 1) := by decide +kernel
theorem dX0_keep_10 : decode cX0_keep 10 = .ok (.iaload, 1) := by decide +kernel
theorem dX0_keep_11 : decode cX0_keep 11 = .ok (.istore 4, 2) := by decide +kernel
theorem dX0_keep_13 : decode cX0_keep 13 = .ok (.aload_n 0, 1) := by decide +kernel
theorem dX0_keep_14 : decode cX0_keep 14 = .ok (.getfield 15, 3) := by decide +kernel
theorem dX0_keep_17 : decode cX0_keep 17 = .ok (.iload_n 1, 1) := by decide +kernel
theorem dX0_keep_18 : decode cX0_keep 18 = .ok (.iload_n 2, 1) := by decide +kernel
theorem dX0_keep_19 : decode cX0_keep 19 = .ok (.iastore, 1) := by decide +kernel
theorem dX0_keep_20 : decode cX0_keep 20 = .ok (.iload 4, 2) := by decide +kernel
theorem dX0_keep_22 : decode cX0_keep 22 = .ok (.ireturn, 1) := by decide +kernel
theorem dX0_part_0 : decode cX0_part 0 = .ok (.aload_n 0, 1) := by decide +kernel
theorem dX0_part_1 : decode cX0_part 1 = .ok (.iload_n 3, 1) := by decide +kernel
theorem dX0_part_2 : decode cX0_part 2 = .ok (.invokevirtual 43, 3) := by decide +kernel
theorem dX0_part_5 : decode cX0_part 5 = .ok (.iconst 0, 1) := by decide +kernel
theorem dX0_part_6 : decode cX0_part 6 = .ok (.istore 4, 2) := by decide +kernel
theorem dX0_part_8 : decode cX0_part 8 = .ok (.iconst 0, 1) := by decide +kernel
theorem dX0_part_9 : decode cX0_part 9 = .ok (.istore 5, 2) := by decide +kernel
theorem dX0_part_11 : decode cX0_part 11 = .ok (.iload 5, 2) := by decide +kernel
theorem dX0_part_13 : decode cX0_part 13 = .ok (.bipush 24, 2) := by decide +kernel
theorem dX0_part_15 : decode cX0_part 15 = .ok (.if_icmp .ge 28, 3) := by decide +kernel
theorem dX0_part_18 : decode cX0_part 18 = .ok (.iload 4, 2) := by decide +kernel
theorem dX0_part_20 : decode cX0_part 20 = .ok (.iload_n 2, 1) := by decide +kernel
theorem dX0_part_21 : decode cX0_part 21 = .ok (.iload 5, 2) := by decide +kernel
theorem dX0_part_23 : decode cX0_part 23 = .ok (.iushr, 1) := by decide +kernel
theorem dX0_part_24 : decode cX0_part 24 = .ok (.iconst 1, 1) := by decide +kernel
theorem dX0_part_25 : decode cX0_part 25 = .ok (.iand, 1) := by decide +kernel
theorem dX0_part_26 : decode cX0_part 26 = .ok (.aload_n 0, 1) := by decide +kernel
theorem dX0_part_27 : decode cX0_part 27 = .ok (.getfield 15, 3) := by decide +kernel
theorem dX0_part_30 : decode cX0_part 30 = .ok (.iload 5, 2) := by decide +kernel
theorem dX0_part_32 : decode cX0_part 32 = .ok (.iaload, 1) := by decide +kernel
theorem dX0_part_33 : decode cX0_part 33 = .ok (.imul, 1) := by decide +kernel
theorem dX0_part_34 : decode cX0_part 34 = .ok (.iadd, 1) := by decide +kernel
theorem dX0_part_35 : decode cX0_part 35 = .ok (.istore 4, 2) := by decide +kernel
theorem dX0_part_37 : decode cX0_part 37 = .ok (.iinc 5 1, 3) := by decide +kernel
theorem dX0_part_40 : decode cX0_part 40 = .ok (.goto (-29), 3) := by decide +kernel
theorem dX0_part_43 : decode cX0_part 43 = .ok (.iconst 0, 1) := by decide +kernel
theorem dX0_part_44 : decode cX0_part 44 = .ok (.istore 5, 2) := by decide +kernel
theorem dX0_part_46 : decode cX0_part 46 = .ok (.iconst 0, 1) := by decide +kernel
theorem dX0_part_47 : decode cX0_part 47 = .ok (.istore 6, 2) := by decide +kernel
theorem dX0_part_49 : decode cX0_part 49 = .ok (.iload 6, 2) := by decide +kernel
theorem dX0_part_51 : decode cX0_part 51 = .ok (.bipush 24, 2) := by decide +kernel
theorem dX0_part_53 : decode cX0_part 53 = .ok (.if_icmp .ge 58, 3) := by decide +kernel
theorem dX0_part_56 : decode cX0_part 56 = .ok (.iload 4, 2) := by decide +kernel
theorem dX0_part_58 : decode cX0_part 58 = .ok (.ifCond .le 53, 3) := by decide +kernel
theorem dX0_part_61 : decode cX0_part 61 = .ok (.iload_n 1, 1) := by decide +kernel
theorem dX0_part_62 : decode cX0_part 62 = .ok (.i2l, 1) := by decide +kernel
theorem dX0_part_63 : decode cX0_part 63 = .ok (.iload_n 2, 1) := by decide +kernel
theorem dX0_part_64 : decode cX0_part 64 = .ok (.iload 6, 2) := by decide +kernel
theorem dX0_part_66 : decode cX0_part 66 = .ok (.iushr, 1) := by decide +kernel
theorem dX0_part_67 : decode cX0_part 67 = .ok (.iconst 1, 1) := by decide +kernel
theorem dX0_part_68 : decode cX0_part 68 = .ok (.iand, 1) := by decide +kernel
theorem dX0_part_69 : decode cX0_part 69 = .ok (.aload_n 0, 1) := by decide +kernel
theorem dX0_part_70 : decode cX0_part 70 = .ok (.getfield 15, 3) := by decide +kernel
theorem dX0_part_73 : decode cX0_part 73 = .ok (.iload 6, 2) := by decide +kernel
theorem dX0_part_75 : decode cX0_part 75 = .ok (.iaload, 1) := by decide +kernel
theorem dX0_part_76 : decode cX0_part 76 = .ok (.imul, 1) := by decide +kernel
theorem dX0_part_77 : decode cX0_part 77 = .ok (.i2l, 1) := by decide +kernel
theorem dX0_part_78 : decode cX0_part 78 = .ok (.lmul, 1) := by decide +kernel
theorem dX0_part_79 : decode cX0_part 79 = .ok (.iload 4, 2) := by decide +kernel
theorem dX0_part_81 : decode cX0_part 81 = .ok (.i2l, 1) := by decide +kernel
theorem dX0_part_82 : decode cX0_part 82 = .ok (.ldiv, 1) := by decide +kernel
theorem dX0_part_83 : decode cX0_part 83 = .ok (.l2i, 1) := by decide +kernel
theorem dX0_part_84 : decode cX0_part 84 = .ok (.istore 7, 2) := by decide +kernel
theorem dX0_part_86 : decode cX0_part 86 = .ok (.aload_n 0, 1) := by decide +kernel
theorem dX0_part_87 : decode cX0_part 87 = .ok (.getfield 18, 3) := by decide +kernel
theorem dX0_part_90 : decode cX0_part 90 = .ok (.iload 6, 2) := by decide +kernel
theorem dX0_part_92 : decode cX0_part 92 = .ok (.dup2, 1) := by decide +kernel
theorem dX0_part_93 : decode cX0_part 93 = .ok (.iaload, 1) := by decide +kernel
theorem dX0_part_94 : decode cX0_part 94 = .ok (.iload 7, 2) := by decide +kernel
theorem dX0_part_96 : decode cX0_part 96 = .ok (.iadd, 1) := by decide +kernel
theorem dX0_part_97 : decode cX0_part 97 = .ok (.iastore, 1) := by decide +kernel
theorem dX0_part_98 : decode cX0_part 98 = .ok (.iload 5, 2) := by decide +kernel
theorem dX0_part_100 : decode cX0_part 100 = .ok (.iload 7, 2) := by decide +kernel
theorem dX0_part_102 : decode cX0_part 102 = .ok (.iadd, 1) := by decide +kernel
theorem dX0_part_103 : decode cX0_part 103 = .ok (.istore 5, 2) := by decide +kernel
theorem dX0_part_105 : decode cX0_part 105 = .ok (.iinc 6 1, 3) := by decide +kernel
theorem dX0_part_108 : decode cX0_part 108 = .ok (.goto (-59), 3) := by decide +kernel
theorem dX0_part_111 : decode cX0_part 111 = .ok (.aload_n 0, 1) := by decide +kernel
theorem dX0_part_112 : decode cX0_part 112 = .ok (.iconst 2, 1) := by decide +kernel
theorem dX0_part_113 : decode cX0_part 113 = .ok (.iload_n 3, 1) := by decide +kernel
theorem dX0_part_114 : decode cX0_part 114 = .ok (.iload 5, 2) := by decide +kernel
theorem dX0_part_116 : decode cX0_part 116 = .ok (.ineg, 1) := by decide +kernel
theorem dX0_part_117 : decode cX0_part 117 = .ok (.invokevirtual 47, 3) := by decide +kernel
theorem dX0_part_120 : decode cX0_part 120 = .ok (.aload_n 0, 1) := by decide +kernel
theorem dX0_part_121 : decode cX0_part 121 = .ok (.iload_n 3, 1) := by decide +kernel
theorem dX0_part_122 : decode cX0_part 122 = .ok (.putfield 31, 3) := by decide +kernel
theorem dX0_part_125 : decode cX0_part 125 = .ok (.iload 5, 2) := by decide +kernel
theorem dX0_part_127 : decode cX0_part 127 = .ok (.ireturn, 1) := by decide +kernel
theorem dX1_tell_0 : decode cX1_tell 0 = .ok (.iconst 0, 1) := by decide +kernel
theorem dX1_tell_1 : decode cX1_tell 1 = .ok (.istore_n 3, 1) := by decide +kernel
theorem dX1_tell_2 : decode cX1_tell 2 = .ok (.aload_n 0, 1) := by decide +kernel
theorem dX1_tell_3 : decode cX1_tell 3 = .ok (.getfield 9, 3) := by decide +kernel
theorem dX1_tell_6 : decode cX1_tell 6 = .ok (.iload_n 1, 1) := by decide +kernel
theorem dX1_tell_7 : decode cX1_tell 7 = .ok (.iconst 0, 1) := by decide +kernel
theorem dX1_tell_8 : decode cX1_tell 8 = .ok (.iastore, 1) := by decide +kernel
theorem dX1_tell_9 : decode cX1_tell 9 = .ok (.iconst 0, 1) := by decide +kernel
theorem dX1_tell_10 : decode cX1_tell 10 = .ok (.istore 4, 2) := by decide +kernel
theorem dX1_tell_12 : decode cX1_tell 12 = .ok (.iload 4, 2) := by decide +kernel
theorem dX1_tell_14 : decode cX1_tell 14 = .ok (.aload_n 2, 1) := by decide +kernel
theorem dX1_tell_15 : decode cX1_tell 15 = .ok (.getfield 28, 3) := by decide +kernel
theorem dX1_tell_18 : decode cX1_tell 18 = .ok (.if_icmp .ge 72, 3) := by decide +kernel
theorem dX1_tell_21 : decode cX1_tell 21 = .ok (.aload_n 2, 1) := by decide +kernel
theorem dX1_tell_22 : decode cX1_tell 22 = .ok (.iload 4, 2) := by decide +kernel
theorem dX1_tell_24 : decode cX1_tell 24 = .ok (.invokevirtual 32, 3) := by decide +kernel
theorem dX1_tell_27 : decode cX1_tell 27 = .ok (.istore 5, 2) := by decide +kernel
theorem dX1_tell_29 : decode cX1_tell 29 = .ok (.iload 5, 2) := by decide +kernel
theorem dX1_tell_31 : decode cX1_tell 31 = .ok (.ifCond .lt 53, 3) := by decide +kernel
theorem dX1_tell_34 : decode cX1_tell 34 = .ok (.iload 5, 2) := by decide +kernel
theorem dX1_tell_36 : decode cX1_tell 36 = .ok (.aload_n 0, 1) := by decide +kernel
theorem dX1_tell_37 : decode cX1_tell 37 = .ok (.getfield 15, 3) := by decide +kernel
theorem dX1_tell_40 : decode cX1_tell 40 = .ok (.if_icmp .ge 44, 3) := by decide +kernel
theorem dX1_tell_43 : decode cX1_tell 43 = .ok (.iload_n 3, 1) := by decide +kernel
theorem dX1_tell_44 : decode cX1_tell 44 = .ok (.iload 5, 2) := by decide +kernel
theorem dX1_tell_46 : decode cX1_tell 46 = .ok (.iushr, 1) := by decide +kernel
theorem dX1_tell_47 : decode cX1_tell 47 = .ok (.iconst 1, 1) := by decide +kernel
theorem dX1_tell_48 : decode cX1_tell 48 = .ok (.iand, 1) := by decide +kernel
theorem dX1_tell_49 : decode cX1_tell 49 = .ok (.ifCond .ne 35, 3) := by decide +kernel
theorem dX1_tell_52 : decode cX1_tell 52 = .ok (.iload_n 3, 1) := by decide +kernel
theorem dX1_tell_53 : decode cX1_tell 53 = .ok (.iconst 1, 1) := by decide +kernel
theorem dX1_tell_54 : decode cX1_tell 54 = .ok (.iload 5, 2) := by decide +kernel
theorem dX1_tell_56 : decode cX1_tell 56 = .ok (.ishl, 1) := by decide +kernel
theorem dX1_tell_57 : decode cX1_tell 57 = .ok (.ior, 1) := by decide +kernel
theorem dX1_tell_58 : decode cX1_tell 58 = .ok (.istore_n 3, 1) := by decide +kernel
theorem dX1_tell_59 : decode cX1_tell 59 = .ok (.aload_n 0, 1) := by decide +kernel
theorem dX1_tell_60 : decode cX1_tell 60 = .ok (.getfield 19, 3) := by decide +kernel
theorem dX1_tell_63 : decode cX1_tell 63 = .ok (.aload_n 0, 1) := by decide +kernel
theorem dX1_tell_64 : decode cX1_tell 64 = .ok (.getfield 15, 3) := by decide +kernel
theorem dX1_tell_67 : decode cX1_tell 67 = .ok (.iload_n 1, 1) := by decide +kernel
theorem dX1_tell_68 : decode cX1_tell 68 = .ok (.imul, 1) := by decide +kernel
theorem dX1_tell_69 : decode cX1_tell 69 = .ok (.aload_n 0, 1) := by decide +kernel
theorem dX1_tell_70 : decode cX1_tell 70 = .ok (.getfield 9, 3) := by decide +kernel
theorem dX1_tell_73 : decode cX1_tell 73 = .ok (.iload_n 1, 1) := by decide +kernel
theorem dX1_tell_74 : decode cX1_tell 74 = .ok (.dup2, 1) := by decide +kernel
theorem dX1_tell_75 : decode cX1_tell 75 = .ok (.iaload, 1) := by decide +kernel
theorem dX1_tell_76 : decode cX1_tell 76 = .ok (.dup_x2, 1) := by decide +kernel
theorem dX1_tell_77 : decode cX1_tell 77 = .ok (.iconst 1, 1) := by decide +kernel
theorem dX1_tell_78 : decode cX1_tell 78 = .ok (.iadd, 1) := by decide +kernel
theorem dX1_tell_79 : decode cX1_tell 79 = .ok (.iastore, 1) := by decide +kernel
theorem dX1_tell_80 : decode cX1_tell 80 = .ok (.iadd, 1) := by decide +kernel
theorem dX1_tell_81 : decode cX1_tell 81 = .ok (.iload 5, 2) := by decide +kernel
theorem dX1_tell_83 : decode cX1_tell 83 = .ok (.iastore, 1) := by decide +kernel
theorem dX1_tell_84 : decode cX1_tell 84 = .ok (.iinc 4 1, 3) := by decide +kernel
theorem dX1_tell_87 : decode cX1_tell 87 = .ok (.goto (-75), 3) := by decide +kernel
theorem dX1_tell_90 : decode cX1_tell 90 = .ok (.return_, 1) := by decide +kernel
theorem dX1_has_0 : decode cX1_has 0 = .ok (.aload_n 0, 1) := by decide +kernel
theorem dX1_has_1 : decode cX1_has 1 = .ok (.getfield 9, 3) := by decide +kernel
theorem dX1_has_4 : decode cX1_has 4 = .ok (.iload_n 1, 1) := by decide +kernel
theorem dX1_has_5 : decode cX1_has 5 = .ok (.iaload, 1) := by decide +kernel
theorem dX1_has_6 : decode cX1_has 6 = .ok (.iconst (-1), 1) := by decide +kernel
theorem dX1_has_7 : decode cX1_has 7 = .ok (.if_icmp .eq 7, 3) := by decide +kernel
theorem dX1_has_10 : decode cX1_has 10 = .ok (.iconst 1, 1) := by decide +kernel
theorem dX1_has_11 : decode cX1_has 11 = .ok (.goto 4, 3) := by decide +kernel
theorem dX1_has_14 : decode cX1_has 14 = .ok (.iconst 0, 1) := by decide +kernel
theorem dX1_has_15 : decode cX1_has 15 = .ok (.ireturn, 1) := by decide +kernel
theorem dX1_firstOf_0 : decode cX1_firstOf 0 = .ok (.iconst 0, 1) := by decide +kernel
theorem dX1_firstOf_1 : decode cX1_firstOf 1 = .ok (.istore_n 3, 1) := by decide +kernel
theorem dX1_firstOf_2 : decode cX1_firstOf 2 = .ok (.iload_n 3, 1) := by decide +kernel
theorem dX1_firstOf_3 : decode cX1_firstOf 3 = .ok (.aload_n 0, 1) := by decide +kernel
theorem dX1_firstOf_4 : decode cX1_firstOf 4 = .ok (.getfield 9, 3) := by decide +kernel
theorem dX1_firstOf_7 : decode cX1_firstOf 7 = .ok (.iload_n 1, 1) := by decide +kernel
theorem dX1_firstOf_8 : decode cX1_firstOf 8 = .ok (.iaload, 1) := by decide +kernel
theorem dX1_firstOf_9 : decode cX1_firstOf 9 = .ok (.if_icmp .ge 36, 3) := by decide +kernel
theorem dX1_firstOf_12 : decode cX1_firstOf 12 = .ok (.aload_n 0, 1) := by decide +kernel
theorem dX1_firstOf_13 : decode cX1_firstOf 13 = .ok (.getfield 19, 3) := by decide +kernel
theorem dX1_firstOf_16 : decode cX1_firstOf 16 = .ok (.aload_n 0, 1) := by decide +kernel
theorem dX1_firstOf_17 : decode cX1_firstOf 17 = .ok (.getfield 15, 3) := by decide +kernel
theorem dX1_firstOf_20 : decode cX1_firstOf 20 = .ok (.iload_n 1, 1) := by decide +kernel
theorem dX1_firstOf_21 : decode cX1_firstOf 21 = .ok (.imul, 1) := by decide +kernel
theorem dX1_firstOf_22 : decode cX1_firstOf 22 = .ok (.iload_n 3, 1) := by decide +kernel
theorem dX1_firstOf_23 : decode cX1_firstOf 23 = .ok (.iadd, 1) := by decide +kernel
theorem dX1_firstOf_24 : decode cX1_firstOf 24 = .ok (.iaload, 1) := by decide +kernel
theorem dX1_firstOf_25 : decode cX1_firstOf 25 = .ok (.istore 4, 2) := by decide +kernel
theorem dX1_firstOf_27 : decode cX1_firstOf 27 = .ok (.iload_n 2, 1) := by decide +kernel
theorem dX1_firstOf_28 : decode cX1_firstOf 28 = .ok (.iload 4, 2) := by decide +kernel
theorem dX1_firstOf_30 : decode cX1_firstOf 30 = .ok (.iushr, 1) := by decide +kernel
theorem dX1_firstOf_31 : decode cX1_firstOf 31 = .ok (.iconst 1, 1) := by decide +kernel
theorem dX1_firstOf_32 : decode cX1_firstOf 32 = .ok (.iand, 1) := by decide +kernel
theorem dX1_firstOf_33 : decode cX1_firstOf 33 = .ok (.ifCond .eq 6, 3) := by decide +kernel
theorem dX1_firstOf_36 : decode cX1_firstOf 36 = .ok (.iload 4, 2) := by decide +kernel
theorem dX1_firstOf_38 : decode cX1_firstOf 38 = .ok (.ireturn, 1) := by decide +kernel
theorem dX1_firstOf_39 : decode cX1_firstOf 39 = .ok (.iinc 3 1, 3) := by decide +kernel
theorem dX1_firstOf_42 : decode cX1_firstOf 42 = .ok (.goto (-40), 3) := by decide +kernel
theorem dX1_firstOf_45 : decode cX1_firstOf 45 = .ok (.iconst (-1), 1) := by decide +kernel
theorem dX1_firstOf_46 : decode cX1_firstOf 46 = .ok (.ireturn, 1) := by decide +kernel
theorem dX1_takeOver_0 : decode cX1_takeOver 0 = .ok (.aload_n 1, 1) := by decide +kernel
theorem dX1_takeOver_1 : decode cX1_takeOver 1 = .ok (.getfield 15, 3) := by decide +kernel
theorem dX1_takeOver_4 : decode cX1_takeOver 4 = .ok (.aload_n 0, 1) := by decide +kernel
theorem dX1_takeOver_5 : decode cX1_takeOver 5 = .ok (.getfield 15, 3) := by decide +kernel
theorem dX1_takeOver_8 : decode cX1_takeOver 8 = .ok (.if_icmp .ne 39, 3) := by decide +kernel
theorem dX1_takeOver_11 : decode cX1_takeOver 11 = .ok (.aload_n 1, 1) := by decide +kernel
theorem dX1_takeOver_12 : decode cX1_takeOver 12 = .ok (.getfield 19, 3) := by decide +kernel
theorem dX1_takeOver_15 : decode cX1_takeOver 15 = .ok (.iconst 0, 1) := by decide +kernel
theorem dX1_takeOver_16 : decode cX1_takeOver 16 = .ok (.aload_n 0, 1) := by decide +kernel
theorem dX1_takeOver_17 : decode cX1_takeOver 17 = .ok (.getfield 19, 3) := by decide +kernel
theorem dX1_takeOver_20 : decode cX1_takeOver 20 = .ok (.iconst 0, 1) := by decide +kernel
theorem dX1_takeOver_21 : decode cX1_takeOver 21 = .ok (.aload_n 0, 1) := by decide +kernel
theorem dX1_takeOver_22 : decode cX1_takeOver 22 = .ok (.getfield 19, 3) := by decide +kernel
theorem dX1_takeOver_25 : decode cX1_takeOver 25 = .ok (.arraylength, 1) := by decide +kernel
theorem dX1_takeOver_26 : decode cX1_takeOver 26 = .ok (.invokestatic 36, 3) := by decide +kernel
theorem dX1_takeOver_29 : decode cX1_takeOver 29 = .ok (.aload_n 1, 1) := by decide +kernel
theorem dX1_takeOver_30 : decode cX1_takeOver 30 = .ok (.getfield 9, 3) := by decide +kernel
theorem dX1_takeOver_33 : decode cX1_takeOver 33 = .ok (.iconst 0, 1) := by decide +kernel
theorem dX1_takeOver_34 : decode cX1_takeOver 34 = .ok (.aload_n 0, 1) := by decide +kernel
theorem dX1_takeOver_35 : decode cX1_takeOver 35 = .ok (.getfield 9, 3) := by decide +kernel
theorem dX1_takeOver_38 : decode cX1_takeOver 38 = .ok (.iconst 0, 1) := by decide +kernel
theorem dX1_takeOver_39 : decode cX1_takeOver 39 = .ok (.aload_n 0, 1) := by decide +kernel
theorem dX1_takeOver_40 : decode cX1_takeOver 40 = .ok (.getfield 9, 3) := by decide +kernel
theorem dX1_takeOver_43 : decode cX1_takeOver 43 = .ok (.arraylength, 1) := by decide +kernel
theorem dX1_takeOver_44 : decode cX1_takeOver 44 = .ok (.invokestatic 36, 3) := by decide +kernel
theorem dX1_takeOver_47 : decode cX1_takeOver 47 = .ok (.return_, 1) := by decide +kernel
theorem dX2_canBe_0 : decode cX2_canBe 0 = .ok (.iload_n 2, 1) := by decide +kernel
theorem dX2_canBe_1 : decode cX2_canBe 1 = .ok (.ifCond .ne 5, 3) := by decide +kernel
theorem dX2_canBe_4 : decode cX2_canBe 4 = .ok (.iconst 0, 1) := by decide +kernel
theorem dX2_canBe_5 : decode cX2_canBe 5 = .ok (.ireturn, 1) := by decide +kernel
theorem dX2_canBe_6 : decode cX2_canBe 6 = .ok (.iconst 0, 1) := by decide +kernel
theorem dX2_canBe_7 : decode cX2_canBe 7 = .ok (.istore 4, 2) := by decide +kernel
theorem dX2_canBe_9 : decode cX2_canBe 9 = .ok (.iload 4, 2) := by decide +kernel
theorem dX2_canBe_11 : decode cX2_canBe 11 = .ok (.aload_n 0, 1) := by decide +kernel
theorem dX2_canBe_12 : decode cX2_canBe 12 = .ok (.getfield 40, 3) := by decide +kernel
theorem dX2_canBe_15 : decode cX2_canBe 15 = .ok (.getfield 55, 3) := by decide +kernel
theorem dX2_canBe_18 : decode cX2_canBe 18 = .ok (.if_icmp .ge 34, 3) := by decide +kernel
theorem dX2_canBe_21 : decode cX2_canBe 21 = .ok (.iload_n 2, 1) := by decide +kernel
theorem dX2_canBe_22 : decode cX2_canBe 22 = .ok (.iload 4, 2) := by decide +kernel
theorem dX2_canBe_24 : decode cX2_canBe 24 = .ok (.iushr, 1) := by decide +kernel
theorem dX2_canBe_25 : decode cX2_canBe 25 = .ok (.iconst 1, 1) := by decide +kernel
theorem dX2_canBe_26 : decode cX2_canBe 26 = .ok (.iand, 1) := by decide +kernel
theorem dX2_canBe_27 : decode cX2_canBe 27 = .ok (.ifCond .eq 19, 3) := by decide +kernel
theorem dX2_canBe_30 : decode cX2_canBe 30 = .ok (.aload_n 0, 1) := by decide +kernel
theorem dX2_canBe_31 : decode cX2_canBe 31 = .ok (.getfield 44, 3) := by decide +kernel
theorem dX2_canBe_34 : decode cX2_canBe 34 = .ok (.iload 4, 2) := by decide +kernel
theorem dX2_canBe_36 : decode cX2_canBe 36 = .ok (.iload_n 1, 1) := by decide +kernel
theorem dX2_canBe_37 : decode cX2_canBe 37 = .ok (.iload_n 3, 1) := by decide +kernel
theorem dX2_canBe_38 : decode cX2_canBe 38 = .ok (.invokevirtual 60, 3) := by decide +kernel
theorem dX2_canBe_41 : decode cX2_canBe 41 = .ok (.ifCond .ne 5, 3) := by decide +kernel
theorem dX2_canBe_44 : decode cX2_canBe 44 = .ok (.iconst 0, 1) := by decide +kernel
theorem dX2_canBe_45 : decode cX2_canBe 45 = .ok (.ireturn, 1) := by decide +kernel
theorem dX2_canBe_46 : decode cX2_canBe 46 = .ok (.iinc 4 1, 3) := by decide +kernel
theorem dX2_canBe_49 : decode cX2_canBe 49 = .ok (.goto (-40), 3) := by decide +kernel
theorem dX2_canBe_52 : decode cX2_canBe 52 = .ok (.aload_n 0, 1) := by decide +kernel
theorem dX2_canBe_53 : decode cX2_canBe 53 = .ok (.invokevirtual 66, 3) := by decide +kernel
theorem dX2_canBe_56 : decode cX2_canBe 56 = .ok (.invokestatic 70, 3) := by decide +kernel
theorem dX2_canBe_59 : decode cX2_canBe 59 = .ok (.istore 4, 2) := by decide +kernel
theorem dX2_canBe_61 : decode cX2_canBe 61 = .ok (.iload 4, 2) := by decide +kernel
theorem dX2_canBe_63 : decode cX2_canBe 63 = .ok (.iconst 1, 1) := by decide +kernel
theorem dX2_canBe_64 : decode cX2_canBe 64 = .ok (.if_icmp .lt 25, 3) := by decide +kernel
theorem dX2_canBe_67 : decode cX2_canBe 67 = .ok (.iconst 2, 1) := by decide +kernel
theorem dX2_canBe_68 : decode cX2_canBe 68 = .ok (.iload 4, 2) := by decide +kernel
theorem dX2_canBe_70 : decode cX2_canBe 70 = .ok (.imul, 1) := by decide +kernel
theorem dX2_canBe_71 : decode cX2_canBe 71 = .ok (.aload_n 0, 1) := by decide +kernel
theorem dX2_canBe_72 : decode cX2_canBe 72 = .ok (.getfield 44, 3) := by decide +kernel
theorem dX2_canBe_75 : decode cX2_canBe 75 = .ok (.iconst 1, 1) := by decide +kernel
theorem dX2_canBe_76 : decode cX2_canBe 76 = .ok (.invokevirtual 76, 3) := by decide +kernel
theorem dX2_canBe_79 : decode cX2_canBe 79 = .ok (.invokestatic 70, 3) := by decide +kernel
theorem dX2_canBe_82 : decode cX2_canBe 82 = .ok (.if_icmp .lt 7, 3) := by decide +kernel
theorem dX2_canBe_85 : decode cX2_canBe 85 = .ok (.iconst 1, 1) := by decide +kernel
theorem dX2_canBe_86 : decode cX2_canBe 86 = .ok (.goto 4, 3) := by decide +kernel
theorem dX2_canBe_89 : decode cX2_canBe 89 = .ok (.iconst 0, 1) := by decide +kernel
theorem dX2_canBe_90 : decode cX2_canBe 90 = .ok (.ireturn, 1) := by decide +kernel
theorem dX2_withBallots_0 : decode cX2_withBallots 0 = .ok (.aload_n 0, 1) := by decide +kernel
theorem dX2_withBallots_1 : decode cX2_withBallots 1 = .ok (.getfield 44, 3) := by decide +kernel
theorem dX2_withBallots_4 : decode cX2_withBallots 4 = .ok (.iconst 1, 1) := by decide +kernel
theorem dX2_withBallots_5 : decode cX2_withBallots 5 = .ok (.invokevirtual 76, 3) := by decide +kernel
theorem dX2_withBallots_8 : decode cX2_withBallots 8 = .ok (.istore_n 1, 1) := by decide +kernel
theorem dX2_withBallots_9 : decode cX2_withBallots 9 = .ok (.iconst 0, 1) := by decide +kernel
theorem dX2_withBallots_10 : decode cX2_withBallots 10 = .ok (.istore_n 2, 1) := by decide +kernel
theorem dX2_withBallots_11 : decode cX2_withBallots 11 = .ok (.iload_n 2, 1) := by decide +kernel
theorem dX2_withBallots_12 : decode cX2_withBallots 12 = .ok (.bipush 24, 2) := by decide +kernel
theorem dX2_withBallots_14 : decode cX2_withBallots 14 = .ok (.if_icmp .ge 28, 3) := by decide +kernel
theorem dX2_withBallots_17 : decode cX2_withBallots 17 = .ok (.aload_n 0, 1) := by decide +kernel
theorem dX2_withBallots_18 : decode cX2_withBallots 18 = .ok (.getfield 52, 3) := by decide +kernel
theorem dX2_withBallots_21 : decode cX2_withBallots 21 = .ok (.iload_n 2, 1) := by decide +kernel
theorem dX2_withBallots_22 : decode cX2_withBallots 22 = .ok (.invokevirtual 79, 3) := by decide +kernel
theorem dX2_withBallots_25 : decode cX2_withBallots 25 = .ok (.ifCond .ne 11, 3) := by decide +kernel
theorem dX2_withBallots_28 : decode cX2_withBallots 28 = .ok (.iload_n 1, 1) := by decide +kernel
theorem dX2_withBallots_29 : decode cX2_withBallots 29 = .ok (.iconst 1, 1) := by decide +kernel
theorem dX2_withBallots_30 : decode cX2_withBallots 30 = .ok (.iload_n 2, 1) := by decide +kernel
theorem dX2_withBallots_31 : decode cX2_withBallots 31 = .ok (.ishl, 1) := by decide +kernel
theorem dX2_withBallots_32 : decode cX2_withBallots 32 = .ok (.iconst (-1), 1) := by decide +kernel
theorem dX2_withBallots_33 : decode cX2_withBallots 33 = .ok (.ixor, 1) := by decide +kernel
theorem dX2_withBallots_34 : decode cX2_withBallots 34 = .ok (.iand, 1) := by decide +kernel
theorem dX2_withBallots_35 : decode cX2_withBallots 35 = .ok (.istore_n 1, 1) := by decide +kernel
theorem dX2_withBallots_36 : decode cX2_withBallots 36 = .ok (.iinc 2 1, 3) := by decide +kernel
theorem dX2_withBallots_39 : decode cX2_withBallots 39 = .ok (.goto (-28), 3) := by decide +kernel
theorem dX2_withBallots_42 : decode cX2_withBallots 42 = .ok (.iload_n 1, 1) := by decide +kernel
theorem dX2_withBallots_43 : decode cX2_withBallots 43 = .ok (.ireturn, 1) := by decide +kernel
theorem dX2_firstOfficer_0 : decode cX2_firstOfficer 0 = .ok (.iconst 0, 1) := by decide +kernel
theorem dX2_firstOfficer_1 : decode cX2_firstOfficer 1 = .ok (.istore_n 1, 1) := by decide +kernel
theorem dX2_firstOfficer_2 : decode cX2_firstOfficer 2 = .ok (.iload_n 1, 1) := by decide +kernel
theorem dX2_firstOfficer_3 : decode cX2_firstOfficer 3 = .ok (.aload_n 0, 1) := by decide +kernel
theorem dX2_firstOfficer_4 : decode cX2_firstOfficer 4 = .ok (.getfield 44, 3) := by decide +kernel
theorem dX2_firstOfficer_7 : decode cX2_firstOfficer 7 = .ok (.getfield 83, 3) := by decide +kernel
theorem dX2_firstOfficer_10 : decode cX2_firstOfficer 10 = .ok (.if_icmp .ge 45, 3) := by decide +kernel
theorem dX2_firstOfficer_13 : decode cX2_firstOfficer 13 = .ok (.aload_n 0, 1) := by decide +kernel
theorem dX2_firstOfficer_14 : decode cX2_firstOfficer 14 = .ok (.getfield 44, 3) := by decide +kernel
theorem dX2_firstOfficer_17 : decode cX2_firstOfficer 17 = .ok (.getfield 84, 3) := by decide +kernel
theorem dX2_firstOfficer_20 : decode cX2_firstOfficer 20 = .ok (.iload_n 1, 1) := by decide +kernel
theorem dX2_firstOfficer_21 : decode cX2_firstOfficer 21 = .ok (.iaload, 1) := by decide +kernel
theorem dX2_firstOfficer_22 : decode cX2_firstOfficer 22 = .ok (.iconst 2, 1) := by decide +kernel
theorem dX2_firstOfficer_23 : decode cX2_firstOfficer 23 = .ok (.if_icmp .ne 26, 3) := by decide +kernel
theorem dX2_firstOfficer_26 : decode cX2_firstOfficer 26 = .ok (.aload_n 0, 1) := by decide +kernel
theorem dX2_firstOfficer_27 : decode cX2_firstOfficer 27 = .ok (.getfield 44, 3) := by decide +kernel
theorem dX2_firstOfficer_30 : decode cX2_firstOfficer 30 = .ok (.getfield 87, 3) := by decide +kernel
theorem dX2_firstOfficer_33 : decode cX2_firstOfficer 33 = .ok (.iload_n 1, 1) := by decide +kernel
theorem dX2_firstOfficer_34 : decode cX2_firstOfficer 34 = .ok (.iaload, 1) := by decide +kernel
theorem dX2_firstOfficer_35 : decode cX2_firstOfficer 35 = .ok (.iconst (-1), 1) := by decide +kernel
theorem dX2_firstOfficer_36 : decode cX2_firstOfficer 36 = .ok (.if_icmp .eq 13, 3) := by decide +kernel
theorem dX2_firstOfficer_39 : decode cX2_firstOfficer 39 = .ok (.aload_n 0, 1) := by decide +kernel
theorem dX2_firstOfficer_40 : decode cX2_firstOfficer 40 = .ok (.getfield 44, 3) := by decide +kernel
theorem dX2_firstOfficer_43 : decode cX2_firstOfficer 43 = .ok (.getfield 87, 3) := by decide +kernel
theorem dX2_firstOfficer_46 : decode cX2_firstOfficer 46 = .ok (.iload_n 1, 1) := by decide +kernel
theorem dX2_firstOfficer_47 : decode cX2_firstOfficer 47 = .ok (.iaload, 1) := by decide +kernel
theorem dX2_firstOfficer_48 : decode cX2_firstOfficer 48 = .ok (.ireturn, 1) := by decide +kernel
theorem dX2_firstOfficer_49 : decode cX2_firstOfficer 49 = .ok (.iinc 1 1, 3) := by decide +kernel
theorem dX2_firstOfficer_52 : decode cX2_firstOfficer 52 = .ok (.goto (-50), 3) := by decide +kernel
theorem dX2_firstOfficer_55 : decode cX2_firstOfficer 55 = .ok (.iconst (-1), 1) := by decide +kernel
theorem dX2_firstOfficer_56 : decode cX2_firstOfficer 56 = .ok (.ireturn, 1) := by decide +kernel
theorem dX2_begin_0 : decode cX2_begin 0 = .ok (.aload_n 0, 1) := by decide +kernel
theorem dX2_begin_1 : decode cX2_begin 1 = .ok (.iload_n 1, 1) := by decide +kernel
theorem dX2_begin_2 : decode cX2_begin 2 = .ok (.putfield 27, 3) := by decide +kernel
theorem dX2_begin_5 : decode cX2_begin 5 = .ok (.aload_n 0, 1) := by decide +kernel
theorem dX2_begin_6 : decode cX2_begin 6 = .ok (.aload_n 0, 1) := by decide +kernel
theorem dX2_begin_7 : decode cX2_begin 7 = .ok (.invokevirtual 66, 3) := by decide +kernel
theorem dX2_begin_10 : decode cX2_begin 10 = .ok (.putfield 31, 3) := by decide +kernel
theorem dX2_begin_13 : decode cX2_begin 13 = .ok (.aload_n 0, 1) := by decide +kernel
theorem dX2_begin_14 : decode cX2_begin 14 = .ok (.aload_n 0, 1) := by decide +kernel
theorem dX2_begin_15 : decode cX2_begin 15 = .ok (.invokevirtual 90, 3) := by decide +kernel
theorem dX2_begin_18 : decode cX2_begin 18 = .ok (.putfield 34, 3) := by decide +kernel
theorem dX2_begin_21 : decode cX2_begin 21 = .ok (.aload_n 0, 1) := by decide +kernel
theorem dX2_begin_22 : decode cX2_begin 22 = .ok (.getfield 14, 3) := by decide +kernel
theorem dX2_begin_25 : decode cX2_begin 25 = .ok (.aload_n 0, 1) := by decide +kernel
theorem dX2_begin_26 : decode cX2_begin 26 = .ok (.getfield 52, 3) := by decide +kernel
theorem dX2_begin_29 : decode cX2_begin 29 = .ok (.invokevirtual 93, 3) := by decide +kernel
theorem dX2_begin_32 : decode cX2_begin 32 = .ok (.aload_n 0, 1) := by decide +kernel
theorem dX2_begin_33 : decode cX2_begin 33 = .ok (.iload_n 1, 1) := by decide +kernel
theorem dX2_begin_34 : decode cX2_begin 34 = .ok (.iconst 1, 1) := by decide +kernel
theorem dX2_begin_35 : decode cX2_begin 35 = .ok (.invokevirtual 97, 3) := by decide +kernel
theorem dX2_begin_38 : decode cX2_begin 38 = .ok (.ireturn, 1) := by decide +kernel
theorem dX2_electedWithout_0 : decode cX2_electedWithout 0 = .ok (.aload_n 0, 1) := by decide +kernel
theorem dX2_electedWithout_1 : decode cX2_electedWithout 1 = .ok (.getfield 27, 3) := by decide +kernel
theorem dX2_electedWithout_4 : decode cX2_electedWithout 4 = .ok (.iconst 1, 1) := by decide +kernel
theorem dX2_electedWithout_5 : decode cX2_electedWithout 5 = .ok (.iload_n 1, 1) := by decide +kernel
theorem dX2_electedWithout_6 : decode cX2_electedWithout 6 = .ok (.ishl, 1) := by decide +kernel
theorem dX2_electedWithout_7 : decode cX2_electedWithout 7 = .ok (.iconst (-1), 1) := by decide +kernel
theorem dX2_electedWithout_8 : decode cX2_electedWithout 8 = .ok (.ixor, 1) := by decide +kernel
theorem dX2_electedWithout_9 : decode cX2_electedWithout 9 = .ok (.iand, 1) := by decide +kernel
theorem dX2_electedWithout_10 : decode cX2_electedWithout 10 = .ok (.istore_n 2, 1) := by decide +kernel
theorem dX2_electedWithout_11 : decode cX2_electedWithout 11 = .ok (.iload_n 2, 1) := by decide +kernel
theorem dX2_electedWithout_12 : decode cX2_electedWithout 12 = .ok (.aload_n 0, 1) := by decide +kernel
theorem dX2_electedWithout_13 : decode cX2_electedWithout 13 = .ok (.getfield 27, 3) := by decide +kernel
theorem dX2_electedWithout_16 : decode cX2_electedWithout 16 = .ok (.if_icmp .eq 7, 3) := by decide +kernel
theorem dX2_electedWithout_19 : decode cX2_electedWithout 19 = .ok (.iload_n 2, 1) := by decide +kernel
theorem dX2_electedWithout_20 : decode cX2_electedWithout 20 = .ok (.ifCond .ne 7, 3) := by decide +kernel
theorem dX2_electedWithout_23 : decode cX2_electedWithout 23 = .ok (.iconst (-1), 1) := by decide +kernel
theorem dX2_electedWithout_24 : decode cX2_electedWithout 24 = .ok (.goto 9, 3) := by decide +kernel
theorem dX2_electedWithout_27 : decode cX2_electedWithout 27 = .ok (.aload_n 0, 1) := by decide +kernel
theorem dX2_electedWithout_28 : decode cX2_electedWithout 28 = .ok (.iload_n 2, 1) := by decide +kernel
theorem dX2_electedWithout_29 : decode cX2_electedWithout 29 = .ok (.iconst 0, 1) := by decide +kernel
theorem dX2_electedWithout_30 : decode cX2_electedWithout 30 = .ok (.invokevirtual 97, 3) := by decide +kernel
theorem dX2_electedWithout_33 : decode cX2_electedWithout 33 = .ok (.ireturn, 1) := by decide +kernel
theorem dX2_votesIn_0 : decode cX2_votesIn 0 = .ok (.iload_n 1, 1) := by decide +kernel
theorem dX2_votesIn_1 : decode cX2_votesIn 1 = .ok (.ifCond .lt 25, 3) := by decide +kernel
theorem dX2_votesIn_4 : decode cX2_votesIn 4 = .ok (.iload_n 1, 1) := by decide +kernel
theorem dX2_votesIn_5 : decode cX2_votesIn 5 = .ok (.aload_n 0, 1) := by decide +kernel
theorem dX2_votesIn_6 : decode cX2_votesIn 6 = .ok (.getfield 37, 3) := by decide +kernel
theorem dX2_votesIn_9 : decode cX2_votesIn 9 = .ok (.if_icmp .ge 17, 3) := by decide +kernel
theorem dX2_votesIn_12 : decode cX2_votesIn 12 = .ok (.aload_n 0, 1) := by decide +kernel
theorem dX2_votesIn_13 : decode cX2_votesIn 13 = .ok (.getfield 20, 3) := by decide +kernel
theorem dX2_votesIn_16 : decode cX2_votesIn 16 = .ok (.bipush 24, 2) := by decide +kernel
theorem dX2_votesIn_18 : decode cX2_votesIn 18 = .ok (.iload_n 1, 1) := by decide +kernel
theorem dX2_votesIn_19 : decode cX2_votesIn 19 = .ok (.imul, 1) := by decide +kernel
theorem dX2_votesIn_20 : decode cX2_votesIn 20 = .ok (.iload_n 2, 1) := by decide +kernel
theorem dX2_votesIn_21 : decode cX2_votesIn 21 = .ok (.iadd, 1) := by decide +kernel
theorem dX2_votesIn_22 : decode cX2_votesIn 22 = .ok (.iaload, 1) := by decide +kernel
theorem dX2_votesIn_23 : decode cX2_votesIn 23 = .ok (.goto 4, 3) := by decide +kernel
theorem dX2_votesIn_26 : decode cX2_votesIn 26 = .ok (.iconst (-1), 1) := by decide +kernel
theorem dX2_votesIn_27 : decode cX2_votesIn 27 = .ok (.ireturn, 1) := by decide +kernel
theorem dX2_runRounds_0 : decode cX2_runRounds 0 = .ok (.iload_n 1, 1) := by decide +kernel
theorem dX2_runRounds_1 : decode cX2_runRounds 1 = .ok (.istore_n 3, 1) := by decide +kernel
theorem dX2_runRounds_2 : decode cX2_runRounds 2 = .ok (.iconst (-1), 1) := by decide +kernel
theorem dX2_runRounds_3 : decode cX2_runRounds 3 = .ok (.istore 4, 2) := by decide +kernel
theorem dX2_runRounds_5 : decode cX2_runRounds 5 = .ok (.iconst 0, 1) := by decide +kernel
theorem dX2_runRounds_6 : decode cX2_runRounds 6 = .ok (.istore 5, 2) := by decide +kernel
theorem dX2_runRounds_8 : decode cX2_runRounds 8 = .ok (.iload 4, 2) := by decide +kernel
theorem dX2_runRounds_10 : decode cX2_runRounds 10 = .ok (.iconst (-1), 1) := by decide +kernel
theorem dX2_runRounds_11 : decode cX2_runRounds 11 = .ok (.if_icmp .ne 61, 3) := by decide +kernel
theorem dX2_runRounds_14 : decode cX2_runRounds 14 = .ok (.iload 5, 2) := by decide +kernel
theorem dX2_runRounds_16 : decode cX2_runRounds 16 = .ok (.bipush 24, 2) := by decide +kernel
theorem dX2_runRounds_18 : decode cX2_runRounds 18 = .ok (.if_icmp .ge 54, 3) := by decide +kernel
theorem dX2_runRounds_21 : decode cX2_runRounds 21 = .ok (.aload_n 0, 1) := by decide +kernel
theorem dX2_runRounds_22 : decode cX2_runRounds 22 = .ok (.iload_n 3, 1) := by decide +kernel
theorem dX2_runRounds_23 : decode cX2_runRounds 23 = .ok (.invokevirtual 101, 3) := by decide +kernel
theorem dX2_runRounds_26 : decode cX2_runRounds 26 = .ok (.istore 6, 2) := by decide +kernel
theorem dX2_runRounds_28 : decode cX2_runRounds 28 = .ok (.iload_n 2, 1) := by decide +kernel
theorem dX2_runRounds_29 : decode cX2_runRounds 29 = .ok (.ifCond .eq 10, 3) := by decide +kernel
theorem dX2_runRounds_32 : decode cX2_runRounds 32 = .ok (.aload_n 0, 1) := by decide +kernel
theorem dX2_runRounds_33 : decode cX2_runRounds 33 = .ok (.iload 5, 2) := by decide +kernel
theorem dX2_runRounds_35 : decode cX2_runRounds 35 = .ok (.iload_n 3, 1) := by decide +kernel
theorem dX2_runRounds_36 : decode cX2_runRounds 36 = .ok (.invokevirtual 104, 3) := by decide +kernel
theorem dX2_runRounds_39 : decode cX2_runRounds 39 = .ok (.iinc 5 1, 3) := by decide +kernel
theorem dX2_runRounds_42 : decode cX2_runRounds 42 = .ok (.aload_n 0, 1) := by decide +kernel
theorem dX2_runRounds_43 : decode cX2_runRounds 43 = .ok (.iload_n 3, 1) := by decide +kernel
theorem dX2_runRounds_44 : decode cX2_runRounds 44 = .ok (.iload 6, 2) := by decide +kernel
theorem dX2_runRounds_46 : decode cX2_runRounds 46 = .ok (.invokevirtual 108, 3) := by decide +kernel
theorem dX2_runRounds_49 : decode cX2_runRounds 49 = .ok (.istore 4, 2) := by decide +kernel
theorem dX2_runRounds_51 : decode cX2_runRounds 51 = .ok (.iload 4, 2) := by decide +kernel
theorem dX2_runRounds_53 : decode cX2_runRounds 53 = .ok (.iconst (-1), 1) := by decide +kernel
theorem dX2_runRounds_54 : decode cX2_runRounds 54 = .ok (.if_icmp .ne 15, 3) := by decide +kernel
theorem dX2_runRounds_57 : decode cX2_runRounds 57 = .ok (.iload_n 3, 1) := by decide +kernel
theorem dX2_runRounds_58 : decode cX2_runRounds 58 = .ok (.iconst 1, 1) := by decide +kernel
theorem dX2_runRounds_59 : decode cX2_runRounds 59 = .ok (.aload_n 0, 1) := by decide +kernel
theorem dX2_runRounds_60 : decode cX2_runRounds 60 = .ok (.iload_n 3, 1) := by decide +kernel
theorem dX2_runRounds_61 : decode cX2_runRounds 61 = .ok (.invokevirtual 112, 3) := by decide +kernel
theorem dX2_runRounds_64 : decode cX2_runRounds 64 = .ok (.ishl, 1) := by decide +kernel
theorem dX2_runRounds_65 : decode cX2_runRounds 65 = .ok (.iconst (-1), 1) := by decide +kernel
theorem dX2_runRounds_66 : decode cX2_runRounds 66 = .ok (.ixor, 1) := by decide +kernel
theorem dX2_runRounds_67 : decode cX2_runRounds 67 = .ok (.iand, 1) := by decide +kernel
theorem dX2_runRounds_68 : decode cX2_runRounds 68 = .ok (.istore_n 3, 1) := by decide +kernel
theorem dX2_runRounds_69 : decode cX2_runRounds 69 = .ok (.goto (-61), 3) := by decide +kernel
theorem dX2_runRounds_72 : decode cX2_runRounds 72 = .ok (.iload_n 2, 1) := by decide +kernel
theorem dX2_runRounds_73 : decode cX2_runRounds 73 = .ok (.ifCond .eq 9, 3) := by decide +kernel
theorem dX2_runRounds_76 : decode cX2_runRounds 76 = .ok (.aload_n 0, 1) := by decide +kernel
theorem dX2_runRounds_77 : decode cX2_runRounds 77 = .ok (.iload 5, 2) := by decide +kernel
theorem dX2_runRounds_79 : decode cX2_runRounds 79 = .ok (.putfield 37, 3) := by decide +kernel
theorem dX2_runRounds_82 : decode cX2_runRounds 82 = .ok (.iload 4, 2) := by decide +kernel
theorem dX2_runRounds_84 : decode cX2_runRounds 84 = .ok (.ireturn, 1) := by decide +kernel
theorem dX2_countVotes_0 : decode cX2_countVotes 0 = .ok (.aload_n 0, 1) := by decide +kernel
theorem dX2_countVotes_1 : decode cX2_countVotes 1 = .ok (.getfield 24, 3) := by decide +kernel
theorem dX2_countVotes_4 : decode cX2_countVotes 4 = .ok (.iconst 0, 1) := by decide +kernel
theorem dX2_countVotes_5 : decode cX2_countVotes 5 = .ok (.invokestatic 115, 3) := by decide +kernel
theorem dX2_countVotes_8 : decode cX2_countVotes 8 = .ok (.iconst 0, 1) := by decide +kernel
theorem dX2_countVotes_9 : decode cX2_countVotes 9 = .ok (.istore_n 2, 1) := by decide +kernel
theorem dX2_countVotes_10 : decode cX2_countVotes 10 = .ok (.iconst 0, 1) := by decide +kernel
theorem dX2_countVotes_11 : decode cX2_countVotes 11 = .ok (.istore_n 3, 1) := by decide +kernel
theorem dX2_countVotes_12 : decode cX2_countVotes 12 = .ok (.iload_n 3, 1) := by decide +kernel
theorem dX2_countVotes_13 : decode cX2_countVotes 13 = .ok (.bipush 24, 2) := by decide +kernel
theorem dX2_countVotes_15 : decode cX2_countVotes 15 = .ok (.if_icmp .ge 55, 3) := by decide +kernel
theorem dX2_countVotes_18 : decode cX2_countVotes 18 = .ok (.aload_n 0, 1) := by decide +kernel
theorem dX2_countVotes_19 : decode cX2_countVotes 19 = .ok (.getfield 31, 3) := by decide +kernel
theorem dX2_countVotes_22 : decode cX2_countVotes 22 = .ok (.iload_n 3, 1) := by decide +kernel
theorem dX2_countVotes_23 : decode cX2_countVotes 23 = .ok (.iushr, 1) := by decide +kernel
theorem dX2_countVotes_24 : decode cX2_countVotes 24 = .ok (.iconst 1, 1) := by decide +kernel
theorem dX2_countVotes_25 : decode cX2_countVotes 25 = .ok (.iand, 1) := by decide +kernel
theorem dX2_countVotes_26 : decode cX2_countVotes 26 = .ok (.ifCond .eq 15, 3) := by decide +kernel
theorem dX2_countVotes_29 : decode cX2_countVotes 29 = .ok (.aload_n 0, 1) := by decide +kernel
theorem dX2_countVotes_30 : decode cX2_countVotes 30 = .ok (.getfield 14, 3) := by decide +kernel
theorem dX2_countVotes_33 : decode cX2_countVotes 33 = .ok (.iload_n 3, 1) := by decide +kernel
theorem dX2_countVotes_34 : decode cX2_countVotes 34 = .ok (.iload_n 1, 1) := by decide +kernel
theorem dX2_countVotes_35 : decode cX2_countVotes 35 = .ok (.invokevirtual 121, 3) := by decide +kernel
theorem dX2_countVotes_38 : decode cX2_countVotes 38 = .ok (.goto 4, 3) := by decide +kernel
theorem dX2_countVotes_41 : decode cX2_countVotes 41 = .ok (.iconst (-1), 1) := by decide +kernel
theorem dX2_countVotes_42 : decode cX2_countVotes 42 = .ok (.istore 4, 2) := by decide +kernel
theorem dX2_countVotes_44 : decode cX2_countVotes 44 = .ok (.iload 4, 2) := by decide +kernel
theorem dX2_countVotes_46 : decode cX2_countVotes 46 = .ok (.iconst (-1), 1) := by decide +kernel
theorem dX2_countVotes_47 : decode cX2_countVotes 47 = .ok (.if_icmp .eq 17, 3) := by decide +kernel
theorem dX2_countVotes_50 : decode cX2_countVotes 50 = .ok (.aload_n 0, 1) := by decide +kernel
theorem dX2_countVotes_51 : decode cX2_countVotes 51 = .ok (.getfield 24, 3) := by decide +kernel
theorem dX2_countVotes_54 : decode cX2_countVotes 54 = .ok (.iload 4, 2) := by decide +kernel
theorem dX2_countVotes_56 : decode cX2_countVotes 56 = .ok (.dup2, 1) := by decide +kernel
theorem dX2_countVotes_57 : decode cX2_countVotes 57 = .ok (.iaload, 1) := by decide +kernel
theorem dX2_countVotes_58 : decode cX2_countVotes 58 = .ok (.iconst 1, 1) := by decide +kernel
theorem dX2_countVotes_59 : decode cX2_countVotes 59 = .ok (.iadd, 1) := by decide +kernel
theorem dX2_countVotes_60 : decode cX2_countVotes 60 = .ok (.iastore, 1) := by decide +kernel
theorem dX2_countVotes_61 : decode cX2_countVotes 61 = .ok (.iinc 2 1, 3) := by decide +kernel
theorem dX2_countVotes_64 : decode cX2_countVotes 64 = .ok (.iinc 3 1, 3) := by decide +kernel
theorem dX2_countVotes_67 : decode cX2_countVotes 67 = .ok (.goto (-55), 3) := by decide +kernel
theorem dX2_countVotes_70 : decode cX2_countVotes 70 = .ok (.iload_n 2, 1) := by decide +kernel
theorem dX2_countVotes_71 : decode cX2_countVotes 71 = .ok (.ireturn, 1) := by decide +kernel
theorem dX2_writeRound_0 : decode cX2_writeRound 0 = .ok (.iconst 0, 1) := by decide +kernel
theorem dX2_writeRound_1 : decode cX2_writeRound 1 = .ok (.istore_n 3, 1) := by decide +kernel
theorem dX2_writeRound_2 : decode cX2_writeRound 2 = .ok (.iload_n 3, 1) := by decide +kernel
theorem dX2_writeRound_3 : decode cX2_writeRound 3 = .ok (.bipush 24, 2) := by decide +kernel
theorem dX2_writeRound_5 : decode cX2_writeRound 5 = .ok (.if_icmp .ge 38, 3) := by decide +kernel
theorem dX2_writeRound_8 : decode cX2_writeRound 8 = .ok (.aload_n 0, 1) := by decide +kernel
theorem dX2_writeRound_9 : decode cX2_writeRound 9 = .ok (.getfield 20, 3) := by decide +kernel
theorem dX2_writeRound_12 : decode cX2_writeRound 12 = .ok (.bipush 24, 2) := by decide +kernel
theorem dX2_writeRound_14 : decode cX2_writeRound 14 = .ok (.iload_n 1, 1) := by decide +kernel
theorem dX2_writeRound_15 : decode cX2_writeRound 15 = .ok (.imul, 1) := by decide +kernel
theorem dX2_writeRound_16 : decode cX2_writeRound 16 = .ok (.iload_n 3, 1) := by decide +kernel
theorem dX2_writeRound_17 : decode cX2_writeRound 17 = .ok (.iadd, 1) := by decide +kernel
theorem dX2_writeRound_18 : decode cX2_writeRound 18 = .ok (.iload_n 2, 1) := by decide +kernel
theorem dX2_writeRound_19 : decode cX2_writeRound 19 = .ok (.iload_n 3, 1) := by decide +kernel
theorem dX2_writeRound_20 : decode cX2_writeRound 20 = .ok (.iushr, 1) := by decide +kernel
theorem dX2_writeRound_21 : decode cX2_writeRound 21 = .ok (.iconst 1, 1) := by decide +kernel
theorem dX2_writeRound_22 : decode cX2_writeRound 22 = .ok (.iand, 1) := by decide +kernel
theorem dX2_writeRound_23 : decode cX2_writeRound 23 = .ok (.ifCond .eq 12, 3) := by decide +kernel
theorem dX2_writeRound_26 : decode cX2_writeRound 26 = .ok (.aload_n 0, 1) := by decide +kernel
theorem dX2_writeRound_27 : decode cX2_writeRound 27 = .ok (.getfield 24, 3) := by decide +kernel
theorem dX2_writeRound_30 : decode cX2_writeRound 30 = .ok (.iload_n 3, 1) := by decide +kernel
theorem dX2_writeRound_31 : decode cX2_writeRound 31 = .ok (.iaload, 1) := by decide +kernel
theorem dX2_writeRound_32 : decode cX2_writeRound 32 = .ok (.goto 4, 3) := by decide +kernel
theorem dX2_writeRound_35 : decode cX2_writeRound 35 = .ok (.iconst (-1), 1) := by decide +kernel
theorem dX2_writeRound_36 : decode cX2_writeRound 36 = .ok (.iastore, 1) := by decide +kernel
theorem dX2_writeRound_37 : decode cX2_writeRound 37 = .ok (.iinc 3 1, 3) := by decide +kernel
theorem dX2_writeRound_40 : decode cX2_writeRound 40 = .ok (.goto (-38), 3) := by decide +kernel
theorem dX2_writeRound_43 : decode cX2_writeRound 43 = .ok (.return_, 1) := by decide +kernel
theorem dX2_winnerOf_0 : decode cX2_winnerOf 0 = .ok (.iload_n 1, 1) := by decide +kernel
theorem dX2_winnerOf_1 : decode cX2_winnerOf 1 = .ok (.invokestatic 70, 3) := by decide +kernel
theorem dX2_winnerOf_4 : decode cX2_winnerOf 4 = .ok (.istore_n 3, 1) := by decide +kernel
theorem dX2_winnerOf_5 : decode cX2_winnerOf 5 = .ok (.iconst 0, 1) := by decide +kernel
theorem dX2_winnerOf_6 : decode cX2_winnerOf 6 = .ok (.istore 4, 2) := by decide +kernel
theorem dX2_winnerOf_8 : decode cX2_winnerOf 8 = .ok (.iload 4, 2) := by decide +kernel
theorem dX2_winnerOf_10 : decode cX2_winnerOf 10 = .ok (.bipush 24, 2) := by decide +kernel
theorem dX2_winnerOf_12 : decode cX2_winnerOf 12 = .ok (.if_icmp .ge 39, 3) := by decide +kernel
theorem dX2_winnerOf_15 : decode cX2_winnerOf 15 = .ok (.iload_n 1, 1) := by decide +kernel
theorem dX2_winnerOf_16 : decode cX2_winnerOf 16 = .ok (.iload 4, 2) := by decide +kernel
theorem dX2_winnerOf_18 : decode cX2_winnerOf 18 = .ok (.iushr, 1) := by decide +kernel
theorem dX2_winnerOf_19 : decode cX2_winnerOf 19 = .ok (.iconst 1, 1) := by decide +kernel
theorem dX2_winnerOf_20 : decode cX2_winnerOf 20 = .ok (.iand, 1) := by decide +kernel
theorem dX2_winnerOf_21 : decode cX2_winnerOf 21 = .ok (.ifCond .eq 24, 3) := by decide +kernel
theorem dX2_winnerOf_24 : decode cX2_winnerOf 24 = .ok (.iload_n 3, 1) := by decide +kernel
theorem dX2_winnerOf_25 : decode cX2_winnerOf 25 = .ok (.iconst 1, 1) := by decide +kernel
theorem dX2_winnerOf_26 : decode cX2_winnerOf 26 = .ok (.if_icmp .eq 16, 3) := by decide +kernel
theorem dX2_winnerOf_29 : decode cX2_winnerOf 29 = .ok (.iconst 2, 1) := by decide +kernel
theorem dX2_winnerOf_30 : decode cX2_winnerOf 30 = .ok (.aload_n 0, 1) := by decide +kernel
theorem dX2_winnerOf_31 : decode cX2_winnerOf 31 = .ok (.getfield 24, 3) := by decide +kernel
theorem dX2_winnerOf_34 : decode cX2_winnerOf 34 = .ok (.iload 4, 2) := by decide +kernel
theorem dX2_winnerOf_36 : decode cX2_winnerOf 36 = .ok (.iaload, 1) := by decide +kernel
theorem dX2_winnerOf_37 : decode cX2_winnerOf 37 = .ok (.imul, 1) := by decide +kernel
theorem dX2_winnerOf_38 : decode cX2_winnerOf 38 = .ok (.iload_n 2, 1) := by decide +kernel
theorem dX2_winnerOf_39 : decode cX2_winnerOf 39 = .ok (.if_icmp .le 6, 3) := by decide +kernel
theorem dX2_winnerOf_42 : decode cX2_winnerOf 42 = .ok (.iload 4, 2) := by decide +kernel
theorem dX2_winnerOf_44 : decode cX2_winnerOf 44 = .ok (.ireturn, 1) := by decide +kernel
theorem dX2_winnerOf_45 : decode cX2_winnerOf 45 = .ok (.iinc 4 1, 3) := by decide +kernel
theorem dX2_winnerOf_48 : decode cX2_winnerOf 48 = .ok (.goto (-40), 3) := by decide +kernel
theorem dX2_winnerOf_51 : decode cX2_winnerOf 51 = .ok (.iload_n 3, 1) := by decide +kernel
theorem dX2_winnerOf_52 : decode cX2_winnerOf 52 = .ok (.iconst 2, 1) := by decide +kernel
theorem dX2_winnerOf_53 : decode cX2_winnerOf 53 = .ok (.if_icmp .ne 11, 3) := by decide +kernel
theorem dX2_winnerOf_56 : decode cX2_winnerOf 56 = .ok (.aload_n 0, 1) := by decide +kernel
theorem dX2_winnerOf_57 : decode cX2_winnerOf 57 = .ok (.iload_n 1, 1) := by decide +kernel
theorem dX2_winnerOf_58 : decode cX2_winnerOf 58 = .ok (.invokevirtual 124, 3) := by decide +kernel
theorem dX2_winnerOf_61 : decode cX2_winnerOf 61 = .ok (.goto 4, 3) := by decide +kernel
theorem dX2_winnerOf_64 : decode cX2_winnerOf 64 = .ok (.iconst (-1), 1) := by decide +kernel
theorem dX2_winnerOf_65 : decode cX2_winnerOf 65 = .ok (.ireturn, 1) := by decide +kernel
theorem dX2_decide_0 : decode cX2_decide 0 = .ok (.aload_n 0, 1) := by decide +kernel
theorem dX2_decide_1 : decode cX2_decide 1 = .ok (.getfield 34, 3) := by decide +kernel
theorem dX2_decide_4 : decode cX2_decide 4 = .ok (.iconst (-1), 1) := by decide +kernel
theorem dX2_decide_5 : decode cX2_decide 5 = .ok (.if_icmp .ne 7, 3) := by decide +kernel
theorem dX2_decide_8 : decode cX2_decide 8 = .ok (.iconst (-1), 1) := by decide +kernel
theorem dX2_decide_9 : decode cX2_decide 9 = .ok (.goto 15, 3) := by decide +kernel
theorem dX2_decide_12 : decode cX2_decide 12 = .ok (.aload_n 0, 1) := by decide +kernel
theorem dX2_decide_13 : decode cX2_decide 13 = .ok (.getfield 14, 3) := by decide +kernel
theorem dX2_decide_16 : decode cX2_decide 16 = .ok (.aload_n 0, 1) := by decide +kernel
theorem dX2_decide_17 : decode cX2_decide 17 = .ok (.getfield 34, 3) := by decide +kernel
theorem dX2_decide_20 : decode cX2_decide 20 = .ok (.iload_n 1, 1) := by decide +kernel
theorem dX2_decide_21 : decode cX2_decide 21 = .ok (.invokevirtual 121, 3) := by decide +kernel
theorem dX2_decide_24 : decode cX2_decide 24 = .ok (.istore_n 2, 1) := by decide +kernel
theorem dX2_decide_25 : decode cX2_decide 25 = .ok (.iload_n 2, 1) := by decide +kernel
theorem dX2_decide_26 : decode cX2_decide 26 = .ok (.iconst (-1), 1) := by decide +kernel
theorem dX2_decide_27 : decode cX2_decide 27 = .ok (.if_icmp .eq 5, 3) := by decide +kernel
theorem dX2_decide_30 : decode cX2_decide 30 = .ok (.iload_n 2, 1) := by decide +kernel
theorem dX2_decide_31 : decode cX2_decide 31 = .ok (.ireturn, 1) := by decide +kernel
theorem dX2_decide_32 : decode cX2_decide 32 = .ok (.iconst (-1), 1) := by decide +kernel
theorem dX2_decide_33 : decode cX2_decide 33 = .ok (.istore_n 3, 1) := by decide +kernel
theorem dX2_decide_34 : decode cX2_decide 34 = .ok (.iconst 0, 1) := by decide +kernel
theorem dX2_decide_35 : decode cX2_decide 35 = .ok (.istore 4, 2) := by decide +kernel
theorem dX2_decide_37 : decode cX2_decide 37 = .ok (.iload 4, 2) := by decide +kernel
theorem dX2_decide_39 : decode cX2_decide 39 = .ok (.bipush 24, 2) := by decide +kernel
theorem dX2_decide_41 : decode cX2_decide 41 = .ok (.if_icmp .ge 48, 3) := by decide +kernel
theorem dX2_decide_44 : decode cX2_decide 44 = .ok (.iload_n 1, 1) := by decide +kernel
theorem dX2_decide_45 : decode cX2_decide 45 = .ok (.iload 4, 2) := by decide +kernel
theorem dX2_decide_47 : decode cX2_decide 47 = .ok (.iushr, 1) := by decide +kernel
theorem dX2_decide_48 : decode cX2_decide 48 = .ok (.iconst 1, 1) := by decide +kernel
theorem dX2_decide_49 : decode cX2_decide 49 = .ok (.iand, 1) := by decide +kernel
theorem dX2_decide_50 : decode cX2_decide 50 = .ok (.ifCond .eq 33, 3) := by decide +kernel
theorem dX2_decide_53 : decode cX2_decide 53 = .ok (.iload_n 3, 1) := by decide +kernel
theorem dX2_decide_54 : decode cX2_decide 54 = .ok (.iconst (-1), 1) := by decide +kernel
theorem dX2_decide_55 : decode cX2_decide 55 = .ok (.if_icmp .eq 25, 3) := by decide +kernel
theorem dX2_decide_58 : decode cX2_decide 58 = .ok (.aload_n 0, 1) := by decide +kernel
theorem dX2_decide_59 : decode cX2_decide 59 = .ok (.getfield 40, 3) := by decide +kernel
theorem dX2_decide_62 : decode cX2_decide 62 = .ok (.getfield 127, 3) := by decide +kernel
theorem dX2_decide_65 : decode cX2_decide 65 = .ok (.iload 4, 2) := by decide +kernel
theorem dX2_decide_67 : decode cX2_decide 67 = .ok (.iaload, 1) := by decide +kernel
theorem dX2_decide_68 : decode cX2_decide 68 = .ok (.aload_n 0, 1) := by decide +kernel
theorem dX2_decide_69 : decode cX2_decide 69 = .ok (.getfield 40, 3) := by decide +kernel
theorem dX2_decide_72 : decode cX2_decide 72 = .ok (.getfield 127, 3) := by decide +kernel
theorem dX2_decide_75 : decode cX2_decide 75 = .ok (.iload_n 3, 1) := by decide +kernel
theorem dX2_decide_76 : decode cX2_decide 76 = .ok (.iaload, 1) := by decide +kernel
theorem dX2_decide_77 : decode cX2_decide 77 = .ok (.if_icmp .ge 6, 3) := by decide +kernel
theorem dX2_decide_80 : decode cX2_decide 80 = .ok (.iload 4, 2) := by decide +kernel
theorem dX2_decide_82 : decode cX2_decide 82 = .ok (.istore_n 3, 1) := by decide +kernel
theorem dX2_decide_83 : decode cX2_decide 83 = .ok (.iinc 4 1, 3) := by decide +kernel
theorem dX2_decide_86 : decode cX2_decide 86 = .ok (.goto (-49), 3) := by decide +kernel
theorem dX2_decide_89 : decode cX2_decide 89 = .ok (.iload_n 3, 1) := by decide +kernel
theorem dX2_decide_90 : decode cX2_decide 90 = .ok (.ireturn, 1) := by decide +kernel
theorem dX2_leastOf_0 : decode cX2_leastOf 0 = .ok (.iconst (-1), 1) := by decide +kernel
theorem dX2_leastOf_1 : decode cX2_leastOf 1 = .ok (.istore_n 2, 1) := by decide +kernel
theorem dX2_leastOf_2 : decode cX2_leastOf 2 = .ok (.iconst 0, 1) := by decide +kernel
theorem dX2_leastOf_3 : decode cX2_leastOf 3 = .ok (.istore_n 3, 1) := by decide +kernel
theorem dX2_leastOf_4 : decode cX2_leastOf 4 = .ok (.iload_n 3, 1) := by decide +kernel
theorem dX2_leastOf_5 : decode cX2_leastOf 5 = .ok (.bipush 24, 2) := by decide +kernel
theorem dX2_leastOf_7 : decode cX2_leastOf 7 = .ok (.if_icmp .ge 33, 3) := by decide +kernel
theorem dX2_leastOf_10 : decode cX2_leastOf 10 = .ok (.iload_n 1, 1) := by decide +kernel
theorem dX2_leastOf_11 : decode cX2_leastOf 11 = .ok (.iload_n 3, 1) := by decide +kernel
theorem dX2_leastOf_12 : decode cX2_leastOf 12 = .ok (.iushr, 1) := by decide +kernel
theorem dX2_leastOf_13 : decode cX2_leastOf 13 = .ok (.iconst 1, 1) := by decide +kernel
theorem dX2_leastOf_14 : decode cX2_leastOf 14 = .ok (.iand, 1) := by decide +kernel
theorem dX2_leastOf_15 : decode cX2_leastOf 15 = .ok (.ifCond .eq 19, 3) := by decide +kernel
theorem dX2_leastOf_18 : decode cX2_leastOf 18 = .ok (.iload_n 2, 1) := by decide +kernel
theorem dX2_leastOf_19 : decode cX2_leastOf 19 = .ok (.iconst (-1), 1) := by decide +kernel
theorem dX2_leastOf_20 : decode cX2_leastOf 20 = .ok (.if_icmp .eq 12, 3) := by decide +kernel
theorem dX2_leastOf_23 : decode cX2_leastOf 23 = .ok (.aload_n 0, 1) := by decide +kernel
theorem dX2_leastOf_24 : decode cX2_leastOf 24 = .ok (.iload_n 3, 1) := by decide +kernel
theorem dX2_leastOf_25 : decode cX2_leastOf 25 = .ok (.iload_n 2, 1) := by decide +kernel
theorem dX2_leastOf_26 : decode cX2_leastOf 26 = .ok (.invokevirtual 130, 3) := by decide +kernel
theorem dX2_leastOf_29 : decode cX2_leastOf 29 = .ok (.ifCond .eq 5, 3) := by decide +kernel
theorem dX2_leastOf_32 : decode cX2_leastOf 32 = .ok (.iload_n 3, 1) := by decide +kernel
theorem dX2_leastOf_33 : decode cX2_leastOf 33 = .ok (.istore_n 2, 1) := by decide +kernel
theorem dX2_leastOf_34 : decode cX2_leastOf 34 = .ok (.iinc 3 1, 3) := by decide +kernel
theorem dX2_leastOf_37 : decode cX2_leastOf 37 = .ok (.goto (-33), 3) := by decide +kernel
theorem dX2_leastOf_40 : decode cX2_leastOf 40 = .ok (.iload_n 2, 1) := by decide +kernel
theorem dX2_leastOf_41 : decode cX2_leastOf 41 = .ok (.iconst 0, 1) := by decide +kernel
theorem dX2_leastOf_42 : decode cX2_leastOf 42 = .ok (.invokestatic 134, 3) := by decide +kernel
theorem dX2_leastOf_45 : decode cX2_leastOf 45 = .ok (.ireturn, 1) := by decide +kernel
theorem dX2_goesAhead_0 : decode cX2_goesAhead 0 = .ok (.aload_n 0, 1) := by decide +kernel
theorem dX2_goesAhead_1 : decode cX2_goesAhead 1 = .ok (.getfield 24, 3) := by decide +kernel
theorem dX2_goesAhead_4 : decode cX2_goesAhead 4 = .ok (.iload_n 1, 1) := by decide +kernel
theorem dX2_goesAhead_5 : decode cX2_goesAhead 5 = .ok (.iaload, 1) := by decide +kernel
theorem dX2_goesAhead_6 : decode cX2_goesAhead 6 = .ok (.aload_n 0, 1) := by decide +kernel
theorem dX2_goesAhead_7 : decode cX2_goesAhead 7 = .ok (.getfield 24, 3) := by decide +kernel
theorem dX2_goesAhead_10 : decode cX2_goesAhead 10 = .ok (.iload_n 2, 1) := by decide +kernel
theorem dX2_goesAhead_11 : decode cX2_goesAhead 11 = .ok (.iaload, 1) := by decide +kernel
theorem dX2_goesAhead_12 : decode cX2_goesAhead 12 = .ok (.if_icmp .eq 24, 3) := by decide +kernel
theorem dX2_goesAhead_15 : decode cX2_goesAhead 15 = .ok (.aload_n 0, 1) := by decide +kernel
theorem dX2_goesAhead_16 : decode cX2_goesAhead 16 = .ok (.getfield 24, 3) := by decide +kernel
theorem dX2_goesAhead_19 : decode cX2_goesAhead 19 = .ok (.iload_n 1, 1) := by decide +kernel
theorem dX2_goesAhead_20 : decode cX2_goesAhead 20 = .ok (.iaload, 1) := by decide +kernel
theorem dX2_goesAhead_21 : decode cX2_goesAhead 21 = .ok (.aload_n 0, 1) := by decide +kernel
theorem dX2_goesAhead_22 : decode cX2_goesAhead 22 = .ok (.getfield 24, 3) := by decide +kernel
theorem dX2_goesAhead_25 : decode cX2_goesAhead 25 = .ok (.iload_n 2, 1) := by decide +kernel
theorem dX2_goesAhead_26 : decode cX2_goesAhead 26 = .ok (.iaload, 1) := by decide +kernel
theorem dX2_goesAhead_27 : decode cX2_goesAhead 27 = .ok (.if_icmp .ge 7, 3) := by decide +kernel
theorem dX2_goesAhead_30 : decode cX2_goesAhead 30 = .ok (.iconst 1, 1) := by decide +kernel
theorem dX2_goesAhead_31 : decode cX2_goesAhead 31 = .ok (.goto 4, 3) := by decide +kernel
theorem dX2_goesAhead_34 : decode cX2_goesAhead 34 = .ok (.iconst 0, 1) := by decide +kernel
theorem dX2_goesAhead_35 : decode cX2_goesAhead 35 = .ok (.ireturn, 1) := by decide +kernel
theorem dX2_goesAhead_36 : decode cX2_goesAhead 36 = .ok (.aload_n 0, 1) := by decide +kernel
theorem dX2_goesAhead_37 : decode cX2_goesAhead 37 = .ok (.getfield 40, 3) := by decide +kernel
theorem dX2_goesAhead_40 : decode cX2_goesAhead 40 = .ok (.getfield 127, 3) := by decide +kernel
theorem dX2_goesAhead_43 : decode cX2_goesAhead 43 = .ok (.iload_n 1, 1) := by decide +kernel
theorem dX2_goesAhead_44 : decode cX2_goesAhead 44 = .ok (.iaload, 1) := by decide +kernel
theorem dX2_goesAhead_45 : decode cX2_goesAhead 45 = .ok (.aload_n 0, 1) := by decide +kernel
theorem dX2_goesAhead_46 : decode cX2_goesAhead 46 = .ok (.getfield 40, 3) := by decide +kernel
theorem dX2_goesAhead_49 : decode cX2_goesAhead 49 = .ok (.getfield 127, 3) := by decide +kernel
theorem dX2_goesAhead_52 : decode cX2_goesAhead 52 = .ok (.iload_n 2, 1) := by decide +kernel
theorem dX2_goesAhead_53 : decode cX2_goesAhead 53 = .ok (.iaload, 1) := by decide +kernel
theorem dX2_goesAhead_54 : decode cX2_goesAhead 54 = .ok (.if_icmp .lt 7, 3) := by decide +kernel
theorem dX2_goesAhead_57 : decode cX2_goesAhead 57 = .ok (.iconst 1, 1) := by decide +kernel
theorem dX2_goesAhead_58 : decode cX2_goesAhead 58 = .ok (.goto 4, 3) := by decide +kernel
theorem dX2_goesAhead_61 : decode cX2_goesAhead 61 = .ok (.iconst 0, 1) := by decide +kernel
theorem dX2_goesAhead_62 : decode cX2_goesAhead 62 = .ok (.ireturn, 1) := by decide +kernel
theorem dX3_weigh_0 : decode cX3_weigh 0 = .ok (.aload_n 0, 1) := by decide +kernel
theorem dX3_weigh_1 : decode cX3_weigh 1 = .ok (.getfield 28, 3) := by decide +kernel
theorem dX3_weigh_4 : decode cX3_weigh 4 = .ok (.iload_n 2, 1) := by decide +kernel
theorem dX3_weigh_5 : decode cX3_weigh 5 = .ok (.iload_n 3, 1) := by decide +kernel
theorem dX3_weigh_6 : decode cX3_weigh 6 = .ok (.iload 4, 2) := by decide +kernel
theorem dX3_weigh_8 : decode cX3_weigh 8 = .ok (.invokevirtual 32, 3) := by decide +kernel
theorem dX3_weigh_11 : decode cX3_weigh 11 = .ok (.iload_n 1, 1) := by decide +kernel
theorem dX3_weigh_12 : decode cX3_weigh 12 = .ok (.iconst (-1), 1) := by decide +kernel
theorem dX3_weigh_13 : decode cX3_weigh 13 = .ok (.if_icmp .eq 21, 3) := by decide +kernel
theorem dX3_weigh_16 : decode cX3_weigh 16 = .ok (.aload_n 0, 1) := by decide +kernel
theorem dX3_weigh_17 : decode cX3_weigh 17 = .ok (.iload_n 1, 1) := by decide +kernel
theorem dX3_weigh_18 : decode cX3_weigh 18 = .ok (.iload_n 3, 1) := by decide +kernel
theorem dX3_weigh_19 : decode cX3_weigh 19 = .ok (.iload 4, 2) := by decide +kernel
theorem dX3_weigh_21 : decode cX3_weigh 21 = .ok (.invokevirtual 38, 3) := by decide +kernel
theorem dX3_weigh_24 : decode cX3_weigh 24 = .ok (.aload_n 0, 1) := by decide +kernel
theorem dX3_weigh_25 : decode cX3_weigh 25 = .ok (.getfield 24, 3) := by decide +kernel
theorem dX3_weigh_28 : decode cX3_weigh 28 = .ok (.iload_n 1, 1) := by decide +kernel
theorem dX3_weigh_29 : decode cX3_weigh 29 = .ok (.iload 4, 2) := by decide +kernel
theorem dX3_weigh_31 : decode cX3_weigh 31 = .ok (.invokevirtual 41, 3) := by decide +kernel
theorem dX3_weigh_34 : decode cX3_weigh 34 = .ok (.aload_n 0, 1) := by decide +kernel
theorem dX3_weigh_35 : decode cX3_weigh 35 = .ok (.iload 5, 2) := by decide +kernel
theorem dX3_weigh_37 : decode cX3_weigh 37 = .ok (.invokevirtual 47, 3) := by decide +kernel
theorem dX3_weigh_40 : decode cX3_weigh 40 = .ok (.iconst 0, 1) := by decide +kernel
theorem dX3_weigh_41 : decode cX3_weigh 41 = .ok (.istore 6, 2) := by decide +kernel
theorem dX3_weigh_43 : decode cX3_weigh 43 = .ok (.iconst 0, 1) := by decide +kernel
theorem dX3_weigh_44 : decode cX3_weigh 44 = .ok (.istore 7, 2) := by decide +kernel
theorem dX3_weigh_46 : decode cX3_weigh 46 = .ok (.iload 7, 2) := by decide +kernel
theorem dX3_weigh_48 : decode cX3_weigh 48 = .ok (.aload_n 0, 1) := by decide +kernel
theorem dX3_weigh_49 : decode cX3_weigh 49 = .ok (.getfield 28, 3) := by decide +kernel
theorem dX3_weigh_52 : decode cX3_weigh 52 = .ok (.getfield 51, 3) := by decide +kernel
theorem dX3_weigh_55 : decode cX3_weigh 55 = .ok (.if_icmp .ge 94, 3) := by decide +kernel
theorem dX3_weigh_58 : decode cX3_weigh 58 = .ok (.iload 6, 2) := by decide +kernel
theorem dX3_weigh_60 : decode cX3_weigh 60 = .ok (.aload_n 0, 1) := by decide +kernel
theorem dX3_weigh_61 : decode cX3_weigh 61 = .ok (.getfield 28, 3) := by decide +kernel
theorem dX3_weigh_64 : decode cX3_weigh 64 = .ok (.getfield 51, 3) := by decide +kernel
theorem dX3_weigh_67 : decode cX3_weigh 67 = .ok (.if_icmp .ge 82, 3) := by decide +kernel
theorem dX3_weigh_70 : decode cX3_weigh 70 = .ok (.aload_n 0, 1) := by decide +kernel
theorem dX3_weigh_71 : decode cX3_weigh 71 = .ok (.getfield 55, 3) := by decide +kernel
theorem dX3_weigh_74 : decode cX3_weigh 74 = .ok (.iconst (-1), 1) := by decide +kernel
theorem dX3_weigh_75 : decode cX3_weigh 75 = .ok (.if_icmp .ne 74, 3) := by decide +kernel
theorem dX3_weigh_78 : decode cX3_weigh 78 = .ok (.aload_n 0, 1) := by decide +kernel
theorem dX3_weigh_79 : decode cX3_weigh 79 = .ok (.getfield 58, 3) := by decide +kernel
theorem dX3_weigh_82 : decode cX3_weigh 82 = .ok (.ifCond .ne 14, 3) := by decide +kernel
theorem dX3_weigh_85 : decode cX3_weigh 85 = .ok (.aload_n 0, 1) := by decide +kernel
theorem dX3_weigh_86 : decode cX3_weigh 86 = .ok (.iload 6, 2) := by decide +kernel
theorem dX3_weigh_88 : decode cX3_weigh 88 = .ok (.invokevirtual 62, 3) := by decide +kernel
theorem dX3_weigh_91 : decode cX3_weigh 91 = .ok (.istore 6, 2) := by decide +kernel
theorem dX3_weigh_93 : decode cX3_weigh 93 = .ok (.goto 50, 3) := by decide +kernel
theorem dX3_weigh_96 : decode cX3_weigh 96 = .ok (.aload_n 0, 1) := by decide +kernel
theorem dX3_weigh_97 : decode cX3_weigh 97 = .ok (.getfield 28, 3) := by decide +kernel
theorem dX3_weigh_100 : decode cX3_weigh 100 = .ok (.getfield 66, 3) := by decide +kernel
theorem dX3_weigh_103 : decode cX3_weigh 103 = .ok (.iload 6, 2) := by decide +kernel
theorem dX3_weigh_105 : decode cX3_weigh 105 = .ok (.iaload, 1) := by decide +kernel
theorem dX3_weigh_106 : decode cX3_weigh 106 = .ok (.bipush 33, 2) := by decide +kernel
theorem dX3_weigh_108 : decode cX3_weigh 108 = .ok (.if_icmp .eq 18, 3) := by decide +kernel
theorem dX3_weigh_111 : decode cX3_weigh 111 = .ok (.aload_n 0, 1) := by decide +kernel
theorem dX3_weigh_112 : decode cX3_weigh 112 = .ok (.getfield 28, 3) := by decide +kernel
theorem dX3_weigh_115 : decode cX3_weigh 115 = .ok (.getfield 66, 3) := by decide +kernel
theorem dX3_weigh_118 : decode cX3_weigh 118 = .ok (.iload 6, 2) := by decide +kernel
theorem dX3_weigh_120 : decode cX3_weigh 120 = .ok (.iaload, 1) := by decide +kernel
theorem dX3_weigh_121 : decode cX3_weigh 121 = .ok (.bipush 40, 2) := by decide +kernel
theorem dX3_weigh_123 : decode cX3_weigh 123 = .ok (.if_icmp .ne 12, 3) := by decide +kernel
theorem dX3_weigh_126 : decode cX3_weigh 126 = .ok (.aload_n 0, 1) := by decide +kernel
theorem dX3_weigh_127 : decode cX3_weigh 127 = .ok (.iload 6, 2) := by decide +kernel
theorem dX3_weigh_129 : decode cX3_weigh 129 = .ok (.invokevirtual 69, 3) := by decide +kernel
theorem dX3_weigh_132 : decode cX3_weigh 132 = .ok (.goto 9, 3) := by decide +kernel
theorem dX3_weigh_135 : decode cX3_weigh 135 = .ok (.aload_n 0, 1) := by decide +kernel
theorem dX3_weigh_136 : decode cX3_weigh 136 = .ok (.iload 6, 2) := by decide +kernel
theorem dX3_weigh_138 : decode cX3_weigh 138 = .ok (.invokevirtual 72, 3) := by decide +kernel
theorem dX3_weigh_141 : decode cX3_weigh 141 = .ok (.istore 6, 2) := by decide +kernel
theorem dX3_weigh_143 : decode cX3_weigh 143 = .ok (.iinc 7 1, 3) := by decide +kernel
theorem dX3_weigh_146 : decode cX3_weigh 146 = .ok (.goto (-100), 3) := by decide +kernel
theorem dX3_weigh_149 : decode cX3_weigh 149 = .ok (.aload_n 0, 1) := by decide +kernel
theorem dX3_weigh_150 : decode cX3_weigh 150 = .ok (.getfield 55, 3) := by decide +kernel
theorem dX3_weigh_153 : decode cX3_weigh 153 = .ok (.iconst (-1), 1) := by decide +kernel
theorem dX3_weigh_154 : decode cX3_weigh 154 = .ok (.if_icmp .ne 28, 3) := by decide +kernel
theorem dX3_weigh_157 : decode cX3_weigh 157 = .ok (.aload_n 0, 1) := by decide +kernel
theorem dX3_weigh_158 : decode cX3_weigh 158 = .ok (.getfield 58, 3) := by decide +kernel
theorem dX3_weigh_161 : decode cX3_weigh 161 = .ok (.ifCond .ne 10, 3) := by decide +kernel
theorem dX3_weigh_164 : decode cX3_weigh 164 = .ok (.aload_n 0, 1) := by decide +kernel
theorem dX3_weigh_165 : decode cX3_weigh 165 = .ok (.getfield 75, 3) := by decide +kernel
theorem dX3_weigh_168 : decode cX3_weigh 168 = .ok (.ifCond .le 14, 3) := by decide +kernel
theorem dX3_weigh_171 : decode cX3_weigh 171 = .ok (.aload_n 0, 1) := by decide +kernel
theorem dX3_weigh_172 : decode cX3_weigh 172 = .ok (.aload_n 0, 1) := by decide +kernel
theorem dX3_weigh_173 : decode cX3_weigh 173 = .ok (.getfield 28, 3) := by decide +kernel
theorem dX3_weigh_176 : decode cX3_weigh 176 = .ok (.getfield 51, 3) := by decide +kernel
theorem dX3_weigh_179 : decode cX3_weigh 179 = .ok (.putfield 55, 3) := by decide +kernel
theorem dX3_weigh_182 : decode cX3_weigh 182 = .ok (.aload_n 0, 1) := by decide +kernel
theorem dX3_weigh_183 : decode cX3_weigh 183 = .ok (.getfield 55, 3) := by decide +kernel
theorem dX3_weigh_186 : decode cX3_weigh 186 = .ok (.iconst (-1), 1) := by decide +kernel
theorem dX3_weigh_187 : decode cX3_weigh 187 = .ok (.if_icmp .eq 5, 3) := by decide +kernel
theorem dX3_weigh_190 : decode cX3_weigh 190 = .ok (.iconst 3, 1) := by decide +kernel
theorem dX3_weigh_191 : decode cX3_weigh 191 = .ok (.ireturn, 1) := by decide +kernel
theorem dX3_weigh_192 : decode cX3_weigh 192 = .ok (.iload_n 1, 1) := by decide +kernel
theorem dX3_weigh_193 : decode cX3_weigh 193 = .ok (.iconst (-1), 1) := by decide +kernel
theorem dX3_weigh_194 : decode cX3_weigh 194 = .ok (.if_icmp .eq 35, 3) := by decide +kernel
theorem dX3_weigh_197 : decode cX3_weigh 197 = .ok (.aload_n 0, 1) := by decide +kernel
theorem dX3_weigh_198 : decode cX3_weigh 198 = .ok (.getfield 24, 3) := by decide +kernel
theorem dX3_weigh_201 : decode cX3_weigh 201 = .ok (.iload_n 1, 1) := by decide +kernel
theorem dX3_weigh_202 : decode cX3_weigh 202 = .ok (.iload_n 3, 1) := by decide +kernel
theorem dX3_weigh_203 : decode cX3_weigh 203 = .ok (.iload 4, 2) := by decide +kernel
theorem dX3_weigh_205 : decode cX3_weigh 205 = .ok (.invokevirtual 78, 3) := by decide +kernel
theorem dX3_weigh_208 : decode cX3_weigh 208 = .ok (.ifCond .eq 21, 3) := by decide +kernel
theorem dX3_weigh_211 : decode cX3_weigh 211 = .ok (.aload_n 0, 1) := by decide +kernel
theorem dX3_weigh_212 : decode cX3_weigh 212 = .ok (.getfield 11, 3) := by decide +kernel
theorem dX3_weigh_215 : decode cX3_weigh 215 = .ok (.iconst 0, 1) := by decide +kernel
theorem dX3_weigh_216 : decode cX3_weigh 216 = .ok (.iaload, 1) := by decide +kernel
theorem dX3_weigh_217 : decode cX3_weigh 217 = .ok (.aload_n 0, 1) := by decide +kernel
theorem dX3_weigh_218 : decode cX3_weigh 218 = .ok (.getfield 15, 3) := by decide +kernel
theorem dX3_weigh_221 : decode cX3_weigh 221 = .ok (.iconst 0, 1) := by decide +kernel
theorem dX3_weigh_222 : decode cX3_weigh 222 = .ok (.iaload, 1) := by decide +kernel
theorem dX3_weigh_223 : decode cX3_weigh 223 = .ok (.invokestatic 82, 3) := by decide +kernel
theorem dX3_weigh_226 : decode cX3_weigh 226 = .ok (.goto 4, 3) := by decide +kernel
theorem dX3_weigh_229 : decode cX3_weigh 229 = .ok (.iconst 0, 1) := by decide +kernel
theorem dX3_weigh_230 : decode cX3_weigh 230 = .ok (.ireturn, 1) := by decide +kernel
theorem dX3_learn_0 : decode cX3_learn 0 = .ok (.iconst 0, 1) := by decide +kernel
theorem dX3_learn_1 : decode cX3_learn 1 = .ok (.istore 4, 2) := by decide +kernel
theorem dX3_learn_3 : decode cX3_learn 3 = .ok (.iload 4, 2) := by decide +kernel
theorem dX3_learn_5 : decode cX3_learn 5 = .ok (.iconst 4, 1) := by decide +kernel
theorem dX3_learn_6 : decode cX3_learn 6 = .ok (.if_icmp .ge 31, 3) := by decide +kernel
theorem dX3_learn_9 : decode cX3_learn 9 = .ok (.aload_n 0, 1) := by decide +kernel
theorem dX3_learn_10 : decode cX3_learn 10 = .ok (.getfield 21, 3) := by decide +kernel
theorem dX3_learn_13 : decode cX3_learn 13 = .ok (.iload 4, 2) := by decide +kernel
theorem dX3_learn_15 : decode cX3_learn 15 = .ok (.aload_n 0, 1) := by decide +kernel
theorem dX3_learn_16 : decode cX3_learn 16 = .ok (.getfield 24, 3) := by decide +kernel
theorem dX3_learn_19 : decode cX3_learn 19 = .ok (.iconst 4, 1) := by decide +kernel
theorem dX3_learn_20 : decode cX3_learn 20 = .ok (.iload_n 1, 1) := by decide +kernel
theorem dX3_learn_21 : decode cX3_learn 21 = .ok (.imul, 1) := by decide +kernel
theorem dX3_learn_22 : decode cX3_learn 22 = .ok (.iload 4, 2) := by decide +kernel
theorem dX3_learn_24 : decode cX3_learn 24 = .ok (.iadd, 1) := by decide +kernel
theorem dX3_learn_25 : decode cX3_learn 25 = .ok (.iload_n 2, 1) := by decide +kernel
theorem dX3_learn_26 : decode cX3_learn 26 = .ok (.iload_n 3, 1) := by decide +kernel
theorem dX3_learn_27 : decode cX3_learn 27 = .ok (.invokevirtual 86, 3) := by decide +kernel
theorem dX3_learn_30 : decode cX3_learn 30 = .ok (.iastore, 1) := by decide +kernel
theorem dX3_learn_31 : decode cX3_learn 31 = .ok (.iinc 4 1, 3) := by decide +kernel
theorem dX3_learn_34 : decode cX3_learn 34 = .ok (.goto (-31), 3) := by decide +kernel
theorem dX3_learn_37 : decode cX3_learn 37 = .ok (.aload_n 0, 1) := by decide +kernel
theorem dX3_learn_38 : decode cX3_learn 38 = .ok (.iconst 0, 1) := by decide +kernel
theorem dX3_learn_39 : decode cX3_learn 39 = .ok (.iload_n 2, 1) := by decide +kernel
theorem dX3_learn_40 : decode cX3_learn 40 = .ok (.i2l, 1) := by decide +kernel
theorem dX3_learn_41 : decode cX3_learn 41 = .ok (.aload_n 0, 1) := by decide +kernel
theorem dX3_learn_42 : decode cX3_learn 42 = .ok (.getfield 24, 3) := by decide +kernel
theorem dX3_learn_45 : decode cX3_learn 45 = .ok (.getfield 90, 3) := by decide +kernel
theorem dX3_learn_48 : decode cX3_learn 48 = .ok (.iload_n 1, 1) := by decide +kernel
theorem dX3_learn_49 : decode cX3_learn 49 = .ok (.iaload, 1) := by decide +kernel
theorem dX3_learn_50 : decode cX3_learn 50 = .ok (.i2l, 1) := by decide +kernel
theorem dX3_learn_51 : decode cX3_learn 51 = .ok (.lsub, 1) := by decide +kernel
theorem dX3_learn_52 : decode cX3_learn 52 = .ok (.ldc2_w 93, 3) := by decide +kernel
theorem dX3_learn_55 : decode cX3_learn 55 = .ok (.ldiv, 1) := by decide +kernel
theorem dX3_learn_56 : decode cX3_learn 56 = .ok (.l2i, 1) := by decide +kernel
theorem dX3_learn_57 : decode cX3_learn 57 = .ok (.invokestatic 95, 3) := by decide +kernel
theorem dX3_learn_60 : decode cX3_learn 60 = .ok (.putfield 100, 3) := by decide +kernel
theorem dX3_learn_63 : decode cX3_learn 63 = .ok (.return_, 1) := by decide +kernel
theorem dX3_begin_0 : decode cX3_begin 0 = .ok (.aload_n 0, 1) := by decide +kernel
theorem dX3_begin_1 : decode cX3_begin 1 = .ok (.iload_n 1, 1) := by decide +kernel
theorem dX3_begin_2 : decode cX3_begin 2 = .ok (.putfield 103, 3) := by decide +kernel
theorem dX3_begin_5 : decode cX3_begin 5 = .ok (.aload_n 0, 1) := by decide +kernel
theorem dX3_begin_6 : decode cX3_begin 6 = .ok (.iconst (-1), 1) := by decide +kernel
theorem dX3_begin_7 : decode cX3_begin 7 = .ok (.putfield 106, 3) := by decide +kernel
theorem dX3_begin_10 : decode cX3_begin 10 = .ok (.aload_n 0, 1) := by decide +kernel
theorem dX3_begin_11 : decode cX3_begin 11 = .ok (.iconst 0, 1) := by decide +kernel
theorem dX3_begin_12 : decode cX3_begin 12 = .ok (.putfield 109, 3) := by decide +kernel
theorem dX3_begin_15 : decode cX3_begin 15 = .ok (.aload_n 0, 1) := by decide +kernel
theorem dX3_begin_16 : decode cX3_begin 16 = .ok (.iconst (-1), 1) := by decide +kernel
theorem dX3_begin_17 : decode cX3_begin 17 = .ok (.putfield 55, 3) := by decide +kernel
theorem dX3_begin_20 : decode cX3_begin 20 = .ok (.aload_n 0, 1) := by decide +kernel
theorem dX3_begin_21 : decode cX3_begin 21 = .ok (.iconst 0, 1) := by decide +kernel
theorem dX3_begin_22 : decode cX3_begin 22 = .ok (.putfield 112, 3) := by decide +kernel
theorem dX3_begin_25 : decode cX3_begin 25 = .ok (.aload_n 0, 1) := by decide +kernel
theorem dX3_begin_26 : decode cX3_begin 26 = .ok (.iconst 0, 1) := by decide +kernel
theorem dX3_begin_27 : decode cX3_begin 27 = .ok (.putfield 75, 3) := by decide +kernel
theorem dX3_begin_30 : decode cX3_begin 30 = .ok (.aload_n 0, 1) := by decide +kernel
theorem dX3_begin_31 : decode cX3_begin 31 = .ok (.invokevirtual 115, 3) := by decide +kernel
theorem dX3_begin_34 : decode cX3_begin 34 = .ok (.return_, 1) := by decide +kernel
theorem dX3_openLevel_0 : decode cX3_openLevel 0 = .ok (.aload_n 0, 1) := by decide +kernel
theorem dX3_openLevel_1 : decode cX3_openLevel 1 = .ok (.getfield 11, 3) := by decide +kernel
theorem dX3_openLevel_4 : decode cX3_openLevel 4 = .ok (.aload_n 0, 1) := by decide +kernel
theorem dX3_openLevel_5 : decode cX3_openLevel 5 = .ok (.getfield 75, 3) := by decide +kernel
theorem dX3_openLevel_8 : decode cX3_openLevel 8 = .ok (.iconst 0, 1) := by decide +kernel
theorem dX3_openLevel_9 : decode cX3_openLevel 9 = .ok (.iastore, 1) := by decide +kernel
theorem dX3_openLevel_10 : decode cX3_openLevel 10 = .ok (.aload_n 0, 1) := by decide +kernel
theorem dX3_openLevel_11 : decode cX3_openLevel 11 = .ok (.getfield 15, 3) := by decide +kernel
theorem dX3_openLevel_14 : decode cX3_openLevel 14 = .ok (.aload_n 0, 1) := by decide +kernel
theorem dX3_openLevel_15 : decode cX3_openLevel 15 = .ok (.getfield 75, 3) := by decide +kernel
theorem dX3_openLevel_18 : decode cX3_openLevel 18 = .ok (.iconst 1, 1) := by decide +kernel
theorem dX3_openLevel_19 : decode cX3_openLevel 19 = .ok (.iastore, 1) := by decide +kernel
theorem dX3_openLevel_20 : decode cX3_openLevel 20 = .ok (.aload_n 0, 1) := by decide +kernel
theorem dX3_openLevel_21 : decode cX3_openLevel 21 = .ok (.getfield 18, 3) := by decide +kernel
theorem dX3_openLevel_24 : decode cX3_openLevel 24 = .ok (.aload_n 0, 1) := by decide +kernel
theorem dX3_openLevel_25 : decode cX3_openLevel 25 = .ok (.getfield 75, 3) := by decide +kernel
theorem dX3_openLevel_28 : decode cX3_openLevel 28 = .ok (.iconst 0, 1) := by decide +kernel
theorem dX3_openLevel_29 : decode cX3_openLevel 29 = .ok (.iastore, 1) := by decide +kernel
theorem dX3_openLevel_30 : decode cX3_openLevel 30 = .ok (.aload_n 0, 1) := by decide +kernel
theorem dX3_openLevel_31 : decode cX3_openLevel 31 = .ok (.iconst 1, 1) := by decide +kernel
theorem dX3_openLevel_32 : decode cX3_openLevel 32 = .ok (.putfield 58, 3) := by decide +kernel
theorem dX3_openLevel_35 : decode cX3_openLevel 35 = .ok (.return_, 1) := by decide +kernel
theorem dX3_readOpening_0 : decode cX3_readOpening 0 = .ok (.aload_n 0, 1) := by decide +kernel
theorem dX3_readOpening_1 : decode cX3_readOpening 1 = .ok (.getfield 112, 3) := by decide +kernel
theorem dX3_readOpening_4 : decode cX3_readOpening 4 = .ok (.bipush 30, 2) := by decide +kernel
theorem dX3_readOpening_6 : decode cX3_readOpening 6 = .ok (.if_icmp .ne 10, 3) := by decide +kernel
theorem dX3_readOpening_9 : decode cX3_readOpening 9 = .ok (.aload_n 0, 1) := by decide +kernel
theorem dX3_readOpening_10 : decode cX3_readOpening 10 = .ok (.iload_n 1, 1) := by decide +kernel
theorem dX3_readOpening_11 : decode cX3_readOpening 11 = .ok (.putfield 55, 3) := by decide +kernel
theorem dX3_readOpening_14 : decode cX3_readOpening 14 = .ok (.iload_n 1, 1) := by decide +kernel
theorem dX3_readOpening_15 : decode cX3_readOpening 15 = .ok (.ireturn, 1) := by decide +kernel
theorem dX3_readOpening_16 : decode cX3_readOpening 16 = .ok (.aload_n 0, 1) := by decide +kernel
theorem dX3_readOpening_17 : decode cX3_readOpening 17 = .ok (.dup, 1) := by decide +kernel
theorem dX3_readOpening_18 : decode cX3_readOpening 18 = .ok (.getfield 112, 3) := by decide +kernel
theorem dX3_readOpening_21 : decode cX3_readOpening 21 = .ok (.iconst 1, 1) := by decide +kernel
theorem dX3_readOpening_22 : decode cX3_readOpening 22 = .ok (.iadd, 1) := by decide +kernel
theorem dX3_readOpening_23 : decode cX3_readOpening 23 = .ok (.putfield 112, 3) := by decide +kernel
theorem dX3_readOpening_26 : decode cX3_readOpening 26 = .ok (.aload_n 0, 1) := by decide +kernel
theorem dX3_readOpening_27 : decode cX3_readOpening 27 = .ok (.getfield 28, 3) := by decide +kernel
theorem dX3_readOpening_30 : decode cX3_readOpening 30 = .ok (.getfield 66, 3) := by decide +kernel
theorem dX3_readOpening_33 : decode cX3_readOpening 33 = .ok (.iload_n 1, 1) := by decide +kernel
theorem dX3_readOpening_34 : decode cX3_readOpening 34 = .ok (.iaload, 1) := by decide +kernel
theorem dX3_readOpening_35 : decode cX3_readOpening 35 = .ok (.bipush 33, 2) := by decide +kernel
theorem dX3_readOpening_37 : decode cX3_readOpening 37 = .ok (.if_icmp .ne 19, 3) := by decide +kernel
theorem dX3_readOpening_40 : decode cX3_readOpening 40 = .ok (.aload_n 0, 1) := by decide +kernel
theorem dX3_readOpening_41 : decode cX3_readOpening 41 = .ok (.getfield 18, 3) := by decide +kernel
theorem dX3_readOpening_44 : decode cX3_readOpening 44 = .ok (.aload_n 0, 1) := by decide +kernel
theorem dX3_readOpening_45 : decode cX3_readOpening 45 = .ok (.getfield 75, 3) := by decide +kernel
theorem dX3_readOpening_48 : decode cX3_readOpening 48 = .ok (.dup2, 1) := by decide +kernel
theorem dX3_readOpening_49 : decode cX3_readOpening 49 = .ok (.iaload, 1) := by decide +kernel
theorem dX3_readOpening_50 : decode cX3_readOpening 50 = .ok (.iconst 1, 1) := by decide +kernel
theorem dX3_readOpening_51 : decode cX3_readOpening 51 = .ok (.iadd, 1) := by decide +kernel
theorem dX3_readOpening_52 : decode cX3_readOpening 52 = .ok (.iastore, 1) := by decide +kernel
theorem dX3_readOpening_53 : decode cX3_readOpening 53 = .ok (.goto 17, 3) := by decide +kernel
theorem dX3_readOpening_56 : decode cX3_readOpening 56 = .ok (.aload_n 0, 1) := by decide +kernel
theorem dX3_readOpening_57 : decode cX3_readOpening 57 = .ok (.dup, 1) := by decide +kernel
theorem dX3_readOpening_58 : decode cX3_readOpening 58 = .ok (.getfield 75, 3) := by decide +kernel
theorem dX3_readOpening_61 : decode cX3_readOpening 61 = .ok (.iconst 1, 1) := by decide +kernel
theorem dX3_readOpening_62 : decode cX3_readOpening 62 = .ok (.iadd, 1) := by decide +kernel
theorem dX3_readOpening_63 : decode cX3_readOpening 63 = .ok (.putfield 75, 3) := by decide +kernel
theorem dX3_readOpening_66 : decode cX3_readOpening 66 = .ok (.aload_n 0, 1) := by decide +kernel
theorem dX3_readOpening_67 : decode cX3_readOpening 67 = .ok (.invokevirtual 115, 3) := by decide +kernel
theorem dX3_readOpening_70 : decode cX3_readOpening 70 = .ok (.iload_n 1, 1) := by decide +kernel
theorem dX3_readOpening_71 : decode cX3_readOpening 71 = .ok (.iconst 1, 1) := by decide +kernel
theorem dX3_readOpening_72 : decode cX3_readOpening 72 = .ok (.iadd, 1) := by decide +kernel
theorem dX3_readOpening_73 : decode cX3_readOpening 73 = .ok (.ireturn, 1) := by decide +kernel
theorem dX3_readTest_0 : decode cX3_readTest 0 = .ok (.aload_n 0, 1) := by decide +kernel
theorem dX3_readTest_1 : decode cX3_readTest 1 = .ok (.iload_n 1, 1) := by decide +kernel
theorem dX3_readTest_2 : decode cX3_readTest 2 = .ok (.invokevirtual 118, 3) := by decide +kernel
theorem dX3_readTest_5 : decode cX3_readTest 5 = .ok (.istore_n 2, 1) := by decide +kernel
theorem dX3_readTest_6 : decode cX3_readTest 6 = .ok (.aload_n 0, 1) := by decide +kernel
theorem dX3_readTest_7 : decode cX3_readTest 7 = .ok (.getfield 55, 3) := by decide +kernel
theorem dX3_readTest_10 : decode cX3_readTest 10 = .ok (.iconst (-1), 1) := by decide +kernel
theorem dX3_readTest_11 : decode cX3_readTest 11 = .ok (.if_icmp .ne 41, 3) := by decide +kernel
theorem dX3_readTest_14 : decode cX3_readTest 14 = .ok (.aload_n 0, 1) := by decide +kernel
theorem dX3_readTest_15 : decode cX3_readTest 15 = .ok (.iload_n 1, 1) := by decide +kernel
theorem dX3_readTest_16 : decode cX3_readTest 16 = .ok (.iload_n 2, 1) := by decide +kernel
theorem dX3_readTest_17 : decode cX3_readTest 17 = .ok (.invokevirtual 121, 3) := by decide +kernel
theorem dX3_readTest_20 : decode cX3_readTest 20 = .ok (.istore_n 3, 1) := by decide +kernel
theorem dX3_readTest_21 : decode cX3_readTest 21 = .ok (.aload_n 0, 1) := by decide +kernel
theorem dX3_readTest_22 : decode cX3_readTest 22 = .ok (.getfield 109, 3) := by decide +kernel
theorem dX3_readTest_25 : decode cX3_readTest 25 = .ok (.aload_n 0, 1) := by decide +kernel
theorem dX3_readTest_26 : decode cX3_readTest 26 = .ok (.getfield 103, 3) := by decide +kernel
theorem dX3_readTest_29 : decode cX3_readTest 29 = .ok (.if_icmp .ne 8, 3) := by decide +kernel
theorem dX3_readTest_32 : decode cX3_readTest 32 = .ok (.aload_n 0, 1) := by decide +kernel
theorem dX3_readTest_33 : decode cX3_readTest 33 = .ok (.iload_n 3, 1) := by decide +kernel
theorem dX3_readTest_34 : decode cX3_readTest 34 = .ok (.putfield 106, 3) := by decide +kernel
theorem dX3_readTest_37 : decode cX3_readTest 37 = .ok (.aload_n 0, 1) := by decide +kernel
theorem dX3_readTest_38 : decode cX3_readTest 38 = .ok (.dup, 1) := by decide +kernel
theorem dX3_readTest_39 : decode cX3_readTest 39 = .ok (.getfield 109, 3) := by decide +kernel
theorem dX3_readTest_42 : decode cX3_readTest 42 = .ok (.iconst 1, 1) := by decide +kernel
theorem dX3_readTest_43 : decode cX3_readTest 43 = .ok (.iadd, 1) := by decide +kernel
theorem dX3_readTest_44 : decode cX3_readTest 44 = .ok (.putfield 109, 3) := by decide +kernel
theorem dX3_readTest_47 : decode cX3_readTest 47 = .ok (.aload_n 0, 1) := by decide +kernel
theorem dX3_readTest_48 : decode cX3_readTest 48 = .ok (.iload_n 3, 1) := by decide +kernel
theorem dX3_readTest_49 : decode cX3_readTest 49 = .ok (.invokevirtual 124, 3) := by decide +kernel
theorem dX3_readTest_52 : decode cX3_readTest 52 = .ok (.iload_n 2, 1) := by decide +kernel
theorem dX3_readTest_53 : decode cX3_readTest 53 = .ok (.ireturn, 1) := by decide +kernel
theorem dX3_endOfTest_0 : decode cX3_endOfTest 0 = .ok (.aload_n 0, 1) := by decide +kernel
theorem dX3_endOfTest_1 : decode cX3_endOfTest 1 = .ok (.iload_n 1, 1) := by decide +kernel
theorem dX3_endOfTest_2 : decode cX3_endOfTest 2 = .ok (.invokevirtual 127, 3) := by decide +kernel
theorem dX3_endOfTest_5 : decode cX3_endOfTest 5 = .ok (.istore_n 2, 1) := by decide +kernel
theorem dX3_endOfTest_6 : decode cX3_endOfTest 6 = .ok (.iload_n 2, 1) := by decide +kernel
theorem dX3_endOfTest_7 : decode cX3_endOfTest 7 = .ok (.bipush 119, 2) := by decide +kernel
theorem dX3_endOfTest_9 : decode cX3_endOfTest 9 = .ok (.if_icmp .ne 7, 3) := by decide +kernel
theorem dX3_endOfTest_12 : decode cX3_endOfTest 12 = .ok (.iload_n 1, 1) := by decide +kernel
theorem dX3_endOfTest_13 : decode cX3_endOfTest 13 = .ok (.iconst 1, 1) := by decide +kernel
theorem dX3_endOfTest_14 : decode cX3_endOfTest 14 = .ok (.iadd, 1) := by decide +kernel
theorem dX3_endOfTest_15 : decode cX3_endOfTest 15 = .ok (.ireturn, 1) := by decide +kernel
theorem dX3_endOfTest_16 : decode cX3_endOfTest 16 = .ok (.iload_n 2, 1) := by decide +kernel
theorem dX3_endOfTest_17 : decode cX3_endOfTest 17 = .ok (.bipush 97, 2) := by decide +kernel
theorem dX3_endOfTest_19 : decode cX3_endOfTest 19 = .ok (.if_icmp .eq 34, 3) := by decide +kernel
theorem dX3_endOfTest_22 : decode cX3_endOfTest 22 = .ok (.iload_n 2, 1) := by decide +kernel
theorem dX3_endOfTest_23 : decode cX3_endOfTest 23 = .ok (.bipush 107, 2) := by decide +kernel
theorem dX3_endOfTest_25 : decode cX3_endOfTest 25 = .ok (.if_icmp .eq 28, 3) := by decide +kernel
theorem dX3_endOfTest_28 : decode cX3_endOfTest 28 = .ok (.iload_n 2, 1) := by decide +kernel
theorem dX3_endOfTest_29 : decode cX3_endOfTest 29 = .ok (.bipush 100, 2) := by decide +kernel
theorem dX3_endOfTest_31 : decode cX3_endOfTest 31 = .ok (.if_icmp .eq 22, 3) := by decide +kernel
theorem dX3_endOfTest_34 : decode cX3_endOfTest 34 = .ok (.iload_n 2, 1) := by decide +kernel
theorem dX3_endOfTest_35 : decode cX3_endOfTest 35 = .ok (.bipush 114, 2) := by decide +kernel
theorem dX3_endOfTest_37 : decode cX3_endOfTest 37 = .ok (.if_icmp .eq 16, 3) := by decide +kernel
theorem dX3_endOfTest_40 : decode cX3_endOfTest 40 = .ok (.iload_n 2, 1) := by decide +kernel
theorem dX3_endOfTest_41 : decode cX3_endOfTest 41 = .ok (.bipush 116, 2) := by decide +kernel
theorem dX3_endOfTest_43 : decode cX3_endOfTest 43 = .ok (.if_icmp .eq 10, 3) := by decide +kernel
theorem dX3_endOfTest_46 : decode cX3_endOfTest 46 = .ok (.aload_n 0, 1) := by decide +kernel
theorem dX3_endOfTest_47 : decode cX3_endOfTest 47 = .ok (.iload_n 1, 1) := by decide +kernel
theorem dX3_endOfTest_48 : decode cX3_endOfTest 48 = .ok (.putfield 55, 3) := by decide +kernel
theorem dX3_endOfTest_51 : decode cX3_endOfTest 51 = .ok (.iload_n 1, 1) := by decide +kernel
theorem dX3_endOfTest_52 : decode cX3_endOfTest 52 = .ok (.ireturn, 1) := by decide +kernel
theorem dX3_endOfTest_53 : decode cX3_endOfTest 53 = .ok (.aload_n 0, 1) := by decide +kernel
theorem dX3_endOfTest_54 : decode cX3_endOfTest 54 = .ok (.iload_n 1, 1) := by decide +kernel
theorem dX3_endOfTest_55 : decode cX3_endOfTest 55 = .ok (.iconst 1, 1) := by decide +kernel
theorem dX3_endOfTest_56 : decode cX3_endOfTest 56 = .ok (.iadd, 1) := by decide +kernel
theorem dX3_endOfTest_57 : decode cX3_endOfTest 57 = .ok (.invokevirtual 127, 3) := by decide +kernel
theorem dX3_endOfTest_60 : decode cX3_endOfTest 60 = .ok (.istore_n 3, 1) := by decide +kernel
theorem dX3_endOfTest_61 : decode cX3_endOfTest 61 = .ok (.iload_n 3, 1) := by decide +kernel
theorem dX3_endOfTest_62 : decode cX3_endOfTest 62 = .ok (.bipush 60, 2) := by decide +kernel
theorem dX3_endOfTest_64 : decode cX3_endOfTest 64 = .ok (.if_icmp .eq 24, 3) := by decide +kernel
theorem dX3_endOfTest_67 : decode cX3_endOfTest 67 = .ok (.iload_n 3, 1) := by decide +kernel
theorem dX3_endOfTest_68 : decode cX3_endOfTest 68 = .ok (.bipush 62, 2) := by decide +kernel
theorem dX3_endOfTest_70 : decode cX3_endOfTest 70 = .ok (.if_icmp .eq 18, 3) := by decide +kernel
theorem dX3_endOfTest_73 : decode cX3_endOfTest 73 = .ok (.iload_n 3, 1) := by decide +kernel
theorem dX3_endOfTest_74 : decode cX3_endOfTest 74 = .ok (.bipush 61, 2) := by decide +kernel
theorem dX3_endOfTest_76 : decode cX3_endOfTest 76 = .ok (.if_icmp .eq 12, 3) := by decide +kernel
theorem dX3_endOfTest_79 : decode cX3_endOfTest 79 = .ok (.aload_n 0, 1) := by decide +kernel
theorem dX3_endOfTest_80 : decode cX3_endOfTest 80 = .ok (.iload_n 1, 1) := by decide +kernel
theorem dX3_endOfTest_81 : decode cX3_endOfTest 81 = .ok (.iconst 1, 1) := by decide +kernel
theorem dX3_endOfTest_82 : decode cX3_endOfTest 82 = .ok (.iadd, 1) := by decide +kernel
theorem dX3_endOfTest_83 : decode cX3_endOfTest 83 = .ok (.putfield 55, 3) := by decide +kernel
theorem dX3_endOfTest_86 : decode cX3_endOfTest 86 = .ok (.iload_n 1, 1) := by decide +kernel
theorem dX3_endOfTest_87 : decode cX3_endOfTest 87 = .ok (.ireturn, 1) := by decide +kernel
theorem dX3_endOfTest_88 : decode cX3_endOfTest 88 = .ok (.aload_n 0, 1) := by decide +kernel
theorem dX3_endOfTest_89 : decode cX3_endOfTest 89 = .ok (.iload_n 1, 1) := by decide +kernel
theorem dX3_endOfTest_90 : decode cX3_endOfTest 90 = .ok (.iconst 2, 1) := by decide +kernel
theorem dX3_endOfTest_91 : decode cX3_endOfTest 91 = .ok (.iadd, 1) := by decide +kernel
theorem dX3_endOfTest_92 : decode cX3_endOfTest 92 = .ok (.invokevirtual 127, 3) := by decide +kernel
theorem dX3_endOfTest_95 : decode cX3_endOfTest 95 = .ok (.bipush 48, 2) := by decide +kernel
theorem dX3_endOfTest_97 : decode cX3_endOfTest 97 = .ok (.if_icmp .ne 9, 3) := by decide +kernel
theorem dX3_endOfTest_100 : decode cX3_endOfTest 100 = .ok (.iload_n 1, 1) := by decide +kernel
theorem dX3_endOfTest_101 : decode cX3_endOfTest 101 = .ok (.iconst 3, 1) := by decide +kernel
theorem dX3_endOfTest_102 : decode cX3_endOfTest 102 = .ok (.iadd, 1) := by decide +kernel
theorem dX3_endOfTest_103 : decode cX3_endOfTest 103 = .ok (.goto 7, 3) := by decide +kernel
theorem dX3_endOfTest_106 : decode cX3_endOfTest 106 = .ok (.iload_n 1, 1) := by decide +kernel
theorem dX3_endOfTest_107 : decode cX3_endOfTest 107 = .ok (.bipush 6, 2) := by decide +kernel
theorem dX3_endOfTest_109 : decode cX3_endOfTest 109 = .ok (.iadd, 1) := by decide +kernel
theorem dX3_endOfTest_110 : decode cX3_endOfTest 110 = .ok (.istore 4, 2) := by decide +kernel
theorem dX3_endOfTest_112 : decode cX3_endOfTest 112 = .ok (.iload_n 1, 1) := by decide +kernel
theorem dX3_endOfTest_113 : decode cX3_endOfTest 113 = .ok (.iconst 2, 1) := by decide +kernel
theorem dX3_endOfTest_114 : decode cX3_endOfTest 114 = .ok (.iadd, 1) := by decide +kernel
theorem dX3_endOfTest_115 : decode cX3_endOfTest 115 = .ok (.istore 5, 2) := by decide +kernel
theorem dX3_endOfTest_117 : decode cX3_endOfTest 117 = .ok (.iload 5, 2) := by decide +kernel
theorem dX3_endOfTest_119 : decode cX3_endOfTest 119 = .ok (.iload 4, 2) := by decide +kernel
theorem dX3_endOfTest_121 : decode cX3_endOfTest 121 = .ok (.if_icmp .ge 31, 3) := by decide +kernel
theorem dX3_endOfTest_124 : decode cX3_endOfTest 124 = .ok (.aload_n 0, 1) := by decide +kernel
theorem dX3_endOfTest_125 : decode cX3_endOfTest 125 = .ok (.iload 5, 2) := by decide +kernel
theorem dX3_endOfTest_127 : decode cX3_endOfTest 127 = .ok (.invokevirtual 127, 3) := by decide +kernel
theorem dX3_endOfTest_130 : decode cX3_endOfTest 130 = .ok (.bipush 48, 2) := by decide +kernel
theorem dX3_endOfTest_132 : decode cX3_endOfTest 132 = .ok (.if_icmp .lt 20, 3) := by decide +kernel
theorem dX3_endOfTest_135 : decode cX3_endOfTest 135 = .ok (.aload_n 0, 1) := by decide +kernel
theorem dX3_endOfTest_136 : decode cX3_endOfTest 136 = .ok (.iload 5, 2) := by decide +kernel
theorem dX3_endOfTest_138 : decode cX3_endOfTest 138 = .ok (.invokevirtual 127, 3) := by decide +kernel
theorem dX3_endOfTest_141 : decode cX3_endOfTest 141 = .ok (.bipush 57, 2) := by decide +kernel
theorem dX3_endOfTest_143 : decode cX3_endOfTest 143 = .ok (.if_icmp .gt 9, 3) := by decide +kernel
theorem dX3_endOfTest_146 : decode cX3_endOfTest 146 = .ok (.iinc 5 1, 3) := by decide +kernel
theorem dX3_endOfTest_149 : decode cX3_endOfTest 149 = .ok (.goto (-32), 3) := by decide +kernel
theorem dX3_endOfTest_152 : decode cX3_endOfTest 152 = .ok (.iload 5, 2) := by decide +kernel
theorem dX3_endOfTest_154 : decode cX3_endOfTest 154 = .ok (.iload_n 1, 1) := by decide +kernel
theorem dX3_endOfTest_155 : decode cX3_endOfTest 155 = .ok (.iconst 2, 1) := by decide +kernel
theorem dX3_endOfTest_156 : decode cX3_endOfTest 156 = .ok (.iadd, 1) := by decide +kernel
theorem dX3_endOfTest_157 : decode cX3_endOfTest 157 = .ok (.if_icmp .ne 9, 3) := by decide +kernel
theorem dX3_endOfTest_160 : decode cX3_endOfTest 160 = .ok (.aload_n 0, 1) := by decide +kernel
theorem dX3_endOfTest_161 : decode cX3_endOfTest 161 = .ok (.iload 5, 2) := by decide +kernel
theorem dX3_endOfTest_163 : decode cX3_endOfTest 163 = .ok (.putfield 55, 3) := by decide +kernel
theorem dX3_endOfTest_166 : decode cX3_endOfTest 166 = .ok (.iload 5, 2) := by decide +kernel
theorem dX3_endOfTest_168 : decode cX3_endOfTest 168 = .ok (.ireturn, 1) := by decide +kernel
theorem dX3_letterAt_0 : decode cX3_letterAt 0 = .ok (.iload_n 1, 1) := by decide +kernel
theorem dX3_letterAt_1 : decode cX3_letterAt 1 = .ok (.aload_n 0, 1) := by decide +kernel
theorem dX3_letterAt_2 : decode cX3_letterAt 2 = .ok (.getfield 28, 3) := by decide +kernel
theorem dX3_letterAt_5 : decode cX3_letterAt 5 = .ok (.getfield 51, 3) := by decide +kernel
theorem dX3_letterAt_8 : decode cX3_letterAt 8 = .ok (.if_icmp .ge 15, 3) := by decide +kernel
theorem dX3_letterAt_11 : decode cX3_letterAt 11 = .ok (.aload_n 0, 1) := by decide +kernel
theorem dX3_letterAt_12 : decode cX3_letterAt 12 = .ok (.getfield 28, 3) := by decide +kernel
theorem dX3_letterAt_15 : decode cX3_letterAt 15 = .ok (.getfield 66, 3) := by decide +kernel
theorem dX3_letterAt_18 : decode cX3_letterAt 18 = .ok (.iload_n 1, 1) := by decide +kernel
theorem dX3_letterAt_19 : decode cX3_letterAt 19 = .ok (.iaload, 1) := by decide +kernel
theorem dX3_letterAt_20 : decode cX3_letterAt 20 = .ok (.goto 4, 3) := by decide +kernel
theorem dX3_letterAt_23 : decode cX3_letterAt 23 = .ok (.iconst 0, 1) := by decide +kernel
theorem dX3_letterAt_24 : decode cX3_letterAt 24 = .ok (.ireturn, 1) := by decide +kernel
theorem dX3_valueOfTest_0 : decode cX3_valueOfTest 0 = .ok (.aload_n 0, 1) := by decide +kernel
theorem dX3_valueOfTest_1 : decode cX3_valueOfTest 1 = .ok (.iload_n 1, 1) := by decide +kernel
theorem dX3_valueOfTest_2 : decode cX3_valueOfTest 2 = .ok (.invokevirtual 127, 3) := by decide +kernel
theorem dX3_valueOfTest_5 : decode cX3_valueOfTest 5 = .ok (.istore_n 3, 1) := by decide +kernel
theorem dX3_valueOfTest_6 : decode cX3_valueOfTest 6 = .ok (.iload_n 3, 1) := by decide +kernel
theorem dX3_valueOfTest_7 : decode cX3_valueOfTest 7 = .ok (.bipush 119, 2) := by decide +kernel
theorem dX3_valueOfTest_9 : decode cX3_valueOfTest 9 = .ok (.if_icmp .ne 18, 3) := by decide +kernel
theorem dX3_valueOfTest_12 : decode cX3_valueOfTest 12 = .ok (.aload_n 0, 1) := by decide +kernel
theorem dX3_valueOfTest_13 : decode cX3_valueOfTest 13 = .ok (.getfield 21, 3) := by decide +kernel
theorem dX3_valueOfTest_16 : decode cX3_valueOfTest 16 = .ok (.iconst 1, 1) := by decide +kernel
theorem dX3_valueOfTest_17 : decode cX3_valueOfTest 17 = .ok (.iaload, 1) := by decide +kernel
theorem dX3_valueOfTest_18 : decode cX3_valueOfTest 18 = .ok (.ifCond .le 7, 3) := by decide +kernel
theorem dX3_valueOfTest_21 : decode cX3_valueOfTest 21 = .ok (.iconst 1, 1) := by decide +kernel
theorem dX3_valueOfTest_22 : decode cX3_valueOfTest 22 = .ok (.goto 4, 3) := by decide +kernel
theorem dX3_valueOfTest_25 : decode cX3_valueOfTest 25 = .ok (.iconst 0, 1) := by decide +kernel
theorem dX3_valueOfTest_26 : decode cX3_valueOfTest 26 = .ok (.ireturn, 1) := by decide +kernel
theorem dX3_valueOfTest_27 : decode cX3_valueOfTest 27 = .ok (.iconst 0, 1) := by decide +kernel
theorem dX3_valueOfTest_28 : decode cX3_valueOfTest 28 = .ok (.istore 4, 2) := by decide +kernel
theorem dX3_valueOfTest_30 : decode cX3_valueOfTest 30 = .ok (.iload_n 1, 1) := by decide +kernel
theorem dX3_valueOfTest_31 : decode cX3_valueOfTest 31 = .ok (.iconst 2, 1) := by decide +kernel
theorem dX3_valueOfTest_32 : decode cX3_valueOfTest 32 = .ok (.iadd, 1) := by decide +kernel
theorem dX3_valueOfTest_33 : decode cX3_valueOfTest 33 = .ok (.istore 5, 2) := by decide +kernel
theorem dX3_valueOfTest_35 : decode cX3_valueOfTest 35 = .ok (.iload 5, 2) := by decide +kernel
theorem dX3_valueOfTest_37 : decode cX3_valueOfTest 37 = .ok (.iload_n 2, 1) := by decide +kernel
theorem dX3_valueOfTest_38 : decode cX3_valueOfTest 38 = .ok (.if_icmp .ge 26, 3) := by decide +kernel
theorem dX3_valueOfTest_41 : decode cX3_valueOfTest 41 = .ok (.bipush 10, 2) := by decide +kernel
theorem dX3_valueOfTest_43 : decode cX3_valueOfTest 43 = .ok (.iload 4, 2) := by decide +kernel
theorem dX3_valueOfTest_45 : decode cX3_valueOfTest 45 = .ok (.imul, 1) := by decide +kernel
theorem dX3_valueOfTest_46 : decode cX3_valueOfTest 46 = .ok (.aload_n 0, 1) := by decide +kernel
theorem dX3_valueOfTest_47 : decode cX3_valueOfTest 47 = .ok (.iload 5, 2) := by decide +kernel
theorem dX3_valueOfTest_49 : decode cX3_valueOfTest 49 = .ok (.invokevirtual 127, 3) := by decide +kernel
theorem dX3_valueOfTest_52 : decode cX3_valueOfTest 52 = .ok (.iadd, 1) := by decide +kernel
theorem dX3_valueOfTest_53 : decode cX3_valueOfTest 53 = .ok (.bipush 48, 2) := by decide +kernel
theorem dX3_valueOfTest_55 : decode cX3_valueOfTest 55 = .ok (.isub, 1) := by decide +kernel
theorem dX3_valueOfTest_56 : decode cX3_valueOfTest 56 = .ok (.istore 4, 2) := by decide +kernel
theorem dX3_valueOfTest_58 : decode cX3_valueOfTest 58 = .ok (.iinc 5 1, 3) := by decide +kernel
theorem dX3_valueOfTest_61 : decode cX3_valueOfTest 61 = .ok (.goto (-26), 3) := by decide +kernel
theorem dX3_valueOfTest_64 : decode cX3_valueOfTest 64 = .ok (.aload_n 0, 1) := by decide +kernel
theorem dX3_valueOfTest_65 : decode cX3_valueOfTest 65 = .ok (.iload_n 1, 1) := by decide +kernel
theorem dX3_valueOfTest_66 : decode cX3_valueOfTest 66 = .ok (.iconst 1, 1) := by decide +kernel
theorem dX3_valueOfTest_67 : decode cX3_valueOfTest 67 = .ok (.iadd, 1) := by decide +kernel
theorem dX3_valueOfTest_68 : decode cX3_valueOfTest 68 = .ok (.invokevirtual 127, 3) := by decide +kernel
theorem dX3_valueOfTest_71 : decode cX3_valueOfTest 71 = .ok (.istore 5, 2) := by decide +kernel
theorem dX3_valueOfTest_73 : decode cX3_valueOfTest 73 = .ok (.iload_n 3, 1) := by decide +kernel
theorem dX3_valueOfTest_74 : decode cX3_valueOfTest 74 = .ok (.bipush 107, 2) := by decide +kernel
theorem dX3_valueOfTest_76 : decode cX3_valueOfTest 76 = .ok (.if_icmp .ne 14, 3) := by decide +kernel
theorem dX3_valueOfTest_79 : decode cX3_valueOfTest 79 = .ok (.aload_n 0, 1) := by decide +kernel
theorem dX3_valueOfTest_80 : decode cX3_valueOfTest 80 = .ok (.iload 5, 2) := by decide +kernel
theorem dX3_valueOfTest_82 : decode cX3_valueOfTest 82 = .ok (.iload 4, 2) := by decide +kernel
theorem dX3_valueOfTest_84 : decode cX3_valueOfTest 84 = .ok (.invokevirtual 130, 3) := by decide +kernel
theorem dX3_valueOfTest_87 : decode cX3_valueOfTest 87 = .ok (.goto 12, 3) := by decide +kernel
theorem dX3_valueOfTest_90 : decode cX3_valueOfTest 90 = .ok (.aload_n 0, 1) := by decide +kernel
theorem dX3_valueOfTest_91 : decode cX3_valueOfTest 91 = .ok (.iload_n 3, 1) := by decide +kernel
theorem dX3_valueOfTest_92 : decode cX3_valueOfTest 92 = .ok (.iload 5, 2) := by decide +kernel
theorem dX3_valueOfTest_94 : decode cX3_valueOfTest 94 = .ok (.iload 4, 2) := by decide +kernel
theorem dX3_valueOfTest_96 : decode cX3_valueOfTest 96 = .ok (.invokevirtual 133, 3) := by decide +kernel
theorem dX3_valueOfTest_99 : decode cX3_valueOfTest 99 = .ok (.ireturn, 1) := by decide +kernel
theorem dX3_plainTest_0 : decode cX3_plainTest 0 = .ok (.aload_n 0, 1) := by decide +kernel
theorem dX3_plainTest_1 : decode cX3_plainTest 1 = .ok (.getfield 100, 3) := by decide +kernel
theorem dX3_plainTest_4 : decode cX3_plainTest 4 = .ok (.istore 4, 2) := by decide +kernel
theorem dX3_plainTest_6 : decode cX3_plainTest 6 = .ok (.iload_n 1, 1) := by decide +kernel
theorem dX3_plainTest_7 : decode cX3_plainTest 7 = .ok (.bipush 100, 2) := by decide +kernel
theorem dX3_plainTest_9 : decode cX3_plainTest 9 = .ok (.if_icmp .ne 14, 3) := by decide +kernel
theorem dX3_plainTest_12 : decode cX3_plainTest 12 = .ok (.aload_n 0, 1) := by decide +kernel
theorem dX3_plainTest_13 : decode cX3_plainTest 13 = .ok (.getfield 21, 3) := by decide +kernel
theorem dX3_plainTest_16 : decode cX3_plainTest 16 = .ok (.iconst 0, 1) := by decide +kernel
theorem dX3_plainTest_17 : decode cX3_plainTest 17 = .ok (.iaload, 1) := by decide +kernel
theorem dX3_plainTest_18 : decode cX3_plainTest 18 = .ok (.istore 4, 2) := by decide +kernel
theorem dX3_plainTest_20 : decode cX3_plainTest 20 = .ok (.goto 34, 3) := by decide +kernel
theorem dX3_plainTest_23 : decode cX3_plainTest 23 = .ok (.iload_n 1, 1) := by decide +kernel
theorem dX3_plainTest_24 : decode cX3_plainTest 24 = .ok (.bipush 114, 2) := by decide +kernel
theorem dX3_plainTest_26 : decode cX3_plainTest 26 = .ok (.if_icmp .ne 14, 3) := by decide +kernel
theorem dX3_plainTest_29 : decode cX3_plainTest 29 = .ok (.aload_n 0, 1) := by decide +kernel
theorem dX3_plainTest_30 : decode cX3_plainTest 30 = .ok (.getfield 21, 3) := by decide +kernel
theorem dX3_plainTest_33 : decode cX3_plainTest 33 = .ok (.iconst 2, 1) := by decide +kernel
theorem dX3_plainTest_34 : decode cX3_plainTest 34 = .ok (.iaload, 1) := by decide +kernel
theorem dX3_plainTest_35 : decode cX3_plainTest 35 = .ok (.istore 4, 2) := by decide +kernel
theorem dX3_plainTest_37 : decode cX3_plainTest 37 = .ok (.goto 17, 3) := by decide +kernel
theorem dX3_plainTest_40 : decode cX3_plainTest 40 = .ok (.iload_n 1, 1) := by decide +kernel
theorem dX3_plainTest_41 : decode cX3_plainTest 41 = .ok (.bipush 116, 2) := by decide +kernel
theorem dX3_plainTest_43 : decode cX3_plainTest 43 = .ok (.if_icmp .ne 11, 3) := by decide +kernel
theorem dX3_plainTest_46 : decode cX3_plainTest 46 = .ok (.aload_n 0, 1) := by decide +kernel
theorem dX3_plainTest_47 : decode cX3_plainTest 47 = .ok (.getfield 21, 3) := by decide +kernel
theorem dX3_plainTest_50 : decode cX3_plainTest 50 = .ok (.iconst 3, 1) := by decide +kernel
theorem dX3_plainTest_51 : decode cX3_plainTest 51 = .ok (.iaload, 1) := by decide +kernel
theorem dX3_plainTest_52 : decode cX3_plainTest 52 = .ok (.istore 4, 2) := by decide +kernel
theorem dX3_plainTest_54 : decode cX3_plainTest 54 = .ok (.iload_n 2, 1) := by decide +kernel
theorem dX3_plainTest_55 : decode cX3_plainTest 55 = .ok (.bipush 60, 2) := by decide +kernel
theorem dX3_plainTest_57 : decode cX3_plainTest 57 = .ok (.if_icmp .ne 17, 3) := by decide +kernel
theorem dX3_plainTest_60 : decode cX3_plainTest 60 = .ok (.iload 4, 2) := by decide +kernel
theorem dX3_plainTest_62 : decode cX3_plainTest 62 = .ok (.iload_n 3, 1) := by decide +kernel
theorem dX3_plainTest_63 : decode cX3_plainTest 63 = .ok (.if_icmp .ge 7, 3) := by decide +kernel
theorem dX3_plainTest_66 : decode cX3_plainTest 66 = .ok (.iconst 1, 1) := by decide +kernel
theorem dX3_plainTest_67 : decode cX3_plainTest 67 = .ok (.goto 38, 3) := by decide +kernel
theorem dX3_plainTest_70 : decode cX3_plainTest 70 = .ok (.iconst 0, 1) := by decide +kernel
theorem dX3_plainTest_71 : decode cX3_plainTest 71 = .ok (.goto 34, 3) := by decide +kernel
theorem dX3_plainTest_74 : decode cX3_plainTest 74 = .ok (.iload_n 2, 1) := by decide +kernel
theorem dX3_plainTest_75 : decode cX3_plainTest 75 = .ok (.bipush 62, 2) := by decide +kernel
theorem dX3_plainTest_77 : decode cX3_plainTest 77 = .ok (.if_icmp .ne 17, 3) := by decide +kernel
theorem dX3_plainTest_80 : decode cX3_plainTest 80 = .ok (.iload 4, 2) := by decide +kernel
theorem dX3_plainTest_82 : decode cX3_plainTest 82 = .ok (.iload_n 3, 1) := by decide +kernel
theorem dX3_plainTest_83 : decode cX3_plainTest 83 = .ok (.if_icmp .le 7, 3) := by decide +kernel
theorem dX3_plainTest_86 : decode cX3_plainTest 86 = .ok (.iconst 1, 1) := by decide +kernel
theorem dX3_plainTest_87 : decode cX3_plainTest 87 = .ok (.goto 18, 3) := by decide +kernel
theorem dX3_plainTest_90 : decode cX3_plainTest 90 = .ok (.iconst 0, 1) := by decide +kernel
theorem dX3_plainTest_91 : decode cX3_plainTest 91 = .ok (.goto 14, 3) := by decide +kernel
theorem dX3_plainTest_94 : decode cX3_plainTest 94 = .ok (.iload 4, 2) := by decide +kernel
theorem dX3_plainTest_96 : decode cX3_plainTest 96 = .ok (.iload_n 3, 1) := by decide +kernel
theorem dX3_plainTest_97 : decode cX3_plainTest 97 = .ok (.if_icmp .ne 7, 3) := by decide +kernel
theorem dX3_plainTest_100 : decode cX3_plainTest 100 = .ok (.iconst 1, 1) := by decide +kernel
theorem dX3_plainTest_101 : decode cX3_plainTest 101 = .ok (.goto 4, 3) := by decide +kernel
theorem dX3_plainTest_104 : decode cX3_plainTest 104 = .ok (.iconst 0, 1) := by decide +kernel
theorem dX3_plainTest_105 : decode cX3_plainTest 105 = .ok (.istore 5, 2) := by decide +kernel
theorem dX3_plainTest_107 : decode cX3_plainTest 107 = .ok (.iload 5, 2) := by decide +kernel
theorem dX3_plainTest_109 : decode cX3_plainTest 109 = .ok (.ifCond .eq 7, 3) := by decide +kernel
theorem dX3_plainTest_112 : decode cX3_plainTest 112 = .ok (.iconst 1, 1) := by decide +kernel
theorem dX3_plainTest_113 : decode cX3_plainTest 113 = .ok (.goto 4, 3) := by decide +kernel
theorem dX3_plainTest_116 : decode cX3_plainTest 116 = .ok (.iconst 0, 1) := by decide +kernel
theorem dX3_plainTest_117 : decode cX3_plainTest 117 = .ok (.ireturn, 1) := by decide +kernel
theorem dX3_kinTest_0 : decode cX3_kinTest 0 = .ok (.aload_n 0, 1) := by decide +kernel
theorem dX3_kinTest_1 : decode cX3_kinTest 1 = .ok (.getfield 24, 3) := by decide +kernel
theorem dX3_kinTest_4 : decode cX3_kinTest 4 = .ok (.getfield 136, 3) := by decide +kernel
theorem dX3_kinTest_7 : decode cX3_kinTest 7 = .ok (.istore_n 3, 1) := by decide +kernel
theorem dX3_kinTest_8 : decode cX3_kinTest 8 = .ok (.aload_n 0, 1) := by decide +kernel
theorem dX3_kinTest_9 : decode cX3_kinTest 9 = .ok (.getfield 24, 3) := by decide +kernel
theorem dX3_kinTest_12 : decode cX3_kinTest 12 = .ok (.getfield 139, 3) := by decide +kernel
theorem dX3_kinTest_15 : decode cX3_kinTest 15 = .ok (.istore 4, 2) := by decide +kernel
theorem dX3_kinTest_17 : decode cX3_kinTest 17 = .ok (.iload_n 1, 1) := by decide +kernel
theorem dX3_kinTest_18 : decode cX3_kinTest 18 = .ok (.bipush 60, 2) := by decide +kernel
theorem dX3_kinTest_20 : decode cX3_kinTest 20 = .ok (.if_icmp .ne 24, 3) := by decide +kernel
theorem dX3_kinTest_23 : decode cX3_kinTest 23 = .ok (.iload_n 3, 1) := by decide +kernel
theorem dX3_kinTest_24 : decode cX3_kinTest 24 = .ok (.iload_n 2, 1) := by decide +kernel
theorem dX3_kinTest_25 : decode cX3_kinTest 25 = .ok (.if_icmp .ge 7, 3) := by decide +kernel
theorem dX3_kinTest_28 : decode cX3_kinTest 28 = .ok (.iconst 1, 1) := by decide +kernel
theorem dX3_kinTest_29 : decode cX3_kinTest 29 = .ok (.goto 14, 3) := by decide +kernel
theorem dX3_kinTest_32 : decode cX3_kinTest 32 = .ok (.iload 4, 2) := by decide +kernel
theorem dX3_kinTest_34 : decode cX3_kinTest 34 = .ok (.iload_n 2, 1) := by decide +kernel
theorem dX3_kinTest_35 : decode cX3_kinTest 35 = .ok (.if_icmp .ge 7, 3) := by decide +kernel
theorem dX3_kinTest_38 : decode cX3_kinTest 38 = .ok (.iconst 2, 1) := by decide +kernel
theorem dX3_kinTest_39 : decode cX3_kinTest 39 = .ok (.goto 4, 3) := by decide +kernel
theorem dX3_kinTest_42 : decode cX3_kinTest 42 = .ok (.iconst 0, 1) := by decide +kernel
theorem dX3_kinTest_43 : decode cX3_kinTest 43 = .ok (.ireturn, 1) := by decide +kernel
theorem dX3_kinTest_44 : decode cX3_kinTest 44 = .ok (.iload_n 1, 1) := by decide +kernel
theorem dX3_kinTest_45 : decode cX3_kinTest 45 = .ok (.bipush 62, 2) := by decide +kernel
theorem dX3_kinTest_47 : decode cX3_kinTest 47 = .ok (.if_icmp .ne 24, 3) := by decide +kernel
theorem dX3_kinTest_50 : decode cX3_kinTest 50 = .ok (.iload_n 3, 1) := by decide +kernel
theorem dX3_kinTest_51 : decode cX3_kinTest 51 = .ok (.iload_n 2, 1) := by decide +kernel
theorem dX3_kinTest_52 : decode cX3_kinTest 52 = .ok (.if_icmp .gt 7, 3) := by decide +kernel
theorem dX3_kinTest_55 : decode cX3_kinTest 55 = .ok (.iconst 0, 1) := by decide +kernel
theorem dX3_kinTest_56 : decode cX3_kinTest 56 = .ok (.goto 14, 3) := by decide +kernel
theorem dX3_kinTest_59 : decode cX3_kinTest 59 = .ok (.iload 4, 2) := by decide +kernel
theorem dX3_kinTest_61 : decode cX3_kinTest 61 = .ok (.iload_n 2, 1) := by decide +kernel
theorem dX3_kinTest_62 : decode cX3_kinTest 62 = .ok (.if_icmp .gt 7, 3) := by decide +kernel
theorem dX3_kinTest_65 : decode cX3_kinTest 65 = .ok (.iconst 2, 1) := by decide +kernel
theorem dX3_kinTest_66 : decode cX3_kinTest 66 = .ok (.goto 4, 3) := by decide +kernel
theorem dX3_kinTest_69 : decode cX3_kinTest 69 = .ok (.iconst 1, 1) := by decide +kernel
theorem dX3_kinTest_70 : decode cX3_kinTest 70 = .ok (.ireturn, 1) := by decide +kernel
theorem dX3_kinTest_71 : decode cX3_kinTest 71 = .ok (.iload_n 3, 1) := by decide +kernel
theorem dX3_kinTest_72 : decode cX3_kinTest 72 = .ok (.iload_n 2, 1) := by decide +kernel
theorem dX3_kinTest_73 : decode cX3_kinTest 73 = .ok (.if_icmp .ne 15, 3) := by decide +kernel
theorem dX3_kinTest_76 : decode cX3_kinTest 76 = .ok (.iload 4, 2) := by decide +kernel
theorem dX3_kinTest_78 : decode cX3_kinTest 78 = .ok (.iload_n 2, 1) := by decide +kernel
theorem dX3_kinTest_79 : decode cX3_kinTest 79 = .ok (.if_icmp .ge 7, 3) := by decide +kernel
theorem dX3_kinTest_82 : decode cX3_kinTest 82 = .ok (.iconst 2, 1) := by decide +kernel
theorem dX3_kinTest_83 : decode cX3_kinTest 83 = .ok (.goto 4, 3) := by decide +kernel
theorem dX3_kinTest_86 : decode cX3_kinTest 86 = .ok (.iconst 1, 1) := by decide +kernel
theorem dX3_kinTest_87 : decode cX3_kinTest 87 = .ok (.ireturn, 1) := by decide +kernel
theorem dX3_kinTest_88 : decode cX3_kinTest 88 = .ok (.iload_n 3, 1) := by decide +kernel
theorem dX3_kinTest_89 : decode cX3_kinTest 89 = .ok (.iload_n 2, 1) := by decide +kernel
theorem dX3_kinTest_90 : decode cX3_kinTest 90 = .ok (.if_icmp .le 13, 3) := by decide +kernel
theorem dX3_kinTest_93 : decode cX3_kinTest 93 = .ok (.iload 4, 2) := by decide +kernel
theorem dX3_kinTest_95 : decode cX3_kinTest 95 = .ok (.iload_n 2, 1) := by decide +kernel
theorem dX3_kinTest_96 : decode cX3_kinTest 96 = .ok (.if_icmp .gt 7, 3) := by decide +kernel
theorem dX3_kinTest_99 : decode cX3_kinTest 99 = .ok (.iconst 2, 1) := by decide +kernel
theorem dX3_kinTest_100 : decode cX3_kinTest 100 = .ok (.goto 4, 3) := by decide +kernel
theorem dX3_kinTest_103 : decode cX3_kinTest 103 = .ok (.iconst 0, 1) := by decide +kernel
theorem dX3_kinTest_104 : decode cX3_kinTest 104 = .ok (.ireturn, 1) := by decide +kernel
theorem dX3_endPart_0 : decode cX3_endPart 0 = .ok (.aload_n 0, 1) := by decide +kernel
theorem dX3_endPart_1 : decode cX3_endPart 1 = .ok (.getfield 18, 3) := by decide +kernel
theorem dX3_endPart_4 : decode cX3_endPart 4 = .ok (.aload_n 0, 1) := by decide +kernel
theorem dX3_endPart_5 : decode cX3_endPart 5 = .ok (.getfield 75, 3) := by decide +kernel
theorem dX3_endPart_8 : decode cX3_endPart 8 = .ok (.iaload, 1) := by decide +kernel
theorem dX3_endPart_9 : decode cX3_endPart 9 = .ok (.iconst 2, 1) := by decide +kernel
theorem dX3_endPart_10 : decode cX3_endPart 10 = .ok (.irem, 1) := by decide +kernel
theorem dX3_endPart_11 : decode cX3_endPart 11 = .ok (.iconst 1, 1) := by decide +kernel
theorem dX3_endPart_12 : decode cX3_endPart 12 = .ok (.if_icmp .ne 14, 3) := by decide +kernel
theorem dX3_endPart_15 : decode cX3_endPart 15 = .ok (.iload_n 1, 1) := by decide +kernel
theorem dX3_endPart_16 : decode cX3_endPart 16 = .ok (.iconst 2, 1) := by decide +kernel
theorem dX3_endPart_17 : decode cX3_endPart 17 = .ok (.if_icmp .eq 9, 3) := by decide +kernel
theorem dX3_endPart_20 : decode cX3_endPart 20 = .ok (.iconst 1, 1) := by decide +kernel
theorem dX3_endPart_21 : decode cX3_endPart 21 = .ok (.iload_n 1, 1) := by decide +kernel
theorem dX3_endPart_22 : decode cX3_endPart 22 = .ok (.isub, 1) := by decide +kernel
theorem dX3_endPart_23 : decode cX3_endPart 23 = .ok (.goto 4, 3) := by decide +kernel
theorem dX3_endPart_26 : decode cX3_endPart 26 = .ok (.iload_n 1, 1) := by decide +kernel
theorem dX3_endPart_27 : decode cX3_endPart 27 = .ok (.istore_n 2, 1) := by decide +kernel
theorem dX3_endPart_28 : decode cX3_endPart 28 = .ok (.aload_n 0, 1) := by decide +kernel
theorem dX3_endPart_29 : decode cX3_endPart 29 = .ok (.dup, 1) := by decide +kernel
theorem dX3_endPart_30 : decode cX3_endPart 30 = .ok (.getfield 112, 3) := by decide +kernel
theorem dX3_endPart_33 : decode cX3_endPart 33 = .ok (.aload_n 0, 1) := by decide +kernel
theorem dX3_endPart_34 : decode cX3_endPart 34 = .ok (.getfield 18, 3) := by decide +kernel
theorem dX3_endPart_37 : decode cX3_endPart 37 = .ok (.aload_n 0, 1) := by decide +kernel
theorem dX3_endPart_38 : decode cX3_endPart 38 = .ok (.getfield 75, 3) := by decide +kernel
theorem dX3_endPart_41 : decode cX3_endPart 41 = .ok (.iaload, 1) := by decide +kernel
theorem dX3_endPart_42 : decode cX3_endPart 42 = .ok (.isub, 1) := by decide +kernel
theorem dX3_endPart_43 : decode cX3_endPart 43 = .ok (.putfield 112, 3) := by decide +kernel
theorem dX3_endPart_46 : decode cX3_endPart 46 = .ok (.aload_n 0, 1) := by decide +kernel
theorem dX3_endPart_47 : decode cX3_endPart 47 = .ok (.getfield 18, 3) := by decide +kernel
theorem dX3_endPart_50 : decode cX3_endPart 50 = .ok (.aload_n 0, 1) := by decide +kernel
theorem dX3_endPart_51 : decode cX3_endPart 51 = .ok (.getfield 75, 3) := by decide +kernel
theorem dX3_endPart_54 : decode cX3_endPart 54 = .ok (.iconst 0, 1) := by decide +kernel
theorem dX3_endPart_55 : decode cX3_endPart 55 = .ok (.iastore, 1) := by decide +kernel
theorem dX3_endPart_56 : decode cX3_endPart 56 = .ok (.aload_n 0, 1) := by decide +kernel
theorem dX3_endPart_57 : decode cX3_endPart 57 = .ok (.getfield 15, 3) := by decide +kernel
theorem dX3_endPart_60 : decode cX3_endPart 60 = .ok (.aload_n 0, 1) := by decide +kernel
theorem dX3_endPart_61 : decode cX3_endPart 61 = .ok (.getfield 75, 3) := by decide +kernel
theorem dX3_endPart_64 : decode cX3_endPart 64 = .ok (.aload_n 0, 1) := by decide +kernel
theorem dX3_endPart_65 : decode cX3_endPart 65 = .ok (.getfield 15, 3) := by decide +kernel
theorem dX3_endPart_68 : decode cX3_endPart 68 = .ok (.aload_n 0, 1) := by decide +kernel
theorem dX3_endPart_69 : decode cX3_endPart 69 = .ok (.getfield 75, 3) := by decide +kernel
theorem dX3_endPart_72 : decode cX3_endPart 72 = .ok (.iaload, 1) := by decide +kernel
theorem dX3_endPart_73 : decode cX3_endPart 73 = .ok (.iload_n 2, 1) := by decide +kernel
theorem dX3_endPart_74 : decode cX3_endPart 74 = .ok (.invokestatic 142, 3) := by decide +kernel
theorem dX3_endPart_77 : decode cX3_endPart 77 = .ok (.iastore, 1) := by decide +kernel
theorem dX3_endPart_78 : decode cX3_endPart 78 = .ok (.aload_n 0, 1) := by decide +kernel
theorem dX3_endPart_79 : decode cX3_endPart 79 = .ok (.iconst 0, 1) := by decide +kernel
theorem dX3_endPart_80 : decode cX3_endPart 80 = .ok (.putfield 58, 3) := by decide +kernel
theorem dX3_endPart_83 : decode cX3_endPart 83 = .ok (.return_, 1) := by decide +kernel
theorem dX3_readJoint_0 : decode cX3_readJoint 0 = .ok (.aload_n 0, 1) := by decide +kernel
theorem dX3_readJoint_1 : decode cX3_readJoint 1 = .ok (.getfield 28, 3) := by decide +kernel
theorem dX3_readJoint_4 : decode cX3_readJoint 4 = .ok (.getfield 66, 3) := by decide +kernel
theorem dX3_readJoint_7 : decode cX3_readJoint 7 = .ok (.iload_n 1, 1) := by decide +kernel
theorem dX3_readJoint_8 : decode cX3_readJoint 8 = .ok (.iaload, 1) := by decide +kernel
theorem dX3_readJoint_9 : decode cX3_readJoint 9 = .ok (.istore_n 2, 1) := by decide +kernel
theorem dX3_readJoint_10 : decode cX3_readJoint 10 = .ok (.iload_n 2, 1) := by decide +kernel
theorem dX3_readJoint_11 : decode cX3_readJoint 11 = .ok (.bipush 38, 2) := by decide +kernel
theorem dX3_readJoint_13 : decode cX3_readJoint 13 = .ok (.if_icmp .ne 11, 3) := by decide +kernel
theorem dX3_readJoint_16 : decode cX3_readJoint 16 = .ok (.aload_n 0, 1) := by decide +kernel
theorem dX3_readJoint_17 : decode cX3_readJoint 17 = .ok (.iconst 1, 1) := by decide +kernel
theorem dX3_readJoint_18 : decode cX3_readJoint 18 = .ok (.putfield 58, 3) := by decide +kernel
theorem dX3_readJoint_21 : decode cX3_readJoint 21 = .ok (.goto 125, 3) := by decide +kernel
theorem dX3_readJoint_24 : decode cX3_readJoint 24 = .ok (.iload_n 2, 1) := by decide +kernel
theorem dX3_readJoint_25 : decode cX3_readJoint 25 = .ok (.bipush 124, 2) := by decide +kernel
theorem dX3_readJoint_27 : decode cX3_readJoint 27 = .ok (.if_icmp .ne 51, 3) := by decide +kernel
theorem dX3_readJoint_30 : decode cX3_readJoint 30 = .ok (.aload_n 0, 1) := by decide +kernel
theorem dX3_readJoint_31 : decode cX3_readJoint 31 = .ok (.getfield 11, 3) := by decide +kernel
theorem dX3_readJoint_34 : decode cX3_readJoint 34 = .ok (.aload_n 0, 1) := by decide +kernel
theorem dX3_readJoint_35 : decode cX3_readJoint 35 = .ok (.getfield 75, 3) := by decide +kernel
theorem dX3_readJoint_38 : decode cX3_readJoint 38 = .ok (.aload_n 0, 1) := by decide +kernel
theorem dX3_readJoint_39 : decode cX3_readJoint 39 = .ok (.getfield 11, 3) := by decide +kernel
theorem dX3_readJoint_42 : decode cX3_readJoint 42 = .ok (.aload_n 0, 1) := by decide +kernel
theorem dX3_readJoint_43 : decode cX3_readJoint 43 = .ok (.getfield 75, 3) := by decide +kernel
theorem dX3_readJoint_46 : decode cX3_readJoint 46 = .ok (.iaload, 1) := by decide +kernel
theorem dX3_readJoint_47 : decode cX3_readJoint 47 = .ok (.aload_n 0, 1) := by decide +kernel
theorem dX3_readJoint_48 : decode cX3_readJoint 48 = .ok (.getfield 15, 3) := by decide +kernel
theorem dX3_readJoint_51 : decode cX3_readJoint 51 = .ok (.aload_n 0, 1) := by decide +kernel
theorem dX3_readJoint_52 : decode cX3_readJoint 52 = .ok (.getfield 75, 3) := by decide +kernel
theorem dX3_readJoint_55 : decode cX3_readJoint 55 = .ok (.iaload, 1) := by decide +kernel
theorem dX3_readJoint_56 : decode cX3_readJoint 56 = .ok (.invokestatic 82, 3) := by decide +kernel
theorem dX3_readJoint_59 : decode cX3_readJoint 59 = .ok (.iastore, 1) := by decide +kernel
theorem dX3_readJoint_60 : decode cX3_readJoint 60 = .ok (.aload_n 0, 1) := by decide +kernel
theorem dX3_readJoint_61 : decode cX3_readJoint 61 = .ok (.getfield 15, 3) := by decide +kernel
theorem dX3_readJoint_64 : decode cX3_readJoint 64 = .ok (.aload_n 0, 1) := by decide +kernel
theorem dX3_readJoint_65 : decode cX3_readJoint 65 = .ok (.getfield 75, 3) := by decide +kernel
theorem dX3_readJoint_68 : decode cX3_readJoint 68 = .ok (.iconst 1, 1) := by decide +kernel
theorem dX3_readJoint_69 : decode cX3_readJoint 69 = .ok (.iastore, 1) := by decide +kernel
theorem dX3_readJoint_70 : decode cX3_readJoint 70 = .ok (.aload_n 0, 1) := by decide +kernel
theorem dX3_readJoint_71 : decode cX3_readJoint 71 = .ok (.iconst 1, 1) := by decide +kernel
theorem dX3_readJoint_72 : decode cX3_readJoint 72 = .ok (.putfield 58, 3) := by decide +kernel
theorem dX3_readJoint_75 : decode cX3_readJoint 75 = .ok (.goto 71, 3) := by decide +kernel
theorem dX3_readJoint_78 : decode cX3_readJoint 78 = .ok (.iload_n 2, 1) := by decide +kernel
theorem dX3_readJoint_79 : decode cX3_readJoint 79 = .ok (.bipush 41, 2) := by decide +kernel
theorem dX3_readJoint_81 : decode cX3_readJoint 81 = .ok (.if_icmp .ne 60, 3) := by decide +kernel
theorem dX3_readJoint_84 : decode cX3_readJoint 84 = .ok (.aload_n 0, 1) := by decide +kernel
theorem dX3_readJoint_85 : decode cX3_readJoint 85 = .ok (.getfield 75, 3) := by decide +kernel
theorem dX3_readJoint_88 : decode cX3_readJoint 88 = .ok (.ifCond .le 53, 3) := by decide +kernel
theorem dX3_readJoint_91 : decode cX3_readJoint 91 = .ok (.aload_n 0, 1) := by decide +kernel
theorem dX3_readJoint_92 : decode cX3_readJoint 92 = .ok (.getfield 11, 3) := by decide +kernel
theorem dX3_readJoint_95 : decode cX3_readJoint 95 = .ok (.aload_n 0, 1) := by decide +kernel
theorem dX3_readJoint_96 : decode cX3_readJoint 96 = .ok (.getfield 75, 3) := by decide +kernel
theorem dX3_readJoint_99 : decode cX3_readJoint 99 = .ok (.iaload, 1) := by decide +kernel
theorem dX3_readJoint_100 : decode cX3_readJoint 100 = .ok (.aload_n 0, 1) := by decide +kernel
theorem dX3_readJoint_101 : decode cX3_readJoint 101 = .ok (.getfield 15, 3) := by decide +kernel
theorem dX3_readJoint_104 : decode cX3_readJoint 104 = .ok (.aload_n 0, 1) := by decide +kernel
theorem dX3_readJoint_105 : decode cX3_readJoint 105 = .ok (.getfield 75, 3) := by decide +kernel
theorem dX3_readJoint_108 : decode cX3_readJoint 108 = .ok (.iaload, 1) := by decide +kernel
theorem dX3_readJoint_109 : decode cX3_readJoint 109 = .ok (.invokestatic 82, 3) := by decide +kernel
theorem dX3_readJoint_112 : decode cX3_readJoint 112 = .ok (.istore_n 3, 1) := by decide +kernel
theorem dX3_readJoint_113 : decode cX3_readJoint 113 = .ok (.aload_n 0, 1) := by decide +kernel
theorem dX3_readJoint_114 : decode cX3_readJoint 114 = .ok (.dup, 1) := by decide +kernel
theorem dX3_readJoint_115 : decode cX3_readJoint 115 = .ok (.getfield 75, 3) := by decide +kernel
theorem dX3_readJoint_118 : decode cX3_readJoint 118 = .ok (.iconst 1, 1) := by decide +kernel
theorem dX3_readJoint_119 : decode cX3_readJoint 119 = .ok (.isub, 1) := by decide +kernel
theorem dX3_readJoint_120 : decode cX3_readJoint 120 = .ok (.putfield 75, 3) := by decide +kernel
theorem dX3_readJoint_123 : decode cX3_readJoint 123 = .ok (.aload_n 0, 1) := by decide +kernel
theorem dX3_readJoint_124 : decode cX3_readJoint 124 = .ok (.dup, 1) := by decide +kernel
theorem dX3_readJoint_125 : decode cX3_readJoint 125 = .ok (.getfield 112, 3) := by decide +kernel
theorem dX3_readJoint_128 : decode cX3_readJoint 128 = .ok (.iconst 1, 1) := by decide +kernel
theorem dX3_readJoint_129 : decode cX3_readJoint 129 = .ok (.isub, 1) := by decide +kernel
theorem dX3_readJoint_130 : decode cX3_readJoint 130 = .ok (.putfield 112, 3) := by decide +kernel
theorem dX3_readJoint_133 : decode cX3_readJoint 133 = .ok (.aload_n 0, 1) := by decide +kernel
theorem dX3_readJoint_134 : decode cX3_readJoint 134 = .ok (.iload_n 3, 1) := by decide +kernel
theorem dX3_readJoint_135 : decode cX3_readJoint 135 = .ok (.invokevirtual 124, 3) := by decide +kernel
theorem dX3_readJoint_138 : decode cX3_readJoint 138 = .ok (.goto 8, 3) := by decide +kernel
theorem dX3_readJoint_141 : decode cX3_readJoint 141 = .ok (.aload_n 0, 1) := by decide +kernel
theorem dX3_readJoint_142 : decode cX3_readJoint 142 = .ok (.iload_n 1, 1) := by decide +kernel
theorem dX3_readJoint_143 : decode cX3_readJoint 143 = .ok (.putfield 55, 3) := by decide +kernel
theorem dX3_readJoint_146 : decode cX3_readJoint 146 = .ok (.iload_n 1, 1) := by decide +kernel
theorem dX3_readJoint_147 : decode cX3_readJoint 147 = .ok (.iconst 1, 1) := by decide +kernel
theorem dX3_readJoint_148 : decode cX3_readJoint 148 = .ok (.iadd, 1) := by decide +kernel
theorem dX3_readJoint_149 : decode cX3_readJoint 149 = .ok (.ireturn, 1) := by decide +kernel
theorem dX3_both_0 : decode cX3_both 0 = .ok (.iload_n 0, 1) := by decide +kernel
theorem dX3_both_1 : decode cX3_both 1 = .ok (.ifCond .eq 7, 3) := by decide +kernel
theorem dX3_both_4 : decode cX3_both 4 = .ok (.iload_n 1, 1) := by decide +kernel
theorem dX3_both_5 : decode cX3_both 5 = .ok (.ifCond .ne 7, 3) := by decide +kernel
theorem dX3_both_8 : decode cX3_both 8 = .ok (.iconst 0, 1) := by decide +kernel
theorem dX3_both_9 : decode cX3_both 9 = .ok (.goto 13, 3) := by decide +kernel
theorem dX3_both_12 : decode cX3_both 12 = .ok (.iload_n 0, 1) := by decide +kernel
theorem dX3_both_13 : decode cX3_both 13 = .ok (.iconst 2, 1) := by decide +kernel
theorem dX3_both_14 : decode cX3_both 14 = .ok (.if_icmp .ne 7, 3) := by decide +kernel
theorem dX3_both_17 : decode cX3_both 17 = .ok (.iconst 2, 1) := by decide +kernel
theorem dX3_both_18 : decode cX3_both 18 = .ok (.goto 4, 3) := by decide +kernel
theorem dX3_both_21 : decode cX3_both 21 = .ok (.iload_n 1, 1) := by decide +kernel
theorem dX3_both_22 : decode cX3_both 22 = .ok (.ireturn, 1) := by decide +kernel
theorem dX3_either_0 : decode cX3_either 0 = .ok (.iload_n 0, 1) := by decide +kernel
theorem dX3_either_1 : decode cX3_either 1 = .ok (.iconst 1, 1) := by decide +kernel
theorem dX3_either_2 : decode cX3_either 2 = .ok (.if_icmp .eq 8, 3) := by decide +kernel
theorem dX3_either_5 : decode cX3_either 5 = .ok (.iload_n 1, 1) := by decide +kernel
theorem dX3_either_6 : decode cX3_either 6 = .ok (.iconst 1, 1) := by decide +kernel
theorem dX3_either_7 : decode cX3_either 7 = .ok (.if_icmp .ne 7, 3) := by decide +kernel
theorem dX3_either_10 : decode cX3_either 10 = .ok (.iconst 1, 1) := by decide +kernel
theorem dX3_either_11 : decode cX3_either 11 = .ok (.goto 13, 3) := by decide +kernel
theorem dX3_either_14 : decode cX3_either 14 = .ok (.iload_n 0, 1) := by decide +kernel
