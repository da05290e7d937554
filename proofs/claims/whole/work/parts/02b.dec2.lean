theorem dX3_either_15 : decode cX3_either 15 = .ok (.iconst 2, 1) := by decide +kernel
theorem dX3_either_16 : decode cX3_either 16 = .ok (.if_icmp .ne 7, 3) := by decide +kernel
theorem dX3_either_19 : decode cX3_either 19 = .ok (.iconst 2, 1) := by decide +kernel
theorem dX3_either_20 : decode cX3_either 20 = .ok (.goto 4, 3) := by decide +kernel
theorem dX3_either_23 : decode cX3_either 23 = .ok (.iload_n 1, 1) := by decide +kernel
theorem dX3_either_24 : decode cX3_either 24 = .ok (.ireturn, 1) := by decide +kernel
theorem dX4_has_0 : decode cX4_has 0 = .ok (.iload_n 1, 1) := by decide +kernel
theorem dX4_has_1 : decode cX4_has 1 = .ok (.ifCond .lt 15, 3) := by decide +kernel
theorem dX4_has_4 : decode cX4_has 4 = .ok (.iload_n 1, 1) := by decide +kernel
theorem dX4_has_5 : decode cX4_has 5 = .ok (.aload_n 0, 1) := by decide +kernel
theorem dX4_has_6 : decode cX4_has 6 = .ok (.getfield 42, 3) := by decide +kernel
theorem dX4_has_9 : decode cX4_has 9 = .ok (.if_icmp .ge 7, 3) := by decide +kernel
theorem dX4_has_12 : decode cX4_has 12 = .ok (.iconst 1, 1) := by decide +kernel
theorem dX4_has_13 : decode cX4_has 13 = .ok (.goto 4, 3) := by decide +kernel
theorem dX4_has_16 : decode cX4_has 16 = .ok (.iconst 0, 1) := by decide +kernel
theorem dX4_has_17 : decode cX4_has 17 = .ok (.ireturn, 1) := by decide +kernel
theorem dX4_isForLives_0 : decode cX4_isForLives 0 = .ok (.aload_n 0, 1) := by decide +kernel
theorem dX4_isForLives_1 : decode cX4_isForLives 1 = .ok (.getfield 30, 3) := by decide +kernel
theorem dX4_isForLives_4 : decode cX4_isForLives 4 = .ok (.iload_n 1, 1) := by decide +kernel
theorem dX4_isForLives_5 : decode cX4_isForLives 5 = .ok (.iaload, 1) := by decide +kernel
theorem dX4_isForLives_6 : decode cX4_isForLives 6 = .ok (.ifCond .eq 7, 3) := by decide +kernel
theorem dX4_isForLives_9 : decode cX4_isForLives 9 = .ok (.iconst 1, 1) := by decide +kernel
theorem dX4_isForLives_10 : decode cX4_isForLives 10 = .ok (.goto 4, 3) := by decide +kernel
theorem dX4_isForLives_13 : decode cX4_isForLives 13 = .ok (.iconst 0, 1) := by decide +kernel
theorem dX4_isForLives_14 : decode cX4_isForLives 14 = .ok (.ireturn, 1) := by decide +kernel
theorem dX4_add_0 : decode cX4_add 0 = .ok (.aload_n 0, 1) := by decide +kernel
theorem dX4_add_1 : decode cX4_add 1 = .ok (.getfield 11, 3) := by decide +kernel
theorem dX4_add_4 : decode cX4_add 4 = .ok (.aload_n 0, 1) := by decide +kernel
theorem dX4_add_5 : decode cX4_add 5 = .ok (.getfield 42, 3) := by decide +kernel
theorem dX4_add_8 : decode cX4_add 8 = .ok (.iload_n 1, 1) := by decide +kernel
theorem dX4_add_9 : decode cX4_add 9 = .ok (.iastore, 1) := by decide +kernel
theorem dX4_add_10 : decode cX4_add 10 = .ok (.aload_n 0, 1) := by decide +kernel
theorem dX4_add_11 : decode cX4_add 11 = .ok (.getfield 15, 3) := by decide +kernel
theorem dX4_add_14 : decode cX4_add 14 = .ok (.aload_n 0, 1) := by decide +kernel
theorem dX4_add_15 : decode cX4_add 15 = .ok (.getfield 42, 3) := by decide +kernel
theorem dX4_add_18 : decode cX4_add 18 = .ok (.iload_n 2, 1) := by decide +kernel
theorem dX4_add_19 : decode cX4_add 19 = .ok (.iastore, 1) := by decide +kernel
theorem dX4_add_20 : decode cX4_add 20 = .ok (.aload_n 0, 1) := by decide +kernel
theorem dX4_add_21 : decode cX4_add 21 = .ok (.getfield 18, 3) := by decide +kernel
theorem dX4_add_24 : decode cX4_add 24 = .ok (.aload_n 0, 1) := by decide +kernel
theorem dX4_add_25 : decode cX4_add 25 = .ok (.getfield 42, 3) := by decide +kernel
theorem dX4_add_28 : decode cX4_add 28 = .ok (.iload_n 3, 1) := by decide +kernel
theorem dX4_add_29 : decode cX4_add 29 = .ok (.iastore, 1) := by decide +kernel
theorem dX4_add_30 : decode cX4_add 30 = .ok (.aload_n 0, 1) := by decide +kernel
theorem dX4_add_31 : decode cX4_add 31 = .ok (.getfield 21, 3) := by decide +kernel
theorem dX4_add_34 : decode cX4_add 34 = .ok (.aload_n 0, 1) := by decide +kernel
theorem dX4_add_35 : decode cX4_add 35 = .ok (.getfield 42, 3) := by decide +kernel
theorem dX4_add_38 : decode cX4_add 38 = .ok (.iload 4, 2) := by decide +kernel
theorem dX4_add_40 : decode cX4_add 40 = .ok (.iastore, 1) := by decide +kernel
theorem dX4_add_41 : decode cX4_add 41 = .ok (.aload_n 0, 1) := by decide +kernel
theorem dX4_add_42 : decode cX4_add 42 = .ok (.dup, 1) := by decide +kernel
theorem dX4_add_43 : decode cX4_add 43 = .ok (.getfield 42, 3) := by decide +kernel
theorem dX4_add_46 : decode cX4_add 46 = .ok (.dup_x1, 1) := by decide +kernel
theorem dX4_add_47 : decode cX4_add 47 = .ok (.iconst 1, 1) := by decide +kernel
theorem dX4_add_48 : decode cX4_add 48 = .ok (.iadd, 1) := by decide +kernel
theorem dX4_add_49 : decode cX4_add 49 = .ok (.putfield 42, 3) := by decide +kernel
theorem dX4_add_52 : decode cX4_add 52 = .ok (.ireturn, 1) := by decide +kernel
theorem dX4_isPriced_0 : decode cX4_isPriced 0 = .ok (.iconst 0, 1) := by decide +kernel
theorem dX4_isPriced_1 : decode cX4_isPriced 1 = .ok (.istore_n 2, 1) := by decide +kernel
theorem dX4_isPriced_2 : decode cX4_isPriced 2 = .ok (.iload_n 2, 1) := by decide +kernel
theorem dX4_isPriced_3 : decode cX4_isPriced 3 = .ok (.aload_n 0, 1) := by decide +kernel
theorem dX4_isPriced_4 : decode cX4_isPriced 4 = .ok (.getfield 46, 3) := by decide +kernel
theorem dX4_isPriced_7 : decode cX4_isPriced 7 = .ok (.if_icmp .ge 21, 3) := by decide +kernel
theorem dX4_isPriced_10 : decode cX4_isPriced 10 = .ok (.aload_n 0, 1) := by decide +kernel
theorem dX4_isPriced_11 : decode cX4_isPriced 11 = .ok (.getfield 33, 3) := by decide +kernel
theorem dX4_isPriced_14 : decode cX4_isPriced 14 = .ok (.iload_n 2, 1) := by decide +kernel
theorem dX4_isPriced_15 : decode cX4_isPriced 15 = .ok (.iaload, 1) := by decide +kernel
theorem dX4_isPriced_16 : decode cX4_isPriced 16 = .ok (.iload_n 1, 1) := by decide +kernel
theorem dX4_isPriced_17 : decode cX4_isPriced 17 = .ok (.if_icmp .ne 5, 3) := by decide +kernel
theorem dX4_isPriced_20 : decode cX4_isPriced 20 = .ok (.iconst 1, 1) := by decide +kernel
theorem dX4_isPriced_21 : decode cX4_isPriced 21 = .ok (.ireturn, 1) := by decide +kernel
theorem dX4_isPriced_22 : decode cX4_isPriced 22 = .ok (.iinc 2 1, 3) := by decide +kernel
theorem dX4_isPriced_25 : decode cX4_isPriced 25 = .ok (.goto (-23), 3) := by decide +kernel
theorem dX4_isPriced_28 : decode cX4_isPriced 28 = .ok (.iconst 0, 1) := by decide +kernel
theorem dX4_isPriced_29 : decode cX4_isPriced 29 = .ok (.ireturn, 1) := by decide +kernel
theorem dX4_tellPrice_0 : decode cX4_tellPrice 0 = .ok (.aload_n 0, 1) := by decide +kernel
theorem dX4_tellPrice_1 : decode cX4_tellPrice 1 = .ok (.getfield 33, 3) := by decide +kernel
theorem dX4_tellPrice_4 : decode cX4_tellPrice 4 = .ok (.aload_n 0, 1) := by decide +kernel
theorem dX4_tellPrice_5 : decode cX4_tellPrice 5 = .ok (.getfield 46, 3) := by decide +kernel
theorem dX4_tellPrice_8 : decode cX4_tellPrice 8 = .ok (.iload_n 1, 1) := by decide +kernel
theorem dX4_tellPrice_9 : decode cX4_tellPrice 9 = .ok (.iastore, 1) := by decide +kernel
theorem dX4_tellPrice_10 : decode cX4_tellPrice 10 = .ok (.aload_n 0, 1) := by decide +kernel
theorem dX4_tellPrice_11 : decode cX4_tellPrice 11 = .ok (.getfield 36, 3) := by decide +kernel
theorem dX4_tellPrice_14 : decode cX4_tellPrice 14 = .ok (.aload_n 0, 1) := by decide +kernel
theorem dX4_tellPrice_15 : decode cX4_tellPrice 15 = .ok (.getfield 46, 3) := by decide +kernel
theorem dX4_tellPrice_18 : decode cX4_tellPrice 18 = .ok (.iload_n 2, 1) := by decide +kernel
theorem dX4_tellPrice_19 : decode cX4_tellPrice 19 = .ok (.iastore, 1) := by decide +kernel
theorem dX4_tellPrice_20 : decode cX4_tellPrice 20 = .ok (.aload_n 0, 1) := by decide +kernel
theorem dX4_tellPrice_21 : decode cX4_tellPrice 21 = .ok (.dup, 1) := by decide +kernel
theorem dX4_tellPrice_22 : decode cX4_tellPrice 22 = .ok (.getfield 46, 3) := by decide +kernel
theorem dX4_tellPrice_25 : decode cX4_tellPrice 25 = .ok (.iconst 1, 1) := by decide +kernel
theorem dX4_tellPrice_26 : decode cX4_tellPrice 26 = .ok (.iadd, 1) := by decide +kernel
theorem dX4_tellPrice_27 : decode cX4_tellPrice 27 = .ok (.dup_x1, 1) := by decide +kernel
theorem dX4_tellPrice_28 : decode cX4_tellPrice 28 = .ok (.putfield 46, 3) := by decide +kernel
theorem dX4_tellPrice_31 : decode cX4_tellPrice 31 = .ok (.ireturn, 1) := by decide +kernel
theorem dX4_priceIn_0 : decode cX4_priceIn 0 = .ok (.iconst (-1), 1) := by decide +kernel
theorem dX4_priceIn_1 : decode cX4_priceIn 1 = .ok (.istore_n 2, 1) := by decide +kernel
theorem dX4_priceIn_2 : decode cX4_priceIn 2 = .ok (.iconst 0, 1) := by decide +kernel
theorem dX4_priceIn_3 : decode cX4_priceIn 3 = .ok (.istore_n 3, 1) := by decide +kernel
theorem dX4_priceIn_4 : decode cX4_priceIn 4 = .ok (.iload_n 3, 1) := by decide +kernel
theorem dX4_priceIn_5 : decode cX4_priceIn 5 = .ok (.aload_n 0, 1) := by decide +kernel
theorem dX4_priceIn_6 : decode cX4_priceIn 6 = .ok (.getfield 46, 3) := by decide +kernel
theorem dX4_priceIn_9 : decode cX4_priceIn 9 = .ok (.if_icmp .ge 41, 3) := by decide +kernel
theorem dX4_priceIn_12 : decode cX4_priceIn 12 = .ok (.aload_n 0, 1) := by decide +kernel
theorem dX4_priceIn_13 : decode cX4_priceIn 13 = .ok (.getfield 33, 3) := by decide +kernel
theorem dX4_priceIn_16 : decode cX4_priceIn 16 = .ok (.iload_n 3, 1) := by decide +kernel
theorem dX4_priceIn_17 : decode cX4_priceIn 17 = .ok (.iaload, 1) := by decide +kernel
theorem dX4_priceIn_18 : decode cX4_priceIn 18 = .ok (.iload_n 1, 1) := by decide +kernel
theorem dX4_priceIn_19 : decode cX4_priceIn 19 = .ok (.if_icmp .gt 25, 3) := by decide +kernel
theorem dX4_priceIn_22 : decode cX4_priceIn 22 = .ok (.iload_n 2, 1) := by decide +kernel
theorem dX4_priceIn_23 : decode cX4_priceIn 23 = .ok (.iconst (-1), 1) := by decide +kernel
theorem dX4_priceIn_24 : decode cX4_priceIn 24 = .ok (.if_icmp .eq 18, 3) := by decide +kernel
theorem dX4_priceIn_27 : decode cX4_priceIn 27 = .ok (.aload_n 0, 1) := by decide +kernel
theorem dX4_priceIn_28 : decode cX4_priceIn 28 = .ok (.getfield 33, 3) := by decide +kernel
theorem dX4_priceIn_31 : decode cX4_priceIn 31 = .ok (.iload_n 3, 1) := by decide +kernel
theorem dX4_priceIn_32 : decode cX4_priceIn 32 = .ok (.iaload, 1) := by decide +kernel
theorem dX4_priceIn_33 : decode cX4_priceIn 33 = .ok (.aload_n 0, 1) := by decide +kernel
theorem dX4_priceIn_34 : decode cX4_priceIn 34 = .ok (.getfield 33, 3) := by decide +kernel
theorem dX4_priceIn_37 : decode cX4_priceIn 37 = .ok (.iload_n 2, 1) := by decide +kernel
theorem dX4_priceIn_38 : decode cX4_priceIn 38 = .ok (.iaload, 1) := by decide +kernel
theorem dX4_priceIn_39 : decode cX4_priceIn 39 = .ok (.if_icmp .le 5, 3) := by decide +kernel
theorem dX4_priceIn_42 : decode cX4_priceIn 42 = .ok (.iload_n 3, 1) := by decide +kernel
theorem dX4_priceIn_43 : decode cX4_priceIn 43 = .ok (.istore_n 2, 1) := by decide +kernel
theorem dX4_priceIn_44 : decode cX4_priceIn 44 = .ok (.iinc 3 1, 3) := by decide +kernel
theorem dX4_priceIn_47 : decode cX4_priceIn 47 = .ok (.goto (-43), 3) := by decide +kernel
theorem dX4_priceIn_50 : decode cX4_priceIn 50 = .ok (.iload_n 2, 1) := by decide +kernel
theorem dX4_priceIn_51 : decode cX4_priceIn 51 = .ok (.iconst (-1), 1) := by decide +kernel
theorem dX4_priceIn_52 : decode cX4_priceIn 52 = .ok (.if_icmp .ne 7, 3) := by decide +kernel
theorem dX4_priceIn_55 : decode cX4_priceIn 55 = .ok (.iconst 0, 1) := by decide +kernel
theorem dX4_priceIn_56 : decode cX4_priceIn 56 = .ok (.goto 9, 3) := by decide +kernel
theorem dX4_priceIn_59 : decode cX4_priceIn 59 = .ok (.aload_n 0, 1) := by decide +kernel
theorem dX4_priceIn_60 : decode cX4_priceIn 60 = .ok (.getfield 36, 3) := by decide +kernel
theorem dX4_priceIn_63 : decode cX4_priceIn 63 = .ok (.iload_n 2, 1) := by decide +kernel
theorem dX4_priceIn_64 : decode cX4_priceIn 64 = .ok (.iaload, 1) := by decide +kernel
theorem dX4_priceIn_65 : decode cX4_priceIn 65 = .ok (.ireturn, 1) := by decide +kernel
theorem dX4_endOf_0 : decode cX4_endOf 0 = .ok (.aload_n 0, 1) := by decide +kernel
theorem dX4_endOf_1 : decode cX4_endOf 1 = .ok (.iload_n 1, 1) := by decide +kernel
theorem dX4_endOf_2 : decode cX4_endOf 2 = .ok (.invokevirtual 56, 3) := by decide +kernel
theorem dX4_endOf_5 : decode cX4_endOf 5 = .ok (.ifCond .ne 10, 3) := by decide +kernel
theorem dX4_endOf_8 : decode cX4_endOf 8 = .ok (.aload_n 0, 1) := by decide +kernel
theorem dX4_endOf_9 : decode cX4_endOf 9 = .ok (.getfield 27, 3) := by decide +kernel
theorem dX4_endOf_12 : decode cX4_endOf 12 = .ok (.iload_n 1, 1) := by decide +kernel
theorem dX4_endOf_13 : decode cX4_endOf 13 = .ok (.iaload, 1) := by decide +kernel
theorem dX4_endOf_14 : decode cX4_endOf 14 = .ok (.ireturn, 1) := by decide +kernel
theorem dX4_endOf_15 : decode cX4_endOf 15 = .ok (.ldc 60, 2) := by decide +kernel
theorem dX4_endOf_17 : decode cX4_endOf 17 = .ok (.istore_n 2, 1) := by decide +kernel
theorem dX4_endOf_18 : decode cX4_endOf 18 = .ok (.iconst 0, 1) := by decide +kernel
theorem dX4_endOf_19 : decode cX4_endOf 19 = .ok (.istore_n 3, 1) := by decide +kernel
theorem dX4_endOf_20 : decode cX4_endOf 20 = .ok (.iload_n 3, 1) := by decide +kernel
theorem dX4_endOf_21 : decode cX4_endOf 21 = .ok (.aload_n 0, 1) := by decide +kernel
theorem dX4_endOf_22 : decode cX4_endOf 22 = .ok (.getfield 52, 3) := by decide +kernel
theorem dX4_endOf_25 : decode cX4_endOf 25 = .ok (.getfield 61, 3) := by decide +kernel
theorem dX4_endOf_28 : decode cX4_endOf 28 = .ok (.if_icmp .ge 53, 3) := by decide +kernel
theorem dX4_endOf_31 : decode cX4_endOf 31 = .ok (.aload_n 0, 1) := by decide +kernel
theorem dX4_endOf_32 : decode cX4_endOf 32 = .ok (.getfield 30, 3) := by decide +kernel
theorem dX4_endOf_35 : decode cX4_endOf 35 = .ok (.iload_n 1, 1) := by decide +kernel
theorem dX4_endOf_36 : decode cX4_endOf 36 = .ok (.iaload, 1) := by decide +kernel
theorem dX4_endOf_37 : decode cX4_endOf 37 = .ok (.iload_n 3, 1) := by decide +kernel
theorem dX4_endOf_38 : decode cX4_endOf 38 = .ok (.iushr, 1) := by decide +kernel
theorem dX4_endOf_39 : decode cX4_endOf 39 = .ok (.iconst 1, 1) := by decide +kernel
theorem dX4_endOf_40 : decode cX4_endOf 40 = .ok (.iand, 1) := by decide +kernel
theorem dX4_endOf_41 : decode cX4_endOf 41 = .ok (.ifCond .eq 34, 3) := by decide +kernel
theorem dX4_endOf_44 : decode cX4_endOf 44 = .ok (.aload_n 0, 1) := by decide +kernel
theorem dX4_endOf_45 : decode cX4_endOf 45 = .ok (.getfield 52, 3) := by decide +kernel
theorem dX4_endOf_48 : decode cX4_endOf 48 = .ok (.getfield 64, 3) := by decide +kernel
theorem dX4_endOf_51 : decode cX4_endOf 51 = .ok (.iload_n 3, 1) := by decide +kernel
theorem dX4_endOf_52 : decode cX4_endOf 52 = .ok (.iaload, 1) := by decide +kernel
theorem dX4_endOf_53 : decode cX4_endOf 53 = .ok (.iconst (-1), 1) := by decide +kernel
theorem dX4_endOf_54 : decode cX4_endOf 54 = .ok (.if_icmp .ne 7, 3) := by decide +kernel
theorem dX4_endOf_57 : decode cX4_endOf 57 = .ok (.sipush 1000, 3) := by decide +kernel
theorem dX4_endOf_60 : decode cX4_endOf 60 = .ok (.ireturn, 1) := by decide +kernel
theorem dX4_endOf_61 : decode cX4_endOf 61 = .ok (.iload_n 2, 1) := by decide +kernel
theorem dX4_endOf_62 : decode cX4_endOf 62 = .ok (.aload_n 0, 1) := by decide +kernel
theorem dX4_endOf_63 : decode cX4_endOf 63 = .ok (.getfield 52, 3) := by decide +kernel
theorem dX4_endOf_66 : decode cX4_endOf 66 = .ok (.getfield 67, 3) := by decide +kernel
theorem dX4_endOf_69 : decode cX4_endOf 69 = .ok (.iload_n 3, 1) := by decide +kernel
theorem dX4_endOf_70 : decode cX4_endOf 70 = .ok (.iaload, 1) := by decide +kernel
theorem dX4_endOf_71 : decode cX4_endOf 71 = .ok (.invokestatic 70, 3) := by decide +kernel
theorem dX4_endOf_74 : decode cX4_endOf 74 = .ok (.istore_n 2, 1) := by decide +kernel
theorem dX4_endOf_75 : decode cX4_endOf 75 = .ok (.iinc 3 1, 3) := by decide +kernel
theorem dX4_endOf_78 : decode cX4_endOf 78 = .ok (.goto (-58), 3) := by decide +kernel
theorem dX4_endOf_81 : decode cX4_endOf 81 = .ok (.iload_n 2, 1) := by decide +kernel
theorem dX4_endOf_82 : decode cX4_endOf 82 = .ok (.sipush 365, 3) := by decide +kernel
theorem dX4_endOf_85 : decode cX4_endOf 85 = .ok (.idiv, 1) := by decide +kernel
theorem dX4_endOf_86 : decode cX4_endOf 86 = .ok (.ireturn, 1) := by decide +kernel
theorem dX4_reservedIn_0 : decode cX4_reservedIn 0 = .ok (.aload_n 0, 1) := by decide +kernel
theorem dX4_reservedIn_1 : decode cX4_reservedIn 1 = .ok (.getfield 15, 3) := by decide +kernel
theorem dX4_reservedIn_4 : decode cX4_reservedIn 4 = .ok (.iload_n 1, 1) := by decide +kernel
theorem dX4_reservedIn_5 : decode cX4_reservedIn 5 = .ok (.iaload, 1) := by decide +kernel
theorem dX4_reservedIn_6 : decode cX4_reservedIn 6 = .ok (.aload_n 0, 1) := by decide +kernel
theorem dX4_reservedIn_7 : decode cX4_reservedIn 7 = .ok (.getfield 18, 3) := by decide +kernel
theorem dX4_reservedIn_10 : decode cX4_reservedIn 10 = .ok (.iload_n 1, 1) := by decide +kernel
theorem dX4_reservedIn_11 : decode cX4_reservedIn 11 = .ok (.iaload, 1) := by decide +kernel
theorem dX4_reservedIn_12 : decode cX4_reservedIn 12 = .ok (.aload_n 0, 1) := by decide +kernel
theorem dX4_reservedIn_13 : decode cX4_reservedIn 13 = .ok (.bipush 52, 2) := by decide +kernel
theorem dX4_reservedIn_15 : decode cX4_reservedIn 15 = .ok (.iload_n 2, 1) := by decide +kernel
theorem dX4_reservedIn_16 : decode cX4_reservedIn 16 = .ok (.imul, 1) := by decide +kernel
theorem dX4_reservedIn_17 : decode cX4_reservedIn 17 = .ok (.aload_n 0, 1) := by decide +kernel
theorem dX4_reservedIn_18 : decode cX4_reservedIn 18 = .ok (.getfield 21, 3) := by decide +kernel
theorem dX4_reservedIn_21 : decode cX4_reservedIn 21 = .ok (.iload_n 1, 1) := by decide +kernel
theorem dX4_reservedIn_22 : decode cX4_reservedIn 22 = .ok (.iaload, 1) := by decide +kernel
theorem dX4_reservedIn_23 : decode cX4_reservedIn 23 = .ok (.iadd, 1) := by decide +kernel
theorem dX4_reservedIn_24 : decode cX4_reservedIn 24 = .ok (.invokevirtual 76, 3) := by decide +kernel
theorem dX4_reservedIn_27 : decode cX4_reservedIn 27 = .ok (.imul, 1) := by decide +kernel
theorem dX4_reservedIn_28 : decode cX4_reservedIn 28 = .ok (.bipush 10, 2) := by decide +kernel
theorem dX4_reservedIn_30 : decode cX4_reservedIn 30 = .ok (.idiv, 1) := by decide +kernel
theorem dX4_reservedIn_31 : decode cX4_reservedIn 31 = .ok (.iadd, 1) := by decide +kernel
theorem dX4_reservedIn_32 : decode cX4_reservedIn 32 = .ok (.ireturn, 1) := by decide +kernel
theorem dX4_dueIn_0 : decode cX4_dueIn 0 = .ok (.iload_n 2, 1) := by decide +kernel
theorem dX4_dueIn_1 : decode cX4_dueIn 1 = .ok (.aload_n 0, 1) := by decide +kernel
theorem dX4_dueIn_2 : decode cX4_dueIn 2 = .ok (.iload_n 1, 1) := by decide +kernel
theorem dX4_dueIn_3 : decode cX4_dueIn 3 = .ok (.invokevirtual 80, 3) := by decide +kernel
theorem dX4_dueIn_6 : decode cX4_dueIn 6 = .ok (.if_icmp .gt 12, 3) := by decide +kernel
theorem dX4_dueIn_9 : decode cX4_dueIn 9 = .ok (.aload_n 0, 1) := by decide +kernel
theorem dX4_dueIn_10 : decode cX4_dueIn 10 = .ok (.iload_n 1, 1) := by decide +kernel
theorem dX4_dueIn_11 : decode cX4_dueIn 11 = .ok (.iload_n 2, 1) := by decide +kernel
theorem dX4_dueIn_12 : decode cX4_dueIn 12 = .ok (.invokevirtual 83, 3) := by decide +kernel
theorem dX4_dueIn_15 : decode cX4_dueIn 15 = .ok (.goto 9, 3) := by decide +kernel
theorem dX4_dueIn_18 : decode cX4_dueIn 18 = .ok (.aload_n 0, 1) := by decide +kernel
theorem dX4_dueIn_19 : decode cX4_dueIn 19 = .ok (.getfield 11, 3) := by decide +kernel
theorem dX4_dueIn_22 : decode cX4_dueIn 22 = .ok (.iload_n 1, 1) := by decide +kernel
theorem dX4_dueIn_23 : decode cX4_dueIn 23 = .ok (.iaload, 1) := by decide +kernel
theorem dX4_dueIn_24 : decode cX4_dueIn 24 = .ok (.ireturn, 1) := by decide +kernel
theorem dX4_rate_0 : decode cX4_rate 0 = .ok (.aload_n 0, 1) := by decide +kernel
theorem dX4_rate_1 : decode cX4_rate 1 = .ok (.getfield 49, 3) := by decide +kernel
theorem dX4_rate_4 : decode cX4_rate 4 = .ok (.ifCond .ne 5, 3) := by decide +kernel
theorem dX4_rate_7 : decode cX4_rate 7 = .ok (.iconst 0, 1) := by decide +kernel
theorem dX4_rate_8 : decode cX4_rate 8 = .ok (.ireturn, 1) := by decide +kernel
theorem dX4_rate_9 : decode cX4_rate 9 = .ok (.aload_n 0, 1) := by decide +kernel
theorem dX4_rate_10 : decode cX4_rate 10 = .ok (.getfield 39, 3) := by decide +kernel
theorem dX4_rate_13 : decode cX4_rate 13 = .ok (.iconst 0, 1) := by decide +kernel
theorem dX4_rate_14 : decode cX4_rate 14 = .ok (.iload_n 1, 1) := by decide +kernel
theorem dX4_rate_15 : decode cX4_rate 15 = .ok (.aload_n 0, 1) := by decide +kernel
theorem dX4_rate_16 : decode cX4_rate 16 = .ok (.getfield 49, 3) := by decide +kernel
theorem dX4_rate_19 : decode cX4_rate 19 = .ok (.iconst 1, 1) := by decide +kernel
theorem dX4_rate_20 : decode cX4_rate 20 = .ok (.isub, 1) := by decide +kernel
theorem dX4_rate_21 : decode cX4_rate 21 = .ok (.invokestatic 86, 3) := by decide +kernel
theorem dX4_rate_24 : decode cX4_rate 24 = .ok (.invokestatic 70, 3) := by decide +kernel
theorem dX4_rate_27 : decode cX4_rate 27 = .ok (.iaload, 1) := by decide +kernel
theorem dX4_rate_28 : decode cX4_rate 28 = .ok (.ireturn, 1) := by decide +kernel
theorem dX4_fineFor_0 : decode cX4_fineFor 0 = .ok (.iconst 0, 1) := by decide +kernel
theorem dX4_fineFor_1 : decode cX4_fineFor 1 = .ok (.aload_n 0, 1) := by decide +kernel
theorem dX4_fineFor_2 : decode cX4_fineFor 2 = .ok (.getfield 11, 3) := by decide +kernel
theorem dX4_fineFor_5 : decode cX4_fineFor 5 = .ok (.iload_n 1, 1) := by decide +kernel
theorem dX4_fineFor_6 : decode cX4_fineFor 6 = .ok (.iaload, 1) := by decide +kernel
theorem dX4_fineFor_7 : decode cX4_fineFor 7 = .ok (.aload_n 0, 1) := by decide +kernel
theorem dX4_fineFor_8 : decode cX4_fineFor 8 = .ok (.aload_n 0, 1) := by decide +kernel
theorem dX4_fineFor_9 : decode cX4_fineFor 9 = .ok (.getfield 24, 3) := by decide +kernel
theorem dX4_fineFor_12 : decode cX4_fineFor 12 = .ok (.iload_n 1, 1) := by decide +kernel
theorem dX4_fineFor_13 : decode cX4_fineFor 13 = .ok (.iaload, 1) := by decide +kernel
theorem dX4_fineFor_14 : decode cX4_fineFor 14 = .ok (.invokevirtual 89, 3) := by decide +kernel
theorem dX4_fineFor_17 : decode cX4_fineFor 17 = .ok (.aload_n 0, 1) := by decide +kernel
theorem dX4_fineFor_18 : decode cX4_fineFor 18 = .ok (.iload_n 2, 1) := by decide +kernel
theorem dX4_fineFor_19 : decode cX4_fineFor 19 = .ok (.invokevirtual 89, 3) := by decide +kernel
theorem dX4_fineFor_22 : decode cX4_fineFor 22 = .ok (.isub, 1) := by decide +kernel
theorem dX4_fineFor_23 : decode cX4_fineFor 23 = .ok (.imul, 1) := by decide +kernel
theorem dX4_fineFor_24 : decode cX4_fineFor 24 = .ok (.bipush 100, 2) := by decide +kernel
theorem dX4_fineFor_26 : decode cX4_fineFor 26 = .ok (.idiv, 1) := by decide +kernel
theorem dX4_fineFor_27 : decode cX4_fineFor 27 = .ok (.invokestatic 70, 3) := by decide +kernel
theorem dX4_fineFor_30 : decode cX4_fineFor 30 = .ok (.ireturn, 1) := by decide +kernel
theorem dX5_has_0 : decode cX5_has 0 = .ok (.iload_n 1, 1) := by decide +kernel
theorem dX5_has_1 : decode cX5_has 1 = .ok (.ifCond .lt 15, 3) := by decide +kernel
theorem dX5_has_4 : decode cX5_has 4 = .ok (.iload_n 1, 1) := by decide +kernel
theorem dX5_has_5 : decode cX5_has 5 = .ok (.aload_n 0, 1) := by decide +kernel
theorem dX5_has_6 : decode cX5_has 6 = .ok (.getfield 48, 3) := by decide +kernel
theorem dX5_has_9 : decode cX5_has 9 = .ok (.if_icmp .ge 7, 3) := by decide +kernel
theorem dX5_has_12 : decode cX5_has 12 = .ok (.iconst 1, 1) := by decide +kernel
theorem dX5_has_13 : decode cX5_has 13 = .ok (.goto 4, 3) := by decide +kernel
theorem dX5_has_16 : decode cX5_has 16 = .ok (.iconst 0, 1) := by decide +kernel
theorem dX5_has_17 : decode cX5_has 17 = .ok (.ireturn, 1) := by decide +kernel
theorem dX5_hasAll_0 : decode cX5_hasAll 0 = .ok (.iload_n 1, 1) := by decide +kernel
theorem dX5_hasAll_1 : decode cX5_hasAll 1 = .ok (.aload_n 0, 1) := by decide +kernel
theorem dX5_hasAll_2 : decode cX5_hasAll 2 = .ok (.getfield 48, 3) := by decide +kernel
theorem dX5_hasAll_5 : decode cX5_hasAll 5 = .ok (.iushr, 1) := by decide +kernel
theorem dX5_hasAll_6 : decode cX5_hasAll 6 = .ok (.ifCond .ne 7, 3) := by decide +kernel
theorem dX5_hasAll_9 : decode cX5_hasAll 9 = .ok (.iconst 1, 1) := by decide +kernel
theorem dX5_hasAll_10 : decode cX5_hasAll 10 = .ok (.goto 4, 3) := by decide +kernel
theorem dX5_hasAll_13 : decode cX5_hasAll 13 = .ok (.iconst 0, 1) := by decide +kernel
theorem dX5_hasAll_14 : decode cX5_hasAll 14 = .ok (.ireturn, 1) := by decide +kernel
theorem dX5_add_0 : decode cX5_add 0 = .ok (.aload_n 0, 1) := by decide +kernel
theorem dX5_add_1 : decode cX5_add 1 = .ok (.getfield 9, 3) := by decide +kernel
theorem dX5_add_4 : decode cX5_add 4 = .ok (.aload_n 0, 1) := by decide +kernel
theorem dX5_add_5 : decode cX5_add 5 = .ok (.getfield 48, 3) := by decide +kernel
theorem dX5_add_8 : decode cX5_add 8 = .ok (.iload_n 1, 1) := by decide +kernel
theorem dX5_add_9 : decode cX5_add 9 = .ok (.iastore, 1) := by decide +kernel
theorem dX5_add_10 : decode cX5_add 10 = .ok (.aload_n 0, 1) := by decide +kernel
theorem dX5_add_11 : decode cX5_add 11 = .ok (.dup, 1) := by decide +kernel
theorem dX5_add_12 : decode cX5_add 12 = .ok (.getfield 48, 3) := by decide +kernel
theorem dX5_add_15 : decode cX5_add 15 = .ok (.dup_x1, 1) := by decide +kernel
theorem dX5_add_16 : decode cX5_add 16 = .ok (.iconst 1, 1) := by decide +kernel
theorem dX5_add_17 : decode cX5_add 17 = .ok (.iadd, 1) := by decide +kernel
theorem dX5_add_18 : decode cX5_add 18 = .ok (.putfield 48, 3) := by decide +kernel
theorem dX5_add_21 : decode cX5_add 21 = .ok (.ireturn, 1) := by decide +kernel
theorem dX5_canLead_0 : decode cX5_canLead 0 = .ok (.iload_n 1, 1) := by decide +kernel
theorem dX5_canLead_1 : decode cX5_canLead 1 = .ok (.iload_n 3, 1) := by decide +kernel
theorem dX5_canLead_2 : decode cX5_canLead 2 = .ok (.if_icmp .eq 17, 3) := by decide +kernel
theorem dX5_canLead_5 : decode cX5_canLead 5 = .ok (.aload_n 0, 1) := by decide +kernel
theorem dX5_canLead_6 : decode cX5_canLead 6 = .ok (.getfield 18, 3) := by decide +kernel
theorem dX5_canLead_9 : decode cX5_canLead 9 = .ok (.iconst 2, 1) := by decide +kernel
theorem dX5_canLead_10 : decode cX5_canLead 10 = .ok (.iload_n 1, 1) := by decide +kernel
theorem dX5_canLead_11 : decode cX5_canLead 11 = .ok (.imul, 1) := by decide +kernel
theorem dX5_canLead_12 : decode cX5_canLead 12 = .ok (.iload_n 2, 1) := by decide +kernel
theorem dX5_canLead_13 : decode cX5_canLead 13 = .ok (.iadd, 1) := by decide +kernel
theorem dX5_canLead_14 : decode cX5_canLead 14 = .ok (.iaload, 1) := by decide +kernel
theorem dX5_canLead_15 : decode cX5_canLead 15 = .ok (.iconst (-1), 1) := by decide +kernel
theorem dX5_canLead_16 : decode cX5_canLead 16 = .ok (.if_icmp .eq 5, 3) := by decide +kernel
theorem dX5_canLead_19 : decode cX5_canLead 19 = .ok (.iconst 0, 1) := by decide +kernel
theorem dX5_canLead_20 : decode cX5_canLead 20 = .ok (.ireturn, 1) := by decide +kernel
theorem dX5_canLead_21 : decode cX5_canLead 21 = .ok (.aload_n 0, 1) := by decide +kernel
theorem dX5_canLead_22 : decode cX5_canLead 22 = .ok (.iconst 1, 1) := by decide +kernel
theorem dX5_canLead_23 : decode cX5_canLead 23 = .ok (.iload_n 3, 1) := by decide +kernel
theorem dX5_canLead_24 : decode cX5_canLead 24 = .ok (.ishl, 1) := by decide +kernel
theorem dX5_canLead_25 : decode cX5_canLead 25 = .ok (.iload 4, 2) := by decide +kernel
theorem dX5_canLead_27 : decode cX5_canLead 27 = .ok (.aload_n 0, 1) := by decide +kernel
theorem dX5_canLead_28 : decode cX5_canLead 28 = .ok (.getfield 39, 3) := by decide +kernel
theorem dX5_canLead_31 : decode cX5_canLead 31 = .ok (.invokevirtual 70, 3) := by decide +kernel
theorem dX5_canLead_34 : decode cX5_canLead 34 = .ok (.aload_n 0, 1) := by decide +kernel
theorem dX5_canLead_35 : decode cX5_canLead 35 = .ok (.getfield 39, 3) := by decide +kernel
theorem dX5_canLead_38 : decode cX5_canLead 38 = .ok (.iload_n 1, 1) := by decide +kernel
theorem dX5_canLead_39 : decode cX5_canLead 39 = .ok (.iaload, 1) := by decide +kernel
theorem dX5_canLead_40 : decode cX5_canLead 40 = .ok (.bipush 99, 2) := by decide +kernel
theorem dX5_canLead_42 : decode cX5_canLead 42 = .ok (.if_icmp .ne 7, 3) := by decide +kernel
theorem dX5_canLead_45 : decode cX5_canLead 45 = .ok (.iconst 1, 1) := by decide +kernel
theorem dX5_canLead_46 : decode cX5_canLead 46 = .ok (.goto 4, 3) := by decide +kernel
theorem dX5_canLead_49 : decode cX5_canLead 49 = .ok (.iconst 0, 1) := by decide +kernel
theorem dX5_canLead_50 : decode cX5_canLead 50 = .ok (.ireturn, 1) := by decide +kernel
theorem dX5_tellFact_0 : decode cX5_tellFact 0 = .ok (.aload_n 0, 1) := by decide +kernel
theorem dX5_tellFact_1 : decode cX5_tellFact 1 = .ok (.getfield 27, 3) := by decide +kernel
theorem dX5_tellFact_4 : decode cX5_tellFact 4 = .ok (.aload_n 0, 1) := by decide +kernel
theorem dX5_tellFact_5 : decode cX5_tellFact 5 = .ok (.getfield 55, 3) := by decide +kernel
theorem dX5_tellFact_8 : decode cX5_tellFact 8 = .ok (.iload_n 1, 1) := by decide +kernel
theorem dX5_tellFact_9 : decode cX5_tellFact 9 = .ok (.iastore, 1) := by decide +kernel
theorem dX5_tellFact_10 : decode cX5_tellFact 10 = .ok (.aload_n 0, 1) := by decide +kernel
theorem dX5_tellFact_11 : decode cX5_tellFact 11 = .ok (.getfield 30, 3) := by decide +kernel
theorem dX5_tellFact_14 : decode cX5_tellFact 14 = .ok (.aload_n 0, 1) := by decide +kernel
theorem dX5_tellFact_15 : decode cX5_tellFact 15 = .ok (.getfield 55, 3) := by decide +kernel
theorem dX5_tellFact_18 : decode cX5_tellFact 18 = .ok (.iload_n 2, 1) := by decide +kernel
theorem dX5_tellFact_19 : decode cX5_tellFact 19 = .ok (.iastore, 1) := by decide +kernel
theorem dX5_tellFact_20 : decode cX5_tellFact 20 = .ok (.aload_n 0, 1) := by decide +kernel
theorem dX5_tellFact_21 : decode cX5_tellFact 21 = .ok (.getfield 33, 3) := by decide +kernel
theorem dX5_tellFact_24 : decode cX5_tellFact 24 = .ok (.aload_n 0, 1) := by decide +kernel
theorem dX5_tellFact_25 : decode cX5_tellFact 25 = .ok (.getfield 55, 3) := by decide +kernel
theorem dX5_tellFact_28 : decode cX5_tellFact 28 = .ok (.iload_n 3, 1) := by decide +kernel
theorem dX5_tellFact_29 : decode cX5_tellFact 29 = .ok (.iastore, 1) := by decide +kernel
theorem dX5_tellFact_30 : decode cX5_tellFact 30 = .ok (.aload_n 0, 1) := by decide +kernel
theorem dX5_tellFact_31 : decode cX5_tellFact 31 = .ok (.getfield 36, 3) := by decide +kernel
theorem dX5_tellFact_34 : decode cX5_tellFact 34 = .ok (.aload_n 0, 1) := by decide +kernel
theorem dX5_tellFact_35 : decode cX5_tellFact 35 = .ok (.getfield 55, 3) := by decide +kernel
theorem dX5_tellFact_38 : decode cX5_tellFact 38 = .ok (.iload 4, 2) := by decide +kernel
theorem dX5_tellFact_40 : decode cX5_tellFact 40 = .ok (.iastore, 1) := by decide +kernel
theorem dX5_tellFact_41 : decode cX5_tellFact 41 = .ok (.aload_n 0, 1) := by decide +kernel
theorem dX5_tellFact_42 : decode cX5_tellFact 42 = .ok (.dup, 1) := by decide +kernel
theorem dX5_tellFact_43 : decode cX5_tellFact 43 = .ok (.getfield 55, 3) := by decide +kernel
theorem dX5_tellFact_46 : decode cX5_tellFact 46 = .ok (.iconst 1, 1) := by decide +kernel
theorem dX5_tellFact_47 : decode cX5_tellFact 47 = .ok (.iadd, 1) := by decide +kernel
theorem dX5_tellFact_48 : decode cX5_tellFact 48 = .ok (.dup_x1, 1) := by decide +kernel
theorem dX5_tellFact_49 : decode cX5_tellFact 49 = .ok (.putfield 55, 3) := by decide +kernel
theorem dX5_tellFact_52 : decode cX5_tellFact 52 = .ok (.ireturn, 1) := by decide +kernel
theorem dX5_valueOf_0 : decode cX5_valueOf 0 = .ok (.iconst (-1), 1) := by decide +kernel
theorem dX5_valueOf_1 : decode cX5_valueOf 1 = .ok (.istore 4, 2) := by decide +kernel
theorem dX5_valueOf_3 : decode cX5_valueOf 3 = .ok (.iconst 0, 1) := by decide +kernel
theorem dX5_valueOf_4 : decode cX5_valueOf 4 = .ok (.istore 5, 2) := by decide +kernel
theorem dX5_valueOf_6 : decode cX5_valueOf 6 = .ok (.iload 5, 2) := by decide +kernel
theorem dX5_valueOf_8 : decode cX5_valueOf 8 = .ok (.aload_n 0, 1) := by decide +kernel
theorem dX5_valueOf_9 : decode cX5_valueOf 9 = .ok (.getfield 55, 3) := by decide +kernel
theorem dX5_valueOf_12 : decode cX5_valueOf 12 = .ok (.if_icmp .ge 69, 3) := by decide +kernel
theorem dX5_valueOf_15 : decode cX5_valueOf 15 = .ok (.aload_n 0, 1) := by decide +kernel
theorem dX5_valueOf_16 : decode cX5_valueOf 16 = .ok (.getfield 27, 3) := by decide +kernel
theorem dX5_valueOf_19 : decode cX5_valueOf 19 = .ok (.iload 5, 2) := by decide +kernel
theorem dX5_valueOf_21 : decode cX5_valueOf 21 = .ok (.iaload, 1) := by decide +kernel
theorem dX5_valueOf_22 : decode cX5_valueOf 22 = .ok (.iload_n 1, 1) := by decide +kernel
theorem dX5_valueOf_23 : decode cX5_valueOf 23 = .ok (.if_icmp .ne 52, 3) := by decide +kernel
theorem dX5_valueOf_26 : decode cX5_valueOf 26 = .ok (.aload_n 0, 1) := by decide +kernel
theorem dX5_valueOf_27 : decode cX5_valueOf 27 = .ok (.getfield 33, 3) := by decide +kernel
theorem dX5_valueOf_30 : decode cX5_valueOf 30 = .ok (.iload 5, 2) := by decide +kernel
theorem dX5_valueOf_32 : decode cX5_valueOf 32 = .ok (.iaload, 1) := by decide +kernel
theorem dX5_valueOf_33 : decode cX5_valueOf 33 = .ok (.iload_n 2, 1) := by decide +kernel
theorem dX5_valueOf_34 : decode cX5_valueOf 34 = .ok (.if_icmp .gt 41, 3) := by decide +kernel
theorem dX5_valueOf_37 : decode cX5_valueOf 37 = .ok (.aload_n 0, 1) := by decide +kernel
theorem dX5_valueOf_38 : decode cX5_valueOf 38 = .ok (.getfield 36, 3) := by decide +kernel
theorem dX5_valueOf_41 : decode cX5_valueOf 41 = .ok (.iload 5, 2) := by decide +kernel
theorem dX5_valueOf_43 : decode cX5_valueOf 43 = .ok (.iaload, 1) := by decide +kernel
theorem dX5_valueOf_44 : decode cX5_valueOf 44 = .ok (.iload_n 3, 1) := by decide +kernel
theorem dX5_valueOf_45 : decode cX5_valueOf 45 = .ok (.if_icmp .gt 30, 3) := by decide +kernel
theorem dX5_valueOf_48 : decode cX5_valueOf 48 = .ok (.iload 4, 2) := by decide +kernel
theorem dX5_valueOf_50 : decode cX5_valueOf 50 = .ok (.iconst (-1), 1) := by decide +kernel
theorem dX5_valueOf_51 : decode cX5_valueOf 51 = .ok (.if_icmp .eq 20, 3) := by decide +kernel
theorem dX5_valueOf_54 : decode cX5_valueOf 54 = .ok (.aload_n 0, 1) := by decide +kernel
theorem dX5_valueOf_55 : decode cX5_valueOf 55 = .ok (.getfield 33, 3) := by decide +kernel
theorem dX5_valueOf_58 : decode cX5_valueOf 58 = .ok (.iload 5, 2) := by decide +kernel
theorem dX5_valueOf_60 : decode cX5_valueOf 60 = .ok (.iaload, 1) := by decide +kernel
theorem dX5_valueOf_61 : decode cX5_valueOf 61 = .ok (.aload_n 0, 1) := by decide +kernel
theorem dX5_valueOf_62 : decode cX5_valueOf 62 = .ok (.getfield 33, 3) := by decide +kernel
theorem dX5_valueOf_65 : decode cX5_valueOf 65 = .ok (.iload 4, 2) := by decide +kernel
theorem dX5_valueOf_67 : decode cX5_valueOf 67 = .ok (.iaload, 1) := by decide +kernel
theorem dX5_valueOf_68 : decode cX5_valueOf 68 = .ok (.if_icmp .lt 7, 3) := by decide +kernel
theorem dX5_valueOf_71 : decode cX5_valueOf 71 = .ok (.iload 5, 2) := by decide +kernel
theorem dX5_valueOf_73 : decode cX5_valueOf 73 = .ok (.istore 4, 2) := by decide +kernel
theorem dX5_valueOf_75 : decode cX5_valueOf 75 = .ok (.iinc 5 1, 3) := by decide +kernel
theorem dX5_valueOf_78 : decode cX5_valueOf 78 = .ok (.goto (-72), 3) := by decide +kernel
theorem dX5_valueOf_81 : decode cX5_valueOf 81 = .ok (.iload 4, 2) := by decide +kernel
theorem dX5_valueOf_83 : decode cX5_valueOf 83 = .ok (.iconst (-1), 1) := by decide +kernel
theorem dX5_valueOf_84 : decode cX5_valueOf 84 = .ok (.if_icmp .ne 7, 3) := by decide +kernel
theorem dX5_valueOf_87 : decode cX5_valueOf 87 = .ok (.iconst 0, 1) := by decide +kernel
theorem dX5_valueOf_88 : decode cX5_valueOf 88 = .ok (.goto 10, 3) := by decide +kernel
theorem dX5_valueOf_91 : decode cX5_valueOf 91 = .ok (.aload_n 0, 1) := by decide +kernel
theorem dX5_valueOf_92 : decode cX5_valueOf 92 = .ok (.getfield 30, 3) := by decide +kernel
theorem dX5_valueOf_95 : decode cX5_valueOf 95 = .ok (.iload 4, 2) := by decide +kernel
theorem dX5_valueOf_97 : decode cX5_valueOf 97 = .ok (.iaload, 1) := by decide +kernel
theorem dX5_valueOf_98 : decode cX5_valueOf 98 = .ok (.ireturn, 1) := by decide +kernel
theorem dX5_isAlive_0 : decode cX5_isAlive 0 = .ok (.aload_n 0, 1) := by decide +kernel
theorem dX5_isAlive_1 : decode cX5_isAlive 1 = .ok (.getfield 24, 3) := by decide +kernel
theorem dX5_isAlive_4 : decode cX5_isAlive 4 = .ok (.iload_n 1, 1) := by decide +kernel
theorem dX5_isAlive_5 : decode cX5_isAlive 5 = .ok (.iaload, 1) := by decide +kernel
theorem dX5_isAlive_6 : decode cX5_isAlive 6 = .ok (.iconst (-1), 1) := by decide +kernel
theorem dX5_isAlive_7 : decode cX5_isAlive 7 = .ok (.if_icmp .eq 27, 3) := by decide +kernel
theorem dX5_isAlive_10 : decode cX5_isAlive 10 = .ok (.aload_n 0, 1) := by decide +kernel
theorem dX5_isAlive_11 : decode cX5_isAlive 11 = .ok (.getfield 24, 3) := by decide +kernel
theorem dX5_isAlive_14 : decode cX5_isAlive 14 = .ok (.iload_n 1, 1) := by decide +kernel
theorem dX5_isAlive_15 : decode cX5_isAlive 15 = .ok (.iaload, 1) := by decide +kernel
theorem dX5_isAlive_16 : decode cX5_isAlive 16 = .ok (.iload_n 3, 1) := by decide +kernel
theorem dX5_isAlive_17 : decode cX5_isAlive 17 = .ok (.if_icmp .gt 17, 3) := by decide +kernel
theorem dX5_isAlive_20 : decode cX5_isAlive 20 = .ok (.aload_n 0, 1) := by decide +kernel
theorem dX5_isAlive_21 : decode cX5_isAlive 21 = .ok (.getfield 21, 3) := by decide +kernel
theorem dX5_isAlive_24 : decode cX5_isAlive 24 = .ok (.iload_n 1, 1) := by decide +kernel
theorem dX5_isAlive_25 : decode cX5_isAlive 25 = .ok (.iaload, 1) := by decide +kernel
theorem dX5_isAlive_26 : decode cX5_isAlive 26 = .ok (.iload_n 2, 1) := by decide +kernel
theorem dX5_isAlive_27 : decode cX5_isAlive 27 = .ok (.if_icmp .gt 7, 3) := by decide +kernel
theorem dX5_isAlive_30 : decode cX5_isAlive 30 = .ok (.iconst 1, 1) := by decide +kernel
theorem dX5_isAlive_31 : decode cX5_isAlive 31 = .ok (.goto 4, 3) := by decide +kernel
theorem dX5_isAlive_34 : decode cX5_isAlive 34 = .ok (.iconst 0, 1) := by decide +kernel
theorem dX5_isAlive_35 : decode cX5_isAlive 35 = .ok (.istore 4, 2) := by decide +kernel
theorem dX5_isAlive_37 : decode cX5_isAlive 37 = .ok (.aload_n 0, 1) := by decide +kernel
theorem dX5_isAlive_38 : decode cX5_isAlive 38 = .ok (.getfield 9, 3) := by decide +kernel
theorem dX5_isAlive_41 : decode cX5_isAlive 41 = .ok (.iload_n 1, 1) := by decide +kernel
theorem dX5_isAlive_42 : decode cX5_isAlive 42 = .ok (.iaload, 1) := by decide +kernel
theorem dX5_isAlive_43 : decode cX5_isAlive 43 = .ok (.iload_n 2, 1) := by decide +kernel
theorem dX5_isAlive_44 : decode cX5_isAlive 44 = .ok (.if_icmp .gt 12, 3) := by decide +kernel
theorem dX5_isAlive_47 : decode cX5_isAlive 47 = .ok (.iload 4, 2) := by decide +kernel
theorem dX5_isAlive_49 : decode cX5_isAlive 49 = .ok (.ifCond .ne 7, 3) := by decide +kernel
theorem dX5_isAlive_52 : decode cX5_isAlive 52 = .ok (.iconst 1, 1) := by decide +kernel
theorem dX5_isAlive_53 : decode cX5_isAlive 53 = .ok (.goto 4, 3) := by decide +kernel
theorem dX5_isAlive_56 : decode cX5_isAlive 56 = .ok (.iconst 0, 1) := by decide +kernel
theorem dX5_isAlive_57 : decode cX5_isAlive 57 = .ok (.ireturn, 1) := by decide +kernel
theorem dX5_isKnown_0 : decode cX5_isKnown 0 = .ok (.aload_n 0, 1) := by decide +kernel
theorem dX5_isKnown_1 : decode cX5_isKnown 1 = .ok (.getfield 18, 3) := by decide +kernel
theorem dX5_isKnown_4 : decode cX5_isKnown 4 = .ok (.iload_n 1, 1) := by decide +kernel
theorem dX5_isKnown_5 : decode cX5_isKnown 5 = .ok (.iaload, 1) := by decide +kernel
theorem dX5_isKnown_6 : decode cX5_isKnown 6 = .ok (.iconst (-1), 1) := by decide +kernel
theorem dX5_isKnown_7 : decode cX5_isKnown 7 = .ok (.if_icmp .eq 17, 3) := by decide +kernel
theorem dX5_isKnown_10 : decode cX5_isKnown 10 = .ok (.aload_n 0, 1) := by decide +kernel
theorem dX5_isKnown_11 : decode cX5_isKnown 11 = .ok (.getfield 18, 3) := by decide +kernel
theorem dX5_isKnown_14 : decode cX5_isKnown 14 = .ok (.iload_n 1, 1) := by decide +kernel
theorem dX5_isKnown_15 : decode cX5_isKnown 15 = .ok (.iaload, 1) := by decide +kernel
theorem dX5_isKnown_16 : decode cX5_isKnown 16 = .ok (.iload_n 2, 1) := by decide +kernel
theorem dX5_isKnown_17 : decode cX5_isKnown 17 = .ok (.if_icmp .gt 7, 3) := by decide +kernel
theorem dX5_isKnown_20 : decode cX5_isKnown 20 = .ok (.iconst 1, 1) := by decide +kernel
theorem dX5_isKnown_21 : decode cX5_isKnown 21 = .ok (.goto 4, 3) := by decide +kernel
theorem dX5_isKnown_24 : decode cX5_isKnown 24 = .ok (.iconst 0, 1) := by decide +kernel
theorem dX5_isKnown_25 : decode cX5_isKnown 25 = .ok (.ireturn, 1) := by decide +kernel
theorem dX5_climb_0 : decode cX5_climb 0 = .ok (.iconst 0, 1) := by decide +kernel
theorem dX5_climb_1 : decode cX5_climb 1 = .ok (.istore 4, 2) := by decide +kernel
theorem dX5_climb_3 : decode cX5_climb 3 = .ok (.iconst 0, 1) := by decide +kernel
theorem dX5_climb_4 : decode cX5_climb 4 = .ok (.istore 5, 2) := by decide +kernel
theorem dX5_climb_6 : decode cX5_climb 6 = .ok (.iload 5, 2) := by decide +kernel
theorem dX5_climb_8 : decode cX5_climb 8 = .ok (.bipush 24, 2) := by decide +kernel
theorem dX5_climb_10 : decode cX5_climb 10 = .ok (.if_icmp .ge 41, 3) := by decide +kernel
theorem dX5_climb_13 : decode cX5_climb 13 = .ok (.aload_n 3, 1) := by decide +kernel
theorem dX5_climb_14 : decode cX5_climb 14 = .ok (.iload 5, 2) := by decide +kernel
theorem dX5_climb_16 : decode cX5_climb 16 = .ok (.bipush 99, 2) := by decide +kernel
theorem dX5_climb_18 : decode cX5_climb 18 = .ok (.iastore, 1) := by decide +kernel
theorem dX5_climb_19 : decode cX5_climb 19 = .ok (.iload_n 1, 1) := by decide +kernel
theorem dX5_climb_20 : decode cX5_climb 20 = .ok (.iload 5, 2) := by decide +kernel
theorem dX5_climb_22 : decode cX5_climb 22 = .ok (.iushr, 1) := by decide +kernel
theorem dX5_climb_23 : decode cX5_climb 23 = .ok (.iconst 1, 1) := by decide +kernel
theorem dX5_climb_24 : decode cX5_climb 24 = .ok (.iand, 1) := by decide +kernel
theorem dX5_climb_25 : decode cX5_climb 25 = .ok (.ifCond .eq 20, 3) := by decide +kernel
theorem dX5_climb_28 : decode cX5_climb 28 = .ok (.aload_n 3, 1) := by decide +kernel
theorem dX5_climb_29 : decode cX5_climb 29 = .ok (.iload 5, 2) := by decide +kernel
theorem dX5_climb_31 : decode cX5_climb 31 = .ok (.iconst 0, 1) := by decide +kernel
theorem dX5_climb_32 : decode cX5_climb 32 = .ok (.iastore, 1) := by decide +kernel
theorem dX5_climb_33 : decode cX5_climb 33 = .ok (.aload_n 0, 1) := by decide +kernel
theorem dX5_climb_34 : decode cX5_climb 34 = .ok (.getfield 45, 3) := by decide +kernel
theorem dX5_climb_37 : decode cX5_climb 37 = .ok (.iload 4, 2) := by decide +kernel
theorem dX5_climb_39 : decode cX5_climb 39 = .ok (.iinc 4 1, 3) := by decide +kernel
theorem dX5_climb_42 : decode cX5_climb 42 = .ok (.iload 5, 2) := by decide +kernel
theorem dX5_climb_44 : decode cX5_climb 44 = .ok (.iastore, 1) := by decide +kernel
theorem dX5_climb_45 : decode cX5_climb 45 = .ok (.iinc 5 1, 3) := by decide +kernel
theorem dX5_climb_48 : decode cX5_climb 48 = .ok (.goto (-42), 3) := by decide +kernel
theorem dX5_climb_51 : decode cX5_climb 51 = .ok (.iconst 0, 1) := by decide +kernel
theorem dX5_climb_52 : decode cX5_climb 52 = .ok (.istore 5, 2) := by decide +kernel
theorem dX5_climb_54 : decode cX5_climb 54 = .ok (.iload 5, 2) := by decide +kernel
theorem dX5_climb_56 : decode cX5_climb 56 = .ok (.iload 4, 2) := by decide +kernel
theorem dX5_climb_58 : decode cX5_climb 58 = .ok (.if_icmp .ge 104, 3) := by decide +kernel
theorem dX5_climb_61 : decode cX5_climb 61 = .ok (.iload 5, 2) := by decide +kernel
theorem dX5_climb_63 : decode cX5_climb 63 = .ok (.bipush 24, 2) := by decide +kernel
theorem dX5_climb_65 : decode cX5_climb 65 = .ok (.if_icmp .ge 97, 3) := by decide +kernel
theorem dX5_climb_68 : decode cX5_climb 68 = .ok (.aload_n 0, 1) := by decide +kernel
theorem dX5_climb_69 : decode cX5_climb 69 = .ok (.getfield 45, 3) := by decide +kernel
theorem dX5_climb_72 : decode cX5_climb 72 = .ok (.iload 5, 2) := by decide +kernel
theorem dX5_climb_74 : decode cX5_climb 74 = .ok (.iaload, 1) := by decide +kernel
theorem dX5_climb_75 : decode cX5_climb 75 = .ok (.istore 6, 2) := by decide +kernel
theorem dX5_climb_77 : decode cX5_climb 77 = .ok (.iconst 2, 1) := by decide +kernel
theorem dX5_climb_78 : decode cX5_climb 78 = .ok (.iload 6, 2) := by decide +kernel
theorem dX5_climb_80 : decode cX5_climb 80 = .ok (.imul, 1) := by decide +kernel
theorem dX5_climb_81 : decode cX5_climb 81 = .ok (.istore 7, 2) := by decide +kernel
theorem dX5_climb_83 : decode cX5_climb 83 = .ok (.iload 7, 2) := by decide +kernel
theorem dX5_climb_85 : decode cX5_climb 85 = .ok (.iconst 2, 1) := by decide +kernel
theorem dX5_climb_86 : decode cX5_climb 86 = .ok (.iload 6, 2) := by decide +kernel
theorem dX5_climb_88 : decode cX5_climb 88 = .ok (.imul, 1) := by decide +kernel
theorem dX5_climb_89 : decode cX5_climb 89 = .ok (.iconst 1, 1) := by decide +kernel
theorem dX5_climb_90 : decode cX5_climb 90 = .ok (.iadd, 1) := by decide +kernel
theorem dX5_climb_91 : decode cX5_climb 91 = .ok (.if_icmp .gt 65, 3) := by decide +kernel
theorem dX5_climb_94 : decode cX5_climb 94 = .ok (.aload_n 0, 1) := by decide +kernel
theorem dX5_climb_95 : decode cX5_climb 95 = .ok (.iload 7, 2) := by decide +kernel
theorem dX5_climb_97 : decode cX5_climb 97 = .ok (.iload_n 2, 1) := by decide +kernel
theorem dX5_climb_98 : decode cX5_climb 98 = .ok (.invokevirtual 74, 3) := by decide +kernel
theorem dX5_climb_101 : decode cX5_climb 101 = .ok (.ifCond .eq 49, 3) := by decide +kernel
theorem dX5_climb_104 : decode cX5_climb 104 = .ok (.aload_n 3, 1) := by decide +kernel
theorem dX5_climb_105 : decode cX5_climb 105 = .ok (.aload_n 0, 1) := by decide +kernel
theorem dX5_climb_106 : decode cX5_climb 106 = .ok (.getfield 15, 3) := by decide +kernel
theorem dX5_climb_109 : decode cX5_climb 109 = .ok (.iload 7, 2) := by decide +kernel
theorem dX5_climb_111 : decode cX5_climb 111 = .ok (.iaload, 1) := by decide +kernel
theorem dX5_climb_112 : decode cX5_climb 112 = .ok (.iaload, 1) := by decide +kernel
theorem dX5_climb_113 : decode cX5_climb 113 = .ok (.bipush 99, 2) := by decide +kernel
theorem dX5_climb_115 : decode cX5_climb 115 = .ok (.if_icmp .ne 35, 3) := by decide +kernel
theorem dX5_climb_118 : decode cX5_climb 118 = .ok (.aload_n 3, 1) := by decide +kernel
theorem dX5_climb_119 : decode cX5_climb 119 = .ok (.aload_n 0, 1) := by decide +kernel
theorem dX5_climb_120 : decode cX5_climb 120 = .ok (.getfield 15, 3) := by decide +kernel
theorem dX5_climb_123 : decode cX5_climb 123 = .ok (.iload 7, 2) := by decide +kernel
theorem dX5_climb_125 : decode cX5_climb 125 = .ok (.iaload, 1) := by decide +kernel
theorem dX5_climb_126 : decode cX5_climb 126 = .ok (.aload_n 3, 1) := by decide +kernel
theorem dX5_climb_127 : decode cX5_climb 127 = .ok (.iload 6, 2) := by decide +kernel
theorem dX5_climb_129 : decode cX5_climb 129 = .ok (.iaload, 1) := by decide +kernel
theorem dX5_climb_130 : decode cX5_climb 130 = .ok (.iconst 1, 1) := by decide +kernel
theorem dX5_climb_131 : decode cX5_climb 131 = .ok (.iadd, 1) := by decide +kernel
theorem dX5_climb_132 : decode cX5_climb 132 = .ok (.iastore, 1) := by decide +kernel
theorem dX5_climb_133 : decode cX5_climb 133 = .ok (.aload_n 0, 1) := by decide +kernel
theorem dX5_climb_134 : decode cX5_climb 134 = .ok (.getfield 45, 3) := by decide +kernel
theorem dX5_climb_137 : decode cX5_climb 137 = .ok (.iload 4, 2) := by decide +kernel
theorem dX5_climb_139 : decode cX5_climb 139 = .ok (.iinc 4 1, 3) := by decide +kernel
theorem dX5_climb_142 : decode cX5_climb 142 = .ok (.aload_n 0, 1) := by decide +kernel
theorem dX5_climb_143 : decode cX5_climb 143 = .ok (.getfield 15, 3) := by decide +kernel
theorem dX5_climb_146 : decode cX5_climb 146 = .ok (.iload 7, 2) := by decide +kernel
theorem dX5_climb_148 : decode cX5_climb 148 = .ok (.iaload, 1) := by decide +kernel
theorem dX5_climb_149 : decode cX5_climb 149 = .ok (.iastore, 1) := by decide +kernel
theorem dX5_climb_150 : decode cX5_climb 150 = .ok (.iinc 7 1, 3) := by decide +kernel
theorem dX5_climb_153 : decode cX5_climb 153 = .ok (.goto (-70), 3) := by decide +kernel
theorem dX5_climb_156 : decode cX5_climb 156 = .ok (.iinc 5 1, 3) := by decide +kernel
theorem dX5_climb_159 : decode cX5_climb 159 = .ok (.goto (-105), 3) := by decide +kernel
theorem dX5_climb_162 : decode cX5_climb 162 = .ok (.return_, 1) := by decide +kernel
theorem dX5_measure_0 : decode cX5_measure 0 = .ok (.aload_n 0, 1) := by decide +kernel
theorem dX5_measure_1 : decode cX5_measure 1 = .ok (.iconst 1, 1) := by decide +kernel
theorem dX5_measure_2 : decode cX5_measure 2 = .ok (.iload_n 1, 1) := by decide +kernel
theorem dX5_measure_3 : decode cX5_measure 3 = .ok (.ishl, 1) := by decide +kernel
theorem dX5_measure_4 : decode cX5_measure 4 = .ok (.iload_n 2, 1) := by decide +kernel
theorem dX5_measure_5 : decode cX5_measure 5 = .ok (.aload_n 0, 1) := by decide +kernel
theorem dX5_measure_6 : decode cX5_measure 6 = .ok (.getfield 39, 3) := by decide +kernel
theorem dX5_measure_9 : decode cX5_measure 9 = .ok (.invokevirtual 70, 3) := by decide +kernel
theorem dX5_measure_12 : decode cX5_measure 12 = .ok (.aload_n 0, 1) := by decide +kernel
theorem dX5_measure_13 : decode cX5_measure 13 = .ok (.aload_n 0, 1) := by decide +kernel
theorem dX5_measure_14 : decode cX5_measure 14 = .ok (.getfield 52, 3) := by decide +kernel
theorem dX5_measure_17 : decode cX5_measure 17 = .ok (.iload_n 2, 1) := by decide +kernel
theorem dX5_measure_18 : decode cX5_measure 18 = .ok (.aload_n 0, 1) := by decide +kernel
theorem dX5_measure_19 : decode cX5_measure 19 = .ok (.getfield 42, 3) := by decide +kernel
theorem dX5_measure_22 : decode cX5_measure 22 = .ok (.invokevirtual 70, 3) := by decide +kernel
theorem dX5_measure_25 : decode cX5_measure 25 = .ok (.aload_n 0, 1) := by decide +kernel
theorem dX5_measure_26 : decode cX5_measure 26 = .ok (.bipush 99, 2) := by decide +kernel
theorem dX5_measure_28 : decode cX5_measure 28 = .ok (.putfield 58, 3) := by decide +kernel
theorem dX5_measure_31 : decode cX5_measure 31 = .ok (.bipush 99, 2) := by decide +kernel
theorem dX5_measure_33 : decode cX5_measure 33 = .ok (.istore_n 3, 1) := by decide +kernel
theorem dX5_measure_34 : decode cX5_measure 34 = .ok (.iconst 0, 1) := by decide +kernel
theorem dX5_measure_35 : decode cX5_measure 35 = .ok (.istore 4, 2) := by decide +kernel
theorem dX5_measure_37 : decode cX5_measure 37 = .ok (.iload 4, 2) := by decide +kernel
theorem dX5_measure_39 : decode cX5_measure 39 = .ok (.aload_n 0, 1) := by decide +kernel
theorem dX5_measure_40 : decode cX5_measure 40 = .ok (.getfield 48, 3) := by decide +kernel
theorem dX5_measure_43 : decode cX5_measure 43 = .ok (.if_icmp .ge 102, 3) := by decide +kernel
theorem dX5_measure_46 : decode cX5_measure 46 = .ok (.aload_n 0, 1) := by decide +kernel
theorem dX5_measure_47 : decode cX5_measure 47 = .ok (.getfield 39, 3) := by decide +kernel
theorem dX5_measure_50 : decode cX5_measure 50 = .ok (.iload 4, 2) := by decide +kernel
theorem dX5_measure_52 : decode cX5_measure 52 = .ok (.iaload, 1) := by decide +kernel
theorem dX5_measure_53 : decode cX5_measure 53 = .ok (.bipush 99, 2) := by decide +kernel
theorem dX5_measure_55 : decode cX5_measure 55 = .ok (.if_icmp .ne 6, 3) := by decide +kernel
theorem dX5_measure_58 : decode cX5_measure 58 = .ok (.goto 81, 3) := by decide +kernel
theorem dX5_measure_61 : decode cX5_measure 61 = .ok (.aload_n 0, 1) := by decide +kernel
theorem dX5_measure_62 : decode cX5_measure 62 = .ok (.getfield 42, 3) := by decide +kernel
theorem dX5_measure_65 : decode cX5_measure 65 = .ok (.iload 4, 2) := by decide +kernel
theorem dX5_measure_67 : decode cX5_measure 67 = .ok (.iaload, 1) := by decide +kernel
theorem dX5_measure_68 : decode cX5_measure 68 = .ok (.bipush 99, 2) := by decide +kernel
theorem dX5_measure_70 : decode cX5_measure 70 = .ok (.if_icmp .eq 29, 3) := by decide +kernel
theorem dX5_measure_73 : decode cX5_measure 73 = .ok (.aload_n 0, 1) := by decide +kernel
theorem dX5_measure_74 : decode cX5_measure 74 = .ok (.aload_n 0, 1) := by decide +kernel
theorem dX5_measure_75 : decode cX5_measure 75 = .ok (.getfield 58, 3) := by decide +kernel
theorem dX5_measure_78 : decode cX5_measure 78 = .ok (.aload_n 0, 1) := by decide +kernel
theorem dX5_measure_79 : decode cX5_measure 79 = .ok (.getfield 39, 3) := by decide +kernel
theorem dX5_measure_82 : decode cX5_measure 82 = .ok (.iload 4, 2) := by decide +kernel
theorem dX5_measure_84 : decode cX5_measure 84 = .ok (.iaload, 1) := by decide +kernel
theorem dX5_measure_85 : decode cX5_measure 85 = .ok (.aload_n 0, 1) := by decide +kernel
theorem dX5_measure_86 : decode cX5_measure 86 = .ok (.getfield 42, 3) := by decide +kernel
theorem dX5_measure_89 : decode cX5_measure 89 = .ok (.iload 4, 2) := by decide +kernel
theorem dX5_measure_91 : decode cX5_measure 91 = .ok (.iaload, 1) := by decide +kernel
theorem dX5_measure_92 : decode cX5_measure 92 = .ok (.iadd, 1) := by decide +kernel
theorem dX5_measure_93 : decode cX5_measure 93 = .ok (.invokestatic 78, 3) := by decide +kernel
theorem dX5_measure_96 : decode cX5_measure 96 = .ok (.putfield 58, 3) := by decide +kernel
theorem dX5_measure_99 : decode cX5_measure 99 = .ok (.aload_n 0, 1) := by decide +kernel
theorem dX5_measure_100 : decode cX5_measure 100 = .ok (.iconst 2, 1) := by decide +kernel
theorem dX5_measure_101 : decode cX5_measure 101 = .ok (.iload 4, 2) := by decide +kernel
theorem dX5_measure_103 : decode cX5_measure 103 = .ok (.imul, 1) := by decide +kernel
theorem dX5_measure_104 : decode cX5_measure 104 = .ok (.iload_n 2, 1) := by decide +kernel
theorem dX5_measure_105 : decode cX5_measure 105 = .ok (.invokevirtual 74, 3) := by decide +kernel
theorem dX5_measure_108 : decode cX5_measure 108 = .ok (.ifCond .eq 17, 3) := by decide +kernel
theorem dX5_measure_111 : decode cX5_measure 111 = .ok (.aload_n 0, 1) := by decide +kernel
theorem dX5_measure_112 : decode cX5_measure 112 = .ok (.iconst 2, 1) := by decide +kernel
theorem dX5_measure_113 : decode cX5_measure 113 = .ok (.iload 4, 2) := by decide +kernel
theorem dX5_measure_115 : decode cX5_measure 115 = .ok (.imul, 1) := by decide +kernel
theorem dX5_measure_116 : decode cX5_measure 116 = .ok (.iconst 1, 1) := by decide +kernel
theorem dX5_measure_117 : decode cX5_measure 117 = .ok (.iadd, 1) := by decide +kernel
theorem dX5_measure_118 : decode cX5_measure 118 = .ok (.iload_n 2, 1) := by decide +kernel
theorem dX5_measure_119 : decode cX5_measure 119 = .ok (.invokevirtual 74, 3) := by decide +kernel
theorem dX5_measure_122 : decode cX5_measure 122 = .ok (.ifCond .ne 17, 3) := by decide +kernel
theorem dX5_measure_125 : decode cX5_measure 125 = .ok (.iload_n 3, 1) := by decide +kernel
theorem dX5_measure_126 : decode cX5_measure 126 = .ok (.aload_n 0, 1) := by decide +kernel
theorem dX5_measure_127 : decode cX5_measure 127 = .ok (.getfield 39, 3) := by decide +kernel
theorem dX5_measure_130 : decode cX5_measure 130 = .ok (.iload 4, 2) := by decide +kernel
theorem dX5_measure_132 : decode cX5_measure 132 = .ok (.iaload, 1) := by decide +kernel
theorem dX5_measure_133 : decode cX5_measure 133 = .ok (.iconst 1, 1) := by decide +kernel
theorem dX5_measure_134 : decode cX5_measure 134 = .ok (.iadd, 1) := by decide +kernel
theorem dX5_measure_135 : decode cX5_measure 135 = .ok (.invokestatic 78, 3) := by decide +kernel
theorem dX5_measure_138 : decode cX5_measure 138 = .ok (.istore_n 3, 1) := by decide +kernel
theorem dX5_measure_139 : decode cX5_measure 139 = .ok (.iinc 4 1, 3) := by decide +kernel
theorem dX5_measure_142 : decode cX5_measure 142 = .ok (.goto (-105), 3) := by decide +kernel
theorem dX5_measure_145 : decode cX5_measure 145 = .ok (.aload_n 0, 1) := by decide +kernel
theorem dX5_measure_146 : decode cX5_measure 146 = .ok (.aload_n 0, 1) := by decide +kernel
theorem dX5_measure_147 : decode cX5_measure 147 = .ok (.getfield 58, 3) := by decide +kernel
theorem dX5_measure_150 : decode cX5_measure 150 = .ok (.iload_n 3, 1) := by decide +kernel
theorem dX5_measure_151 : decode cX5_measure 151 = .ok (.invokestatic 78, 3) := by decide +kernel
theorem dX5_measure_154 : decode cX5_measure 154 = .ok (.putfield 61, 3) := by decide +kernel
theorem dX5_measure_157 : decode cX5_measure 157 = .ok (.return_, 1) := by decide +kernel
theorem dX5_settlingLink_0 : decode cX5_settlingLink 0 = .ok (.aload_n 0, 1) := by decide +kernel
theorem dX5_settlingLink_1 : decode cX5_settlingLink 1 = .ok (.iload_n 1, 1) := by decide +kernel
theorem dX5_settlingLink_2 : decode cX5_settlingLink 2 = .ok (.iload_n 2, 1) := by decide +kernel
theorem dX5_settlingLink_3 : decode cX5_settlingLink 3 = .ok (.invokevirtual 84, 3) := by decide +kernel
theorem dX5_settlingLink_6 : decode cX5_settlingLink 6 = .ok (.aload_n 0, 1) := by decide +kernel
theorem dX5_settlingLink_7 : decode cX5_settlingLink 7 = .ok (.getfield 61, 3) := by decide +kernel
theorem dX5_settlingLink_10 : decode cX5_settlingLink 10 = .ok (.aload_n 0, 1) := by decide +kernel
theorem dX5_settlingLink_11 : decode cX5_settlingLink 11 = .ok (.getfield 58, 3) := by decide +kernel
theorem dX5_settlingLink_14 : decode cX5_settlingLink 14 = .ok (.if_icmp .ne 5, 3) := by decide +kernel
theorem dX5_settlingLink_17 : decode cX5_settlingLink 17 = .ok (.iconst (-1), 1) := by decide +kernel
theorem dX5_settlingLink_18 : decode cX5_settlingLink 18 = .ok (.ireturn, 1) := by decide +kernel
theorem dX5_settlingLink_19 : decode cX5_settlingLink 19 = .ok (.iconst 0, 1) := by decide +kernel
theorem dX5_settlingLink_20 : decode cX5_settlingLink 20 = .ok (.istore_n 3, 1) := by decide +kernel
theorem dX5_settlingLink_21 : decode cX5_settlingLink 21 = .ok (.iload_n 3, 1) := by decide +kernel
theorem dX5_settlingLink_22 : decode cX5_settlingLink 22 = .ok (.iconst 2, 1) := by decide +kernel
theorem dX5_settlingLink_23 : decode cX5_settlingLink 23 = .ok (.aload_n 0, 1) := by decide +kernel
theorem dX5_settlingLink_24 : decode cX5_settlingLink 24 = .ok (.getfield 48, 3) := by decide +kernel
theorem dX5_settlingLink_27 : decode cX5_settlingLink 27 = .ok (.imul, 1) := by decide +kernel
theorem dX5_settlingLink_28 : decode cX5_settlingLink 28 = .ok (.if_icmp .ge 37, 3) := by decide +kernel
theorem dX5_settlingLink_31 : decode cX5_settlingLink 31 = .ok (.aload_n 0, 1) := by decide +kernel
theorem dX5_settlingLink_32 : decode cX5_settlingLink 32 = .ok (.getfield 39, 3) := by decide +kernel
theorem dX5_settlingLink_35 : decode cX5_settlingLink 35 = .ok (.iload_n 3, 1) := by decide +kernel
theorem dX5_settlingLink_36 : decode cX5_settlingLink 36 = .ok (.iconst 2, 1) := by decide +kernel
theorem dX5_settlingLink_37 : decode cX5_settlingLink 37 = .ok (.idiv, 1) := by decide +kernel
theorem dX5_settlingLink_38 : decode cX5_settlingLink 38 = .ok (.iaload, 1) := by decide +kernel
theorem dX5_settlingLink_39 : decode cX5_settlingLink 39 = .ok (.iconst 1, 1) := by decide +kernel
theorem dX5_settlingLink_40 : decode cX5_settlingLink 40 = .ok (.iadd, 1) := by decide +kernel
theorem dX5_settlingLink_41 : decode cX5_settlingLink 41 = .ok (.aload_n 0, 1) := by decide +kernel
theorem dX5_settlingLink_42 : decode cX5_settlingLink 42 = .ok (.getfield 61, 3) := by decide +kernel
theorem dX5_settlingLink_45 : decode cX5_settlingLink 45 = .ok (.if_icmp .ne 14, 3) := by decide +kernel
theorem dX5_settlingLink_48 : decode cX5_settlingLink 48 = .ok (.aload_n 0, 1) := by decide +kernel
theorem dX5_settlingLink_49 : decode cX5_settlingLink 49 = .ok (.iload_n 3, 1) := by decide +kernel
theorem dX5_settlingLink_50 : decode cX5_settlingLink 50 = .ok (.iload_n 2, 1) := by decide +kernel
theorem dX5_settlingLink_51 : decode cX5_settlingLink 51 = .ok (.invokevirtual 74, 3) := by decide +kernel
theorem dX5_settlingLink_54 : decode cX5_settlingLink 54 = .ok (.ifCond .ne 5, 3) := by decide +kernel
theorem dX5_settlingLink_57 : decode cX5_settlingLink 57 = .ok (.iload_n 3, 1) := by decide +kernel
theorem dX5_settlingLink_58 : decode cX5_settlingLink 58 = .ok (.ireturn, 1) := by decide +kernel
theorem dX5_settlingLink_59 : decode cX5_settlingLink 59 = .ok (.iinc 3 1, 3) := by decide +kernel
theorem dX5_settlingLink_62 : decode cX5_settlingLink 62 = .ok (.goto (-41), 3) := by decide +kernel
theorem dX5_settlingLink_65 : decode cX5_settlingLink 65 = .ok (.iconst (-1), 1) := by decide +kernel
theorem dX5_settlingLink_66 : decode cX5_settlingLink 66 = .ok (.ireturn, 1) := by decide +kernel
theorem dX6_has_0 : decode cX6_has 0 = .ok (.iload_n 1, 1) := by decide +kernel
theorem dX6_has_1 : decode cX6_has 1 = .ok (.ifCond .lt 15, 3) := by decide +kernel
theorem dX6_has_4 : decode cX6_has 4 = .ok (.iload_n 1, 1) := by decide +kernel
theorem dX6_has_5 : decode cX6_has 5 = .ok (.aload_n 0, 1) := by decide +kernel
theorem dX6_has_6 : decode cX6_has 6 = .ok (.getfield 30, 3) := by decide +kernel
theorem dX6_has_9 : decode cX6_has 9 = .ok (.if_icmp .ge 7, 3) := by decide +kernel
theorem dX6_has_12 : decode cX6_has 12 = .ok (.iconst 1, 1) := by decide +kernel
theorem dX6_has_13 : decode cX6_has 13 = .ok (.goto 4, 3) := by decide +kernel
theorem dX6_has_16 : decode cX6_has 16 = .ok (.iconst 0, 1) := by decide +kernel
theorem dX6_has_17 : decode cX6_has 17 = .ok (.ireturn, 1) := by decide +kernel
theorem dX6_add_0 : decode cX6_add 0 = .ok (.aload_n 0, 1) := by decide +kernel
theorem dX6_add_1 : decode cX6_add 1 = .ok (.getfield 11, 3) := by decide +kernel
theorem dX6_add_4 : decode cX6_add 4 = .ok (.aload_n 0, 1) := by decide +kernel
theorem dX6_add_5 : decode cX6_add 5 = .ok (.getfield 30, 3) := by decide +kernel
theorem dX6_add_8 : decode cX6_add 8 = .ok (.iload_n 1, 1) := by decide +kernel
theorem dX6_add_9 : decode cX6_add 9 = .ok (.iastore, 1) := by decide +kernel
theorem dX6_add_10 : decode cX6_add 10 = .ok (.aload_n 0, 1) := by decide +kernel
theorem dX6_add_11 : decode cX6_add 11 = .ok (.aload_n 0, 1) := by decide +kernel
theorem dX6_add_12 : decode cX6_add 12 = .ok (.getfield 30, 3) := by decide +kernel
theorem dX6_add_15 : decode cX6_add 15 = .ok (.invokevirtual 41, 3) := by decide +kernel
theorem dX6_add_18 : decode cX6_add 18 = .ok (.aload_n 0, 1) := by decide +kernel
theorem dX6_add_19 : decode cX6_add 19 = .ok (.dup, 1) := by decide +kernel
theorem dX6_add_20 : decode cX6_add 20 = .ok (.getfield 30, 3) := by decide +kernel
theorem dX6_add_23 : decode cX6_add 23 = .ok (.dup_x1, 1) := by decide +kernel
theorem dX6_add_24 : decode cX6_add 24 = .ok (.iconst 1, 1) := by decide +kernel
theorem dX6_add_25 : decode cX6_add 25 = .ok (.iadd, 1) := by decide +kernel
theorem dX6_add_26 : decode cX6_add 26 = .ok (.putfield 30, 3) := by decide +kernel
theorem dX6_add_29 : decode cX6_add 29 = .ok (.ireturn, 1) := by decide +kernel
theorem dX6_empty_0 : decode cX6_empty 0 = .ok (.aload_n 0, 1) := by decide +kernel
theorem dX6_empty_1 : decode cX6_empty 1 = .ok (.getfield 15, 3) := by decide +kernel
theorem dX6_empty_4 : decode cX6_empty 4 = .ok (.iload_n 1, 1) := by decide +kernel
theorem dX6_empty_5 : decode cX6_empty 5 = .ok (.iconst (-1), 1) := by decide +kernel
theorem dX6_empty_6 : decode cX6_empty 6 = .ok (.iastore, 1) := by decide +kernel
theorem dX6_empty_7 : decode cX6_empty 7 = .ok (.aload_n 0, 1) := by decide +kernel
theorem dX6_empty_8 : decode cX6_empty 8 = .ok (.getfield 18, 3) := by decide +kernel
theorem dX6_empty_11 : decode cX6_empty 11 = .ok (.iload_n 1, 1) := by decide +kernel
theorem dX6_empty_12 : decode cX6_empty 12 = .ok (.iconst (-1), 1) := by decide +kernel
theorem dX6_empty_13 : decode cX6_empty 13 = .ok (.iastore, 1) := by decide +kernel
theorem dX6_empty_14 : decode cX6_empty 14 = .ok (.aload_n 0, 1) := by decide +kernel
theorem dX6_empty_15 : decode cX6_empty 15 = .ok (.getfield 21, 3) := by decide +kernel
theorem dX6_empty_18 : decode cX6_empty 18 = .ok (.iload_n 1, 1) := by decide +kernel
theorem dX6_empty_19 : decode cX6_empty 19 = .ok (.iconst (-1), 1) := by decide +kernel
theorem dX6_empty_20 : decode cX6_empty 20 = .ok (.iastore, 1) := by decide +kernel
theorem dX6_empty_21 : decode cX6_empty 21 = .ok (.return_, 1) := by decide +kernel
theorem dX6_come_0 : decode cX6_come 0 = .ok (.aload_n 0, 1) := by decide +kernel
theorem dX6_come_1 : decode cX6_come 1 = .ok (.getfield 15, 3) := by decide +kernel
theorem dX6_come_4 : decode cX6_come 4 = .ok (.iload_n 2, 1) := by decide +kernel
theorem dX6_come_5 : decode cX6_come 5 = .ok (.iload_n 1, 1) := by decide +kernel
theorem dX6_come_6 : decode cX6_come 6 = .ok (.iastore, 1) := by decide +kernel
theorem dX6_come_7 : decode cX6_come 7 = .ok (.aload_n 0, 1) := by decide +kernel
theorem dX6_come_8 : decode cX6_come 8 = .ok (.getfield 18, 3) := by decide +kernel
theorem dX6_come_11 : decode cX6_come 11 = .ok (.iload_n 2, 1) := by decide +kernel
theorem dX6_come_12 : decode cX6_come 12 = .ok (.iload_n 3, 1) := by decide +kernel
theorem dX6_come_13 : decode cX6_come 13 = .ok (.iastore, 1) := by decide +kernel
theorem dX6_come_14 : decode cX6_come 14 = .ok (.aload_n 0, 1) := by decide +kernel
theorem dX6_come_15 : decode cX6_come 15 = .ok (.getfield 21, 3) := by decide +kernel
theorem dX6_come_18 : decode cX6_come 18 = .ok (.iload_n 2, 1) := by decide +kernel
theorem dX6_come_19 : decode cX6_come 19 = .ok (.iconst (-1), 1) := by decide +kernel
theorem dX6_come_20 : decode cX6_come 20 = .ok (.iastore, 1) := by decide +kernel
theorem dX6_come_21 : decode cX6_come 21 = .ok (.aload_n 0, 1) := by decide +kernel
theorem dX6_come_22 : decode cX6_come 22 = .ok (.getfield 24, 3) := by decide +kernel
theorem dX6_come_25 : decode cX6_come 25 = .ok (.iload_n 2, 1) := by decide +kernel
theorem dX6_come_26 : decode cX6_come 26 = .ok (.iconst 0, 1) := by decide +kernel
theorem dX6_come_27 : decode cX6_come 27 = .ok (.iastore, 1) := by decide +kernel
theorem dX6_come_28 : decode cX6_come 28 = .ok (.return_, 1) := by decide +kernel
theorem dX6_howManyHeld_0 : decode cX6_howManyHeld 0 = .ok (.iconst 0, 1) := by decide +kernel
theorem dX6_howManyHeld_1 : decode cX6_howManyHeld 1 = .ok (.istore_n 1, 1) := by decide +kernel
theorem dX6_howManyHeld_2 : decode cX6_howManyHeld 2 = .ok (.iconst 0, 1) := by decide +kernel
theorem dX6_howManyHeld_3 : decode cX6_howManyHeld 3 = .ok (.istore_n 2, 1) := by decide +kernel
theorem dX6_howManyHeld_4 : decode cX6_howManyHeld 4 = .ok (.iload_n 2, 1) := by decide +kernel
theorem dX6_howManyHeld_5 : decode cX6_howManyHeld 5 = .ok (.aload_n 0, 1) := by decide +kernel
theorem dX6_howManyHeld_6 : decode cX6_howManyHeld 6 = .ok (.getfield 30, 3) := by decide +kernel
theorem dX6_howManyHeld_9 : decode cX6_howManyHeld 9 = .ok (.if_icmp .ge 27, 3) := by decide +kernel
theorem dX6_howManyHeld_12 : decode cX6_howManyHeld 12 = .ok (.iload_n 1, 1) := by decide +kernel
theorem dX6_howManyHeld_13 : decode cX6_howManyHeld 13 = .ok (.aload_n 0, 1) := by decide +kernel
theorem dX6_howManyHeld_14 : decode cX6_howManyHeld 14 = .ok (.getfield 15, 3) := by decide +kernel
theorem dX6_howManyHeld_17 : decode cX6_howManyHeld 17 = .ok (.iload_n 2, 1) := by decide +kernel
theorem dX6_howManyHeld_18 : decode cX6_howManyHeld 18 = .ok (.iaload, 1) := by decide +kernel
theorem dX6_howManyHeld_19 : decode cX6_howManyHeld 19 = .ok (.iconst (-1), 1) := by decide +kernel
theorem dX6_howManyHeld_20 : decode cX6_howManyHeld 20 = .ok (.if_icmp .ne 7, 3) := by decide +kernel
theorem dX6_howManyHeld_23 : decode cX6_howManyHeld 23 = .ok (.iconst 0, 1) := by decide +kernel
theorem dX6_howManyHeld_24 : decode cX6_howManyHeld 24 = .ok (.goto 4, 3) := by decide +kernel
theorem dX6_howManyHeld_27 : decode cX6_howManyHeld 27 = .ok (.iconst 1, 1) := by decide +kernel
theorem dX6_howManyHeld_28 : decode cX6_howManyHeld 28 = .ok (.iadd, 1) := by decide +kernel
theorem dX6_howManyHeld_29 : decode cX6_howManyHeld 29 = .ok (.istore_n 1, 1) := by decide +kernel
theorem dX6_howManyHeld_30 : decode cX6_howManyHeld 30 = .ok (.iinc 2 1, 3) := by decide +kernel
theorem dX6_howManyHeld_33 : decode cX6_howManyHeld 33 = .ok (.goto (-29), 3) := by decide +kernel
theorem dX6_howManyHeld_36 : decode cX6_howManyHeld 36 = .ok (.iload_n 1, 1) := by decide +kernel
theorem dX6_howManyHeld_37 : decode cX6_howManyHeld 37 = .ok (.ireturn, 1) := by decide +kernel
theorem dX6_holdersOf_0 : decode cX6_holdersOf 0 = .ok (.iconst 0, 1) := by decide +kernel
theorem dX6_holdersOf_1 : decode cX6_holdersOf 1 = .ok (.istore_n 2, 1) := by decide +kernel
theorem dX6_holdersOf_2 : decode cX6_holdersOf 2 = .ok (.iconst 0, 1) := by decide +kernel
theorem dX6_holdersOf_3 : decode cX6_holdersOf 3 = .ok (.istore_n 3, 1) := by decide +kernel
theorem dX6_holdersOf_4 : decode cX6_holdersOf 4 = .ok (.iload_n 3, 1) := by decide +kernel
theorem dX6_holdersOf_5 : decode cX6_holdersOf 5 = .ok (.aload_n 0, 1) := by decide +kernel
theorem dX6_holdersOf_6 : decode cX6_holdersOf 6 = .ok (.getfield 30, 3) := by decide +kernel
theorem dX6_holdersOf_9 : decode cX6_holdersOf 9 = .ok (.if_icmp .ge 40, 3) := by decide +kernel
theorem dX6_holdersOf_12 : decode cX6_holdersOf 12 = .ok (.aload_n 0, 1) := by decide +kernel
theorem dX6_holdersOf_13 : decode cX6_holdersOf 13 = .ok (.getfield 11, 3) := by decide +kernel
theorem dX6_holdersOf_16 : decode cX6_holdersOf 16 = .ok (.iload_n 3, 1) := by decide +kernel
theorem dX6_holdersOf_17 : decode cX6_holdersOf 17 = .ok (.iaload, 1) := by decide +kernel
theorem dX6_holdersOf_18 : decode cX6_holdersOf 18 = .ok (.iload_n 1, 1) := by decide +kernel
theorem dX6_holdersOf_19 : decode cX6_holdersOf 19 = .ok (.if_icmp .ne 24, 3) := by decide +kernel
theorem dX6_holdersOf_22 : decode cX6_holdersOf 22 = .ok (.aload_n 0, 1) := by decide +kernel
theorem dX6_holdersOf_23 : decode cX6_holdersOf 23 = .ok (.getfield 15, 3) := by decide +kernel
theorem dX6_holdersOf_26 : decode cX6_holdersOf 26 = .ok (.iload_n 3, 1) := by decide +kernel
theorem dX6_holdersOf_27 : decode cX6_holdersOf 27 = .ok (.iaload, 1) := by decide +kernel
theorem dX6_holdersOf_28 : decode cX6_holdersOf 28 = .ok (.iconst (-1), 1) := by decide +kernel
theorem dX6_holdersOf_29 : decode cX6_holdersOf 29 = .ok (.if_icmp .eq 14, 3) := by decide +kernel
theorem dX6_holdersOf_32 : decode cX6_holdersOf 32 = .ok (.iload_n 2, 1) := by decide +kernel
theorem dX6_holdersOf_33 : decode cX6_holdersOf 33 = .ok (.iconst 1, 1) := by decide +kernel
theorem dX6_holdersOf_34 : decode cX6_holdersOf 34 = .ok (.aload_n 0, 1) := by decide +kernel
theorem dX6_holdersOf_35 : decode cX6_holdersOf 35 = .ok (.getfield 15, 3) := by decide +kernel
theorem dX6_holdersOf_38 : decode cX6_holdersOf 38 = .ok (.iload_n 3, 1) := by decide +kernel
theorem dX6_holdersOf_39 : decode cX6_holdersOf 39 = .ok (.iaload, 1) := by decide +kernel
theorem dX6_holdersOf_40 : decode cX6_holdersOf 40 = .ok (.ishl, 1) := by decide +kernel
theorem dX6_holdersOf_41 : decode cX6_holdersOf 41 = .ok (.ior, 1) := by decide +kernel
theorem dX6_holdersOf_42 : decode cX6_holdersOf 42 = .ok (.istore_n 2, 1) := by decide +kernel
theorem dX6_holdersOf_43 : decode cX6_holdersOf 43 = .ok (.iinc 3 1, 3) := by decide +kernel
theorem dX6_holdersOf_46 : decode cX6_holdersOf 46 = .ok (.goto (-42), 3) := by decide +kernel
theorem dX6_holdersOf_49 : decode cX6_holdersOf 49 = .ok (.iload_n 2, 1) := by decide +kernel
theorem dX6_holdersOf_50 : decode cX6_holdersOf 50 = .ok (.ireturn, 1) := by decide +kernel
theorem dX6_canTake_0 : decode cX6_canTake 0 = .ok (.aload_n 0, 1) := by decide +kernel
theorem dX6_canTake_1 : decode cX6_canTake 1 = .ok (.iload_n 2, 1) := by decide +kernel
theorem dX6_canTake_2 : decode cX6_canTake 2 = .ok (.invokevirtual 45, 3) := by decide +kernel
theorem dX6_canTake_5 : decode cX6_canTake 5 = .ok (.iload_n 1, 1) := by decide +kernel
theorem dX6_canTake_6 : decode cX6_canTake 6 = .ok (.iushr, 1) := by decide +kernel
theorem dX6_canTake_7 : decode cX6_canTake 7 = .ok (.iconst 1, 1) := by decide +kernel
theorem dX6_canTake_8 : decode cX6_canTake 8 = .ok (.iand, 1) := by decide +kernel
theorem dX6_canTake_9 : decode cX6_canTake 9 = .ok (.ifCond .ne 23, 3) := by decide +kernel
theorem dX6_canTake_12 : decode cX6_canTake 12 = .ok (.aload_n 0, 1) := by decide +kernel
theorem dX6_canTake_13 : decode cX6_canTake 13 = .ok (.getfield 37, 3) := by decide +kernel
theorem dX6_canTake_16 : decode cX6_canTake 16 = .ok (.iload_n 1, 1) := by decide +kernel
theorem dX6_canTake_17 : decode cX6_canTake 17 = .ok (.iload_n 2, 1) := by decide +kernel
theorem dX6_canTake_18 : decode cX6_canTake 18 = .ok (.iload_n 3, 1) := by decide +kernel
theorem dX6_canTake_19 : decode cX6_canTake 19 = .ok (.iload_n 3, 1) := by decide +kernel
theorem dX6_canTake_20 : decode cX6_canTake 20 = .ok (.iconst (-1), 1) := by decide +kernel
theorem dX6_canTake_21 : decode cX6_canTake 21 = .ok (.invokevirtual 49, 3) := by decide +kernel
theorem dX6_canTake_24 : decode cX6_canTake 24 = .ok (.iconst 1, 1) := by decide +kernel
theorem dX6_canTake_25 : decode cX6_canTake 25 = .ok (.if_icmp .ne 7, 3) := by decide +kernel
theorem dX6_canTake_28 : decode cX6_canTake 28 = .ok (.iconst 1, 1) := by decide +kernel
theorem dX6_canTake_29 : decode cX6_canTake 29 = .ok (.goto 4, 3) := by decide +kernel
theorem dX6_canTake_32 : decode cX6_canTake 32 = .ok (.iconst 0, 1) := by decide +kernel
theorem dX6_canTake_33 : decode cX6_canTake 33 = .ok (.ireturn, 1) := by decide +kernel
theorem dX6_endThose_0 : decode cX6_endThose 0 = .ok (.iconst 0, 1) := by decide +kernel
theorem dX6_endThose_1 : decode cX6_endThose 1 = .ok (.istore_n 2, 1) := by decide +kernel
theorem dX6_endThose_2 : decode cX6_endThose 2 = .ok (.iconst 0, 1) := by decide +kernel
theorem dX6_endThose_3 : decode cX6_endThose 3 = .ok (.istore_n 3, 1) := by decide +kernel
theorem dX6_endThose_4 : decode cX6_endThose 4 = .ok (.iload_n 3, 1) := by decide +kernel
theorem dX6_endThose_5 : decode cX6_endThose 5 = .ok (.aload_n 0, 1) := by decide +kernel
theorem dX6_endThose_6 : decode cX6_endThose 6 = .ok (.getfield 30, 3) := by decide +kernel
theorem dX6_endThose_9 : decode cX6_endThose 9 = .ok (.if_icmp .ge 36, 3) := by decide +kernel
theorem dX6_endThose_12 : decode cX6_endThose 12 = .ok (.aload_n 0, 1) := by decide +kernel
theorem dX6_endThose_13 : decode cX6_endThose 13 = .ok (.getfield 15, 3) := by decide +kernel
theorem dX6_endThose_16 : decode cX6_endThose 16 = .ok (.iload_n 3, 1) := by decide +kernel
theorem dX6_endThose_17 : decode cX6_endThose 17 = .ok (.iaload, 1) := by decide +kernel
theorem dX6_endThose_18 : decode cX6_endThose 18 = .ok (.iconst (-1), 1) := by decide +kernel
theorem dX6_endThose_19 : decode cX6_endThose 19 = .ok (.if_icmp .eq 20, 3) := by decide +kernel
theorem dX6_endThose_22 : decode cX6_endThose 22 = .ok (.aload_n 0, 1) := by decide +kernel
theorem dX6_endThose_23 : decode cX6_endThose 23 = .ok (.iload_n 3, 1) := by decide +kernel
theorem dX6_endThose_24 : decode cX6_endThose 24 = .ok (.iload_n 1, 1) := by decide +kernel
theorem dX6_endThose_25 : decode cX6_endThose 25 = .ok (.invokevirtual 55, 3) := by decide +kernel
theorem dX6_endThose_28 : decode cX6_endThose 28 = .ok (.ifCond .eq 11, 3) := by decide +kernel
theorem dX6_endThose_31 : decode cX6_endThose 31 = .ok (.aload_n 0, 1) := by decide +kernel
theorem dX6_endThose_32 : decode cX6_endThose 32 = .ok (.iload_n 3, 1) := by decide +kernel
theorem dX6_endThose_33 : decode cX6_endThose 33 = .ok (.invokevirtual 41, 3) := by decide +kernel
theorem dX6_endThose_36 : decode cX6_endThose 36 = .ok (.iinc 2 1, 3) := by decide +kernel
theorem dX6_endThose_39 : decode cX6_endThose 39 = .ok (.iinc 3 1, 3) := by decide +kernel
theorem dX6_endThose_42 : decode cX6_endThose 42 = .ok (.goto (-38), 3) := by decide +kernel
theorem dX6_endThose_45 : decode cX6_endThose 45 = .ok (.iconst 0, 1) := by decide +kernel
theorem dX6_endThose_46 : decode cX6_endThose 46 = .ok (.istore_n 3, 1) := by decide +kernel
theorem dX6_endThose_47 : decode cX6_endThose 47 = .ok (.iload_n 3, 1) := by decide +kernel
theorem dX6_endThose_48 : decode cX6_endThose 48 = .ok (.aload_n 0, 1) := by decide +kernel
theorem dX6_endThose_49 : decode cX6_endThose 49 = .ok (.getfield 30, 3) := by decide +kernel
theorem dX6_endThose_52 : decode cX6_endThose 52 = .ok (.if_icmp .ge 51, 3) := by decide +kernel
theorem dX6_endThose_55 : decode cX6_endThose 55 = .ok (.aload_n 0, 1) := by decide +kernel
theorem dX6_endThose_56 : decode cX6_endThose 56 = .ok (.getfield 11, 3) := by decide +kernel
theorem dX6_endThose_59 : decode cX6_endThose 59 = .ok (.iload_n 3, 1) := by decide +kernel
theorem dX6_endThose_60 : decode cX6_endThose 60 = .ok (.iaload, 1) := by decide +kernel
theorem dX6_endThose_61 : decode cX6_endThose 61 = .ok (.iconst 1, 1) := by decide +kernel
theorem dX6_endThose_62 : decode cX6_endThose 62 = .ok (.if_icmp .ne 35, 3) := by decide +kernel
theorem dX6_endThose_65 : decode cX6_endThose 65 = .ok (.aload_n 0, 1) := by decide +kernel
theorem dX6_endThose_66 : decode cX6_endThose 66 = .ok (.getfield 15, 3) := by decide +kernel
theorem dX6_endThose_69 : decode cX6_endThose 69 = .ok (.iload_n 3, 1) := by decide +kernel
theorem dX6_endThose_70 : decode cX6_endThose 70 = .ok (.iaload, 1) := by decide +kernel
theorem dX6_endThose_71 : decode cX6_endThose 71 = .ok (.iconst (-1), 1) := by decide +kernel
theorem dX6_endThose_72 : decode cX6_endThose 72 = .ok (.if_icmp .eq 25, 3) := by decide +kernel
theorem dX6_endThose_75 : decode cX6_endThose 75 = .ok (.aload_n 0, 1) := by decide +kernel
theorem dX6_endThose_76 : decode cX6_endThose 76 = .ok (.aload_n 0, 1) := by decide +kernel
theorem dX6_endThose_77 : decode cX6_endThose 77 = .ok (.getfield 15, 3) := by decide +kernel
theorem dX6_endThose_80 : decode cX6_endThose 80 = .ok (.iload_n 3, 1) := by decide +kernel
theorem dX6_endThose_81 : decode cX6_endThose 81 = .ok (.iaload, 1) := by decide +kernel
theorem dX6_endThose_82 : decode cX6_endThose 82 = .ok (.iload_n 1, 1) := by decide +kernel
theorem dX6_endThose_83 : decode cX6_endThose 83 = .ok (.invokevirtual 59, 3) := by decide +kernel
theorem dX6_endThose_86 : decode cX6_endThose 86 = .ok (.ifCond .eq 11, 3) := by decide +kernel
theorem dX6_endThose_89 : decode cX6_endThose 89 = .ok (.aload_n 0, 1) := by decide +kernel
theorem dX6_endThose_90 : decode cX6_endThose 90 = .ok (.iload_n 3, 1) := by decide +kernel
theorem dX6_endThose_91 : decode cX6_endThose 91 = .ok (.invokevirtual 41, 3) := by decide +kernel
theorem dX6_endThose_94 : decode cX6_endThose 94 = .ok (.iinc 2 1, 3) := by decide +kernel
theorem dX6_endThose_97 : decode cX6_endThose 97 = .ok (.iinc 3 1, 3) := by decide +kernel
theorem dX6_endThose_100 : decode cX6_endThose 100 = .ok (.goto (-53), 3) := by decide +kernel
theorem dX6_endThose_103 : decode cX6_endThose 103 = .ok (.iload_n 2, 1) := by decide +kernel
theorem dX6_endThose_104 : decode cX6_endThose 104 = .ok (.ireturn, 1) := by decide +kernel
theorem dX6_isOutOfGrace_0 : decode cX6_isOutOfGrace 0 = .ok (.aload_n 0, 1) := by decide +kernel
theorem dX6_isOutOfGrace_1 : decode cX6_isOutOfGrace 1 = .ok (.getfield 37, 3) := by decide +kernel
theorem dX6_isOutOfGrace_4 : decode cX6_isOutOfGrace 4 = .ok (.aload_n 0, 1) := by decide +kernel
theorem dX6_isOutOfGrace_5 : decode cX6_isOutOfGrace 5 = .ok (.getfield 15, 3) := by decide +kernel
theorem dX6_isOutOfGrace_8 : decode cX6_isOutOfGrace 8 = .ok (.iload_n 1, 1) := by decide +kernel
theorem dX6_isOutOfGrace_9 : decode cX6_isOutOfGrace 9 = .ok (.iaload, 1) := by decide +kernel
theorem dX6_isOutOfGrace_10 : decode cX6_isOutOfGrace 10 = .ok (.aload_n 0, 1) := by decide +kernel
theorem dX6_isOutOfGrace_11 : decode cX6_isOutOfGrace 11 = .ok (.getfield 11, 3) := by decide +kernel
theorem dX6_isOutOfGrace_14 : decode cX6_isOutOfGrace 14 = .ok (.iload_n 1, 1) := by decide +kernel
theorem dX6_isOutOfGrace_15 : decode cX6_isOutOfGrace 15 = .ok (.iaload, 1) := by decide +kernel
theorem dX6_isOutOfGrace_16 : decode cX6_isOutOfGrace 16 = .ok (.iload_n 2, 1) := by decide +kernel
theorem dX6_isOutOfGrace_17 : decode cX6_isOutOfGrace 17 = .ok (.iload_n 2, 1) := by decide +kernel
theorem dX6_isOutOfGrace_18 : decode cX6_isOutOfGrace 18 = .ok (.iconst (-1), 1) := by decide +kernel
theorem dX6_isOutOfGrace_19 : decode cX6_isOutOfGrace 19 = .ok (.invokevirtual 49, 3) := by decide +kernel
theorem dX6_isOutOfGrace_22 : decode cX6_isOutOfGrace 22 = .ok (.iconst 1, 1) := by decide +kernel
theorem dX6_isOutOfGrace_23 : decode cX6_isOutOfGrace 23 = .ok (.if_icmp .ne 12, 3) := by decide +kernel
theorem dX6_isOutOfGrace_26 : decode cX6_isOutOfGrace 26 = .ok (.aload_n 0, 1) := by decide +kernel
theorem dX6_isOutOfGrace_27 : decode cX6_isOutOfGrace 27 = .ok (.getfield 21, 3) := by decide +kernel
theorem dX6_isOutOfGrace_30 : decode cX6_isOutOfGrace 30 = .ok (.iload_n 1, 1) := by decide +kernel
theorem dX6_isOutOfGrace_31 : decode cX6_isOutOfGrace 31 = .ok (.iconst (-1), 1) := by decide +kernel
theorem dX6_isOutOfGrace_32 : decode cX6_isOutOfGrace 32 = .ok (.iastore, 1) := by decide +kernel
theorem dX6_isOutOfGrace_33 : decode cX6_isOutOfGrace 33 = .ok (.iconst 0, 1) := by decide +kernel
theorem dX6_isOutOfGrace_34 : decode cX6_isOutOfGrace 34 = .ok (.ireturn, 1) := by decide +kernel
theorem dX6_isOutOfGrace_35 : decode cX6_isOutOfGrace 35 = .ok (.aload_n 0, 1) := by decide +kernel
theorem dX6_isOutOfGrace_36 : decode cX6_isOutOfGrace 36 = .ok (.getfield 21, 3) := by decide +kernel
theorem dX6_isOutOfGrace_39 : decode cX6_isOutOfGrace 39 = .ok (.iload_n 1, 1) := by decide +kernel
theorem dX6_isOutOfGrace_40 : decode cX6_isOutOfGrace 40 = .ok (.iaload, 1) := by decide +kernel
theorem dX6_isOutOfGrace_41 : decode cX6_isOutOfGrace 41 = .ok (.iconst (-1), 1) := by decide +kernel
theorem dX6_isOutOfGrace_42 : decode cX6_isOutOfGrace 42 = .ok (.if_icmp .ne 10, 3) := by decide +kernel
theorem dX6_isOutOfGrace_45 : decode cX6_isOutOfGrace 45 = .ok (.aload_n 0, 1) := by decide +kernel
theorem dX6_isOutOfGrace_46 : decode cX6_isOutOfGrace 46 = .ok (.getfield 21, 3) := by decide +kernel
theorem dX6_isOutOfGrace_49 : decode cX6_isOutOfGrace 49 = .ok (.iload_n 1, 1) := by decide +kernel
theorem dX6_isOutOfGrace_50 : decode cX6_isOutOfGrace 50 = .ok (.iload_n 2, 1) := by decide +kernel
theorem dX6_isOutOfGrace_51 : decode cX6_isOutOfGrace 51 = .ok (.iastore, 1) := by decide +kernel
theorem dX6_isOutOfGrace_52 : decode cX6_isOutOfGrace 52 = .ok (.iload_n 2, 1) := by decide +kernel
theorem dX6_isOutOfGrace_53 : decode cX6_isOutOfGrace 53 = .ok (.aload_n 0, 1) := by decide +kernel
theorem dX6_isOutOfGrace_54 : decode cX6_isOutOfGrace 54 = .ok (.getfield 21, 3) := by decide +kernel
theorem dX6_isOutOfGrace_57 : decode cX6_isOutOfGrace 57 = .ok (.iload_n 1, 1) := by decide +kernel
theorem dX6_isOutOfGrace_58 : decode cX6_isOutOfGrace 58 = .ok (.iaload, 1) := by decide +kernel
theorem dX6_isOutOfGrace_59 : decode cX6_isOutOfGrace 59 = .ok (.isub, 1) := by decide +kernel
theorem dX6_isOutOfGrace_60 : decode cX6_isOutOfGrace 60 = .ok (.aload_n 0, 1) := by decide +kernel
theorem dX6_isOutOfGrace_61 : decode cX6_isOutOfGrace 61 = .ok (.getfield 34, 3) := by decide +kernel
theorem dX6_isOutOfGrace_64 : decode cX6_isOutOfGrace 64 = .ok (.if_icmp .lt 7, 3) := by decide +kernel
theorem dX6_isOutOfGrace_67 : decode cX6_isOutOfGrace 67 = .ok (.iconst 1, 1) := by decide +kernel
theorem dX6_isOutOfGrace_68 : decode cX6_isOutOfGrace 68 = .ok (.goto 4, 3) := by decide +kernel
theorem dX6_isOutOfGrace_71 : decode cX6_isOutOfGrace 71 = .ok (.iconst 0, 1) := by decide +kernel
theorem dX6_isOutOfGrace_72 : decode cX6_isOutOfGrace 72 = .ok (.ireturn, 1) := by decide +kernel
theorem dX6_hasSettledLiving_0 : decode cX6_hasSettledLiving 0 = .ok (.iconst 0, 1) := by decide +kernel
theorem dX6_hasSettledLiving_1 : decode cX6_hasSettledLiving 1 = .ok (.istore_n 3, 1) := by decide +kernel
theorem dX6_hasSettledLiving_2 : decode cX6_hasSettledLiving 2 = .ok (.iload_n 3, 1) := by decide +kernel
theorem dX6_hasSettledLiving_3 : decode cX6_hasSettledLiving 3 = .ok (.aload_n 0, 1) := by decide +kernel
theorem dX6_hasSettledLiving_4 : decode cX6_hasSettledLiving 4 = .ok (.getfield 30, 3) := by decide +kernel
theorem dX6_hasSettledLiving_7 : decode cX6_hasSettledLiving 7 = .ok (.if_icmp .ge 46, 3) := by decide +kernel
theorem dX6_hasSettledLiving_10 : decode cX6_hasSettledLiving 10 = .ok (.aload_n 0, 1) := by decide +kernel
theorem dX6_hasSettledLiving_11 : decode cX6_hasSettledLiving 11 = .ok (.getfield 11, 3) := by decide +kernel
theorem dX6_hasSettledLiving_14 : decode cX6_hasSettledLiving 14 = .ok (.iload_n 3, 1) := by decide +kernel
theorem dX6_hasSettledLiving_15 : decode cX6_hasSettledLiving 15 = .ok (.iaload, 1) := by decide +kernel
theorem dX6_hasSettledLiving_16 : decode cX6_hasSettledLiving 16 = .ok (.iconst 3, 1) := by decide +kernel
theorem dX6_hasSettledLiving_17 : decode cX6_hasSettledLiving 17 = .ok (.if_icmp .ne 30, 3) := by decide +kernel
theorem dX6_hasSettledLiving_20 : decode cX6_hasSettledLiving 20 = .ok (.aload_n 0, 1) := by decide +kernel
theorem dX6_hasSettledLiving_21 : decode cX6_hasSettledLiving 21 = .ok (.getfield 15, 3) := by decide +kernel
theorem dX6_hasSettledLiving_24 : decode cX6_hasSettledLiving 24 = .ok (.iload_n 3, 1) := by decide +kernel
theorem dX6_hasSettledLiving_25 : decode cX6_hasSettledLiving 25 = .ok (.iaload, 1) := by decide +kernel
theorem dX6_hasSettledLiving_26 : decode cX6_hasSettledLiving 26 = .ok (.iload_n 1, 1) := by decide +kernel
theorem dX6_hasSettledLiving_27 : decode cX6_hasSettledLiving 27 = .ok (.if_icmp .ne 20, 3) := by decide +kernel
theorem dX6_hasSettledLiving_30 : decode cX6_hasSettledLiving 30 = .ok (.iload_n 2, 1) := by decide +kernel
theorem dX6_hasSettledLiving_31 : decode cX6_hasSettledLiving 31 = .ok (.aload_n 0, 1) := by decide +kernel
theorem dX6_hasSettledLiving_32 : decode cX6_hasSettledLiving 32 = .ok (.getfield 18, 3) := by decide +kernel
theorem dX6_hasSettledLiving_35 : decode cX6_hasSettledLiving 35 = .ok (.iload_n 3, 1) := by decide +kernel
theorem dX6_hasSettledLiving_36 : decode cX6_hasSettledLiving 36 = .ok (.iaload, 1) := by decide +kernel
theorem dX6_hasSettledLiving_37 : decode cX6_hasSettledLiving 37 = .ok (.isub, 1) := by decide +kernel
theorem dX6_hasSettledLiving_38 : decode cX6_hasSettledLiving 38 = .ok (.aload_n 0, 1) := by decide +kernel
theorem dX6_hasSettledLiving_39 : decode cX6_hasSettledLiving 39 = .ok (.getfield 34, 3) := by decide +kernel
theorem dX6_hasSettledLiving_42 : decode cX6_hasSettledLiving 42 = .ok (.if_icmp .lt 5, 3) := by decide +kernel
theorem dX6_hasSettledLiving_45 : decode cX6_hasSettledLiving 45 = .ok (.iconst 1, 1) := by decide +kernel
theorem dX6_hasSettledLiving_46 : decode cX6_hasSettledLiving 46 = .ok (.ireturn, 1) := by decide +kernel
theorem dX6_hasSettledLiving_47 : decode cX6_hasSettledLiving 47 = .ok (.iinc 3 1, 3) := by decide +kernel
theorem dX6_hasSettledLiving_50 : decode cX6_hasSettledLiving 50 = .ok (.goto (-48), 3) := by decide +kernel
theorem dX6_hasSettledLiving_53 : decode cX6_hasSettledLiving 53 = .ok (.iconst 0, 1) := by decide +kernel
theorem dX6_hasSettledLiving_54 : decode cX6_hasSettledLiving 54 = .ok (.ireturn, 1) := by decide +kernel
theorem dX6_lineUpFellows_0 : decode cX6_lineUpFellows 0 = .ok (.iconst 0, 1) := by decide +kernel
theorem dX6_lineUpFellows_1 : decode cX6_lineUpFellows 1 = .ok (.istore_n 1, 1) := by decide +kernel
theorem dX6_lineUpFellows_2 : decode cX6_lineUpFellows 2 = .ok (.iconst 0, 1) := by decide +kernel
theorem dX6_lineUpFellows_3 : decode cX6_lineUpFellows 3 = .ok (.istore_n 2, 1) := by decide +kernel
theorem dX6_lineUpFellows_4 : decode cX6_lineUpFellows 4 = .ok (.iload_n 2, 1) := by decide +kernel
theorem dX6_lineUpFellows_5 : decode cX6_lineUpFellows 5 = .ok (.aload_n 0, 1) := by decide +kernel
theorem dX6_lineUpFellows_6 : decode cX6_lineUpFellows 6 = .ok (.getfield 30, 3) := by decide +kernel
theorem dX6_lineUpFellows_9 : decode cX6_lineUpFellows 9 = .ok (.if_icmp .ge 81, 3) := by decide +kernel
theorem dX6_lineUpFellows_12 : decode cX6_lineUpFellows 12 = .ok (.aload_n 0, 1) := by decide +kernel
theorem dX6_lineUpFellows_13 : decode cX6_lineUpFellows 13 = .ok (.getfield 11, 3) := by decide +kernel
theorem dX6_lineUpFellows_16 : decode cX6_lineUpFellows 16 = .ok (.iload_n 2, 1) := by decide +kernel
theorem dX6_lineUpFellows_17 : decode cX6_lineUpFellows 17 = .ok (.iaload, 1) := by decide +kernel
theorem dX6_lineUpFellows_18 : decode cX6_lineUpFellows 18 = .ok (.iconst 1, 1) := by decide +kernel
theorem dX6_lineUpFellows_19 : decode cX6_lineUpFellows 19 = .ok (.if_icmp .ne 65, 3) := by decide +kernel
theorem dX6_lineUpFellows_22 : decode cX6_lineUpFellows 22 = .ok (.aload_n 0, 1) := by decide +kernel
theorem dX6_lineUpFellows_23 : decode cX6_lineUpFellows 23 = .ok (.getfield 15, 3) := by decide +kernel
theorem dX6_lineUpFellows_26 : decode cX6_lineUpFellows 26 = .ok (.iload_n 2, 1) := by decide +kernel
theorem dX6_lineUpFellows_27 : decode cX6_lineUpFellows 27 = .ok (.iaload, 1) := by decide +kernel
theorem dX6_lineUpFellows_28 : decode cX6_lineUpFellows 28 = .ok (.iconst (-1), 1) := by decide +kernel
theorem dX6_lineUpFellows_29 : decode cX6_lineUpFellows 29 = .ok (.if_icmp .eq 55, 3) := by decide +kernel
theorem dX6_lineUpFellows_32 : decode cX6_lineUpFellows 32 = .ok (.iload_n 1, 1) := by decide +kernel
theorem dX6_lineUpFellows_33 : decode cX6_lineUpFellows 33 = .ok (.iinc 1 1, 3) := by decide +kernel
theorem dX6_lineUpFellows_36 : decode cX6_lineUpFellows 36 = .ok (.istore_n 3, 1) := by decide +kernel
theorem dX6_lineUpFellows_37 : decode cX6_lineUpFellows 37 = .ok (.iload_n 3, 1) := by decide +kernel
theorem dX6_lineUpFellows_38 : decode cX6_lineUpFellows 38 = .ok (.ifCond .le 39, 3) := by decide +kernel
theorem dX6_lineUpFellows_41 : decode cX6_lineUpFellows 41 = .ok (.aload_n 0, 1) := by decide +kernel
theorem dX6_lineUpFellows_42 : decode cX6_lineUpFellows 42 = .ok (.iload_n 2, 1) := by decide +kernel
theorem dX6_lineUpFellows_43 : decode cX6_lineUpFellows 43 = .ok (.aload_n 0, 1) := by decide +kernel
theorem dX6_lineUpFellows_44 : decode cX6_lineUpFellows 44 = .ok (.getfield 27, 3) := by decide +kernel
theorem dX6_lineUpFellows_47 : decode cX6_lineUpFellows 47 = .ok (.iload_n 3, 1) := by decide +kernel
theorem dX6_lineUpFellows_48 : decode cX6_lineUpFellows 48 = .ok (.iconst 1, 1) := by decide +kernel
theorem dX6_lineUpFellows_49 : decode cX6_lineUpFellows 49 = .ok (.isub, 1) := by decide +kernel
theorem dX6_lineUpFellows_50 : decode cX6_lineUpFellows 50 = .ok (.iaload, 1) := by decide +kernel
theorem dX6_lineUpFellows_51 : decode cX6_lineUpFellows 51 = .ok (.invokevirtual 62, 3) := by decide +kernel
theorem dX6_lineUpFellows_54 : decode cX6_lineUpFellows 54 = .ok (.ifCond .eq 23, 3) := by decide +kernel
theorem dX6_lineUpFellows_57 : decode cX6_lineUpFellows 57 = .ok (.aload_n 0, 1) := by decide +kernel
theorem dX6_lineUpFellows_58 : decode cX6_lineUpFellows 58 = .ok (.getfield 27, 3) := by decide +kernel
theorem dX6_lineUpFellows_61 : decode cX6_lineUpFellows 61 = .ok (.iload_n 3, 1) := by decide +kernel
theorem dX6_lineUpFellows_62 : decode cX6_lineUpFellows 62 = .ok (.aload_n 0, 1) := by decide +kernel
theorem dX6_lineUpFellows_63 : decode cX6_lineUpFellows 63 = .ok (.getfield 27, 3) := by decide +kernel
theorem dX6_lineUpFellows_66 : decode cX6_lineUpFellows 66 = .ok (.iload_n 3, 1) := by decide +kernel
theorem dX6_lineUpFellows_67 : decode cX6_lineUpFellows 67 = .ok (.iconst 1, 1) := by decide +kernel
theorem dX6_lineUpFellows_68 : decode cX6_lineUpFellows 68 = .ok (.isub, 1) := by decide +kernel
theorem dX6_lineUpFellows_69 : decode cX6_lineUpFellows 69 = .ok (.iaload, 1) := by decide +kernel
theorem dX6_lineUpFellows_70 : decode cX6_lineUpFellows 70 = .ok (.iastore, 1) := by decide +kernel
theorem dX6_lineUpFellows_71 : decode cX6_lineUpFellows 71 = .ok (.iinc 3 (-1), 3) := by decide +kernel
theorem dX6_lineUpFellows_74 : decode cX6_lineUpFellows 74 = .ok (.goto (-37), 3) := by decide +kernel
theorem dX6_lineUpFellows_77 : decode cX6_lineUpFellows 77 = .ok (.aload_n 0, 1) := by decide +kernel
theorem dX6_lineUpFellows_78 : decode cX6_lineUpFellows 78 = .ok (.getfield 27, 3) := by decide +kernel
theorem dX6_lineUpFellows_81 : decode cX6_lineUpFellows 81 = .ok (.iload_n 3, 1) := by decide +kernel
theorem dX6_lineUpFellows_82 : decode cX6_lineUpFellows 82 = .ok (.iload_n 2, 1) := by decide +kernel
theorem dX6_lineUpFellows_83 : decode cX6_lineUpFellows 83 = .ok (.iastore, 1) := by decide +kernel
theorem dX6_lineUpFellows_84 : decode cX6_lineUpFellows 84 = .ok (.iinc 2 1, 3) := by decide +kernel
theorem dX6_lineUpFellows_87 : decode cX6_lineUpFellows 87 = .ok (.goto (-83), 3) := by decide +kernel
theorem dX6_lineUpFellows_90 : decode cX6_lineUpFellows 90 = .ok (.iload_n 1, 1) := by decide +kernel
theorem dX6_lineUpFellows_91 : decode cX6_lineUpFellows 91 = .ok (.ireturn, 1) := by decide +kernel
theorem dX6_isSenior_0 : decode cX6_isSenior 0 = .ok (.aload_n 0, 1) := by decide +kernel
theorem dX6_isSenior_1 : decode cX6_isSenior 1 = .ok (.getfield 18, 3) := by decide +kernel
theorem dX6_isSenior_4 : decode cX6_isSenior 4 = .ok (.iload_n 1, 1) := by decide +kernel
theorem dX6_isSenior_5 : decode cX6_isSenior 5 = .ok (.iaload, 1) := by decide +kernel
theorem dX6_isSenior_6 : decode cX6_isSenior 6 = .ok (.aload_n 0, 1) := by decide +kernel
theorem dX6_isSenior_7 : decode cX6_isSenior 7 = .ok (.getfield 18, 3) := by decide +kernel
theorem dX6_isSenior_10 : decode cX6_isSenior 10 = .ok (.iload_n 2, 1) := by decide +kernel
theorem dX6_isSenior_11 : decode cX6_isSenior 11 = .ok (.iaload, 1) := by decide +kernel
theorem dX6_isSenior_12 : decode cX6_isSenior 12 = .ok (.if_icmp .eq 24, 3) := by decide +kernel
theorem dX6_isSenior_15 : decode cX6_isSenior 15 = .ok (.aload_n 0, 1) := by decide +kernel
theorem dX6_isSenior_16 : decode cX6_isSenior 16 = .ok (.getfield 18, 3) := by decide +kernel
theorem dX6_isSenior_19 : decode cX6_isSenior 19 = .ok (.iload_n 1, 1) := by decide +kernel
theorem dX6_isSenior_20 : decode cX6_isSenior 20 = .ok (.iaload, 1) := by decide +kernel
theorem dX6_isSenior_21 : decode cX6_isSenior 21 = .ok (.aload_n 0, 1) := by decide +kernel
theorem dX6_isSenior_22 : decode cX6_isSenior 22 = .ok (.getfield 18, 3) := by decide +kernel
theorem dX6_isSenior_25 : decode cX6_isSenior 25 = .ok (.iload_n 2, 1) := by decide +kernel
theorem dX6_isSenior_26 : decode cX6_isSenior 26 = .ok (.iaload, 1) := by decide +kernel
theorem dX6_isSenior_27 : decode cX6_isSenior 27 = .ok (.if_icmp .ge 7, 3) := by decide +kernel
theorem dX6_isSenior_30 : decode cX6_isSenior 30 = .ok (.iconst 1, 1) := by decide +kernel
theorem dX6_isSenior_31 : decode cX6_isSenior 31 = .ok (.goto 4, 3) := by decide +kernel
theorem dX6_isSenior_34 : decode cX6_isSenior 34 = .ok (.iconst 0, 1) := by decide +kernel
theorem dX6_isSenior_35 : decode cX6_isSenior 35 = .ok (.ireturn, 1) := by decide +kernel
theorem dX6_isSenior_36 : decode cX6_isSenior 36 = .ok (.aload_n 0, 1) := by decide +kernel
theorem dX6_isSenior_37 : decode cX6_isSenior 37 = .ok (.getfield 15, 3) := by decide +kernel
theorem dX6_isSenior_40 : decode cX6_isSenior 40 = .ok (.iload_n 1, 1) := by decide +kernel
theorem dX6_isSenior_41 : decode cX6_isSenior 41 = .ok (.iaload, 1) := by decide +kernel
theorem dX6_isSenior_42 : decode cX6_isSenior 42 = .ok (.aload_n 0, 1) := by decide +kernel
theorem dX6_isSenior_43 : decode cX6_isSenior 43 = .ok (.getfield 15, 3) := by decide +kernel
theorem dX6_isSenior_46 : decode cX6_isSenior 46 = .ok (.iload_n 2, 1) := by decide +kernel
theorem dX6_isSenior_47 : decode cX6_isSenior 47 = .ok (.iaload, 1) := by decide +kernel
theorem dX6_isSenior_48 : decode cX6_isSenior 48 = .ok (.if_icmp .ge 7, 3) := by decide +kernel
theorem dX6_isSenior_51 : decode cX6_isSenior 51 = .ok (.iconst 1, 1) := by decide +kernel
theorem dX6_isSenior_52 : decode cX6_isSenior 52 = .ok (.goto 4, 3) := by decide +kernel
theorem dX6_isSenior_55 : decode cX6_isSenior 55 = .ok (.iconst 0, 1) := by decide +kernel
theorem dX6_isSenior_56 : decode cX6_isSenior 56 = .ok (.ireturn, 1) := by decide +kernel
theorem dX6_nextFor_0 : decode cX6_nextFor 0 = .ok (.aload_n 0, 1) := by decide +kernel
theorem dX6_nextFor_1 : decode cX6_nextFor 1 = .ok (.getfield 11, 3) := by decide +kernel
theorem dX6_nextFor_4 : decode cX6_nextFor 4 = .ok (.iload_n 1, 1) := by decide +kernel
theorem dX6_nextFor_5 : decode cX6_nextFor 5 = .ok (.iaload, 1) := by decide +kernel
theorem dX6_nextFor_6 : decode cX6_nextFor 6 = .ok (.iconst 3, 1) := by decide +kernel
theorem dX6_nextFor_7 : decode cX6_nextFor 7 = .ok (.if_icmp .ne 13, 3) := by decide +kernel
theorem dX6_nextFor_10 : decode cX6_nextFor 10 = .ok (.aload_n 0, 1) := by decide +kernel
theorem dX6_nextFor_11 : decode cX6_nextFor 11 = .ok (.getfield 15, 3) := by decide +kernel
theorem dX6_nextFor_14 : decode cX6_nextFor 14 = .ok (.iload_n 1, 1) := by decide +kernel
theorem dX6_nextFor_15 : decode cX6_nextFor 15 = .ok (.iaload, 1) := by decide +kernel
theorem dX6_nextFor_16 : decode cX6_nextFor 16 = .ok (.iconst (-1), 1) := by decide +kernel
theorem dX6_nextFor_17 : decode cX6_nextFor 17 = .ok (.if_icmp .eq 5, 3) := by decide +kernel
theorem dX6_nextFor_20 : decode cX6_nextFor 20 = .ok (.iconst (-1), 1) := by decide +kernel
theorem dX6_nextFor_21 : decode cX6_nextFor 21 = .ok (.ireturn, 1) := by decide +kernel
theorem dX6_nextFor_22 : decode cX6_nextFor 22 = .ok (.aload_n 0, 1) := by decide +kernel
theorem dX6_nextFor_23 : decode cX6_nextFor 23 = .ok (.invokevirtual 65, 3) := by decide +kernel
theorem dX6_nextFor_26 : decode cX6_nextFor 26 = .ok (.istore_n 3, 1) := by decide +kernel
theorem dX6_nextFor_27 : decode cX6_nextFor 27 = .ok (.iconst 0, 1) := by decide +kernel
theorem dX6_nextFor_28 : decode cX6_nextFor 28 = .ok (.istore 4, 2) := by decide +kernel
theorem dX6_nextFor_30 : decode cX6_nextFor 30 = .ok (.iload 4, 2) := by decide +kernel
theorem dX6_nextFor_32 : decode cX6_nextFor 32 = .ok (.iload_n 3, 1) := by decide +kernel
theorem dX6_nextFor_33 : decode cX6_nextFor 33 = .ok (.if_icmp .ge 51, 3) := by decide +kernel
theorem dX6_nextFor_36 : decode cX6_nextFor 36 = .ok (.aload_n 0, 1) := by decide +kernel
theorem dX6_nextFor_37 : decode cX6_nextFor 37 = .ok (.getfield 15, 3) := by decide +kernel
theorem dX6_nextFor_40 : decode cX6_nextFor 40 = .ok (.aload_n 0, 1) := by decide +kernel
theorem dX6_nextFor_41 : decode cX6_nextFor 41 = .ok (.getfield 27, 3) := by decide +kernel
theorem dX6_nextFor_44 : decode cX6_nextFor 44 = .ok (.iload 4, 2) := by decide +kernel
theorem dX6_nextFor_46 : decode cX6_nextFor 46 = .ok (.iaload, 1) := by decide +kernel
theorem dX6_nextFor_47 : decode cX6_nextFor 47 = .ok (.iaload, 1) := by decide +kernel
theorem dX6_nextFor_48 : decode cX6_nextFor 48 = .ok (.istore 5, 2) := by decide +kernel
theorem dX6_nextFor_50 : decode cX6_nextFor 50 = .ok (.aload_n 0, 1) := by decide +kernel
theorem dX6_nextFor_51 : decode cX6_nextFor 51 = .ok (.getfield 24, 3) := by decide +kernel
theorem dX6_nextFor_54 : decode cX6_nextFor 54 = .ok (.iload_n 1, 1) := by decide +kernel
theorem dX6_nextFor_55 : decode cX6_nextFor 55 = .ok (.iaload, 1) := by decide +kernel
theorem dX6_nextFor_56 : decode cX6_nextFor 56 = .ok (.iload 5, 2) := by decide +kernel
theorem dX6_nextFor_58 : decode cX6_nextFor 58 = .ok (.iushr, 1) := by decide +kernel
theorem dX6_nextFor_59 : decode cX6_nextFor 59 = .ok (.iconst 1, 1) := by decide +kernel
theorem dX6_nextFor_60 : decode cX6_nextFor 60 = .ok (.iand, 1) := by decide +kernel
theorem dX6_nextFor_61 : decode cX6_nextFor 61 = .ok (.ifCond .ne 17, 3) := by decide +kernel
theorem dX6_nextFor_64 : decode cX6_nextFor 64 = .ok (.aload_n 0, 1) := by decide +kernel
theorem dX6_nextFor_65 : decode cX6_nextFor 65 = .ok (.iload 5, 2) := by decide +kernel
theorem dX6_nextFor_67 : decode cX6_nextFor 67 = .ok (.iconst 3, 1) := by decide +kernel
theorem dX6_nextFor_68 : decode cX6_nextFor 68 = .ok (.iload_n 2, 1) := by decide +kernel
theorem dX6_nextFor_69 : decode cX6_nextFor 69 = .ok (.invokevirtual 69, 3) := by decide +kernel
theorem dX6_nextFor_72 : decode cX6_nextFor 72 = .ok (.ifCond .eq 6, 3) := by decide +kernel
theorem dX6_nextFor_75 : decode cX6_nextFor 75 = .ok (.iload 5, 2) := by decide +kernel
theorem dX6_nextFor_77 : decode cX6_nextFor 77 = .ok (.ireturn, 1) := by decide +kernel
theorem dX6_nextFor_78 : decode cX6_nextFor 78 = .ok (.iinc 4 1, 3) := by decide +kernel
theorem dX6_nextFor_81 : decode cX6_nextFor 81 = .ok (.goto (-51), 3) := by decide +kernel
theorem dX6_nextFor_84 : decode cX6_nextFor 84 = .ok (.iconst (-1), 1) := by decide +kernel
theorem dX6_nextFor_85 : decode cX6_nextFor 85 = .ok (.ireturn, 1) := by decide +kernel
theorem dX7_addRoof_0 : decode cX7_addRoof 0 = .ok (.aload_n 0, 1) := by decide +kernel
theorem dX7_addRoof_1 : decode cX7_addRoof 1 = .ok (.getfield 11, 3) := by decide +kernel
theorem dX7_addRoof_4 : decode cX7_addRoof 4 = .ok (.aload_n 0, 1) := by decide +kernel
theorem dX7_addRoof_5 : decode cX7_addRoof 5 = .ok (.getfield 35, 3) := by decide +kernel
theorem dX7_addRoof_8 : decode cX7_addRoof 8 = .ok (.iload_n 1, 1) := by decide +kernel
theorem dX7_addRoof_9 : decode cX7_addRoof 9 = .ok (.iastore, 1) := by decide +kernel
theorem dX7_addRoof_10 : decode cX7_addRoof 10 = .ok (.aload_n 0, 1) := by decide +kernel
theorem dX7_addRoof_11 : decode cX7_addRoof 11 = .ok (.getfield 15, 3) := by decide +kernel
theorem dX7_addRoof_14 : decode cX7_addRoof 14 = .ok (.aload_n 0, 1) := by decide +kernel
theorem dX7_addRoof_15 : decode cX7_addRoof 15 = .ok (.getfield 35, 3) := by decide +kernel
theorem dX7_addRoof_18 : decode cX7_addRoof 18 = .ok (.iload_n 2, 1) := by decide +kernel
theorem dX7_addRoof_19 : decode cX7_addRoof 19 = .ok (.iastore, 1) := by decide +kernel
theorem dX7_addRoof_20 : decode cX7_addRoof 20 = .ok (.aload_n 0, 1) := by decide +kernel
theorem dX7_addRoof_21 : decode cX7_addRoof 21 = .ok (.dup, 1) := by decide +kernel
theorem dX7_addRoof_22 : decode cX7_addRoof 22 = .ok (.getfield 35, 3) := by decide +kernel
theorem dX7_addRoof_25 : decode cX7_addRoof 25 = .ok (.dup_x1, 1) := by decide +kernel
theorem dX7_addRoof_26 : decode cX7_addRoof 26 = .ok (.iconst 1, 1) := by decide +kernel
theorem dX7_addRoof_27 : decode cX7_addRoof 27 = .ok (.iadd, 1) := by decide +kernel
theorem dX7_addRoof_28 : decode cX7_addRoof 28 = .ok (.putfield 35, 3) := by decide +kernel
theorem dX7_addRoof_31 : decode cX7_addRoof 31 = .ok (.ireturn, 1) := by decide +kernel
theorem dX7_told_0 : decode cX7_told 0 = .ok (.aload_n 0, 1) := by decide +kernel
theorem dX7_told_1 : decode cX7_told 1 = .ok (.getfield 48, 3) := by decide +kernel
theorem dX7_told_4 : decode cX7_told 4 = .ok (.iconst (-1), 1) := by decide +kernel
theorem dX7_told_5 : decode cX7_told 5 = .ok (.if_icmp .eq 20, 3) := by decide +kernel
theorem dX7_told_8 : decode cX7_told 8 = .ok (.aload_n 0, 1) := by decide +kernel
theorem dX7_told_9 : decode cX7_told 9 = .ok (.getfield 32, 3) := by decide +kernel
theorem dX7_told_12 : decode cX7_told 12 = .ok (.iload_n 1, 1) := by decide +kernel
theorem dX7_told_13 : decode cX7_told 13 = .ok (.iaload, 1) := by decide +kernel
theorem dX7_told_14 : decode cX7_told 14 = .ok (.aload_n 0, 1) := by decide +kernel
theorem dX7_told_15 : decode cX7_told 15 = .ok (.getfield 48, 3) := by decide +kernel
theorem dX7_told_18 : decode cX7_told 18 = .ok (.if_icmp .ne 11, 3) := by decide +kernel
theorem dX7_told_21 : decode cX7_told 21 = .ok (.iload_n 1, 1) := by decide +kernel
theorem dX7_told_22 : decode cX7_told 22 = .ok (.ifCond .le 7, 3) := by decide +kernel
theorem dX7_told_25 : decode cX7_told 25 = .ok (.iconst (-1), 1) := by decide +kernel
theorem dX7_told_26 : decode cX7_told 26 = .ok (.goto 9, 3) := by decide +kernel
theorem dX7_told_29 : decode cX7_told 29 = .ok (.aload_n 0, 1) := by decide +kernel
theorem dX7_told_30 : decode cX7_told 30 = .ok (.getfield 32, 3) := by decide +kernel
theorem dX7_told_33 : decode cX7_told 33 = .ok (.iload_n 1, 1) := by decide +kernel
theorem dX7_told_34 : decode cX7_told 34 = .ok (.iaload, 1) := by decide +kernel
theorem dX7_told_35 : decode cX7_told 35 = .ok (.ireturn, 1) := by decide +kernel
theorem dX7_prepare_0 : decode cX7_prepare 0 = .ok (.aload_n 0, 1) := by decide +kernel
theorem dX7_prepare_1 : decode cX7_prepare 1 = .ok (.iload_n 2, 1) := by decide +kernel
theorem dX7_prepare_2 : decode cX7_prepare 2 = .ok (.putfield 39, 3) := by decide +kernel
theorem dX7_prepare_5 : decode cX7_prepare 5 = .ok (.aload_n 0, 1) := by decide +kernel
theorem dX7_prepare_6 : decode cX7_prepare 6 = .ok (.iconst 0, 1) := by decide +kernel
theorem dX7_prepare_7 : decode cX7_prepare 7 = .ok (.putfield 42, 3) := by decide +kernel
theorem dX7_prepare_10 : decode cX7_prepare 10 = .ok (.aload_n 0, 1) := by decide +kernel
theorem dX7_prepare_11 : decode cX7_prepare 11 = .ok (.getfield 18, 3) := by decide +kernel
theorem dX7_prepare_14 : decode cX7_prepare 14 = .ok (.iload_n 3, 1) := by decide +kernel
theorem dX7_prepare_15 : decode cX7_prepare 15 = .ok (.ineg, 1) := by decide +kernel
theorem dX7_prepare_16 : decode cX7_prepare 16 = .ok (.invokestatic 59, 3) := by decide +kernel
theorem dX7_prepare_19 : decode cX7_prepare 19 = .ok (.aload_n 0, 1) := by decide +kernel
theorem dX7_prepare_20 : decode cX7_prepare 20 = .ok (.getfield 23, 3) := by decide +kernel
theorem dX7_prepare_23 : decode cX7_prepare 23 = .ok (.iconst 0, 1) := by decide +kernel
theorem dX7_prepare_24 : decode cX7_prepare 24 = .ok (.invokestatic 59, 3) := by decide +kernel
theorem dX7_prepare_27 : decode cX7_prepare 27 = .ok (.aload_n 0, 1) := by decide +kernel
theorem dX7_prepare_28 : decode cX7_prepare 28 = .ok (.getfield 18, 3) := by decide +kernel
theorem dX7_prepare_31 : decode cX7_prepare 31 = .ok (.iconst 0, 1) := by decide +kernel
theorem dX7_prepare_32 : decode cX7_prepare 32 = .ok (.dup2, 1) := by decide +kernel
theorem dX7_prepare_33 : decode cX7_prepare 33 = .ok (.iaload, 1) := by decide +kernel
theorem dX7_prepare_34 : decode cX7_prepare 34 = .ok (.aload_n 0, 1) := by decide +kernel
theorem dX7_prepare_35 : decode cX7_prepare 35 = .ok (.getfield 55, 3) := by decide +kernel
theorem dX7_prepare_38 : decode cX7_prepare 38 = .ok (.getfield 65, 3) := by decide +kernel
theorem dX7_prepare_41 : decode cX7_prepare 41 = .ok (.iadd, 1) := by decide +kernel
theorem dX7_prepare_42 : decode cX7_prepare 42 = .ok (.iastore, 1) := by decide +kernel
theorem dX7_prepare_43 : decode cX7_prepare 43 = .ok (.aload_n 0, 1) := by decide +kernel
theorem dX7_prepare_44 : decode cX7_prepare 44 = .ok (.getfield 55, 3) := by decide +kernel
theorem dX7_prepare_47 : decode cX7_prepare 47 = .ok (.getfield 70, 3) := by decide +kernel
theorem dX7_prepare_50 : decode cX7_prepare 50 = .ok (.iload_n 1, 1) := by decide +kernel
theorem dX7_prepare_51 : decode cX7_prepare 51 = .ok (.if_icmp .ne 7, 3) := by decide +kernel
theorem dX7_prepare_54 : decode cX7_prepare 54 = .ok (.iconst 1, 1) := by decide +kernel
theorem dX7_prepare_55 : decode cX7_prepare 55 = .ok (.goto 4, 3) := by decide +kernel
theorem dX7_prepare_58 : decode cX7_prepare 58 = .ok (.iconst 0, 1) := by decide +kernel
theorem dX7_prepare_59 : decode cX7_prepare 59 = .ok (.istore 4, 2) := by decide +kernel
theorem dX7_prepare_61 : decode cX7_prepare 61 = .ok (.iconst 0, 1) := by decide +kernel
theorem dX7_prepare_62 : decode cX7_prepare 62 = .ok (.istore 5, 2) := by decide +kernel
theorem dX7_prepare_64 : decode cX7_prepare 64 = .ok (.iload 5, 2) := by decide +kernel
theorem dX7_prepare_66 : decode cX7_prepare 66 = .ok (.aload_n 0, 1) := by decide +kernel
theorem dX7_prepare_67 : decode cX7_prepare 67 = .ok (.getfield 51, 3) := by decide +kernel
theorem dX7_prepare_70 : decode cX7_prepare 70 = .ok (.getfield 73, 3) := by decide +kernel
theorem dX7_prepare_73 : decode cX7_prepare 73 = .ok (.if_icmp .ge 112, 3) := by decide +kernel
theorem dX7_prepare_76 : decode cX7_prepare 76 = .ok (.aload_n 0, 1) := by decide +kernel
theorem dX7_prepare_77 : decode cX7_prepare 77 = .ok (.getfield 51, 3) := by decide +kernel
theorem dX7_prepare_80 : decode cX7_prepare 80 = .ok (.iload 5, 2) := by decide +kernel
theorem dX7_prepare_82 : decode cX7_prepare 82 = .ok (.invokevirtual 76, 3) := by decide +kernel
theorem dX7_prepare_85 : decode cX7_prepare 85 = .ok (.iload_n 1, 1) := by decide +kernel
theorem dX7_prepare_86 : decode cX7_prepare 86 = .ok (.isub, 1) := by decide +kernel
theorem dX7_prepare_87 : decode cX7_prepare 87 = .ok (.istore 6, 2) := by decide +kernel
theorem dX7_prepare_89 : decode cX7_prepare 89 = .ok (.iload 4, 2) := by decide +kernel
theorem dX7_prepare_91 : decode cX7_prepare 91 = .ok (.istore 7, 2) := by decide +kernel
theorem dX7_prepare_93 : decode cX7_prepare 93 = .ok (.iload 7, 2) := by decide +kernel
theorem dX7_prepare_95 : decode cX7_prepare 95 = .ok (.aload_n 0, 1) := by decide +kernel
theorem dX7_prepare_96 : decode cX7_prepare 96 = .ok (.getfield 39, 3) := by decide +kernel
theorem dX7_prepare_99 : decode cX7_prepare 99 = .ok (.if_icmp .ge 32, 3) := by decide +kernel
theorem dX7_prepare_102 : decode cX7_prepare 102 = .ok (.aload_n 0, 1) := by decide +kernel
theorem dX7_prepare_103 : decode cX7_prepare 103 = .ok (.getfield 18, 3) := by decide +kernel
theorem dX7_prepare_106 : decode cX7_prepare 106 = .ok (.iload 7, 2) := by decide +kernel
theorem dX7_prepare_108 : decode cX7_prepare 108 = .ok (.dup2, 1) := by decide +kernel
theorem dX7_prepare_109 : decode cX7_prepare 109 = .ok (.iaload, 1) := by decide +kernel
theorem dX7_prepare_110 : decode cX7_prepare 110 = .ok (.aload_n 0, 1) := by decide +kernel
theorem dX7_prepare_111 : decode cX7_prepare 111 = .ok (.getfield 51, 3) := by decide +kernel
theorem dX7_prepare_114 : decode cX7_prepare 114 = .ok (.iload 5, 2) := by decide +kernel
theorem dX7_prepare_116 : decode cX7_prepare 116 = .ok (.iload_n 1, 1) := by decide +kernel
theorem dX7_prepare_117 : decode cX7_prepare 117 = .ok (.iload 7, 2) := by decide +kernel
theorem dX7_prepare_119 : decode cX7_prepare 119 = .ok (.iadd, 1) := by decide +kernel
theorem dX7_prepare_120 : decode cX7_prepare 120 = .ok (.invokevirtual 80, 3) := by decide +kernel
theorem dX7_prepare_123 : decode cX7_prepare 123 = .ok (.iadd, 1) := by decide +kernel
theorem dX7_prepare_124 : decode cX7_prepare 124 = .ok (.iastore, 1) := by decide +kernel
theorem dX7_prepare_125 : decode cX7_prepare 125 = .ok (.iinc 7 1, 3) := by decide +kernel
theorem dX7_prepare_128 : decode cX7_prepare 128 = .ok (.goto (-35), 3) := by decide +kernel
theorem dX7_prepare_131 : decode cX7_prepare 131 = .ok (.aload_n 0, 1) := by decide +kernel
theorem dX7_prepare_132 : decode cX7_prepare 132 = .ok (.getfield 51, 3) := by decide +kernel
theorem dX7_prepare_135 : decode cX7_prepare 135 = .ok (.iload 5, 2) := by decide +kernel
theorem dX7_prepare_137 : decode cX7_prepare 137 = .ok (.invokevirtual 84, 3) := by decide +kernel
theorem dX7_prepare_140 : decode cX7_prepare 140 = .ok (.ifCond .ne 39, 3) := by decide +kernel
theorem dX7_prepare_143 : decode cX7_prepare 143 = .ok (.iload 6, 2) := by decide +kernel
theorem dX7_prepare_145 : decode cX7_prepare 145 = .ok (.ifCond .lt 34, 3) := by decide +kernel
theorem dX7_prepare_148 : decode cX7_prepare 148 = .ok (.iload 6, 2) := by decide +kernel
theorem dX7_prepare_150 : decode cX7_prepare 150 = .ok (.aload_n 0, 1) := by decide +kernel
theorem dX7_prepare_151 : decode cX7_prepare 151 = .ok (.getfield 39, 3) := by decide +kernel
theorem dX7_prepare_154 : decode cX7_prepare 154 = .ok (.if_icmp .ge 25, 3) := by decide +kernel
theorem dX7_prepare_157 : decode cX7_prepare 157 = .ok (.aload_n 0, 1) := by decide +kernel
theorem dX7_prepare_158 : decode cX7_prepare 158 = .ok (.dup, 1) := by decide +kernel
theorem dX7_prepare_159 : decode cX7_prepare 159 = .ok (.getfield 42, 3) := by decide +kernel
theorem dX7_prepare_162 : decode cX7_prepare 162 = .ok (.iconst 1, 1) := by decide +kernel
theorem dX7_prepare_163 : decode cX7_prepare 163 = .ok (.iload 5, 2) := by decide +kernel
theorem dX7_prepare_165 : decode cX7_prepare 165 = .ok (.ishl, 1) := by decide +kernel
theorem dX7_prepare_166 : decode cX7_prepare 166 = .ok (.ior, 1) := by decide +kernel
theorem dX7_prepare_167 : decode cX7_prepare 167 = .ok (.putfield 42, 3) := by decide +kernel
theorem dX7_prepare_170 : decode cX7_prepare 170 = .ok (.aload_n 0, 1) := by decide +kernel
theorem dX7_prepare_171 : decode cX7_prepare 171 = .ok (.iload 5, 2) := by decide +kernel
theorem dX7_prepare_173 : decode cX7_prepare 173 = .ok (.iload_n 1, 1) := by decide +kernel
theorem dX7_prepare_174 : decode cX7_prepare 174 = .ok (.iload 6, 2) := by decide +kernel
theorem dX7_prepare_176 : decode cX7_prepare 176 = .ok (.invokevirtual 88, 3) := by decide +kernel
theorem dX7_prepare_179 : decode cX7_prepare 179 = .ok (.iinc 5 1, 3) := by decide +kernel
theorem dX7_prepare_182 : decode cX7_prepare 182 = .ok (.goto (-118), 3) := by decide +kernel
theorem dX7_prepare_185 : decode cX7_prepare 185 = .ok (.return_, 1) := by decide +kernel
theorem dX7_gainByRenewing_0 : decode cX7_gainByRenewing 0 = .ok (.bipush 10, 2) := by decide +kernel
theorem dX7_gainByRenewing_2 : decode cX7_gainByRenewing 2 = .ok (.iload_n 1, 1) := by decide +kernel
theorem dX7_gainByRenewing_3 : decode cX7_gainByRenewing 3 = .ok (.imul, 1) := by decide +kernel
theorem dX7_gainByRenewing_4 : decode cX7_gainByRenewing 4 = .ok (.istore 4, 2) := by decide +kernel
theorem dX7_gainByRenewing_6 : decode cX7_gainByRenewing 6 = .ok (.aload_n 0, 1) := by decide +kernel
theorem dX7_gainByRenewing_7 : decode cX7_gainByRenewing 7 = .ok (.getfield 23, 3) := by decide +kernel
theorem dX7_gainByRenewing_10 : decode cX7_gainByRenewing 10 = .ok (.iload 4, 2) := by decide +kernel
theorem dX7_gainByRenewing_12 : decode cX7_gainByRenewing 12 = .ok (.iload_n 3, 1) := by decide +kernel
theorem dX7_gainByRenewing_13 : decode cX7_gainByRenewing 13 = .ok (.iadd, 1) := by decide +kernel
theorem dX7_gainByRenewing_14 : decode cX7_gainByRenewing 14 = .ok (.aload_n 0, 1) := by decide +kernel
theorem dX7_gainByRenewing_15 : decode cX7_gainByRenewing 15 = .ok (.getfield 51, 3) := by decide +kernel
theorem dX7_gainByRenewing_18 : decode cX7_gainByRenewing 18 = .ok (.iload_n 1, 1) := by decide +kernel
theorem dX7_gainByRenewing_19 : decode cX7_gainByRenewing 19 = .ok (.iconst 0, 1) := by decide +kernel
theorem dX7_gainByRenewing_20 : decode cX7_gainByRenewing 20 = .ok (.invokevirtual 92, 3) := by decide +kernel
theorem dX7_gainByRenewing_23 : decode cX7_gainByRenewing 23 = .ok (.iastore, 1) := by decide +kernel
theorem dX7_gainByRenewing_24 : decode cX7_gainByRenewing 24 = .ok (.iload_n 3, 1) := by decide +kernel
theorem dX7_gainByRenewing_25 : decode cX7_gainByRenewing 25 = .ok (.iconst 1, 1) := by decide +kernel
theorem dX7_gainByRenewing_26 : decode cX7_gainByRenewing 26 = .ok (.iadd, 1) := by decide +kernel
theorem dX7_gainByRenewing_27 : decode cX7_gainByRenewing 27 = .ok (.istore 5, 2) := by decide +kernel
theorem dX7_gainByRenewing_29 : decode cX7_gainByRenewing 29 = .ok (.iload 5, 2) := by decide +kernel
theorem dX7_gainByRenewing_31 : decode cX7_gainByRenewing 31 = .ok (.aload_n 0, 1) := by decide +kernel
theorem dX7_gainByRenewing_32 : decode cX7_gainByRenewing 32 = .ok (.getfield 39, 3) := by decide +kernel
theorem dX7_gainByRenewing_35 : decode cX7_gainByRenewing 35 = .ok (.if_icmp .ge 41, 3) := by decide +kernel
theorem dX7_gainByRenewing_38 : decode cX7_gainByRenewing 38 = .ok (.aload_n 0, 1) := by decide +kernel
theorem dX7_gainByRenewing_39 : decode cX7_gainByRenewing 39 = .ok (.getfield 23, 3) := by decide +kernel
theorem dX7_gainByRenewing_42 : decode cX7_gainByRenewing 42 = .ok (.iload 4, 2) := by decide +kernel
theorem dX7_gainByRenewing_44 : decode cX7_gainByRenewing 44 = .ok (.iload 5, 2) := by decide +kernel
theorem dX7_gainByRenewing_46 : decode cX7_gainByRenewing 46 = .ok (.iadd, 1) := by decide +kernel
theorem dX7_gainByRenewing_47 : decode cX7_gainByRenewing 47 = .ok (.aload_n 0, 1) := by decide +kernel
theorem dX7_gainByRenewing_48 : decode cX7_gainByRenewing 48 = .ok (.getfield 51, 3) := by decide +kernel
theorem dX7_gainByRenewing_51 : decode cX7_gainByRenewing 51 = .ok (.iload_n 1, 1) := by decide +kernel
theorem dX7_gainByRenewing_52 : decode cX7_gainByRenewing 52 = .ok (.iload_n 2, 1) := by decide +kernel
theorem dX7_gainByRenewing_53 : decode cX7_gainByRenewing 53 = .ok (.iload 5, 2) := by decide +kernel
theorem dX7_gainByRenewing_55 : decode cX7_gainByRenewing 55 = .ok (.iadd, 1) := by decide +kernel
theorem dX7_gainByRenewing_56 : decode cX7_gainByRenewing 56 = .ok (.invokevirtual 95, 3) := by decide +kernel
theorem dX7_gainByRenewing_59 : decode cX7_gainByRenewing 59 = .ok (.aload_n 0, 1) := by decide +kernel
theorem dX7_gainByRenewing_60 : decode cX7_gainByRenewing 60 = .ok (.getfield 51, 3) := by decide +kernel
theorem dX7_gainByRenewing_63 : decode cX7_gainByRenewing 63 = .ok (.getfield 98, 3) := by decide +kernel
theorem dX7_gainByRenewing_66 : decode cX7_gainByRenewing 66 = .ok (.iload_n 1, 1) := by decide +kernel
theorem dX7_gainByRenewing_67 : decode cX7_gainByRenewing 67 = .ok (.iaload, 1) := by decide +kernel
theorem dX7_gainByRenewing_68 : decode cX7_gainByRenewing 68 = .ok (.isub, 1) := by decide +kernel
theorem dX7_gainByRenewing_69 : decode cX7_gainByRenewing 69 = .ok (.iastore, 1) := by decide +kernel
theorem dX7_gainByRenewing_70 : decode cX7_gainByRenewing 70 = .ok (.iinc 5 1, 3) := by decide +kernel
theorem dX7_gainByRenewing_73 : decode cX7_gainByRenewing 73 = .ok (.goto (-44), 3) := by decide +kernel
theorem dX7_gainByRenewing_76 : decode cX7_gainByRenewing 76 = .ok (.return_, 1) := by decide +kernel
theorem dX7_settle_0 : decode cX7_settle 0 = .ok (.iconst 0, 1) := by decide +kernel
theorem dX7_settle_1 : decode cX7_settle 1 = .ok (.istore_n 2, 1) := by decide +kernel
theorem dX7_settle_2 : decode cX7_settle 2 = .ok (.iconst 0, 1) := by decide +kernel
theorem dX7_settle_3 : decode cX7_settle 3 = .ok (.istore_n 3, 1) := by decide +kernel
theorem dX7_settle_4 : decode cX7_settle 4 = .ok (.iload_n 3, 1) := by decide +kernel
theorem dX7_settle_5 : decode cX7_settle 5 = .ok (.aload_n 0, 1) := by decide +kernel
theorem dX7_settle_6 : decode cX7_settle 6 = .ok (.getfield 39, 3) := by decide +kernel
theorem dX7_settle_9 : decode cX7_settle 9 = .ok (.if_icmp .ge 68, 3) := by decide +kernel
theorem dX7_settle_12 : decode cX7_settle 12 = .ok (.iload_n 2, 1) := by decide +kernel
theorem dX7_settle_13 : decode cX7_settle 13 = .ok (.aload_n 0, 1) := by decide +kernel
theorem dX7_settle_14 : decode cX7_settle 14 = .ok (.getfield 18, 3) := by decide +kernel
theorem dX7_settle_17 : decode cX7_settle 17 = .ok (.iload_n 3, 1) := by decide +kernel
theorem dX7_settle_18 : decode cX7_settle 18 = .ok (.iaload, 1) := by decide +kernel
theorem dX7_settle_19 : decode cX7_settle 19 = .ok (.iadd, 1) := by decide +kernel
theorem dX7_settle_20 : decode cX7_settle 20 = .ok (.istore_n 2, 1) := by decide +kernel
theorem dX7_settle_21 : decode cX7_settle 21 = .ok (.iconst 0, 1) := by decide +kernel
theorem dX7_settle_22 : decode cX7_settle 22 = .ok (.istore 4, 2) := by decide +kernel
theorem dX7_settle_24 : decode cX7_settle 24 = .ok (.iload 4, 2) := by decide +kernel
theorem dX7_settle_26 : decode cX7_settle 26 = .ok (.aload_n 0, 1) := by decide +kernel
theorem dX7_settle_27 : decode cX7_settle 27 = .ok (.getfield 51, 3) := by decide +kernel
theorem dX7_settle_30 : decode cX7_settle 30 = .ok (.getfield 73, 3) := by decide +kernel
theorem dX7_settle_33 : decode cX7_settle 33 = .ok (.if_icmp .ge 31, 3) := by decide +kernel
theorem dX7_settle_36 : decode cX7_settle 36 = .ok (.iload_n 2, 1) := by decide +kernel
theorem dX7_settle_37 : decode cX7_settle 37 = .ok (.iload_n 1, 1) := by decide +kernel
theorem dX7_settle_38 : decode cX7_settle 38 = .ok (.iload 4, 2) := by decide +kernel
theorem dX7_settle_40 : decode cX7_settle 40 = .ok (.iushr, 1) := by decide +kernel
theorem dX7_settle_41 : decode cX7_settle 41 = .ok (.iconst 1, 1) := by decide +kernel
theorem dX7_settle_42 : decode cX7_settle 42 = .ok (.iand, 1) := by decide +kernel
theorem dX7_settle_43 : decode cX7_settle 43 = .ok (.aload_n 0, 1) := by decide +kernel
theorem dX7_settle_44 : decode cX7_settle 44 = .ok (.getfield 23, 3) := by decide +kernel
theorem dX7_settle_47 : decode cX7_settle 47 = .ok (.bipush 10, 2) := by decide +kernel
theorem dX7_settle_49 : decode cX7_settle 49 = .ok (.iload 4, 2) := by decide +kernel
theorem dX7_settle_51 : decode cX7_settle 51 = .ok (.imul, 1) := by decide +kernel
theorem dX7_settle_52 : decode cX7_settle 52 = .ok (.iload_n 3, 1) := by decide +kernel
theorem dX7_settle_53 : decode cX7_settle 53 = .ok (.iadd, 1) := by decide +kernel
theorem dX7_settle_54 : decode cX7_settle 54 = .ok (.iaload, 1) := by decide +kernel
theorem dX7_settle_55 : decode cX7_settle 55 = .ok (.imul, 1) := by decide +kernel
theorem dX7_settle_56 : decode cX7_settle 56 = .ok (.iadd, 1) := by decide +kernel
theorem dX7_settle_57 : decode cX7_settle 57 = .ok (.istore_n 2, 1) := by decide +kernel
theorem dX7_settle_58 : decode cX7_settle 58 = .ok (.iinc 4 1, 3) := by decide +kernel
theorem dX7_settle_61 : decode cX7_settle 61 = .ok (.goto (-37), 3) := by decide +kernel
theorem dX7_settle_64 : decode cX7_settle 64 = .ok (.aload_n 0, 1) := by decide +kernel
theorem dX7_settle_65 : decode cX7_settle 65 = .ok (.getfield 26, 3) := by decide +kernel
theorem dX7_settle_68 : decode cX7_settle 68 = .ok (.iload_n 3, 1) := by decide +kernel
theorem dX7_settle_69 : decode cX7_settle 69 = .ok (.iload_n 2, 1) := by decide +kernel
theorem dX7_settle_70 : decode cX7_settle 70 = .ok (.iastore, 1) := by decide +kernel
theorem dX7_settle_71 : decode cX7_settle 71 = .ok (.iinc 3 1, 3) := by decide +kernel
theorem dX7_settle_74 : decode cX7_settle 74 = .ok (.goto (-70), 3) := by decide +kernel
theorem dX7_settle_77 : decode cX7_settle 77 = .ok (.aload_n 0, 1) := by decide +kernel
theorem dX7_settle_78 : decode cX7_settle 78 = .ok (.getfield 29, 3) := by decide +kernel
theorem dX7_settle_81 : decode cX7_settle 81 = .ok (.aload_n 0, 1) := by decide +kernel
theorem dX7_settle_82 : decode cX7_settle 82 = .ok (.getfield 39, 3) := by decide +kernel
theorem dX7_settle_85 : decode cX7_settle 85 = .ok (.ldc 101, 2) := by decide +kernel
theorem dX7_settle_87 : decode cX7_settle 87 = .ok (.iastore, 1) := by decide +kernel
theorem dX7_settle_88 : decode cX7_settle 88 = .ok (.aload_n 0, 1) := by decide +kernel
theorem dX7_settle_89 : decode cX7_settle 89 = .ok (.getfield 39, 3) := by decide +kernel
theorem dX7_settle_92 : decode cX7_settle 92 = .ok (.iconst 1, 1) := by decide +kernel
theorem dX7_settle_93 : decode cX7_settle 93 = .ok (.isub, 1) := by decide +kernel
theorem dX7_settle_94 : decode cX7_settle 94 = .ok (.istore_n 3, 1) := by decide +kernel
theorem dX7_settle_95 : decode cX7_settle 95 = .ok (.iload_n 3, 1) := by decide +kernel
theorem dX7_settle_96 : decode cX7_settle 96 = .ok (.ifCond .lt 32, 3) := by decide +kernel
theorem dX7_settle_99 : decode cX7_settle 99 = .ok (.aload_n 0, 1) := by decide +kernel
theorem dX7_settle_100 : decode cX7_settle 100 = .ok (.getfield 29, 3) := by decide +kernel
theorem dX7_settle_103 : decode cX7_settle 103 = .ok (.iload_n 3, 1) := by decide +kernel
theorem dX7_settle_104 : decode cX7_settle 104 = .ok (.aload_n 0, 1) := by decide +kernel
theorem dX7_settle_105 : decode cX7_settle 105 = .ok (.getfield 26, 3) := by decide +kernel
theorem dX7_settle_108 : decode cX7_settle 108 = .ok (.iload_n 3, 1) := by decide +kernel
theorem dX7_settle_109 : decode cX7_settle 109 = .ok (.iaload, 1) := by decide +kernel
theorem dX7_settle_110 : decode cX7_settle 110 = .ok (.aload_n 0, 1) := by decide +kernel
theorem dX7_settle_111 : decode cX7_settle 111 = .ok (.getfield 29, 3) := by decide +kernel
theorem dX7_settle_114 : decode cX7_settle 114 = .ok (.iload_n 3, 1) := by decide +kernel
theorem dX7_settle_115 : decode cX7_settle 115 = .ok (.iconst 1, 1) := by decide +kernel
theorem dX7_settle_116 : decode cX7_settle 116 = .ok (.iadd, 1) := by decide +kernel
theorem dX7_settle_117 : decode cX7_settle 117 = .ok (.iaload, 1) := by decide +kernel
theorem dX7_settle_118 : decode cX7_settle 118 = .ok (.invokestatic 102, 3) := by decide +kernel
theorem dX7_settle_121 : decode cX7_settle 121 = .ok (.iastore, 1) := by decide +kernel
theorem dX7_settle_122 : decode cX7_settle 122 = .ok (.iinc 3 (-1), 3) := by decide +kernel
theorem dX7_settle_125 : decode cX7_settle 125 = .ok (.goto (-30), 3) := by decide +kernel
theorem dX7_settle_128 : decode cX7_settle 128 = .ok (.return_, 1) := by decide +kernel
theorem dX7_findBest_0 : decode cX7_findBest 0 = .ok (.aload_n 0, 1) := by decide +kernel
theorem dX7_findBest_1 : decode cX7_findBest 1 = .ok (.iconst (-1), 1) := by decide +kernel
theorem dX7_findBest_2 : decode cX7_findBest 2 = .ok (.putfield 45, 3) := by decide +kernel
theorem dX7_findBest_5 : decode cX7_findBest 5 = .ok (.iconst 0, 1) := by decide +kernel
theorem dX7_findBest_6 : decode cX7_findBest 6 = .ok (.istore_n 2, 1) := by decide +kernel
theorem dX7_findBest_7 : decode cX7_findBest 7 = .ok (.iload_n 2, 1) := by decide +kernel
theorem dX7_findBest_8 : decode cX7_findBest 8 = .ok (.iconst 1, 1) := by decide +kernel
theorem dX7_findBest_9 : decode cX7_findBest 9 = .ok (.aload_n 0, 1) := by decide +kernel
theorem dX7_findBest_10 : decode cX7_findBest 10 = .ok (.getfield 51, 3) := by decide +kernel
theorem dX7_findBest_13 : decode cX7_findBest 13 = .ok (.getfield 73, 3) := by decide +kernel
theorem dX7_findBest_16 : decode cX7_findBest 16 = .ok (.ishl, 1) := by decide +kernel
theorem dX7_findBest_17 : decode cX7_findBest 17 = .ok (.if_icmp .ge 41, 3) := by decide +kernel
theorem dX7_findBest_20 : decode cX7_findBest 20 = .ok (.iload_n 2, 1) := by decide +kernel
theorem dX7_findBest_21 : decode cX7_findBest 21 = .ok (.aload_n 0, 1) := by decide +kernel
theorem dX7_findBest_22 : decode cX7_findBest 22 = .ok (.getfield 42, 3) := by decide +kernel
theorem dX7_findBest_25 : decode cX7_findBest 25 = .ok (.iconst (-1), 1) := by decide +kernel
theorem dX7_findBest_26 : decode cX7_findBest 26 = .ok (.ixor, 1) := by decide +kernel
theorem dX7_findBest_27 : decode cX7_findBest 27 = .ok (.iand, 1) := by decide +kernel
theorem dX7_findBest_28 : decode cX7_findBest 28 = .ok (.ifCond .ne 24, 3) := by decide +kernel
theorem dX7_findBest_31 : decode cX7_findBest 31 = .ok (.aload_n 0, 1) := by decide +kernel
theorem dX7_findBest_32 : decode cX7_findBest 32 = .ok (.iload_n 2, 1) := by decide +kernel
theorem dX7_findBest_33 : decode cX7_findBest 33 = .ok (.invokevirtual 107, 3) := by decide +kernel
theorem dX7_findBest_36 : decode cX7_findBest 36 = .ok (.aload_n 0, 1) := by decide +kernel
theorem dX7_findBest_37 : decode cX7_findBest 37 = .ok (.getfield 29, 3) := by decide +kernel
theorem dX7_findBest_40 : decode cX7_findBest 40 = .ok (.iconst 0, 1) := by decide +kernel
theorem dX7_findBest_41 : decode cX7_findBest 41 = .ok (.iaload, 1) := by decide +kernel
theorem dX7_findBest_42 : decode cX7_findBest 42 = .ok (.iload_n 1, 1) := by decide +kernel
theorem dX7_findBest_43 : decode cX7_findBest 43 = .ok (.if_icmp .lt 9, 3) := by decide +kernel
theorem dX7_findBest_46 : decode cX7_findBest 46 = .ok (.aload_n 0, 1) := by decide +kernel
theorem dX7_findBest_47 : decode cX7_findBest 47 = .ok (.iload_n 2, 1) := by decide +kernel
theorem dX7_findBest_48 : decode cX7_findBest 48 = .ok (.iload_n 1, 1) := by decide +kernel
theorem dX7_findBest_49 : decode cX7_findBest 49 = .ok (.invokevirtual 111, 3) := by decide +kernel
theorem dX7_findBest_52 : decode cX7_findBest 52 = .ok (.iinc 2 1, 3) := by decide +kernel
theorem dX7_findBest_55 : decode cX7_findBest 55 = .ok (.goto (-48), 3) := by decide +kernel
theorem dX7_findBest_58 : decode cX7_findBest 58 = .ok (.aload_n 0, 1) := by decide +kernel
theorem dX7_findBest_59 : decode cX7_findBest 59 = .ok (.getfield 45, 3) := by decide +kernel
theorem dX7_findBest_62 : decode cX7_findBest 62 = .ok (.ireturn, 1) := by decide +kernel
theorem dX7_mendBest_0 : decode cX7_mendBest 0 = .ok (.aload_n 0, 1) := by decide +kernel
theorem dX7_mendBest_1 : decode cX7_mendBest 1 = .ok (.getfield 35, 3) := by decide +kernel
theorem dX7_mendBest_4 : decode cX7_mendBest 4 = .ok (.ifCond .le 7, 3) := by decide +kernel
theorem dX7_mendBest_7 : decode cX7_mendBest 7 = .ok (.iconst 0, 1) := by decide +kernel
theorem dX7_mendBest_8 : decode cX7_mendBest 8 = .ok (.goto 7, 3) := by decide +kernel
theorem dX7_mendBest_11 : decode cX7_mendBest 11 = .ok (.aload_n 0, 1) := by decide +kernel
theorem dX7_mendBest_12 : decode cX7_mendBest 12 = .ok (.getfield 39, 3) := by decide +kernel
theorem dX7_mendBest_15 : decode cX7_mendBest 15 = .ok (.istore_n 3, 1) := by decide +kernel
theorem dX7_mendBest_16 : decode cX7_mendBest 16 = .ok (.iload_n 3, 1) := by decide +kernel
theorem dX7_mendBest_17 : decode cX7_mendBest 17 = .ok (.aload_n 0, 1) := by decide +kernel
theorem dX7_mendBest_18 : decode cX7_mendBest 18 = .ok (.getfield 39, 3) := by decide +kernel
theorem dX7_mendBest_21 : decode cX7_mendBest 21 = .ok (.if_icmp .gt 176, 3) := by decide +kernel
theorem dX7_mendBest_24 : decode cX7_mendBest 24 = .ok (.aload_n 0, 1) := by decide +kernel
theorem dX7_mendBest_25 : decode cX7_mendBest 25 = .ok (.getfield 29, 3) := by decide +kernel
theorem dX7_mendBest_28 : decode cX7_mendBest 28 = .ok (.iload_n 3, 1) := by decide +kernel
theorem dX7_mendBest_29 : decode cX7_mendBest 29 = .ok (.iaload, 1) := by decide +kernel
theorem dX7_mendBest_30 : decode cX7_mendBest 30 = .ok (.aload_n 0, 1) := by decide +kernel
theorem dX7_mendBest_31 : decode cX7_mendBest 31 = .ok (.getfield 11, 3) := by decide +kernel
theorem dX7_mendBest_34 : decode cX7_mendBest 34 = .ok (.iconst 0, 1) := by decide +kernel
theorem dX7_mendBest_35 : decode cX7_mendBest 35 = .ok (.iaload, 1) := by decide +kernel
theorem dX7_mendBest_36 : decode cX7_mendBest 36 = .ok (.isub, 1) := by decide +kernel
theorem dX7_mendBest_37 : decode cX7_mendBest 37 = .ok (.iload_n 2, 1) := by decide +kernel
theorem dX7_mendBest_38 : decode cX7_mendBest 38 = .ok (.if_icmp .ge 6, 3) := by decide +kernel
theorem dX7_mendBest_41 : decode cX7_mendBest 41 = .ok (.goto 150, 3) := by decide +kernel
theorem dX7_mendBest_44 : decode cX7_mendBest 44 = .ok (.aload_n 0, 1) := by decide +kernel
theorem dX7_mendBest_45 : decode cX7_mendBest 45 = .ok (.getfield 35, 3) := by decide +kernel
theorem dX7_mendBest_48 : decode cX7_mendBest 48 = .ok (.iconst 1, 1) := by decide +kernel
theorem dX7_mendBest_49 : decode cX7_mendBest 49 = .ok (.if_icmp .le 7, 3) := by decide +kernel
theorem dX7_mendBest_52 : decode cX7_mendBest 52 = .ok (.iconst 0, 1) := by decide +kernel
theorem dX7_mendBest_53 : decode cX7_mendBest 53 = .ok (.goto 7, 3) := by decide +kernel
theorem dX7_mendBest_56 : decode cX7_mendBest 56 = .ok (.aload_n 0, 1) := by decide +kernel
theorem dX7_mendBest_57 : decode cX7_mendBest 57 = .ok (.getfield 39, 3) := by decide +kernel
theorem dX7_mendBest_60 : decode cX7_mendBest 60 = .ok (.istore 4, 2) := by decide +kernel
theorem dX7_mendBest_62 : decode cX7_mendBest 62 = .ok (.iload 4, 2) := by decide +kernel
theorem dX7_mendBest_64 : decode cX7_mendBest 64 = .ok (.aload_n 0, 1) := by decide +kernel
theorem dX7_mendBest_65 : decode cX7_mendBest 65 = .ok (.getfield 39, 3) := by decide +kernel
theorem dX7_mendBest_68 : decode cX7_mendBest 68 = .ok (.if_icmp .gt 123, 3) := by decide +kernel
theorem dX7_mendBest_71 : decode cX7_mendBest 71 = .ok (.aload_n 0, 1) := by decide +kernel
theorem dX7_mendBest_72 : decode cX7_mendBest 72 = .ok (.getfield 29, 3) := by decide +kernel
theorem dX7_mendBest_75 : decode cX7_mendBest 75 = .ok (.iload 4, 2) := by decide +kernel
theorem dX7_mendBest_77 : decode cX7_mendBest 77 = .ok (.iaload, 1) := by decide +kernel
theorem dX7_mendBest_78 : decode cX7_mendBest 78 = .ok (.aload_n 0, 1) := by decide +kernel
theorem dX7_mendBest_79 : decode cX7_mendBest 79 = .ok (.getfield 11, 3) := by decide +kernel
theorem dX7_mendBest_82 : decode cX7_mendBest 82 = .ok (.iconst 1, 1) := by decide +kernel
theorem dX7_mendBest_83 : decode cX7_mendBest 83 = .ok (.iaload, 1) := by decide +kernel
theorem dX7_mendBest_84 : decode cX7_mendBest 84 = .ok (.isub, 1) := by decide +kernel
theorem dX7_mendBest_85 : decode cX7_mendBest 85 = .ok (.iload_n 2, 1) := by decide +kernel
theorem dX7_mendBest_86 : decode cX7_mendBest 86 = .ok (.if_icmp .lt 36, 3) := by decide +kernel
theorem dX7_mendBest_89 : decode cX7_mendBest 89 = .ok (.aload_n 0, 1) := by decide +kernel
theorem dX7_mendBest_90 : decode cX7_mendBest 90 = .ok (.getfield 29, 3) := by decide +kernel
theorem dX7_mendBest_93 : decode cX7_mendBest 93 = .ok (.iload_n 3, 1) := by decide +kernel
theorem dX7_mendBest_94 : decode cX7_mendBest 94 = .ok (.iload 4, 2) := by decide +kernel
theorem dX7_mendBest_96 : decode cX7_mendBest 96 = .ok (.invokestatic 115, 3) := by decide +kernel
theorem dX7_mendBest_99 : decode cX7_mendBest 99 = .ok (.iaload, 1) := by decide +kernel
theorem dX7_mendBest_100 : decode cX7_mendBest 100 = .ok (.aload_n 0, 1) := by decide +kernel
theorem dX7_mendBest_101 : decode cX7_mendBest 101 = .ok (.getfield 11, 3) := by decide +kernel
theorem dX7_mendBest_104 : decode cX7_mendBest 104 = .ok (.iconst 0, 1) := by decide +kernel
theorem dX7_mendBest_105 : decode cX7_mendBest 105 = .ok (.iaload, 1) := by decide +kernel
theorem dX7_mendBest_106 : decode cX7_mendBest 106 = .ok (.isub, 1) := by decide +kernel
theorem dX7_mendBest_107 : decode cX7_mendBest 107 = .ok (.aload_n 0, 1) := by decide +kernel
theorem dX7_mendBest_108 : decode cX7_mendBest 108 = .ok (.getfield 11, 3) := by decide +kernel
theorem dX7_mendBest_111 : decode cX7_mendBest 111 = .ok (.iconst 1, 1) := by decide +kernel
theorem dX7_mendBest_112 : decode cX7_mendBest 112 = .ok (.iaload, 1) := by decide +kernel
theorem dX7_mendBest_113 : decode cX7_mendBest 113 = .ok (.isub, 1) := by decide +kernel
theorem dX7_mendBest_114 : decode cX7_mendBest 114 = .ok (.iload_n 2, 1) := by decide +kernel
theorem dX7_mendBest_115 : decode cX7_mendBest 115 = .ok (.if_icmp .lt 7, 3) := by decide +kernel
theorem dX7_mendBest_118 : decode cX7_mendBest 118 = .ok (.iconst 1, 1) := by decide +kernel
theorem dX7_mendBest_119 : decode cX7_mendBest 119 = .ok (.goto 4, 3) := by decide +kernel
theorem dX7_mendBest_122 : decode cX7_mendBest 122 = .ok (.iconst 0, 1) := by decide +kernel
theorem dX7_mendBest_123 : decode cX7_mendBest 123 = .ok (.istore 5, 2) := by decide +kernel
theorem dX7_mendBest_125 : decode cX7_mendBest 125 = .ok (.iload 5, 2) := by decide +kernel
theorem dX7_mendBest_127 : decode cX7_mendBest 127 = .ok (.ifCond .eq 58, 3) := by decide +kernel
theorem dX7_mendBest_130 : decode cX7_mendBest 130 = .ok (.aload_n 0, 1) := by decide +kernel
theorem dX7_mendBest_131 : decode cX7_mendBest 131 = .ok (.iload_n 3, 1) := by decide +kernel
theorem dX7_mendBest_132 : decode cX7_mendBest 132 = .ok (.iload 4, 2) := by decide +kernel
theorem dX7_mendBest_134 : decode cX7_mendBest 134 = .ok (.invokevirtual 118, 3) := by decide +kernel
theorem dX7_mendBest_137 : decode cX7_mendBest 137 = .ok (.aload_n 0, 1) := by decide +kernel
theorem dX7_mendBest_138 : decode cX7_mendBest 138 = .ok (.getfield 45, 3) := by decide +kernel
theorem dX7_mendBest_141 : decode cX7_mendBest 141 = .ok (.if_icmp .le 44, 3) := by decide +kernel
theorem dX7_mendBest_144 : decode cX7_mendBest 144 = .ok (.aload_n 0, 1) := by decide +kernel
theorem dX7_mendBest_145 : decode cX7_mendBest 145 = .ok (.aload_n 0, 1) := by decide +kernel
theorem dX7_mendBest_146 : decode cX7_mendBest 146 = .ok (.iload_n 3, 1) := by decide +kernel
theorem dX7_mendBest_147 : decode cX7_mendBest 147 = .ok (.iload 4, 2) := by decide +kernel
theorem dX7_mendBest_149 : decode cX7_mendBest 149 = .ok (.invokevirtual 118, 3) := by decide +kernel
theorem dX7_mendBest_152 : decode cX7_mendBest 152 = .ok (.putfield 45, 3) := by decide +kernel
theorem dX7_mendBest_155 : decode cX7_mendBest 155 = .ok (.aload_n 0, 1) := by decide +kernel
theorem dX7_mendBest_156 : decode cX7_mendBest 156 = .ok (.aload_n 0, 1) := by decide +kernel
theorem dX7_mendBest_157 : decode cX7_mendBest 157 = .ok (.getfield 39, 3) := by decide +kernel
theorem dX7_mendBest_160 : decode cX7_mendBest 160 = .ok (.putfield 48, 3) := by decide +kernel
theorem dX7_mendBest_163 : decode cX7_mendBest 163 = .ok (.aload_n 0, 1) := by decide +kernel
theorem dX7_mendBest_164 : decode cX7_mendBest 164 = .ok (.getfield 32, 3) := by decide +kernel
theorem dX7_mendBest_167 : decode cX7_mendBest 167 = .ok (.iconst 0, 1) := by decide +kernel
theorem dX7_mendBest_168 : decode cX7_mendBest 168 = .ok (.iload_n 1, 1) := by decide +kernel
theorem dX7_mendBest_169 : decode cX7_mendBest 169 = .ok (.iastore, 1) := by decide +kernel
theorem dX7_mendBest_170 : decode cX7_mendBest 170 = .ok (.aload_n 0, 1) := by decide +kernel
theorem dX7_mendBest_171 : decode cX7_mendBest 171 = .ok (.getfield 32, 3) := by decide +kernel
theorem dX7_mendBest_174 : decode cX7_mendBest 174 = .ok (.iconst 1, 1) := by decide +kernel
theorem dX7_mendBest_175 : decode cX7_mendBest 175 = .ok (.iload_n 3, 1) := by decide +kernel
