theorem dX11_amend_24 : decode cX11_amend 24 = .ok (.istore 5, 2) := by decide +kernel
theorem dX11_amend_26 : decode cX11_amend 26 = .ok (.iload 5, 2) := by decide +kernel
theorem dX11_amend_28 : decode cX11_amend 28 = .ok (.ifCond .eq 10, 3) := by decide +kernel
theorem dX11_amend_31 : decode cX11_amend 31 = .ok (.aload_n 0, 1) := by decide +kernel
theorem dX11_amend_32 : decode cX11_amend 32 = .ok (.iload 5, 2) := by decide +kernel
theorem dX11_amend_34 : decode cX11_amend 34 = .ok (.invokevirtual 132, 3) := by decide +kernel
theorem dX11_amend_37 : decode cX11_amend 37 = .ok (.ireturn, 1) := by decide +kernel
theorem dX11_amend_38 : decode cX11_amend 38 = .ok (.iload 4, 2) := by decide +kernel
theorem dX11_amend_40 : decode cX11_amend 40 = .ok (.iconst 0, 1) := by decide +kernel
theorem dX11_amend_41 : decode cX11_amend 41 = .ok (.ldc 131, 2) := by decide +kernel
theorem dX11_amend_43 : decode cX11_amend 43 = .ok (.invokestatic 111, 3) := by decide +kernel
theorem dX11_amend_46 : decode cX11_amend 46 = .ok (.ifCond .eq 27, 3) := by decide +kernel
theorem dX11_amend_49 : decode cX11_amend 49 = .ok (.aload_n 0, 1) := by decide +kernel
theorem dX11_amend_50 : decode cX11_amend 50 = .ok (.getfield 11, 3) := by decide +kernel
theorem dX11_amend_53 : decode cX11_amend 53 = .ok (.iload_n 2, 1) := by decide +kernel
theorem dX11_amend_54 : decode cX11_amend 54 = .ok (.aaload, 1) := by decide +kernel
theorem dX11_amend_55 : decode cX11_amend 55 = .ok (.getfield 235, 3) := by decide +kernel
theorem dX11_amend_58 : decode cX11_amend 58 = .ok (.ifCond .eq 15, 3) := by decide +kernel
theorem dX11_amend_61 : decode cX11_amend 61 = .ok (.aload_n 0, 1) := by decide +kernel
theorem dX11_amend_62 : decode cX11_amend 62 = .ok (.getfield 11, 3) := by decide +kernel
theorem dX11_amend_65 : decode cX11_amend 65 = .ok (.iload_n 3, 1) := by decide +kernel
theorem dX11_amend_66 : decode cX11_amend 66 = .ok (.aaload, 1) := by decide +kernel
theorem dX11_amend_67 : decode cX11_amend 67 = .ok (.getfield 235, 3) := by decide +kernel
theorem dX11_amend_70 : decode cX11_amend 70 = .ok (.ifCond .ne 10, 3) := by decide +kernel
theorem dX11_amend_73 : decode cX11_amend 73 = .ok (.aload_n 0, 1) := by decide +kernel
theorem dX11_amend_74 : decode cX11_amend 74 = .ok (.bipush (-6), 2) := by decide +kernel
theorem dX11_amend_76 : decode cX11_amend 76 = .ok (.invokevirtual 132, 3) := by decide +kernel
theorem dX11_amend_79 : decode cX11_amend 79 = .ok (.ireturn, 1) := by decide +kernel
theorem dX11_amend_80 : decode cX11_amend 80 = .ok (.aload_n 0, 1) := by decide +kernel
theorem dX11_amend_81 : decode cX11_amend 81 = .ok (.getfield 25, 3) := by decide +kernel
theorem dX11_amend_84 : decode cX11_amend 84 = .ok (.getfield 242, 3) := by decide +kernel
theorem dX11_amend_87 : decode cX11_amend 87 = .ok (.bipush 12, 2) := by decide +kernel
theorem dX11_amend_89 : decode cX11_amend 89 = .ok (.if_icmp .ne 10, 3) := by decide +kernel
theorem dX11_amend_92 : decode cX11_amend 92 = .ok (.aload_n 0, 1) := by decide +kernel
theorem dX11_amend_93 : decode cX11_amend 93 = .ok (.bipush (-7), 2) := by decide +kernel
theorem dX11_amend_95 : decode cX11_amend 95 = .ok (.invokevirtual 132, 3) := by decide +kernel
theorem dX11_amend_98 : decode cX11_amend 98 = .ok (.ireturn, 1) := by decide +kernel
theorem dX11_amend_99 : decode cX11_amend 99 = .ok (.aload_n 0, 1) := by decide +kernel
theorem dX11_amend_100 : decode cX11_amend 100 = .ok (.getfield 25, 3) := by decide +kernel
theorem dX11_amend_103 : decode cX11_amend 103 = .ok (.aload_n 0, 1) := by decide +kernel
theorem dX11_amend_104 : decode cX11_amend 104 = .ok (.getfield 11, 3) := by decide +kernel
theorem dX11_amend_107 : decode cX11_amend 107 = .ok (.iload_n 2, 1) := by decide +kernel
theorem dX11_amend_108 : decode cX11_amend 108 = .ok (.aaload, 1) := by decide +kernel
theorem dX11_amend_109 : decode cX11_amend 109 = .ok (.aload_n 0, 1) := by decide +kernel
theorem dX11_amend_110 : decode cX11_amend 110 = .ok (.getfield 11, 3) := by decide +kernel
theorem dX11_amend_113 : decode cX11_amend 113 = .ok (.iload_n 3, 1) := by decide +kernel
theorem dX11_amend_114 : decode cX11_amend 114 = .ok (.aaload, 1) := by decide +kernel
theorem dX11_amend_115 : decode cX11_amend 115 = .ok (.invokevirtual 245, 3) := by decide +kernel
theorem dX11_amend_118 : decode cX11_amend 118 = .ok (.aload_n 0, 1) := by decide +kernel
theorem dX11_amend_119 : decode cX11_amend 119 = .ok (.getfield 25, 3) := by decide +kernel
theorem dX11_amend_122 : decode cX11_amend 122 = .ok (.iload_n 1, 1) := by decide +kernel
theorem dX11_amend_123 : decode cX11_amend 123 = .ok (.iload 4, 2) := by decide +kernel
theorem dX11_amend_125 : decode cX11_amend 125 = .ok (.aload_n 0, 1) := by decide +kernel
theorem dX11_amend_126 : decode cX11_amend 126 = .ok (.getfield 106, 3) := by decide +kernel
theorem dX11_amend_129 : decode cX11_amend 129 = .ok (.invokevirtual 249, 3) := by decide +kernel
theorem dX11_amend_132 : decode cX11_amend 132 = .ok (.ireturn, 1) := by decide +kernel
theorem dX11_words_0 : decode cX11_words 0 = .ok (.iload_n 1, 1) := by decide +kernel
theorem dX11_words_1 : decode cX11_words 1 = .ok (.invokestatic 229, 3) := by decide +kernel
theorem dX11_words_4 : decode cX11_words 4 = .ok (.ifCond .ne 5, 3) := by decide +kernel
theorem dX11_words_7 : decode cX11_words 7 = .ok (.iconst (-1), 1) := by decide +kernel
theorem dX11_words_8 : decode cX11_words 8 = .ok (.ireturn, 1) := by decide +kernel
theorem dX11_words_9 : decode cX11_words 9 = .ok (.aload_n 0, 1) := by decide +kernel
theorem dX11_words_10 : decode cX11_words 10 = .ok (.getfield 25, 3) := by decide +kernel
theorem dX11_words_13 : decode cX11_words 13 = .ok (.iload_n 1, 1) := by decide +kernel
theorem dX11_words_14 : decode cX11_words 14 = .ok (.iload_n 2, 1) := by decide +kernel
theorem dX11_words_15 : decode cX11_words 15 = .ok (.iload_n 3, 1) := by decide +kernel
theorem dX11_words_16 : decode cX11_words 16 = .ok (.invokevirtual 252, 3) := by decide +kernel
theorem dX11_words_19 : decode cX11_words 19 = .ok (.iload 4, 2) := by decide +kernel
theorem dX11_words_21 : decode cX11_words 21 = .ok (.iconst (-1), 1) := by decide +kernel
theorem dX11_words_22 : decode cX11_words 22 = .ok (.if_icmp .ne 11, 3) := by decide +kernel
theorem dX11_words_25 : decode cX11_words 25 = .ok (.aload_n 0, 1) := by decide +kernel
theorem dX11_words_26 : decode cX11_words 26 = .ok (.getfield 25, 3) := by decide +kernel
theorem dX11_words_29 : decode cX11_words 29 = .ok (.getfield 256, 3) := by decide +kernel
theorem dX11_words_32 : decode cX11_words 32 = .ok (.ireturn, 1) := by decide +kernel
theorem dX11_words_33 : decode cX11_words 33 = .ok (.iload 4, 2) := by decide +kernel
theorem dX11_words_35 : decode cX11_words 35 = .ok (.iconst 0, 1) := by decide +kernel
theorem dX11_words_36 : decode cX11_words 36 = .ok (.aload_n 0, 1) := by decide +kernel
theorem dX11_words_37 : decode cX11_words 37 = .ok (.getfield 25, 3) := by decide +kernel
theorem dX11_words_40 : decode cX11_words 40 = .ok (.getfield 256, 3) := by decide +kernel
theorem dX11_words_43 : decode cX11_words 43 = .ok (.iconst 1, 1) := by decide +kernel
theorem dX11_words_44 : decode cX11_words 44 = .ok (.isub, 1) := by decide +kernel
theorem dX11_words_45 : decode cX11_words 45 = .ok (.invokestatic 111, 3) := by decide +kernel
theorem dX11_words_48 : decode cX11_words 48 = .ok (.ifCond .eq 16, 3) := by decide +kernel
theorem dX11_words_51 : decode cX11_words 51 = .ok (.aload_n 0, 1) := by decide +kernel
theorem dX11_words_52 : decode cX11_words 52 = .ok (.getfield 25, 3) := by decide +kernel
theorem dX11_words_55 : decode cX11_words 55 = .ok (.getfield 257, 3) := by decide +kernel
theorem dX11_words_58 : decode cX11_words 58 = .ok (.iload 4, 2) := by decide +kernel
theorem dX11_words_60 : decode cX11_words 60 = .ok (.iaload, 1) := by decide +kernel
theorem dX11_words_61 : decode cX11_words 61 = .ok (.goto 4, 3) := by decide +kernel
theorem dX11_words_64 : decode cX11_words 64 = .ok (.iconst (-1), 1) := by decide +kernel
theorem dX11_words_65 : decode cX11_words 65 = .ok (.ireturn, 1) := by decide +kernel
theorem dX11_gone_0 : decode cX11_gone 0 = .ok (.iload_n 1, 1) := by decide +kernel
theorem dX11_gone_1 : decode cX11_gone 1 = .ok (.iconst 0, 1) := by decide +kernel
theorem dX11_gone_2 : decode cX11_gone 2 = .ok (.aload_n 0, 1) := by decide +kernel
theorem dX11_gone_3 : decode cX11_gone 3 = .ok (.getfield 25, 3) := by decide +kernel
theorem dX11_gone_6 : decode cX11_gone 6 = .ok (.getfield 242, 3) := by decide +kernel
theorem dX11_gone_9 : decode cX11_gone 9 = .ok (.iconst 1, 1) := by decide +kernel
theorem dX11_gone_10 : decode cX11_gone 10 = .ok (.isub, 1) := by decide +kernel
theorem dX11_gone_11 : decode cX11_gone 11 = .ok (.invokestatic 111, 3) := by decide +kernel
theorem dX11_gone_14 : decode cX11_gone 14 = .ok (.ifCond .eq 16, 3) := by decide +kernel
theorem dX11_gone_17 : decode cX11_gone 17 = .ok (.aload_n 0, 1) := by decide +kernel
theorem dX11_gone_18 : decode cX11_gone 18 = .ok (.getfield 25, 3) := by decide +kernel
theorem dX11_gone_21 : decode cX11_gone 21 = .ok (.iload_n 1, 1) := by decide +kernel
theorem dX11_gone_22 : decode cX11_gone 22 = .ok (.iload_n 2, 1) := by decide +kernel
theorem dX11_gone_23 : decode cX11_gone 23 = .ok (.iload_n 3, 1) := by decide +kernel
theorem dX11_gone_24 : decode cX11_gone 24 = .ok (.invokevirtual 260, 3) := by decide +kernel
theorem dX11_gone_27 : decode cX11_gone 27 = .ok (.ifCond .ne 5, 3) := by decide +kernel
theorem dX11_gone_30 : decode cX11_gone 30 = .ok (.iconst (-1), 1) := by decide +kernel
theorem dX11_gone_31 : decode cX11_gone 31 = .ok (.ireturn, 1) := by decide +kernel
theorem dX11_gone_32 : decode cX11_gone 32 = .ok (.aload_n 0, 1) := by decide +kernel
theorem dX11_gone_33 : decode cX11_gone 33 = .ok (.getfield 25, 3) := by decide +kernel
theorem dX11_gone_36 : decode cX11_gone 36 = .ok (.aload_n 0, 1) := by decide +kernel
theorem dX11_gone_37 : decode cX11_gone 37 = .ok (.getfield 25, 3) := by decide +kernel
theorem dX11_gone_40 : decode cX11_gone 40 = .ok (.getfield 263, 3) := by decide +kernel
theorem dX11_gone_43 : decode cX11_gone 43 = .ok (.iload_n 1, 1) := by decide +kernel
theorem dX11_gone_44 : decode cX11_gone 44 = .ok (.iaload, 1) := by decide +kernel
theorem dX11_gone_45 : decode cX11_gone 45 = .ok (.iload_n 2, 1) := by decide +kernel
theorem dX11_gone_46 : decode cX11_gone 46 = .ok (.iload_n 3, 1) := by decide +kernel
theorem dX11_gone_47 : decode cX11_gone 47 = .ok (.invokevirtual 252, 3) := by decide +kernel
theorem dX11_gone_50 : decode cX11_gone 50 = .ok (.aload_n 0, 1) := by decide +kernel
theorem dX11_gone_51 : decode cX11_gone 51 = .ok (.getfield 25, 3) := by decide +kernel
theorem dX11_gone_54 : decode cX11_gone 54 = .ok (.getfield 266, 3) := by decide +kernel
theorem dX11_gone_57 : decode cX11_gone 57 = .ok (.iload_n 1, 1) := by decide +kernel
theorem dX11_gone_58 : decode cX11_gone 58 = .ok (.iushr, 1) := by decide +kernel
theorem dX11_gone_59 : decode cX11_gone 59 = .ok (.iconst 1, 1) := by decide +kernel
theorem dX11_gone_60 : decode cX11_gone 60 = .ok (.iand, 1) := by decide +kernel
theorem dX11_gone_61 : decode cX11_gone 61 = .ok (.ireturn, 1) := by decide +kernel
theorem dX11_fault_0 : decode cX11_fault 0 = .ok (.iload_n 1, 1) := by decide +kernel
theorem dX11_fault_1 : decode cX11_fault 1 = .ok (.invokestatic 229, 3) := by decide +kernel
theorem dX11_fault_4 : decode cX11_fault 4 = .ok (.ifCond .ne 5, 3) := by decide +kernel
theorem dX11_fault_7 : decode cX11_fault 7 = .ok (.iconst (-1), 1) := by decide +kernel
theorem dX11_fault_8 : decode cX11_fault 8 = .ok (.ireturn, 1) := by decide +kernel
theorem dX11_fault_9 : decode cX11_fault 9 = .ok (.aload_n 0, 1) := by decide +kernel
theorem dX11_fault_10 : decode cX11_fault 10 = .ok (.getfield 34, 3) := by decide +kernel
theorem dX11_fault_13 : decode cX11_fault 13 = .ok (.iconst (-1), 1) := by decide +kernel
theorem dX11_fault_14 : decode cX11_fault 14 = .ok (.iload_n 1, 1) := by decide +kernel
theorem dX11_fault_15 : decode cX11_fault 15 = .ok (.iload_n 2, 1) := by decide +kernel
theorem dX11_fault_16 : decode cX11_fault 16 = .ok (.iload_n 3, 1) := by decide +kernel
theorem dX11_fault_17 : decode cX11_fault 17 = .ok (.iconst (-1), 1) := by decide +kernel
theorem dX11_fault_18 : decode cX11_fault 18 = .ok (.invokevirtual 269, 3) := by decide +kernel
theorem dX11_fault_21 : decode cX11_fault 21 = .ok (.pop, 1) := by decide +kernel
theorem dX11_fault_22 : decode cX11_fault 22 = .ok (.aload_n 0, 1) := by decide +kernel
theorem dX11_fault_23 : decode cX11_fault 23 = .ok (.getfield 34, 3) := by decide +kernel
theorem dX11_fault_26 : decode cX11_fault 26 = .ok (.getfield 273, 3) := by decide +kernel
theorem dX11_fault_29 : decode cX11_fault 29 = .ok (.ireturn, 1) := by decide +kernel
theorem dX11_may_0 : decode cX11_may 0 = .ok (.aload_n 0, 1) := by decide +kernel
theorem dX11_may_1 : decode cX11_may 1 = .ok (.getfield 18, 3) := by decide +kernel
theorem dX11_may_4 : decode cX11_may 4 = .ok (.iload_n 1, 1) := by decide +kernel
theorem dX11_may_5 : decode cX11_may 5 = .ok (.invokevirtual 146, 3) := by decide +kernel
theorem dX11_may_8 : decode cX11_may 8 = .ok (.ifCond .eq 26, 3) := by decide +kernel
theorem dX11_may_11 : decode cX11_may 11 = .ok (.iload_n 2, 1) := by decide +kernel
theorem dX11_may_12 : decode cX11_may 12 = .ok (.invokestatic 229, 3) := by decide +kernel
theorem dX11_may_15 : decode cX11_may 15 = .ok (.ifCond .eq 19, 3) := by decide +kernel
theorem dX11_may_18 : decode cX11_may 18 = .ok (.aload_n 0, 1) := by decide +kernel
theorem dX11_may_19 : decode cX11_may 19 = .ok (.getfield 34, 3) := by decide +kernel
theorem dX11_may_22 : decode cX11_may 22 = .ok (.iload_n 1, 1) := by decide +kernel
theorem dX11_may_23 : decode cX11_may 23 = .ok (.iload_n 2, 1) := by decide +kernel
theorem dX11_may_24 : decode cX11_may 24 = .ok (.iload_n 3, 1) := by decide +kernel
theorem dX11_may_25 : decode cX11_may 25 = .ok (.iload 4, 2) := by decide +kernel
theorem dX11_may_27 : decode cX11_may 27 = .ok (.iconst (-1), 1) := by decide +kernel
theorem dX11_may_28 : decode cX11_may 28 = .ok (.invokevirtual 269, 3) := by decide +kernel
theorem dX11_may_31 : decode cX11_may 31 = .ok (.goto 4, 3) := by decide +kernel
theorem dX11_may_34 : decode cX11_may 34 = .ok (.iconst (-1), 1) := by decide +kernel
theorem dX11_may_35 : decode cX11_may 35 = .ok (.ireturn, 1) := by decide +kernel
theorem dX11_test_0 : decode cX11_test 0 = .ok (.aload_n 0, 1) := by decide +kernel
theorem dX11_test_1 : decode cX11_test 1 = .ok (.getfield 18, 3) := by decide +kernel
theorem dX11_test_4 : decode cX11_test 4 = .ok (.iload_n 1, 1) := by decide +kernel
theorem dX11_test_5 : decode cX11_test 5 = .ok (.invokevirtual 146, 3) := by decide +kernel
theorem dX11_test_8 : decode cX11_test 8 = .ok (.ifCond .eq 10, 3) := by decide +kernel
theorem dX11_test_11 : decode cX11_test 11 = .ok (.iload_n 2, 1) := by decide +kernel
theorem dX11_test_12 : decode cX11_test 12 = .ok (.invokestatic 229, 3) := by decide +kernel
theorem dX11_test_15 : decode cX11_test 15 = .ok (.ifCond .ne 5, 3) := by decide +kernel
theorem dX11_test_18 : decode cX11_test 18 = .ok (.iconst (-1), 1) := by decide +kernel
theorem dX11_test_19 : decode cX11_test 19 = .ok (.ireturn, 1) := by decide +kernel
theorem dX11_test_20 : decode cX11_test 20 = .ok (.aload_n 0, 1) := by decide +kernel
theorem dX11_test_21 : decode cX11_test 21 = .ok (.getfield 34, 3) := by decide +kernel
theorem dX11_test_24 : decode cX11_test 24 = .ok (.iload_n 1, 1) := by decide +kernel
theorem dX11_test_25 : decode cX11_test 25 = .ok (.iload_n 2, 1) := by decide +kernel
theorem dX11_test_26 : decode cX11_test 26 = .ok (.iload_n 3, 1) := by decide +kernel
theorem dX11_test_27 : decode cX11_test 27 = .ok (.iload 4, 2) := by decide +kernel
theorem dX11_test_29 : decode cX11_test 29 = .ok (.iload 5, 2) := by decide +kernel
theorem dX11_test_31 : decode cX11_test 31 = .ok (.invokevirtual 269, 3) := by decide +kernel
theorem dX11_test_34 : decode cX11_test 34 = .ok (.pop, 1) := by decide +kernel
theorem dX11_test_35 : decode cX11_test 35 = .ok (.aload_n 0, 1) := by decide +kernel
theorem dX11_test_36 : decode cX11_test 36 = .ok (.getfield 34, 3) := by decide +kernel
theorem dX11_test_39 : decode cX11_test 39 = .ok (.getfield 273, 3) := by decide +kernel
theorem dX11_test_42 : decode cX11_test 42 = .ok (.iconst (-1), 1) := by decide +kernel
theorem dX11_test_43 : decode cX11_test 43 = .ok (.if_icmp .ne 13, 3) := by decide +kernel
theorem dX11_test_46 : decode cX11_test 46 = .ok (.aload_n 0, 1) := by decide +kernel
theorem dX11_test_47 : decode cX11_test 47 = .ok (.getfield 34, 3) := by decide +kernel
theorem dX11_test_50 : decode cX11_test 50 = .ok (.getfield 276, 3) := by decide +kernel
theorem dX11_test_53 : decode cX11_test 53 = .ok (.goto 4, 3) := by decide +kernel
theorem dX11_test_56 : decode cX11_test 56 = .ok (.iconst (-1), 1) := by decide +kernel
theorem dX11_test_57 : decode cX11_test 57 = .ok (.ireturn, 1) := by decide +kernel
theorem dX11_place_0 : decode cX11_place 0 = .ok (.iload_n 1, 1) := by decide +kernel
theorem dX11_place_1 : decode cX11_place 1 = .ok (.invokestatic 229, 3) := by decide +kernel
theorem dX11_place_4 : decode cX11_place 4 = .ok (.ifCond .ne 9, 3) := by decide +kernel
theorem dX11_place_7 : decode cX11_place 7 = .ok (.aload_n 0, 1) := by decide +kernel
theorem dX11_place_8 : decode cX11_place 8 = .ok (.iconst (-1), 1) := by decide +kernel
theorem dX11_place_9 : decode cX11_place 9 = .ok (.invokevirtual 132, 3) := by decide +kernel
theorem dX11_place_12 : decode cX11_place 12 = .ok (.ireturn, 1) := by decide +kernel
theorem dX11_place_13 : decode cX11_place 13 = .ok (.aload_n 0, 1) := by decide +kernel
theorem dX11_place_14 : decode cX11_place 14 = .ok (.getfield 43, 3) := by decide +kernel
theorem dX11_place_17 : decode cX11_place 17 = .ok (.getfield 279, 3) := by decide +kernel
theorem dX11_place_20 : decode cX11_place 20 = .ok (.bipush 12, 2) := by decide +kernel
theorem dX11_place_22 : decode cX11_place 22 = .ok (.if_icmp .ne 12, 3) := by decide +kernel
theorem dX11_place_25 : decode cX11_place 25 = .ok (.aload_n 0, 1) := by decide +kernel
theorem dX11_place_26 : decode cX11_place 26 = .ok (.bipush (-7), 2) := by decide +kernel
theorem dX11_place_28 : decode cX11_place 28 = .ok (.invokevirtual 132, 3) := by decide +kernel
theorem dX11_place_31 : decode cX11_place 31 = .ok (.goto 11, 3) := by decide +kernel
theorem dX11_place_34 : decode cX11_place 34 = .ok (.aload_n 0, 1) := by decide +kernel
theorem dX11_place_35 : decode cX11_place 35 = .ok (.getfield 43, 3) := by decide +kernel
theorem dX11_place_38 : decode cX11_place 38 = .ok (.iload_n 1, 1) := by decide +kernel
theorem dX11_place_39 : decode cX11_place 39 = .ok (.invokevirtual 280, 3) := by decide +kernel
theorem dX11_place_42 : decode cX11_place 42 = .ok (.ireturn, 1) := by decide +kernel
theorem dX11_grace_0 : decode cX11_grace 0 = .ok (.iload_n 1, 1) := by decide +kernel
theorem dX11_grace_1 : decode cX11_grace 1 = .ok (.iconst 0, 1) := by decide +kernel
theorem dX11_grace_2 : decode cX11_grace 2 = .ok (.sipush 4000, 3) := by decide +kernel
theorem dX11_grace_5 : decode cX11_grace 5 = .ok (.invokestatic 111, 3) := by decide +kernel
theorem dX11_grace_8 : decode cX11_grace 8 = .ok (.ifCond .ne 10, 3) := by decide +kernel
theorem dX11_grace_11 : decode cX11_grace 11 = .ok (.aload_n 0, 1) := by decide +kernel
theorem dX11_grace_12 : decode cX11_grace 12 = .ok (.bipush (-6), 2) := by decide +kernel
theorem dX11_grace_14 : decode cX11_grace 14 = .ok (.invokevirtual 132, 3) := by decide +kernel
theorem dX11_grace_17 : decode cX11_grace 17 = .ok (.ireturn, 1) := by decide +kernel
theorem dX11_grace_18 : decode cX11_grace 18 = .ok (.aload_n 0, 1) := by decide +kernel
theorem dX11_grace_19 : decode cX11_grace 19 = .ok (.getfield 43, 3) := by decide +kernel
theorem dX11_grace_22 : decode cX11_grace 22 = .ok (.getfield 281, 3) := by decide +kernel
theorem dX11_grace_25 : decode cX11_grace 25 = .ok (.istore_n 2, 1) := by decide +kernel
theorem dX11_grace_26 : decode cX11_grace 26 = .ok (.aload_n 0, 1) := by decide +kernel
theorem dX11_grace_27 : decode cX11_grace 27 = .ok (.getfield 43, 3) := by decide +kernel
theorem dX11_grace_30 : decode cX11_grace 30 = .ok (.iload_n 1, 1) := by decide +kernel
theorem dX11_grace_31 : decode cX11_grace 31 = .ok (.putfield 281, 3) := by decide +kernel
theorem dX11_grace_34 : decode cX11_grace 34 = .ok (.iload_n 2, 1) := by decide +kernel
theorem dX11_grace_35 : decode cX11_grace 35 = .ok (.ireturn, 1) := by decide +kernel
theorem dX11_hold_0 : decode cX11_hold 0 = .ok (.aload_n 0, 1) := by decide +kernel
theorem dX11_hold_1 : decode cX11_hold 1 = .ok (.getfield 18, 3) := by decide +kernel
theorem dX11_hold_4 : decode cX11_hold 4 = .ok (.iload_n 1, 1) := by decide +kernel
theorem dX11_hold_5 : decode cX11_hold 5 = .ok (.invokevirtual 146, 3) := by decide +kernel
theorem dX11_hold_8 : decode cX11_hold 8 = .ok (.ifCond .eq 14, 3) := by decide +kernel
theorem dX11_hold_11 : decode cX11_hold 11 = .ok (.aload_n 0, 1) := by decide +kernel
theorem dX11_hold_12 : decode cX11_hold 12 = .ok (.getfield 43, 3) := by decide +kernel
theorem dX11_hold_15 : decode cX11_hold 15 = .ok (.iload_n 2, 1) := by decide +kernel
theorem dX11_hold_16 : decode cX11_hold 16 = .ok (.invokevirtual 284, 3) := by decide +kernel
theorem dX11_hold_19 : decode cX11_hold 19 = .ok (.ifCond .ne 9, 3) := by decide +kernel
theorem dX11_hold_22 : decode cX11_hold 22 = .ok (.aload_n 0, 1) := by decide +kernel
theorem dX11_hold_23 : decode cX11_hold 23 = .ok (.iconst (-1), 1) := by decide +kernel
theorem dX11_hold_24 : decode cX11_hold 24 = .ok (.invokevirtual 132, 3) := by decide +kernel
theorem dX11_hold_27 : decode cX11_hold 27 = .ok (.ireturn, 1) := by decide +kernel
theorem dX11_hold_28 : decode cX11_hold 28 = .ok (.aload_n 0, 1) := by decide +kernel
theorem dX11_hold_29 : decode cX11_hold 29 = .ok (.getfield 43, 3) := by decide +kernel
theorem dX11_hold_32 : decode cX11_hold 32 = .ok (.getfield 285, 3) := by decide +kernel
theorem dX11_hold_35 : decode cX11_hold 35 = .ok (.iload_n 2, 1) := by decide +kernel
theorem dX11_hold_36 : decode cX11_hold 36 = .ok (.iaload, 1) := by decide +kernel
theorem dX11_hold_37 : decode cX11_hold 37 = .ok (.iconst (-1), 1) := by decide +kernel
theorem dX11_hold_38 : decode cX11_hold 38 = .ok (.if_icmp .ne 27, 3) := by decide +kernel
theorem dX11_hold_41 : decode cX11_hold 41 = .ok (.aload_n 0, 1) := by decide +kernel
theorem dX11_hold_42 : decode cX11_hold 42 = .ok (.getfield 43, 3) := by decide +kernel
theorem dX11_hold_45 : decode cX11_hold 45 = .ok (.iload_n 1, 1) := by decide +kernel
theorem dX11_hold_46 : decode cX11_hold 46 = .ok (.aload_n 0, 1) := by decide +kernel
theorem dX11_hold_47 : decode cX11_hold 47 = .ok (.getfield 43, 3) := by decide +kernel
theorem dX11_hold_50 : decode cX11_hold 50 = .ok (.getfield 288, 3) := by decide +kernel
theorem dX11_hold_53 : decode cX11_hold 53 = .ok (.iload_n 2, 1) := by decide +kernel
theorem dX11_hold_54 : decode cX11_hold 54 = .ok (.iaload, 1) := by decide +kernel
theorem dX11_hold_55 : decode cX11_hold 55 = .ok (.aload_n 0, 1) := by decide +kernel
theorem dX11_hold_56 : decode cX11_hold 56 = .ok (.getfield 106, 3) := by decide +kernel
theorem dX11_hold_59 : decode cX11_hold 59 = .ok (.invokevirtual 291, 3) := by decide +kernel
theorem dX11_hold_62 : decode cX11_hold 62 = .ok (.ifCond .ne 10, 3) := by decide +kernel
theorem dX11_hold_65 : decode cX11_hold 65 = .ok (.aload_n 0, 1) := by decide +kernel
theorem dX11_hold_66 : decode cX11_hold 66 = .ok (.bipush (-6), 2) := by decide +kernel
theorem dX11_hold_68 : decode cX11_hold 68 = .ok (.invokevirtual 132, 3) := by decide +kernel
theorem dX11_hold_71 : decode cX11_hold 71 = .ok (.ireturn, 1) := by decide +kernel
theorem dX11_hold_72 : decode cX11_hold 72 = .ok (.aload_n 0, 1) := by decide +kernel
theorem dX11_hold_73 : decode cX11_hold 73 = .ok (.getfield 43, 3) := by decide +kernel
theorem dX11_hold_76 : decode cX11_hold 76 = .ok (.iload_n 1, 1) := by decide +kernel
theorem dX11_hold_77 : decode cX11_hold 77 = .ok (.iload_n 2, 1) := by decide +kernel
theorem dX11_hold_78 : decode cX11_hold 78 = .ok (.aload_n 0, 1) := by decide +kernel
theorem dX11_hold_79 : decode cX11_hold 79 = .ok (.getfield 106, 3) := by decide +kernel
theorem dX11_hold_82 : decode cX11_hold 82 = .ok (.invokevirtual 294, 3) := by decide +kernel
theorem dX11_hold_85 : decode cX11_hold 85 = .ok (.iconst 1, 1) := by decide +kernel
theorem dX11_hold_86 : decode cX11_hold 86 = .ok (.ireturn, 1) := by decide +kernel
theorem dX11_leave_0 : decode cX11_leave 0 = .ok (.aload_n 0, 1) := by decide +kernel
theorem dX11_leave_1 : decode cX11_leave 1 = .ok (.getfield 43, 3) := by decide +kernel
theorem dX11_leave_4 : decode cX11_leave 4 = .ok (.iload_n 1, 1) := by decide +kernel
theorem dX11_leave_5 : decode cX11_leave 5 = .ok (.invokevirtual 284, 3) := by decide +kernel
theorem dX11_leave_8 : decode cX11_leave 8 = .ok (.ifCond .ne 9, 3) := by decide +kernel
theorem dX11_leave_11 : decode cX11_leave 11 = .ok (.aload_n 0, 1) := by decide +kernel
theorem dX11_leave_12 : decode cX11_leave 12 = .ok (.iconst (-1), 1) := by decide +kernel
theorem dX11_leave_13 : decode cX11_leave 13 = .ok (.invokevirtual 132, 3) := by decide +kernel
theorem dX11_leave_16 : decode cX11_leave 16 = .ok (.ireturn, 1) := by decide +kernel
theorem dX11_leave_17 : decode cX11_leave 17 = .ok (.aload_n 0, 1) := by decide +kernel
theorem dX11_leave_18 : decode cX11_leave 18 = .ok (.getfield 43, 3) := by decide +kernel
theorem dX11_leave_21 : decode cX11_leave 21 = .ok (.getfield 285, 3) := by decide +kernel
theorem dX11_leave_24 : decode cX11_leave 24 = .ok (.iload_n 1, 1) := by decide +kernel
theorem dX11_leave_25 : decode cX11_leave 25 = .ok (.iaload, 1) := by decide +kernel
theorem dX11_leave_26 : decode cX11_leave 26 = .ok (.istore_n 2, 1) := by decide +kernel
theorem dX11_leave_27 : decode cX11_leave 27 = .ok (.iload_n 2, 1) := by decide +kernel
theorem dX11_leave_28 : decode cX11_leave 28 = .ok (.iconst (-1), 1) := by decide +kernel
theorem dX11_leave_29 : decode cX11_leave 29 = .ok (.if_icmp .ne 10, 3) := by decide +kernel
theorem dX11_leave_32 : decode cX11_leave 32 = .ok (.aload_n 0, 1) := by decide +kernel
theorem dX11_leave_33 : decode cX11_leave 33 = .ok (.bipush (-6), 2) := by decide +kernel
theorem dX11_leave_35 : decode cX11_leave 35 = .ok (.invokevirtual 132, 3) := by decide +kernel
theorem dX11_leave_38 : decode cX11_leave 38 = .ok (.ireturn, 1) := by decide +kernel
theorem dX11_leave_39 : decode cX11_leave 39 = .ok (.aload_n 0, 1) := by decide +kernel
theorem dX11_leave_40 : decode cX11_leave 40 = .ok (.getfield 43, 3) := by decide +kernel
theorem dX11_leave_43 : decode cX11_leave 43 = .ok (.iload_n 1, 1) := by decide +kernel
theorem dX11_leave_44 : decode cX11_leave 44 = .ok (.invokevirtual 297, 3) := by decide +kernel
theorem dX11_leave_47 : decode cX11_leave 47 = .ok (.iload_n 2, 1) := by decide +kernel
theorem dX11_leave_48 : decode cX11_leave 48 = .ok (.ireturn, 1) := by decide +kernel
theorem dX11_about_0 : decode cX11_about 0 = .ok (.aload_n 0, 1) := by decide +kernel
theorem dX11_about_1 : decode cX11_about 1 = .ok (.getfield 43, 3) := by decide +kernel
theorem dX11_about_4 : decode cX11_about 4 = .ok (.iload_n 1, 1) := by decide +kernel
theorem dX11_about_5 : decode cX11_about 5 = .ok (.invokevirtual 284, 3) := by decide +kernel
theorem dX11_about_8 : decode cX11_about 8 = .ok (.ifCond .ne 5, 3) := by decide +kernel
theorem dX11_about_11 : decode cX11_about 11 = .ok (.iconst (-1), 1) := by decide +kernel
theorem dX11_about_12 : decode cX11_about 12 = .ok (.ireturn, 1) := by decide +kernel
theorem dX11_about_13 : decode cX11_about 13 = .ok (.iload_n 2, 1) := by decide +kernel
theorem dX11_about_14 : decode cX11_about 14 = .ok (.tableswitch 70 0 3 #[30, 40, 50, 60], 30) := by decide +kernel
theorem dX11_about_44 : decode cX11_about 44 = .ok (.aload_n 0, 1) := by decide +kernel
theorem dX11_about_45 : decode cX11_about 45 = .ok (.getfield 43, 3) := by decide +kernel
theorem dX11_about_48 : decode cX11_about 48 = .ok (.getfield 288, 3) := by decide +kernel
theorem dX11_about_51 : decode cX11_about 51 = .ok (.iload_n 1, 1) := by decide +kernel
theorem dX11_about_52 : decode cX11_about 52 = .ok (.iaload, 1) := by decide +kernel
theorem dX11_about_53 : decode cX11_about 53 = .ok (.ireturn, 1) := by decide +kernel
theorem dX11_about_54 : decode cX11_about 54 = .ok (.aload_n 0, 1) := by decide +kernel
theorem dX11_about_55 : decode cX11_about 55 = .ok (.getfield 43, 3) := by decide +kernel
theorem dX11_about_58 : decode cX11_about 58 = .ok (.getfield 285, 3) := by decide +kernel
theorem dX11_about_61 : decode cX11_about 61 = .ok (.iload_n 1, 1) := by decide +kernel
theorem dX11_about_62 : decode cX11_about 62 = .ok (.iaload, 1) := by decide +kernel
theorem dX11_about_63 : decode cX11_about 63 = .ok (.ireturn, 1) := by decide +kernel
theorem dX11_about_64 : decode cX11_about 64 = .ok (.aload_n 0, 1) := by decide +kernel
theorem dX11_about_65 : decode cX11_about 65 = .ok (.getfield 43, 3) := by decide +kernel
theorem dX11_about_68 : decode cX11_about 68 = .ok (.getfield 300, 3) := by decide +kernel
theorem dX11_about_71 : decode cX11_about 71 = .ok (.iload_n 1, 1) := by decide +kernel
theorem dX11_about_72 : decode cX11_about 72 = .ok (.iaload, 1) := by decide +kernel
theorem dX11_about_73 : decode cX11_about 73 = .ok (.ireturn, 1) := by decide +kernel
theorem dX11_about_74 : decode cX11_about 74 = .ok (.aload_n 0, 1) := by decide +kernel
theorem dX11_about_75 : decode cX11_about 75 = .ok (.getfield 43, 3) := by decide +kernel
theorem dX11_about_78 : decode cX11_about 78 = .ok (.getfield 303, 3) := by decide +kernel
theorem dX11_about_81 : decode cX11_about 81 = .ok (.iload_n 1, 1) := by decide +kernel
theorem dX11_about_82 : decode cX11_about 82 = .ok (.iaload, 1) := by decide +kernel
theorem dX11_about_83 : decode cX11_about 83 = .ok (.ireturn, 1) := by decide +kernel
theorem dX11_about_84 : decode cX11_about 84 = .ok (.iconst (-1), 1) := by decide +kernel
theorem dX11_about_85 : decode cX11_about 85 = .ok (.ireturn, 1) := by decide +kernel
theorem dX11_ballot_0 : decode cX11_ballot 0 = .ok (.aload_n 0, 1) := by decide +kernel
theorem dX11_ballot_1 : decode cX11_ballot 1 = .ok (.aload_n 0, 1) := by decide +kernel
theorem dX11_ballot_2 : decode cX11_ballot 2 = .ok (.getfield 52, 3) := by decide +kernel
theorem dX11_ballot_5 : decode cX11_ballot 5 = .ok (.iload_n 1, 1) := by decide +kernel
theorem dX11_ballot_6 : decode cX11_ballot 6 = .ok (.iload_n 2, 1) := by decide +kernel
theorem dX11_ballot_7 : decode cX11_ballot 7 = .ok (.invokevirtual 306, 3) := by decide +kernel
theorem dX11_ballot_10 : decode cX11_ballot 10 = .ok (.ireturn, 1) := by decide +kernel
theorem dX11_choiceOf_0 : decode cX11_choiceOf 0 = .ok (.aload_n 0, 1) := by decide +kernel
theorem dX11_choiceOf_1 : decode cX11_choiceOf 1 = .ok (.getfield 18, 3) := by decide +kernel
theorem dX11_choiceOf_4 : decode cX11_choiceOf 4 = .ok (.iload_n 2, 1) := by decide +kernel
theorem dX11_choiceOf_5 : decode cX11_choiceOf 5 = .ok (.invokevirtual 146, 3) := by decide +kernel
theorem dX11_choiceOf_8 : decode cX11_choiceOf 8 = .ok (.ifCond .eq 11, 3) := by decide +kernel
theorem dX11_choiceOf_11 : decode cX11_choiceOf 11 = .ok (.aload_n 0, 1) := by decide +kernel
theorem dX11_choiceOf_12 : decode cX11_choiceOf 12 = .ok (.iload_n 3, 1) := by decide +kernel
theorem dX11_choiceOf_13 : decode cX11_choiceOf 13 = .ok (.invokevirtual 198, 3) := by decide +kernel
theorem dX11_choiceOf_16 : decode cX11_choiceOf 16 = .ok (.goto 4, 3) := by decide +kernel
theorem dX11_choiceOf_19 : decode cX11_choiceOf 19 = .ok (.iconst (-1), 1) := by decide +kernel
theorem dX11_choiceOf_20 : decode cX11_choiceOf 20 = .ok (.istore 4, 2) := by decide +kernel
theorem dX11_choiceOf_22 : decode cX11_choiceOf 22 = .ok (.iload 4, 2) := by decide +kernel
theorem dX11_choiceOf_24 : decode cX11_choiceOf 24 = .ok (.ifCond .eq 10, 3) := by decide +kernel
theorem dX11_choiceOf_27 : decode cX11_choiceOf 27 = .ok (.aload_n 0, 1) := by decide +kernel
theorem dX11_choiceOf_28 : decode cX11_choiceOf 28 = .ok (.iload 4, 2) := by decide +kernel
theorem dX11_choiceOf_30 : decode cX11_choiceOf 30 = .ok (.invokevirtual 132, 3) := by decide +kernel
theorem dX11_choiceOf_33 : decode cX11_choiceOf 33 = .ok (.ireturn, 1) := by decide +kernel
theorem dX11_choiceOf_34 : decode cX11_choiceOf 34 = .ok (.aload_n 1, 1) := by decide +kernel
theorem dX11_choiceOf_35 : decode cX11_choiceOf 35 = .ok (.iload_n 2, 1) := by decide +kernel
theorem dX11_choiceOf_36 : decode cX11_choiceOf 36 = .ok (.aload_n 0, 1) := by decide +kernel
theorem dX11_choiceOf_37 : decode cX11_choiceOf 37 = .ok (.getfield 11, 3) := by decide +kernel
theorem dX11_choiceOf_40 : decode cX11_choiceOf 40 = .ok (.iload_n 3, 1) := by decide +kernel
theorem dX11_choiceOf_41 : decode cX11_choiceOf 41 = .ok (.aaload, 1) := by decide +kernel
theorem dX11_choiceOf_42 : decode cX11_choiceOf 42 = .ok (.invokevirtual 310, 3) := by decide +kernel
theorem dX11_choiceOf_45 : decode cX11_choiceOf 45 = .ok (.aload_n 0, 1) := by decide +kernel
theorem dX11_choiceOf_46 : decode cX11_choiceOf 46 = .ok (.getfield 11, 3) := by decide +kernel
theorem dX11_choiceOf_49 : decode cX11_choiceOf 49 = .ok (.iload_n 3, 1) := by decide +kernel
theorem dX11_choiceOf_50 : decode cX11_choiceOf 50 = .ok (.aaload, 1) := by decide +kernel
theorem dX11_choiceOf_51 : decode cX11_choiceOf 51 = .ok (.getfield 235, 3) := by decide +kernel
theorem dX11_choiceOf_54 : decode cX11_choiceOf 54 = .ok (.ireturn, 1) := by decide +kernel
theorem dX11_elect_0 : decode cX11_elect 0 = .ok (.aload_n 0, 1) := by decide +kernel
theorem dX11_elect_1 : decode cX11_elect 1 = .ok (.getfield 43, 3) := by decide +kernel
theorem dX11_elect_4 : decode cX11_elect 4 = .ok (.iload_n 1, 1) := by decide +kernel
theorem dX11_elect_5 : decode cX11_elect 5 = .ok (.invokevirtual 284, 3) := by decide +kernel
theorem dX11_elect_8 : decode cX11_elect 8 = .ok (.ifCond .eq 14, 3) := by decide +kernel
theorem dX11_elect_11 : decode cX11_elect 11 = .ok (.aload_n 0, 1) := by decide +kernel
theorem dX11_elect_12 : decode cX11_elect 12 = .ok (.getfield 18, 3) := by decide +kernel
theorem dX11_elect_15 : decode cX11_elect 15 = .ok (.iload_n 2, 1) := by decide +kernel
theorem dX11_elect_16 : decode cX11_elect 16 = .ok (.invokevirtual 314, 3) := by decide +kernel
theorem dX11_elect_19 : decode cX11_elect 19 = .ok (.ifCond .ne 9, 3) := by decide +kernel
theorem dX11_elect_22 : decode cX11_elect 22 = .ok (.aload_n 0, 1) := by decide +kernel
theorem dX11_elect_23 : decode cX11_elect 23 = .ok (.iconst (-1), 1) := by decide +kernel
theorem dX11_elect_24 : decode cX11_elect 24 = .ok (.invokevirtual 132, 3) := by decide +kernel
theorem dX11_elect_27 : decode cX11_elect 27 = .ok (.ireturn, 1) := by decide +kernel
theorem dX11_elect_28 : decode cX11_elect 28 = .ok (.aload_n 0, 1) := by decide +kernel
theorem dX11_elect_29 : decode cX11_elect 29 = .ok (.getfield 43, 3) := by decide +kernel
theorem dX11_elect_32 : decode cX11_elect 32 = .ok (.getfield 285, 3) := by decide +kernel
theorem dX11_elect_35 : decode cX11_elect 35 = .ok (.iload_n 1, 1) := by decide +kernel
theorem dX11_elect_36 : decode cX11_elect 36 = .ok (.iaload, 1) := by decide +kernel
theorem dX11_elect_37 : decode cX11_elect 37 = .ok (.iconst (-1), 1) := by decide +kernel
theorem dX11_elect_38 : decode cX11_elect 38 = .ok (.if_icmp .ne 27, 3) := by decide +kernel
theorem dX11_elect_41 : decode cX11_elect 41 = .ok (.aload_n 0, 1) := by decide +kernel
theorem dX11_elect_42 : decode cX11_elect 42 = .ok (.getfield 61, 3) := by decide +kernel
theorem dX11_elect_45 : decode cX11_elect 45 = .ok (.aload_n 0, 1) := by decide +kernel
theorem dX11_elect_46 : decode cX11_elect 46 = .ok (.getfield 43, 3) := by decide +kernel
theorem dX11_elect_49 : decode cX11_elect 49 = .ok (.getfield 288, 3) := by decide +kernel
theorem dX11_elect_52 : decode cX11_elect 52 = .ok (.iload_n 1, 1) := by decide +kernel
theorem dX11_elect_53 : decode cX11_elect 53 = .ok (.iaload, 1) := by decide +kernel
theorem dX11_elect_54 : decode cX11_elect 54 = .ok (.iload_n 2, 1) := by decide +kernel
theorem dX11_elect_55 : decode cX11_elect 55 = .ok (.aload_n 0, 1) := by decide +kernel
theorem dX11_elect_56 : decode cX11_elect 56 = .ok (.getfield 106, 3) := by decide +kernel
theorem dX11_elect_59 : decode cX11_elect 59 = .ok (.invokevirtual 317, 3) := by decide +kernel
theorem dX11_elect_62 : decode cX11_elect 62 = .ok (.ifCond .ne 10, 3) := by decide +kernel
theorem dX11_elect_65 : decode cX11_elect 65 = .ok (.aload_n 0, 1) := by decide +kernel
theorem dX11_elect_66 : decode cX11_elect 66 = .ok (.bipush (-6), 2) := by decide +kernel
theorem dX11_elect_68 : decode cX11_elect 68 = .ok (.invokevirtual 132, 3) := by decide +kernel
theorem dX11_elect_71 : decode cX11_elect 71 = .ok (.ireturn, 1) := by decide +kernel
theorem dX11_elect_72 : decode cX11_elect 72 = .ok (.aload_n 0, 1) := by decide +kernel
theorem dX11_elect_73 : decode cX11_elect 73 = .ok (.getfield 61, 3) := by decide +kernel
theorem dX11_elect_76 : decode cX11_elect 76 = .ok (.iload_n 2, 1) := by decide +kernel
theorem dX11_elect_77 : decode cX11_elect 77 = .ok (.invokevirtual 320, 3) := by decide +kernel
theorem dX11_elect_80 : decode cX11_elect 80 = .ok (.istore_n 3, 1) := by decide +kernel
theorem dX11_elect_81 : decode cX11_elect 81 = .ok (.aload_n 0, 1) := by decide +kernel
theorem dX11_elect_82 : decode cX11_elect 82 = .ok (.getfield 43, 3) := by decide +kernel
theorem dX11_elect_85 : decode cX11_elect 85 = .ok (.iload_n 3, 1) := by decide +kernel
theorem dX11_elect_86 : decode cX11_elect 86 = .ok (.iload_n 1, 1) := by decide +kernel
theorem dX11_elect_87 : decode cX11_elect 87 = .ok (.aload_n 0, 1) := by decide +kernel
theorem dX11_elect_88 : decode cX11_elect 88 = .ok (.getfield 106, 3) := by decide +kernel
theorem dX11_elect_91 : decode cX11_elect 91 = .ok (.invokevirtual 294, 3) := by decide +kernel
theorem dX11_elect_94 : decode cX11_elect 94 = .ok (.iload_n 3, 1) := by decide +kernel
theorem dX11_elect_95 : decode cX11_elect 95 = .ok (.ireturn, 1) := by decide +kernel
theorem dX11_votes_0 : decode cX11_votes 0 = .ok (.aload_n 0, 1) := by decide +kernel
theorem dX11_votes_1 : decode cX11_votes 1 = .ok (.getfield 18, 3) := by decide +kernel
theorem dX11_votes_4 : decode cX11_votes 4 = .ok (.iload_n 2, 1) := by decide +kernel
theorem dX11_votes_5 : decode cX11_votes 5 = .ok (.invokevirtual 146, 3) := by decide +kernel
theorem dX11_votes_8 : decode cX11_votes 8 = .ok (.ifCond .eq 15, 3) := by decide +kernel
theorem dX11_votes_11 : decode cX11_votes 11 = .ok (.aload_n 0, 1) := by decide +kernel
theorem dX11_votes_12 : decode cX11_votes 12 = .ok (.getfield 61, 3) := by decide +kernel
theorem dX11_votes_15 : decode cX11_votes 15 = .ok (.iload_n 1, 1) := by decide +kernel
theorem dX11_votes_16 : decode cX11_votes 16 = .ok (.iload_n 2, 1) := by decide +kernel
theorem dX11_votes_17 : decode cX11_votes 17 = .ok (.invokevirtual 323, 3) := by decide +kernel
theorem dX11_votes_20 : decode cX11_votes 20 = .ok (.goto 4, 3) := by decide +kernel
theorem dX11_votes_23 : decode cX11_votes 23 = .ok (.iconst (-1), 1) := by decide +kernel
theorem dX11_votes_24 : decode cX11_votes 24 = .ok (.ireturn, 1) := by decide +kernel
theorem dX11_without_0 : decode cX11_without 0 = .ok (.aload_n 0, 1) := by decide +kernel
theorem dX11_without_1 : decode cX11_without 1 = .ok (.getfield 18, 3) := by decide +kernel
theorem dX11_without_4 : decode cX11_without 4 = .ok (.iload_n 1, 1) := by decide +kernel
theorem dX11_without_5 : decode cX11_without 5 = .ok (.invokevirtual 146, 3) := by decide +kernel
theorem dX11_without_8 : decode cX11_without 8 = .ok (.ifCond .eq 14, 3) := by decide +kernel
theorem dX11_without_11 : decode cX11_without 11 = .ok (.aload_n 0, 1) := by decide +kernel
theorem dX11_without_12 : decode cX11_without 12 = .ok (.getfield 61, 3) := by decide +kernel
theorem dX11_without_15 : decode cX11_without 15 = .ok (.iload_n 1, 1) := by decide +kernel
theorem dX11_without_16 : decode cX11_without 16 = .ok (.invokevirtual 326, 3) := by decide +kernel
theorem dX11_without_19 : decode cX11_without 19 = .ok (.goto 4, 3) := by decide +kernel
theorem dX11_without_22 : decode cX11_without 22 = .ok (.iconst (-1), 1) := by decide +kernel
theorem dX11_without_23 : decode cX11_without 23 = .ok (.ireturn, 1) := by decide +kernel
theorem dX11_asked_0 : decode cX11_asked 0 = .ok (.aload_n 0, 1) := by decide +kernel
theorem dX11_asked_1 : decode cX11_asked 1 = .ok (.getfield 43, 3) := by decide +kernel
theorem dX11_asked_4 : decode cX11_asked 4 = .ok (.iload_n 1, 1) := by decide +kernel
theorem dX11_asked_5 : decode cX11_asked 5 = .ok (.invokevirtual 284, 3) := by decide +kernel
theorem dX11_asked_8 : decode cX11_asked 8 = .ok (.ifCond .eq 18, 3) := by decide +kernel
theorem dX11_asked_11 : decode cX11_asked 11 = .ok (.aload_n 0, 1) := by decide +kernel
theorem dX11_asked_12 : decode cX11_asked 12 = .ok (.getfield 43, 3) := by decide +kernel
theorem dX11_asked_15 : decode cX11_asked 15 = .ok (.iload_n 1, 1) := by decide +kernel
theorem dX11_asked_16 : decode cX11_asked 16 = .ok (.aload_n 0, 1) := by decide +kernel
theorem dX11_asked_17 : decode cX11_asked 17 = .ok (.getfield 106, 3) := by decide +kernel
theorem dX11_asked_20 : decode cX11_asked 20 = .ok (.invokevirtual 329, 3) := by decide +kernel
theorem dX11_asked_23 : decode cX11_asked 23 = .ok (.goto 4, 3) := by decide +kernel
theorem dX11_asked_26 : decode cX11_asked 26 = .ok (.iconst (-1), 1) := by decide +kernel
theorem dX11_asked_27 : decode cX11_asked 27 = .ok (.ireturn, 1) := by decide +kernel
theorem dX11_answer_0 : decode cX11_answer 0 = .ok (.aload_n 0, 1) := by decide +kernel
theorem dX11_answer_1 : decode cX11_answer 1 = .ok (.getfield 43, 3) := by decide +kernel
theorem dX11_answer_4 : decode cX11_answer 4 = .ok (.iload_n 1, 1) := by decide +kernel
theorem dX11_answer_5 : decode cX11_answer 5 = .ok (.invokevirtual 284, 3) := by decide +kernel
theorem dX11_answer_8 : decode cX11_answer 8 = .ok (.ifCond .ne 9, 3) := by decide +kernel
theorem dX11_answer_11 : decode cX11_answer 11 = .ok (.aload_n 0, 1) := by decide +kernel
theorem dX11_answer_12 : decode cX11_answer 12 = .ok (.iconst (-1), 1) := by decide +kernel
theorem dX11_answer_13 : decode cX11_answer 13 = .ok (.invokevirtual 132, 3) := by decide +kernel
theorem dX11_answer_16 : decode cX11_answer 16 = .ok (.ireturn, 1) := by decide +kernel
theorem dX11_answer_17 : decode cX11_answer 17 = .ok (.aload_n 0, 1) := by decide +kernel
theorem dX11_answer_18 : decode cX11_answer 18 = .ok (.getfield 43, 3) := by decide +kernel
theorem dX11_answer_21 : decode cX11_answer 21 = .ok (.iload_n 1, 1) := by decide +kernel
theorem dX11_answer_22 : decode cX11_answer 22 = .ok (.aload_n 0, 1) := by decide +kernel
theorem dX11_answer_23 : decode cX11_answer 23 = .ok (.getfield 106, 3) := by decide +kernel
theorem dX11_answer_26 : decode cX11_answer 26 = .ok (.invokevirtual 329, 3) := by decide +kernel
theorem dX11_answer_29 : decode cX11_answer 29 = .ok (.istore_n 3, 1) := by decide +kernel
theorem dX11_answer_30 : decode cX11_answer 30 = .ok (.iload_n 3, 1) := by decide +kernel
theorem dX11_answer_31 : decode cX11_answer 31 = .ok (.iconst (-1), 1) := by decide +kernel
theorem dX11_answer_32 : decode cX11_answer 32 = .ok (.if_icmp .ne 10, 3) := by decide +kernel
theorem dX11_answer_35 : decode cX11_answer 35 = .ok (.aload_n 0, 1) := by decide +kernel
theorem dX11_answer_36 : decode cX11_answer 36 = .ok (.bipush (-6), 2) := by decide +kernel
theorem dX11_answer_38 : decode cX11_answer 38 = .ok (.invokevirtual 132, 3) := by decide +kernel
theorem dX11_answer_41 : decode cX11_answer 41 = .ok (.ireturn, 1) := by decide +kernel
theorem dX11_answer_42 : decode cX11_answer 42 = .ok (.iload_n 2, 1) := by decide +kernel
theorem dX11_answer_43 : decode cX11_answer 43 = .ok (.ifCond .eq 19, 3) := by decide +kernel
theorem dX11_answer_46 : decode cX11_answer 46 = .ok (.aload_n 0, 1) := by decide +kernel
theorem dX11_answer_47 : decode cX11_answer 47 = .ok (.getfield 43, 3) := by decide +kernel
theorem dX11_answer_50 : decode cX11_answer 50 = .ok (.iload_n 3, 1) := by decide +kernel
theorem dX11_answer_51 : decode cX11_answer 51 = .ok (.iload_n 1, 1) := by decide +kernel
theorem dX11_answer_52 : decode cX11_answer 52 = .ok (.aload_n 0, 1) := by decide +kernel
theorem dX11_answer_53 : decode cX11_answer 53 = .ok (.getfield 106, 3) := by decide +kernel
theorem dX11_answer_56 : decode cX11_answer 56 = .ok (.invokevirtual 294, 3) := by decide +kernel
theorem dX11_answer_59 : decode cX11_answer 59 = .ok (.goto 18, 3) := by decide +kernel
theorem dX11_answer_62 : decode cX11_answer 62 = .ok (.aload_n 0, 1) := by decide +kernel
theorem dX11_answer_63 : decode cX11_answer 63 = .ok (.getfield 43, 3) := by decide +kernel
theorem dX11_answer_66 : decode cX11_answer 66 = .ok (.getfield 332, 3) := by decide +kernel
theorem dX11_answer_69 : decode cX11_answer 69 = .ok (.iload_n 1, 1) := by decide +kernel
theorem dX11_answer_70 : decode cX11_answer 70 = .ok (.dup2, 1) := by decide +kernel
theorem dX11_answer_71 : decode cX11_answer 71 = .ok (.iaload, 1) := by decide +kernel
theorem dX11_answer_72 : decode cX11_answer 72 = .ok (.iconst 1, 1) := by decide +kernel
theorem dX11_answer_73 : decode cX11_answer 73 = .ok (.iload_n 3, 1) := by decide +kernel
theorem dX11_answer_74 : decode cX11_answer 74 = .ok (.ishl, 1) := by decide +kernel
theorem dX11_answer_75 : decode cX11_answer 75 = .ok (.ior, 1) := by decide +kernel
theorem dX11_answer_76 : decode cX11_answer 76 = .ok (.iastore, 1) := by decide +kernel
theorem dX11_answer_77 : decode cX11_answer 77 = .ok (.iload_n 3, 1) := by decide +kernel
theorem dX11_answer_78 : decode cX11_answer 78 = .ok (.ireturn, 1) := by decide +kernel
theorem dX11_areTerms_0 : decode cX11_areTerms 0 = .ok (.iload_n 0, 1) := by decide +kernel
theorem dX11_areTerms_1 : decode cX11_areTerms 1 = .ok (.iconst 1, 1) := by decide +kernel
theorem dX11_areTerms_2 : decode cX11_areTerms 2 = .ok (.sipush 9999, 3) := by decide +kernel
theorem dX11_areTerms_5 : decode cX11_areTerms 5 = .ok (.invokestatic 111, 3) := by decide +kernel
theorem dX11_areTerms_8 : decode cX11_areTerms 8 = .ok (.ifCond .eq 39, 3) := by decide +kernel
theorem dX11_areTerms_11 : decode cX11_areTerms 11 = .ok (.iload_n 1, 1) := by decide +kernel
theorem dX11_areTerms_12 : decode cX11_areTerms 12 = .ok (.iconst 0, 1) := by decide +kernel
theorem dX11_areTerms_13 : decode cX11_areTerms 13 = .ok (.sipush 999, 3) := by decide +kernel
theorem dX11_areTerms_16 : decode cX11_areTerms 16 = .ok (.invokestatic 111, 3) := by decide +kernel
theorem dX11_areTerms_19 : decode cX11_areTerms 19 = .ok (.ifCond .eq 28, 3) := by decide +kernel
theorem dX11_areTerms_22 : decode cX11_areTerms 22 = .ok (.iload_n 2, 1) := by decide +kernel
theorem dX11_areTerms_23 : decode cX11_areTerms 23 = .ok (.iconst 0, 1) := by decide +kernel
theorem dX11_areTerms_24 : decode cX11_areTerms 24 = .ok (.sipush 999, 3) := by decide +kernel
theorem dX11_areTerms_27 : decode cX11_areTerms 27 = .ok (.invokestatic 111, 3) := by decide +kernel
theorem dX11_areTerms_30 : decode cX11_areTerms 30 = .ok (.ifCond .eq 17, 3) := by decide +kernel
theorem dX11_areTerms_33 : decode cX11_areTerms 33 = .ok (.iload_n 3, 1) := by decide +kernel
theorem dX11_areTerms_34 : decode cX11_areTerms 34 = .ok (.iconst 0, 1) := by decide +kernel
theorem dX11_areTerms_35 : decode cX11_areTerms 35 = .ok (.bipush 51, 2) := by decide +kernel
theorem dX11_areTerms_37 : decode cX11_areTerms 37 = .ok (.invokestatic 111, 3) := by decide +kernel
theorem dX11_areTerms_40 : decode cX11_areTerms 40 = .ok (.ifCond .eq 7, 3) := by decide +kernel
theorem dX11_areTerms_43 : decode cX11_areTerms 43 = .ok (.iconst 1, 1) := by decide +kernel
theorem dX11_areTerms_44 : decode cX11_areTerms 44 = .ok (.goto 4, 3) := by decide +kernel
theorem dX11_areTerms_47 : decode cX11_areTerms 47 = .ok (.iconst 0, 1) := by decide +kernel
theorem dX11_areTerms_48 : decode cX11_areTerms 48 = .ok (.ireturn, 1) := by decide +kernel
theorem dX11_lease_0 : decode cX11_lease 0 = .ok (.iload_n 1, 1) := by decide +kernel
theorem dX11_lease_1 : decode cX11_lease 1 = .ok (.iload_n 2, 1) := by decide +kernel
theorem dX11_lease_2 : decode cX11_lease 2 = .ok (.iload_n 3, 1) := by decide +kernel
theorem dX11_lease_3 : decode cX11_lease 3 = .ok (.iload 4, 2) := by decide +kernel
theorem dX11_lease_5 : decode cX11_lease 5 = .ok (.invokestatic 335, 3) := by decide +kernel
theorem dX11_lease_8 : decode cX11_lease 8 = .ok (.ifCond .eq 26, 3) := by decide +kernel
theorem dX11_lease_11 : decode cX11_lease 11 = .ok (.iload 5, 2) := by decide +kernel
theorem dX11_lease_13 : decode cX11_lease 13 = .ok (.iconst 1, 1) := by decide +kernel
theorem dX11_lease_14 : decode cX11_lease 14 = .ok (.bipush 40, 2) := by decide +kernel
theorem dX11_lease_16 : decode cX11_lease 16 = .ok (.invokestatic 111, 3) := by decide +kernel
theorem dX11_lease_19 : decode cX11_lease 19 = .ok (.ifCond .eq 15, 3) := by decide +kernel
theorem dX11_lease_22 : decode cX11_lease 22 = .ok (.iload 6, 2) := by decide +kernel
theorem dX11_lease_24 : decode cX11_lease 24 = .ok (.iconst 0, 1) := by decide +kernel
theorem dX11_lease_25 : decode cX11_lease 25 = .ok (.sipush 200, 3) := by decide +kernel
theorem dX11_lease_28 : decode cX11_lease 28 = .ok (.invokestatic 111, 3) := by decide +kernel
theorem dX11_lease_31 : decode cX11_lease 31 = .ok (.ifCond .ne 10, 3) := by decide +kernel
theorem dX11_lease_34 : decode cX11_lease 34 = .ok (.aload_n 0, 1) := by decide +kernel
theorem dX11_lease_35 : decode cX11_lease 35 = .ok (.bipush (-6), 2) := by decide +kernel
theorem dX11_lease_37 : decode cX11_lease 37 = .ok (.invokevirtual 132, 3) := by decide +kernel
theorem dX11_lease_40 : decode cX11_lease 40 = .ok (.ireturn, 1) := by decide +kernel
theorem dX11_lease_41 : decode cX11_lease 41 = .ok (.aload_n 0, 1) := by decide +kernel
theorem dX11_lease_42 : decode cX11_lease 42 = .ok (.getfield 70, 3) := by decide +kernel
theorem dX11_lease_45 : decode cX11_lease 45 = .ok (.getfield 338, 3) := by decide +kernel
theorem dX11_lease_48 : decode cX11_lease 48 = .ok (.bipush 8, 2) := by decide +kernel
theorem dX11_lease_50 : decode cX11_lease 50 = .ok (.if_icmp .ne 10, 3) := by decide +kernel
theorem dX11_lease_53 : decode cX11_lease 53 = .ok (.aload_n 0, 1) := by decide +kernel
theorem dX11_lease_54 : decode cX11_lease 54 = .ok (.bipush (-7), 2) := by decide +kernel
theorem dX11_lease_56 : decode cX11_lease 56 = .ok (.invokevirtual 132, 3) := by decide +kernel
theorem dX11_lease_59 : decode cX11_lease 59 = .ok (.ireturn, 1) := by decide +kernel
theorem dX11_lease_60 : decode cX11_lease 60 = .ok (.aload_n 0, 1) := by decide +kernel
theorem dX11_lease_61 : decode cX11_lease 61 = .ok (.getfield 70, 3) := by decide +kernel
theorem dX11_lease_64 : decode cX11_lease 64 = .ok (.getfield 339, 3) := by decide +kernel
theorem dX11_lease_67 : decode cX11_lease 67 = .ok (.aload_n 0, 1) := by decide +kernel
theorem dX11_lease_68 : decode cX11_lease 68 = .ok (.getfield 70, 3) := by decide +kernel
theorem dX11_lease_71 : decode cX11_lease 71 = .ok (.getfield 338, 3) := by decide +kernel
theorem dX11_lease_74 : decode cX11_lease 74 = .ok (.iload 6, 2) := by decide +kernel
theorem dX11_lease_76 : decode cX11_lease 76 = .ok (.iastore, 1) := by decide +kernel
theorem dX11_lease_77 : decode cX11_lease 77 = .ok (.aload_n 0, 1) := by decide +kernel
theorem dX11_lease_78 : decode cX11_lease 78 = .ok (.getfield 70, 3) := by decide +kernel
theorem dX11_lease_81 : decode cX11_lease 81 = .ok (.getfield 342, 3) := by decide +kernel
theorem dX11_lease_84 : decode cX11_lease 84 = .ok (.aload_n 0, 1) := by decide +kernel
theorem dX11_lease_85 : decode cX11_lease 85 = .ok (.getfield 70, 3) := by decide +kernel
theorem dX11_lease_88 : decode cX11_lease 88 = .ok (.getfield 338, 3) := by decide +kernel
theorem dX11_lease_91 : decode cX11_lease 91 = .ok (.iload 5, 2) := by decide +kernel
theorem dX11_lease_93 : decode cX11_lease 93 = .ok (.iastore, 1) := by decide +kernel
theorem dX11_lease_94 : decode cX11_lease 94 = .ok (.aload_n 0, 1) := by decide +kernel
theorem dX11_lease_95 : decode cX11_lease 95 = .ok (.getfield 70, 3) := by decide +kernel
theorem dX11_lease_98 : decode cX11_lease 98 = .ok (.iload_n 1, 1) := by decide +kernel
theorem dX11_lease_99 : decode cX11_lease 99 = .ok (.iload_n 2, 1) := by decide +kernel
theorem dX11_lease_100 : decode cX11_lease 100 = .ok (.iload_n 3, 1) := by decide +kernel
theorem dX11_lease_101 : decode cX11_lease 101 = .ok (.iload 4, 2) := by decide +kernel
theorem dX11_lease_103 : decode cX11_lease 103 = .ok (.invokevirtual 345, 3) := by decide +kernel
theorem dX11_lease_106 : decode cX11_lease 106 = .ok (.ireturn, 1) := by decide +kernel
theorem dX11_lives_0 : decode cX11_lives 0 = .ok (.aload_n 0, 1) := by decide +kernel
theorem dX11_lives_1 : decode cX11_lives 1 = .ok (.getfield 18, 3) := by decide +kernel
theorem dX11_lives_4 : decode cX11_lives 4 = .ok (.iload 5, 2) := by decide +kernel
theorem dX11_lives_6 : decode cX11_lives 6 = .ok (.invokevirtual 314, 3) := by decide +kernel
theorem dX11_lives_9 : decode cX11_lives 9 = .ok (.ifCond .ne 9, 3) := by decide +kernel
theorem dX11_lives_12 : decode cX11_lives 12 = .ok (.aload_n 0, 1) := by decide +kernel
theorem dX11_lives_13 : decode cX11_lives 13 = .ok (.iconst (-1), 1) := by decide +kernel
theorem dX11_lives_14 : decode cX11_lives 14 = .ok (.invokevirtual 132, 3) := by decide +kernel
theorem dX11_lives_17 : decode cX11_lives 17 = .ok (.ireturn, 1) := by decide +kernel
theorem dX11_lives_18 : decode cX11_lives 18 = .ok (.iload_n 1, 1) := by decide +kernel
theorem dX11_lives_19 : decode cX11_lives 19 = .ok (.iload_n 2, 1) := by decide +kernel
theorem dX11_lives_20 : decode cX11_lives 20 = .ok (.iload_n 3, 1) := by decide +kernel
theorem dX11_lives_21 : decode cX11_lives 21 = .ok (.iload 4, 2) := by decide +kernel
theorem dX11_lives_23 : decode cX11_lives 23 = .ok (.invokestatic 335, 3) := by decide +kernel
theorem dX11_lives_26 : decode cX11_lives 26 = .ok (.ifCond .eq 16, 3) := by decide +kernel
theorem dX11_lives_29 : decode cX11_lives 29 = .ok (.iload 5, 2) := by decide +kernel
theorem dX11_lives_31 : decode cX11_lives 31 = .ok (.invokestatic 347, 3) := by decide +kernel
theorem dX11_lives_34 : decode cX11_lives 34 = .ok (.iconst 1, 1) := by decide +kernel
theorem dX11_lives_35 : decode cX11_lives 35 = .ok (.iconst 3, 1) := by decide +kernel
theorem dX11_lives_36 : decode cX11_lives 36 = .ok (.invokestatic 111, 3) := by decide +kernel
theorem dX11_lives_39 : decode cX11_lives 39 = .ok (.ifCond .ne 10, 3) := by decide +kernel
theorem dX11_lives_42 : decode cX11_lives 42 = .ok (.aload_n 0, 1) := by decide +kernel
theorem dX11_lives_43 : decode cX11_lives 43 = .ok (.bipush (-6), 2) := by decide +kernel
theorem dX11_lives_45 : decode cX11_lives 45 = .ok (.invokevirtual 132, 3) := by decide +kernel
theorem dX11_lives_48 : decode cX11_lives 48 = .ok (.ireturn, 1) := by decide +kernel
theorem dX11_lives_49 : decode cX11_lives 49 = .ok (.aload_n 0, 1) := by decide +kernel
theorem dX11_lives_50 : decode cX11_lives 50 = .ok (.getfield 70, 3) := by decide +kernel
theorem dX11_lives_53 : decode cX11_lives 53 = .ok (.getfield 338, 3) := by decide +kernel
theorem dX11_lives_56 : decode cX11_lives 56 = .ok (.bipush 8, 2) := by decide +kernel
theorem dX11_lives_58 : decode cX11_lives 58 = .ok (.if_icmp .ne 10, 3) := by decide +kernel
theorem dX11_lives_61 : decode cX11_lives 61 = .ok (.aload_n 0, 1) := by decide +kernel
theorem dX11_lives_62 : decode cX11_lives 62 = .ok (.bipush (-7), 2) := by decide +kernel
theorem dX11_lives_64 : decode cX11_lives 64 = .ok (.invokevirtual 132, 3) := by decide +kernel
theorem dX11_lives_67 : decode cX11_lives 67 = .ok (.ireturn, 1) := by decide +kernel
theorem dX11_lives_68 : decode cX11_lives 68 = .ok (.aload_n 0, 1) := by decide +kernel
theorem dX11_lives_69 : decode cX11_lives 69 = .ok (.getfield 70, 3) := by decide +kernel
theorem dX11_lives_72 : decode cX11_lives 72 = .ok (.getfield 352, 3) := by decide +kernel
theorem dX11_lives_75 : decode cX11_lives 75 = .ok (.aload_n 0, 1) := by decide +kernel
theorem dX11_lives_76 : decode cX11_lives 76 = .ok (.getfield 70, 3) := by decide +kernel
theorem dX11_lives_79 : decode cX11_lives 79 = .ok (.getfield 338, 3) := by decide +kernel
theorem dX11_lives_82 : decode cX11_lives 82 = .ok (.iload 5, 2) := by decide +kernel
theorem dX11_lives_84 : decode cX11_lives 84 = .ok (.iastore, 1) := by decide +kernel
theorem dX11_lives_85 : decode cX11_lives 85 = .ok (.aload_n 0, 1) := by decide +kernel
theorem dX11_lives_86 : decode cX11_lives 86 = .ok (.getfield 70, 3) := by decide +kernel
theorem dX11_lives_89 : decode cX11_lives 89 = .ok (.iload_n 1, 1) := by decide +kernel
theorem dX11_lives_90 : decode cX11_lives 90 = .ok (.iload_n 2, 1) := by decide +kernel
theorem dX11_lives_91 : decode cX11_lives 91 = .ok (.iload_n 3, 1) := by decide +kernel
theorem dX11_lives_92 : decode cX11_lives 92 = .ok (.iload 4, 2) := by decide +kernel
theorem dX11_lives_94 : decode cX11_lives 94 = .ok (.invokevirtual 345, 3) := by decide +kernel
theorem dX11_lives_97 : decode cX11_lives 97 = .ok (.ireturn, 1) := by decide +kernel
theorem dX11_price_0 : decode cX11_price 0 = .ok (.iload_n 1, 1) := by decide +kernel
theorem dX11_price_1 : decode cX11_price 1 = .ok (.iconst 0, 1) := by decide +kernel
theorem dX11_price_2 : decode cX11_price 2 = .ok (.sipush 200, 3) := by decide +kernel
theorem dX11_price_5 : decode cX11_price 5 = .ok (.invokestatic 111, 3) := by decide +kernel
theorem dX11_price_8 : decode cX11_price 8 = .ok (.ifCond .eq 40, 3) := by decide +kernel
theorem dX11_price_11 : decode cX11_price 11 = .ok (.iload_n 2, 1) := by decide +kernel
theorem dX11_price_12 : decode cX11_price 12 = .ok (.iconst 0, 1) := by decide +kernel
theorem dX11_price_13 : decode cX11_price 13 = .ok (.bipush 51, 2) := by decide +kernel
theorem dX11_price_15 : decode cX11_price 15 = .ok (.invokestatic 111, 3) := by decide +kernel
theorem dX11_price_18 : decode cX11_price 18 = .ok (.ifCond .eq 30, 3) := by decide +kernel
theorem dX11_price_21 : decode cX11_price 21 = .ok (.iload_n 3, 1) := by decide +kernel
theorem dX11_price_22 : decode cX11_price 22 = .ok (.iconst 0, 1) := by decide +kernel
theorem dX11_price_23 : decode cX11_price 23 = .ok (.sipush 999, 3) := by decide +kernel
theorem dX11_price_26 : decode cX11_price 26 = .ok (.invokestatic 111, 3) := by decide +kernel
theorem dX11_price_29 : decode cX11_price 29 = .ok (.ifCond .eq 19, 3) := by decide +kernel
theorem dX11_price_32 : decode cX11_price 32 = .ok (.aload_n 0, 1) := by decide +kernel
theorem dX11_price_33 : decode cX11_price 33 = .ok (.getfield 70, 3) := by decide +kernel
theorem dX11_price_36 : decode cX11_price 36 = .ok (.bipush 52, 2) := by decide +kernel
theorem dX11_price_38 : decode cX11_price 38 = .ok (.iload_n 1, 1) := by decide +kernel
theorem dX11_price_39 : decode cX11_price 39 = .ok (.imul, 1) := by decide +kernel
theorem dX11_price_40 : decode cX11_price 40 = .ok (.iload_n 2, 1) := by decide +kernel
theorem dX11_price_41 : decode cX11_price 41 = .ok (.iadd, 1) := by decide +kernel
theorem dX11_price_42 : decode cX11_price 42 = .ok (.invokevirtual 355, 3) := by decide +kernel
theorem dX11_price_45 : decode cX11_price 45 = .ok (.ifCond .eq 10, 3) := by decide +kernel
theorem dX11_price_48 : decode cX11_price 48 = .ok (.aload_n 0, 1) := by decide +kernel
theorem dX11_price_49 : decode cX11_price 49 = .ok (.bipush (-6), 2) := by decide +kernel
theorem dX11_price_51 : decode cX11_price 51 = .ok (.invokevirtual 132, 3) := by decide +kernel
theorem dX11_price_54 : decode cX11_price 54 = .ok (.ireturn, 1) := by decide +kernel
theorem dX11_price_55 : decode cX11_price 55 = .ok (.aload_n 0, 1) := by decide +kernel
theorem dX11_price_56 : decode cX11_price 56 = .ok (.getfield 70, 3) := by decide +kernel
theorem dX11_price_59 : decode cX11_price 59 = .ok (.getfield 358, 3) := by decide +kernel
theorem dX11_price_62 : decode cX11_price 62 = .ok (.sipush 200, 3) := by decide +kernel
theorem dX11_price_65 : decode cX11_price 65 = .ok (.if_icmp .ne 12, 3) := by decide +kernel
theorem dX11_price_68 : decode cX11_price 68 = .ok (.aload_n 0, 1) := by decide +kernel
theorem dX11_price_69 : decode cX11_price 69 = .ok (.bipush (-7), 2) := by decide +kernel
theorem dX11_price_71 : decode cX11_price 71 = .ok (.invokevirtual 132, 3) := by decide +kernel
theorem dX11_price_74 : decode cX11_price 74 = .ok (.goto 17, 3) := by decide +kernel
theorem dX11_price_77 : decode cX11_price 77 = .ok (.aload_n 0, 1) := by decide +kernel
theorem dX11_price_78 : decode cX11_price 78 = .ok (.getfield 70, 3) := by decide +kernel
theorem dX11_price_81 : decode cX11_price 81 = .ok (.bipush 52, 2) := by decide +kernel
theorem dX11_price_83 : decode cX11_price 83 = .ok (.iload_n 1, 1) := by decide +kernel
theorem dX11_price_84 : decode cX11_price 84 = .ok (.imul, 1) := by decide +kernel
theorem dX11_price_85 : decode cX11_price 85 = .ok (.iload_n 2, 1) := by decide +kernel
theorem dX11_price_86 : decode cX11_price 86 = .ok (.iadd, 1) := by decide +kernel
theorem dX11_price_87 : decode cX11_price 87 = .ok (.iload_n 3, 1) := by decide +kernel
theorem dX11_price_88 : decode cX11_price 88 = .ok (.invokevirtual 361, 3) := by decide +kernel
theorem dX11_price_91 : decode cX11_price 91 = .ok (.ireturn, 1) := by decide +kernel
theorem dX11_ends_0 : decode cX11_ends 0 = .ok (.aload_n 0, 1) := by decide +kernel
theorem dX11_ends_1 : decode cX11_ends 1 = .ok (.getfield 70, 3) := by decide +kernel
theorem dX11_ends_4 : decode cX11_ends 4 = .ok (.iload_n 1, 1) := by decide +kernel
theorem dX11_ends_5 : decode cX11_ends 5 = .ok (.invokevirtual 364, 3) := by decide +kernel
theorem dX11_ends_8 : decode cX11_ends 8 = .ok (.ifCond .eq 14, 3) := by decide +kernel
theorem dX11_ends_11 : decode cX11_ends 11 = .ok (.aload_n 0, 1) := by decide +kernel
theorem dX11_ends_12 : decode cX11_ends 12 = .ok (.getfield 70, 3) := by decide +kernel
theorem dX11_ends_15 : decode cX11_ends 15 = .ok (.iload_n 1, 1) := by decide +kernel
theorem dX11_ends_16 : decode cX11_ends 16 = .ok (.invokevirtual 365, 3) := by decide +kernel
theorem dX11_ends_19 : decode cX11_ends 19 = .ok (.goto 4, 3) := by decide +kernel
theorem dX11_ends_22 : decode cX11_ends 22 = .ok (.iconst (-1), 1) := by decide +kernel
theorem dX11_ends_23 : decode cX11_ends 23 = .ok (.ireturn, 1) := by decide +kernel
theorem dX11_rent_0 : decode cX11_rent 0 = .ok (.aload_n 0, 1) := by decide +kernel
theorem dX11_rent_1 : decode cX11_rent 1 = .ok (.getfield 70, 3) := by decide +kernel
theorem dX11_rent_4 : decode cX11_rent 4 = .ok (.iload_n 1, 1) := by decide +kernel
theorem dX11_rent_5 : decode cX11_rent 5 = .ok (.invokevirtual 364, 3) := by decide +kernel
theorem dX11_rent_8 : decode cX11_rent 8 = .ok (.ifCond .eq 26, 3) := by decide +kernel
theorem dX11_rent_11 : decode cX11_rent 11 = .ok (.iload_n 2, 1) := by decide +kernel
theorem dX11_rent_12 : decode cX11_rent 12 = .ok (.iconst 0, 1) := by decide +kernel
theorem dX11_rent_13 : decode cX11_rent 13 = .ok (.sipush 200, 3) := by decide +kernel
theorem dX11_rent_16 : decode cX11_rent 16 = .ok (.invokestatic 111, 3) := by decide +kernel
theorem dX11_rent_19 : decode cX11_rent 19 = .ok (.ifCond .eq 15, 3) := by decide +kernel
theorem dX11_rent_22 : decode cX11_rent 22 = .ok (.aload_n 0, 1) := by decide +kernel
theorem dX11_rent_23 : decode cX11_rent 23 = .ok (.getfield 70, 3) := by decide +kernel
theorem dX11_rent_26 : decode cX11_rent 26 = .ok (.iload_n 1, 1) := by decide +kernel
theorem dX11_rent_27 : decode cX11_rent 27 = .ok (.iload_n 2, 1) := by decide +kernel
theorem dX11_rent_28 : decode cX11_rent 28 = .ok (.invokevirtual 368, 3) := by decide +kernel
theorem dX11_rent_31 : decode cX11_rent 31 = .ok (.goto 4, 3) := by decide +kernel
theorem dX11_rent_34 : decode cX11_rent 34 = .ok (.iconst (-1), 1) := by decide +kernel
theorem dX11_rent_35 : decode cX11_rent 35 = .ok (.ireturn, 1) := by decide +kernel
theorem dX11_table_0 : decode cX11_table 0 = .ok (.aload_n 0, 1) := by decide +kernel
theorem dX11_table_1 : decode cX11_table 1 = .ok (.iload_n 1, 1) := by decide +kernel
theorem dX11_table_2 : decode cX11_table 2 = .ok (.invokevirtual 198, 3) := by decide +kernel
theorem dX11_table_5 : decode cX11_table 5 = .ok (.istore_n 2, 1) := by decide +kernel
theorem dX11_table_6 : decode cX11_table 6 = .ok (.iload_n 2, 1) := by decide +kernel
theorem dX11_table_7 : decode cX11_table 7 = .ok (.ifCond .eq 9, 3) := by decide +kernel
theorem dX11_table_10 : decode cX11_table 10 = .ok (.aload_n 0, 1) := by decide +kernel
theorem dX11_table_11 : decode cX11_table 11 = .ok (.iload_n 2, 1) := by decide +kernel
theorem dX11_table_12 : decode cX11_table 12 = .ok (.invokevirtual 132, 3) := by decide +kernel
theorem dX11_table_15 : decode cX11_table 15 = .ok (.ireturn, 1) := by decide +kernel
theorem dX11_table_16 : decode cX11_table 16 = .ok (.aload_n 0, 1) := by decide +kernel
theorem dX11_table_17 : decode cX11_table 17 = .ok (.getfield 11, 3) := by decide +kernel
theorem dX11_table_20 : decode cX11_table 20 = .ok (.iload_n 1, 1) := by decide +kernel
theorem dX11_table_21 : decode cX11_table 21 = .ok (.aaload, 1) := by decide +kernel
theorem dX11_table_22 : decode cX11_table 22 = .ok (.astore_n 3, 1) := by decide +kernel
theorem dX11_table_23 : decode cX11_table 23 = .ok (.iconst 0, 1) := by decide +kernel
theorem dX11_table_24 : decode cX11_table 24 = .ok (.istore 4, 2) := by decide +kernel
theorem dX11_table_26 : decode cX11_table 26 = .ok (.iload 4, 2) := by decide +kernel
theorem dX11_table_28 : decode cX11_table 28 = .ok (.aload_n 3, 1) := by decide +kernel
theorem dX11_table_29 : decode cX11_table 29 = .ok (.getfield 235, 3) := by decide +kernel
theorem dX11_table_32 : decode cX11_table 32 = .ok (.if_icmp .ge 32, 3) := by decide +kernel
theorem dX11_table_35 : decode cX11_table 35 = .ok (.aload_n 3, 1) := by decide +kernel
theorem dX11_table_36 : decode cX11_table 36 = .ok (.iload 4, 2) := by decide +kernel
theorem dX11_table_38 : decode cX11_table 38 = .ok (.invokevirtual 371, 3) := by decide +kernel
theorem dX11_table_41 : decode cX11_table 41 = .ok (.iconst 0, 1) := by decide +kernel
theorem dX11_table_42 : decode cX11_table 42 = .ok (.sipush 10000, 3) := by decide +kernel
theorem dX11_table_45 : decode cX11_table 45 = .ok (.invokestatic 111, 3) := by decide +kernel
theorem dX11_table_48 : decode cX11_table 48 = .ok (.ifCond .ne 10, 3) := by decide +kernel
theorem dX11_table_51 : decode cX11_table 51 = .ok (.aload_n 0, 1) := by decide +kernel
theorem dX11_table_52 : decode cX11_table 52 = .ok (.bipush (-6), 2) := by decide +kernel
theorem dX11_table_54 : decode cX11_table 54 = .ok (.invokevirtual 132, 3) := by decide +kernel
theorem dX11_table_57 : decode cX11_table 57 = .ok (.ireturn, 1) := by decide +kernel
theorem dX11_table_58 : decode cX11_table 58 = .ok (.iinc 4 1, 3) := by decide +kernel
theorem dX11_table_61 : decode cX11_table 61 = .ok (.goto (-35), 3) := by decide +kernel
theorem dX11_table_64 : decode cX11_table 64 = .ok (.aload_n 0, 1) := by decide +kernel
theorem dX11_table_65 : decode cX11_table 65 = .ok (.getfield 70, 3) := by decide +kernel
theorem dX11_table_68 : decode cX11_table 68 = .ok (.aload_n 3, 1) := by decide +kernel
theorem dX11_table_69 : decode cX11_table 69 = .ok (.aload_n 0, 1) := by decide +kernel
theorem dX11_table_70 : decode cX11_table 70 = .ok (.getfield 70, 3) := by decide +kernel
theorem dX11_table_73 : decode cX11_table 73 = .ok (.getfield 374, 3) := by decide +kernel
theorem dX11_table_76 : decode cX11_table 76 = .ok (.iconst 0, 1) := by decide +kernel
theorem dX11_table_77 : decode cX11_table 77 = .ok (.invokevirtual 377, 3) := by decide +kernel
theorem dX11_table_80 : decode cX11_table 80 = .ok (.putfield 381, 3) := by decide +kernel
theorem dX11_table_83 : decode cX11_table 83 = .ok (.aload_n 3, 1) := by decide +kernel
theorem dX11_table_84 : decode cX11_table 84 = .ok (.getfield 235, 3) := by decide +kernel
theorem dX11_table_87 : decode cX11_table 87 = .ok (.ireturn, 1) := by decide +kernel
theorem dX11_renew_0 : decode cX11_renew 0 = .ok (.aload_n 0, 1) := by decide +kernel
theorem dX11_renew_1 : decode cX11_renew 1 = .ok (.getfield 70, 3) := by decide +kernel
theorem dX11_renew_4 : decode cX11_renew 4 = .ok (.iload_n 1, 1) := by decide +kernel
theorem dX11_renew_5 : decode cX11_renew 5 = .ok (.invokevirtual 364, 3) := by decide +kernel
theorem dX11_renew_8 : decode cX11_renew 8 = .ok (.ifCond .ne 9, 3) := by decide +kernel
theorem dX11_renew_11 : decode cX11_renew 11 = .ok (.aload_n 0, 1) := by decide +kernel
theorem dX11_renew_12 : decode cX11_renew 12 = .ok (.iconst (-1), 1) := by decide +kernel
theorem dX11_renew_13 : decode cX11_renew 13 = .ok (.invokevirtual 132, 3) := by decide +kernel
theorem dX11_renew_16 : decode cX11_renew 16 = .ok (.ireturn, 1) := by decide +kernel
theorem dX11_renew_17 : decode cX11_renew 17 = .ok (.aload_n 0, 1) := by decide +kernel
theorem dX11_renew_18 : decode cX11_renew 18 = .ok (.getfield 70, 3) := by decide +kernel
theorem dX11_renew_21 : decode cX11_renew 21 = .ok (.iload_n 1, 1) := by decide +kernel
theorem dX11_renew_22 : decode cX11_renew 22 = .ok (.invokevirtual 365, 3) := by decide +kernel
theorem dX11_renew_25 : decode cX11_renew 25 = .ok (.aload_n 0, 1) := by decide +kernel
theorem dX11_renew_26 : decode cX11_renew 26 = .ok (.invokevirtual 384, 3) := by decide +kernel
theorem dX11_renew_29 : decode cX11_renew 29 = .ok (.isub, 1) := by decide +kernel
theorem dX11_renew_30 : decode cX11_renew 30 = .ok (.istore_n 2, 1) := by decide +kernel
theorem dX11_renew_31 : decode cX11_renew 31 = .ok (.aload_n 0, 1) := by decide +kernel
theorem dX11_renew_32 : decode cX11_renew 32 = .ok (.getfield 70, 3) := by decide +kernel
theorem dX11_renew_35 : decode cX11_renew 35 = .ok (.iload_n 1, 1) := by decide +kernel
theorem dX11_renew_36 : decode cX11_renew 36 = .ok (.invokevirtual 388, 3) := by decide +kernel
theorem dX11_renew_39 : decode cX11_renew 39 = .ok (.ifCond .ne 7, 3) := by decide +kernel
theorem dX11_renew_42 : decode cX11_renew 42 = .ok (.iload_n 2, 1) := by decide +kernel
theorem dX11_renew_43 : decode cX11_renew 43 = .ok (.ifCond .ge 10, 3) := by decide +kernel
theorem dX11_renew_46 : decode cX11_renew 46 = .ok (.aload_n 0, 1) := by decide +kernel
theorem dX11_renew_47 : decode cX11_renew 47 = .ok (.bipush (-6), 2) := by decide +kernel
theorem dX11_renew_49 : decode cX11_renew 49 = .ok (.invokevirtual 132, 3) := by decide +kernel
theorem dX11_renew_52 : decode cX11_renew 52 = .ok (.ireturn, 1) := by decide +kernel
theorem dX11_renew_53 : decode cX11_renew 53 = .ok (.aload_n 0, 1) := by decide +kernel
theorem dX11_renew_54 : decode cX11_renew 54 = .ok (.getfield 77, 3) := by decide +kernel
theorem dX11_renew_57 : decode cX11_renew 57 = .ok (.invokevirtual 391, 3) := by decide +kernel
theorem dX11_renew_60 : decode cX11_renew 60 = .ok (.ifCond .eq 10, 3) := by decide +kernel
theorem dX11_renew_63 : decode cX11_renew 63 = .ok (.aload_n 0, 1) := by decide +kernel
theorem dX11_renew_64 : decode cX11_renew 64 = .ok (.bipush (-7), 2) := by decide +kernel
theorem dX11_renew_66 : decode cX11_renew 66 = .ok (.invokevirtual 132, 3) := by decide +kernel
theorem dX11_renew_69 : decode cX11_renew 69 = .ok (.ireturn, 1) := by decide +kernel
theorem dX11_renew_70 : decode cX11_renew 70 = .ok (.aload_n 0, 1) := by decide +kernel
theorem dX11_renew_71 : decode cX11_renew 71 = .ok (.getfield 70, 3) := by decide +kernel
theorem dX11_renew_74 : decode cX11_renew 74 = .ok (.iload_n 1, 1) := by decide +kernel
theorem dX11_renew_75 : decode cX11_renew 75 = .ok (.iload_n 2, 1) := by decide +kernel
theorem dX11_renew_76 : decode cX11_renew 76 = .ok (.invokevirtual 395, 3) := by decide +kernel
theorem dX11_renew_79 : decode cX11_renew 79 = .ok (.istore_n 3, 1) := by decide +kernel
theorem dX11_renew_80 : decode cX11_renew 80 = .ok (.aload_n 0, 1) := by decide +kernel
theorem dX11_renew_81 : decode cX11_renew 81 = .ok (.getfield 77, 3) := by decide +kernel
theorem dX11_renew_84 : decode cX11_renew 84 = .ok (.iconst 1, 1) := by decide +kernel
theorem dX11_renew_85 : decode cX11_renew 85 = .ok (.aload_n 0, 1) := by decide +kernel
theorem dX11_renew_86 : decode cX11_renew 86 = .ok (.invokevirtual 384, 3) := by decide +kernel
theorem dX11_renew_89 : decode cX11_renew 89 = .ok (.iload_n 3, 1) := by decide +kernel
theorem dX11_renew_90 : decode cX11_renew 90 = .ok (.invokevirtual 398, 3) := by decide +kernel
theorem dX11_renew_93 : decode cX11_renew 93 = .ok (.aload_n 0, 1) := by decide +kernel
theorem dX11_renew_94 : decode cX11_renew 94 = .ok (.getfield 70, 3) := by decide +kernel
theorem dX11_renew_97 : decode cX11_renew 97 = .ok (.getfield 339, 3) := by decide +kernel
theorem dX11_renew_100 : decode cX11_renew 100 = .ok (.iload_n 1, 1) := by decide +kernel
theorem dX11_renew_101 : decode cX11_renew 101 = .ok (.aload_n 0, 1) := by decide +kernel
theorem dX11_renew_102 : decode cX11_renew 102 = .ok (.invokevirtual 384, 3) := by decide +kernel
theorem dX11_renew_105 : decode cX11_renew 105 = .ok (.aload_n 0, 1) := by decide +kernel
theorem dX11_renew_106 : decode cX11_renew 106 = .ok (.getfield 70, 3) := by decide +kernel
theorem dX11_renew_109 : decode cX11_renew 109 = .ok (.getfield 342, 3) := by decide +kernel
theorem dX11_renew_112 : decode cX11_renew 112 = .ok (.iload_n 1, 1) := by decide +kernel
theorem dX11_renew_113 : decode cX11_renew 113 = .ok (.iaload, 1) := by decide +kernel
theorem dX11_renew_114 : decode cX11_renew 114 = .ok (.iadd, 1) := by decide +kernel
theorem dX11_renew_115 : decode cX11_renew 115 = .ok (.iastore, 1) := by decide +kernel
theorem dX11_renew_116 : decode cX11_renew 116 = .ok (.iload_n 3, 1) := by decide +kernel
theorem dX11_renew_117 : decode cX11_renew 117 = .ok (.ireturn, 1) := by decide +kernel
theorem dX11_rents_0 : decode cX11_rents 0 = .ok (.aload_n 0, 1) := by decide +kernel
theorem dX11_rents_1 : decode cX11_rents 1 = .ok (.getfield 77, 3) := by decide +kernel
theorem dX11_rents_4 : decode cX11_rents 4 = .ok (.getfield 401, 3) := by decide +kernel
theorem dX11_rents_7 : decode cX11_rents 7 = .ok (.aload_n 0, 1) := by decide +kernel
theorem dX11_rents_8 : decode cX11_rents 8 = .ok (.invokevirtual 384, 3) := by decide +kernel
theorem dX11_rents_11 : decode cX11_rents 11 = .ok (.if_icmp .ne 10, 3) := by decide +kernel
theorem dX11_rents_14 : decode cX11_rents 14 = .ok (.aload_n 0, 1) := by decide +kernel
theorem dX11_rents_15 : decode cX11_rents 15 = .ok (.bipush (-6), 2) := by decide +kernel
theorem dX11_rents_17 : decode cX11_rents 17 = .ok (.invokevirtual 132, 3) := by decide +kernel
theorem dX11_rents_20 : decode cX11_rents 20 = .ok (.ireturn, 1) := by decide +kernel
theorem dX11_rents_21 : decode cX11_rents 21 = .ok (.aload_n 0, 1) := by decide +kernel
theorem dX11_rents_22 : decode cX11_rents 22 = .ok (.getfield 77, 3) := by decide +kernel
theorem dX11_rents_25 : decode cX11_rents 25 = .ok (.invokevirtual 391, 3) := by decide +kernel
theorem dX11_rents_28 : decode cX11_rents 28 = .ok (.ifCond .eq 10, 3) := by decide +kernel
theorem dX11_rents_31 : decode cX11_rents 31 = .ok (.aload_n 0, 1) := by decide +kernel
theorem dX11_rents_32 : decode cX11_rents 32 = .ok (.bipush (-7), 2) := by decide +kernel
theorem dX11_rents_34 : decode cX11_rents 34 = .ok (.invokevirtual 132, 3) := by decide +kernel
theorem dX11_rents_37 : decode cX11_rents 37 = .ok (.ireturn, 1) := by decide +kernel
theorem dX11_rents_38 : decode cX11_rents 38 = .ok (.iconst 0, 1) := by decide +kernel
theorem dX11_rents_39 : decode cX11_rents 39 = .ok (.istore_n 1, 1) := by decide +kernel
theorem dX11_rents_40 : decode cX11_rents 40 = .ok (.iconst 0, 1) := by decide +kernel
theorem dX11_rents_41 : decode cX11_rents 41 = .ok (.istore_n 2, 1) := by decide +kernel
theorem dX11_rents_42 : decode cX11_rents 42 = .ok (.iload_n 2, 1) := by decide +kernel
theorem dX11_rents_43 : decode cX11_rents 43 = .ok (.aload_n 0, 1) := by decide +kernel
theorem dX11_rents_44 : decode cX11_rents 44 = .ok (.getfield 70, 3) := by decide +kernel
theorem dX11_rents_47 : decode cX11_rents 47 = .ok (.getfield 338, 3) := by decide +kernel
theorem dX11_rents_50 : decode cX11_rents 50 = .ok (.if_icmp .ge 24, 3) := by decide +kernel
theorem dX11_rents_53 : decode cX11_rents 53 = .ok (.iload_n 1, 1) := by decide +kernel
theorem dX11_rents_54 : decode cX11_rents 54 = .ok (.aload_n 0, 1) := by decide +kernel
theorem dX11_rents_55 : decode cX11_rents 55 = .ok (.getfield 70, 3) := by decide +kernel
theorem dX11_rents_58 : decode cX11_rents 58 = .ok (.iload_n 2, 1) := by decide +kernel
theorem dX11_rents_59 : decode cX11_rents 59 = .ok (.aload_n 0, 1) := by decide +kernel
theorem dX11_rents_60 : decode cX11_rents 60 = .ok (.invokevirtual 384, 3) := by decide +kernel
theorem dX11_rents_63 : decode cX11_rents 63 = .ok (.invokevirtual 368, 3) := by decide +kernel
theorem dX11_rents_66 : decode cX11_rents 66 = .ok (.iadd, 1) := by decide +kernel
theorem dX11_rents_67 : decode cX11_rents 67 = .ok (.istore_n 1, 1) := by decide +kernel
theorem dX11_rents_68 : decode cX11_rents 68 = .ok (.iinc 2 1, 3) := by decide +kernel
theorem dX11_rents_71 : decode cX11_rents 71 = .ok (.goto (-29), 3) := by decide +kernel
theorem dX11_rents_74 : decode cX11_rents 74 = .ok (.aload_n 0, 1) := by decide +kernel
theorem dX11_rents_75 : decode cX11_rents 75 = .ok (.getfield 77, 3) := by decide +kernel
theorem dX11_rents_78 : decode cX11_rents 78 = .ok (.iconst 0, 1) := by decide +kernel
theorem dX11_rents_79 : decode cX11_rents 79 = .ok (.aload_n 0, 1) := by decide +kernel
theorem dX11_rents_80 : decode cX11_rents 80 = .ok (.invokevirtual 384, 3) := by decide +kernel
theorem dX11_rents_83 : decode cX11_rents 83 = .ok (.iload_n 1, 1) := by decide +kernel
theorem dX11_rents_84 : decode cX11_rents 84 = .ok (.invokevirtual 398, 3) := by decide +kernel
theorem dX11_rents_87 : decode cX11_rents 87 = .ok (.aload_n 0, 1) := by decide +kernel
theorem dX11_rents_88 : decode cX11_rents 88 = .ok (.getfield 77, 3) := by decide +kernel
theorem dX11_rents_91 : decode cX11_rents 91 = .ok (.aload_n 0, 1) := by decide +kernel
theorem dX11_rents_92 : decode cX11_rents 92 = .ok (.invokevirtual 384, 3) := by decide +kernel
theorem dX11_rents_95 : decode cX11_rents 95 = .ok (.putfield 401, 3) := by decide +kernel
theorem dX11_rents_98 : decode cX11_rents 98 = .ok (.iload_n 1, 1) := by decide +kernel
theorem dX11_rents_99 : decode cX11_rents 99 = .ok (.ireturn, 1) := by decide +kernel
theorem dX11_kept_0 : decode cX11_kept 0 = .ok (.aload_n 0, 1) := by decide +kernel
theorem dX11_kept_1 : decode cX11_kept 1 = .ok (.getfield 18, 3) := by decide +kernel
theorem dX11_kept_4 : decode cX11_kept 4 = .ok (.iload_n 1, 1) := by decide +kernel
theorem dX11_kept_5 : decode cX11_kept 5 = .ok (.invokevirtual 146, 3) := by decide +kernel
theorem dX11_kept_8 : decode cX11_kept 8 = .ok (.ifCond .ne 9, 3) := by decide +kernel
theorem dX11_kept_11 : decode cX11_kept 11 = .ok (.aload_n 0, 1) := by decide +kernel
theorem dX11_kept_12 : decode cX11_kept 12 = .ok (.iconst (-1), 1) := by decide +kernel
theorem dX11_kept_13 : decode cX11_kept 13 = .ok (.invokevirtual 132, 3) := by decide +kernel
theorem dX11_kept_16 : decode cX11_kept 16 = .ok (.ireturn, 1) := by decide +kernel
theorem dX11_kept_17 : decode cX11_kept 17 = .ok (.iload_n 2, 1) := by decide +kernel
theorem dX11_kept_18 : decode cX11_kept 18 = .ok (.iconst 0, 1) := by decide +kernel
theorem dX11_kept_19 : decode cX11_kept 19 = .ok (.sipush 365, 3) := by decide +kernel
theorem dX11_kept_22 : decode cX11_kept 22 = .ok (.invokestatic 111, 3) := by decide +kernel
theorem dX11_kept_25 : decode cX11_kept 25 = .ok (.ifCond .eq 19, 3) := by decide +kernel
theorem dX11_kept_28 : decode cX11_kept 28 = .ok (.aload_n 0, 1) := by decide +kernel
theorem dX11_kept_29 : decode cX11_kept 29 = .ok (.getfield 77, 3) := by decide +kernel
theorem dX11_kept_32 : decode cX11_kept 32 = .ok (.iload_n 1, 1) := by decide +kernel
theorem dX11_kept_33 : decode cX11_kept 33 = .ok (.iload_n 2, 1) := by decide +kernel
theorem dX11_kept_34 : decode cX11_kept 34 = .ok (.aload_n 0, 1) := by decide +kernel
theorem dX11_kept_35 : decode cX11_kept 35 = .ok (.invokevirtual 384, 3) := by decide +kernel
theorem dX11_kept_38 : decode cX11_kept 38 = .ok (.invokevirtual 404, 3) := by decide +kernel
theorem dX11_kept_41 : decode cX11_kept 41 = .ok (.goto 9, 3) := by decide +kernel
theorem dX11_kept_44 : decode cX11_kept 44 = .ok (.aload_n 0, 1) := by decide +kernel
theorem dX11_kept_45 : decode cX11_kept 45 = .ok (.bipush (-6), 2) := by decide +kernel
theorem dX11_kept_47 : decode cX11_kept 47 = .ok (.invokevirtual 132, 3) := by decide +kernel
theorem dX11_kept_50 : decode cX11_kept 50 = .ok (.ireturn, 1) := by decide +kernel
theorem dX11_dividend_0 : decode cX11_dividend 0 = .ok (.iload_n 1, 1) := by decide +kernel
theorem dX11_dividend_1 : decode cX11_dividend 1 = .ok (.iconst 0, 1) := by decide +kernel
theorem dX11_dividend_2 : decode cX11_dividend 2 = .ok (.aload_n 0, 1) := by decide +kernel
theorem dX11_dividend_3 : decode cX11_dividend 3 = .ok (.getfield 77, 3) := by decide +kernel
theorem dX11_dividend_6 : decode cX11_dividend 6 = .ok (.getfield 407, 3) := by decide +kernel
theorem dX11_dividend_9 : decode cX11_dividend 9 = .ok (.invokestatic 111, 3) := by decide +kernel
theorem dX11_dividend_12 : decode cX11_dividend 12 = .ok (.ifCond .eq 17, 3) := by decide +kernel
theorem dX11_dividend_15 : decode cX11_dividend 15 = .ok (.aload_n 0, 1) := by decide +kernel
theorem dX11_dividend_16 : decode cX11_dividend 16 = .ok (.getfield 77, 3) := by decide +kernel
theorem dX11_dividend_19 : decode cX11_dividend 19 = .ok (.getfield 410, 3) := by decide +kernel
theorem dX11_dividend_22 : decode cX11_dividend 22 = .ok (.aload_n 0, 1) := by decide +kernel
theorem dX11_dividend_23 : decode cX11_dividend 23 = .ok (.invokevirtual 384, 3) := by decide +kernel
theorem dX11_dividend_26 : decode cX11_dividend 26 = .ok (.if_icmp .ne 10, 3) := by decide +kernel
theorem dX11_dividend_29 : decode cX11_dividend 29 = .ok (.aload_n 0, 1) := by decide +kernel
theorem dX11_dividend_30 : decode cX11_dividend 30 = .ok (.bipush (-6), 2) := by decide +kernel
theorem dX11_dividend_32 : decode cX11_dividend 32 = .ok (.invokevirtual 132, 3) := by decide +kernel
theorem dX11_dividend_35 : decode cX11_dividend 35 = .ok (.ireturn, 1) := by decide +kernel
theorem dX11_dividend_36 : decode cX11_dividend 36 = .ok (.aload_n 0, 1) := by decide +kernel
theorem dX11_dividend_37 : decode cX11_dividend 37 = .ok (.getfield 77, 3) := by decide +kernel
theorem dX11_dividend_40 : decode cX11_dividend 40 = .ok (.invokevirtual 391, 3) := by decide +kernel
theorem dX11_dividend_43 : decode cX11_dividend 43 = .ok (.ifCond .eq 10, 3) := by decide +kernel
theorem dX11_dividend_46 : decode cX11_dividend 46 = .ok (.aload_n 0, 1) := by decide +kernel
theorem dX11_dividend_47 : decode cX11_dividend 47 = .ok (.bipush (-7), 2) := by decide +kernel
theorem dX11_dividend_49 : decode cX11_dividend 49 = .ok (.invokevirtual 132, 3) := by decide +kernel
theorem dX11_dividend_52 : decode cX11_dividend 52 = .ok (.ireturn, 1) := by decide +kernel
theorem dX11_dividend_53 : decode cX11_dividend 53 = .ok (.aload_n 0, 1) := by decide +kernel
theorem dX11_dividend_54 : decode cX11_dividend 54 = .ok (.getfield 77, 3) := by decide +kernel
theorem dX11_dividend_57 : decode cX11_dividend 57 = .ok (.iload_n 1, 1) := by decide +kernel
theorem dX11_dividend_58 : decode cX11_dividend 58 = .ok (.aload_n 0, 1) := by decide +kernel
theorem dX11_dividend_59 : decode cX11_dividend 59 = .ok (.getfield 43, 3) := by decide +kernel
theorem dX11_dividend_62 : decode cX11_dividend 62 = .ok (.iconst 1, 1) := by decide +kernel
theorem dX11_dividend_63 : decode cX11_dividend 63 = .ok (.invokevirtual 413, 3) := by decide +kernel
theorem dX11_dividend_66 : decode cX11_dividend 66 = .ok (.aload_n 0, 1) := by decide +kernel
theorem dX11_dividend_67 : decode cX11_dividend 67 = .ok (.invokevirtual 384, 3) := by decide +kernel
theorem dX11_dividend_70 : decode cX11_dividend 70 = .ok (.invokevirtual 416, 3) := by decide +kernel
theorem dX11_dividend_73 : decode cX11_dividend 73 = .ok (.ireturn, 1) := by decide +kernel
theorem dX11_got_0 : decode cX11_got 0 = .ok (.aload_n 0, 1) := by decide +kernel
theorem dX11_got_1 : decode cX11_got 1 = .ok (.getfield 18, 3) := by decide +kernel
theorem dX11_got_4 : decode cX11_got 4 = .ok (.iload_n 1, 1) := by decide +kernel
theorem dX11_got_5 : decode cX11_got 5 = .ok (.invokevirtual 146, 3) := by decide +kernel
theorem dX11_got_8 : decode cX11_got 8 = .ok (.ifCond .eq 15, 3) := by decide +kernel
theorem dX11_got_11 : decode cX11_got 11 = .ok (.aload_n 0, 1) := by decide +kernel
theorem dX11_got_12 : decode cX11_got 12 = .ok (.getfield 77, 3) := by decide +kernel
theorem dX11_got_15 : decode cX11_got 15 = .ok (.getfield 419, 3) := by decide +kernel
theorem dX11_got_18 : decode cX11_got 18 = .ok (.iload_n 1, 1) := by decide +kernel
theorem dX11_got_19 : decode cX11_got 19 = .ok (.iaload, 1) := by decide +kernel
theorem dX11_got_20 : decode cX11_got 20 = .ok (.goto 4, 3) := by decide +kernel
theorem dX11_got_23 : decode cX11_got 23 = .ok (.iconst (-1), 1) := by decide +kernel
theorem dX11_got_24 : decode cX11_got 24 = .ok (.ireturn, 1) := by decide +kernel
theorem dX11_other_0 : decode cX11_other 0 = .ok (.iload_n 1, 1) := by decide +kernel
theorem dX11_other_1 : decode cX11_other 1 = .ok (.ldc_w 422, 3) := by decide +kernel
theorem dX11_other_4 : decode cX11_other 4 = .ok (.ldc_w 423, 3) := by decide +kernel
theorem dX11_other_7 : decode cX11_other 7 = .ok (.invokestatic 111, 3) := by decide +kernel
theorem dX11_other_10 : decode cX11_other 10 = .ok (.ifCond .eq 15, 3) := by decide +kernel
theorem dX11_other_13 : decode cX11_other 13 = .ok (.aload_n 0, 1) := by decide +kernel
theorem dX11_other_14 : decode cX11_other 14 = .ok (.getfield 77, 3) := by decide +kernel
theorem dX11_other_17 : decode cX11_other 17 = .ok (.getfield 407, 3) := by decide +kernel
theorem dX11_other_20 : decode cX11_other 20 = .ok (.iload_n 1, 1) := by decide +kernel
theorem dX11_other_21 : decode cX11_other 21 = .ok (.iadd, 1) := by decide +kernel
theorem dX11_other_22 : decode cX11_other 22 = .ok (.ifCond .ge 10, 3) := by decide +kernel
theorem dX11_other_25 : decode cX11_other 25 = .ok (.aload_n 0, 1) := by decide +kernel
theorem dX11_other_26 : decode cX11_other 26 = .ok (.bipush (-6), 2) := by decide +kernel
theorem dX11_other_28 : decode cX11_other 28 = .ok (.invokevirtual 132, 3) := by decide +kernel
theorem dX11_other_31 : decode cX11_other 31 = .ok (.ireturn, 1) := by decide +kernel
theorem dX11_other_32 : decode cX11_other 32 = .ok (.aload_n 0, 1) := by decide +kernel
theorem dX11_other_33 : decode cX11_other 33 = .ok (.getfield 77, 3) := by decide +kernel
theorem dX11_other_36 : decode cX11_other 36 = .ok (.invokevirtual 391, 3) := by decide +kernel
theorem dX11_other_39 : decode cX11_other 39 = .ok (.ifCond .eq 10, 3) := by decide +kernel
theorem dX11_other_42 : decode cX11_other 42 = .ok (.aload_n 0, 1) := by decide +kernel
theorem dX11_other_43 : decode cX11_other 43 = .ok (.bipush (-7), 2) := by decide +kernel
theorem dX11_other_45 : decode cX11_other 45 = .ok (.invokevirtual 132, 3) := by decide +kernel
theorem dX11_other_48 : decode cX11_other 48 = .ok (.ireturn, 1) := by decide +kernel
theorem dX11_other_49 : decode cX11_other 49 = .ok (.aload_n 0, 1) := by decide +kernel
theorem dX11_other_50 : decode cX11_other 50 = .ok (.getfield 77, 3) := by decide +kernel
theorem dX11_other_53 : decode cX11_other 53 = .ok (.iconst 3, 1) := by decide +kernel
theorem dX11_other_54 : decode cX11_other 54 = .ok (.aload_n 0, 1) := by decide +kernel
theorem dX11_other_55 : decode cX11_other 55 = .ok (.invokevirtual 384, 3) := by decide +kernel
theorem dX11_other_58 : decode cX11_other 58 = .ok (.iload_n 1, 1) := by decide +kernel
theorem dX11_other_59 : decode cX11_other 59 = .ok (.invokevirtual 398, 3) := by decide +kernel
theorem dX11_other_62 : decode cX11_other 62 = .ok (.aload_n 0, 1) := by decide +kernel
theorem dX11_other_63 : decode cX11_other 63 = .ok (.getfield 77, 3) := by decide +kernel
theorem dX11_other_66 : decode cX11_other 66 = .ok (.getfield 407, 3) := by decide +kernel
theorem dX11_other_69 : decode cX11_other 69 = .ok (.ireturn, 1) := by decide +kernel
theorem dX11_head_0 : decode cX11_head 0 = .ok (.iload_n 1, 1) := by decide +kernel
theorem dX11_head_1 : decode cX11_head 1 = .ok (.iconst 0, 1) := by decide +kernel
theorem dX11_head_2 : decode cX11_head 2 = .ok (.iconst 3, 1) := by decide +kernel
theorem dX11_head_3 : decode cX11_head 3 = .ok (.invokestatic 111, 3) := by decide +kernel
theorem dX11_head_6 : decode cX11_head 6 = .ok (.ifCond .ne 7, 3) := by decide +kernel
theorem dX11_head_9 : decode cX11_head 9 = .ok (.ldc_w 424, 3) := by decide +kernel
theorem dX11_head_12 : decode cX11_head 12 = .ok (.ireturn, 1) := by decide +kernel
theorem dX11_head_13 : decode cX11_head 13 = .ok (.iload_n 2, 1) := by decide +kernel
theorem dX11_head_14 : decode cX11_head 14 = .ok (.iconst 0, 1) := by decide +kernel
theorem dX11_head_15 : decode cX11_head 15 = .ok (.bipush 109, 2) := by decide +kernel
theorem dX11_head_17 : decode cX11_head 17 = .ok (.invokestatic 111, 3) := by decide +kernel
theorem dX11_head_20 : decode cX11_head 20 = .ok (.ifCond .eq 20, 3) := by decide +kernel
theorem dX11_head_23 : decode cX11_head 23 = .ok (.aload_n 0, 1) := by decide +kernel
theorem dX11_head_24 : decode cX11_head 24 = .ok (.getfield 77, 3) := by decide +kernel
theorem dX11_head_27 : decode cX11_head 27 = .ok (.getfield 425, 3) := by decide +kernel
theorem dX11_head_30 : decode cX11_head 30 = .ok (.bipush 110, 2) := by decide +kernel
theorem dX11_head_32 : decode cX11_head 32 = .ok (.iload_n 1, 1) := by decide +kernel
theorem dX11_head_33 : decode cX11_head 33 = .ok (.imul, 1) := by decide +kernel
theorem dX11_head_34 : decode cX11_head 34 = .ok (.iload_n 2, 1) := by decide +kernel
theorem dX11_head_35 : decode cX11_head 35 = .ok (.iadd, 1) := by decide +kernel
theorem dX11_head_36 : decode cX11_head 36 = .ok (.iaload, 1) := by decide +kernel
theorem dX11_head_37 : decode cX11_head 37 = .ok (.goto 4, 3) := by decide +kernel
theorem dX11_head_40 : decode cX11_head 40 = .ok (.iconst 0, 1) := by decide +kernel
theorem dX11_head_41 : decode cX11_head 41 = .ok (.ireturn, 1) := by decide +kernel
theorem dX11_audit_0 : decode cX11_audit 0 = .ok (.iload_n 1, 1) := by decide +kernel
theorem dX11_audit_1 : decode cX11_audit 1 = .ok (.aload_n 0, 1) := by decide +kernel
theorem dX11_audit_2 : decode cX11_audit 2 = .ok (.getfield 77, 3) := by decide +kernel
theorem dX11_audit_5 : decode cX11_audit 5 = .ok (.getfield 407, 3) := by decide +kernel
theorem dX11_audit_8 : decode cX11_audit 8 = .ok (.isub, 1) := by decide +kernel
theorem dX11_audit_9 : decode cX11_audit 9 = .ok (.ireturn, 1) := by decide +kernel
theorem dX11_roof_0 : decode cX11_roof 0 = .ok (.iload_n 1, 1) := by decide +kernel
theorem dX11_roof_1 : decode cX11_roof 1 = .ok (.iconst 1, 1) := by decide +kernel
theorem dX11_roof_2 : decode cX11_roof 2 = .ok (.ldc_w 423, 3) := by decide +kernel
theorem dX11_roof_5 : decode cX11_roof 5 = .ok (.invokestatic 111, 3) := by decide +kernel
theorem dX11_roof_8 : decode cX11_roof 8 = .ok (.ifCond .eq 14, 3) := by decide +kernel
theorem dX11_roof_11 : decode cX11_roof 11 = .ok (.iload_n 2, 1) := by decide +kernel
theorem dX11_roof_12 : decode cX11_roof 12 = .ok (.iconst 0, 1) := by decide +kernel
theorem dX11_roof_13 : decode cX11_roof 13 = .ok (.sipush 9999, 3) := by decide +kernel
theorem dX11_roof_16 : decode cX11_roof 16 = .ok (.invokestatic 111, 3) := by decide +kernel
theorem dX11_roof_19 : decode cX11_roof 19 = .ok (.ifCond .ne 10, 3) := by decide +kernel
theorem dX11_roof_22 : decode cX11_roof 22 = .ok (.aload_n 0, 1) := by decide +kernel
theorem dX11_roof_23 : decode cX11_roof 23 = .ok (.bipush (-6), 2) := by decide +kernel
theorem dX11_roof_25 : decode cX11_roof 25 = .ok (.invokevirtual 132, 3) := by decide +kernel
theorem dX11_roof_28 : decode cX11_roof 28 = .ok (.ireturn, 1) := by decide +kernel
theorem dX11_roof_29 : decode cX11_roof 29 = .ok (.aload_n 0, 1) := by decide +kernel
theorem dX11_roof_30 : decode cX11_roof 30 = .ok (.getfield 86, 3) := by decide +kernel
theorem dX11_roof_33 : decode cX11_roof 33 = .ok (.getfield 428, 3) := by decide +kernel
theorem dX11_roof_36 : decode cX11_roof 36 = .ok (.iconst 2, 1) := by decide +kernel
theorem dX11_roof_37 : decode cX11_roof 37 = .ok (.if_icmp .ne 12, 3) := by decide +kernel
theorem dX11_roof_40 : decode cX11_roof 40 = .ok (.aload_n 0, 1) := by decide +kernel
theorem dX11_roof_41 : decode cX11_roof 41 = .ok (.bipush (-7), 2) := by decide +kernel
theorem dX11_roof_43 : decode cX11_roof 43 = .ok (.invokevirtual 132, 3) := by decide +kernel
theorem dX11_roof_46 : decode cX11_roof 46 = .ok (.goto 12, 3) := by decide +kernel
theorem dX11_roof_49 : decode cX11_roof 49 = .ok (.aload_n 0, 1) := by decide +kernel
theorem dX11_roof_50 : decode cX11_roof 50 = .ok (.getfield 86, 3) := by decide +kernel
theorem dX11_roof_53 : decode cX11_roof 53 = .ok (.iload_n 1, 1) := by decide +kernel
theorem dX11_roof_54 : decode cX11_roof 54 = .ok (.iload_n 2, 1) := by decide +kernel
theorem dX11_roof_55 : decode cX11_roof 55 = .ok (.invokevirtual 431, 3) := by decide +kernel
theorem dX11_roof_58 : decode cX11_roof 58 = .ok (.ireturn, 1) := by decide +kernel
theorem dX11_canPlan_0 : decode cX11_canPlan 0 = .ok (.iload_n 0, 1) := by decide +kernel
theorem dX11_canPlan_1 : decode cX11_canPlan 1 = .ok (.iconst 1, 1) := by decide +kernel
theorem dX11_canPlan_2 : decode cX11_canPlan 2 = .ok (.bipush 10, 2) := by decide +kernel
theorem dX11_canPlan_4 : decode cX11_canPlan 4 = .ok (.invokestatic 111, 3) := by decide +kernel
theorem dX11_canPlan_7 : decode cX11_canPlan 7 = .ok (.ifCond .eq 29, 3) := by decide +kernel
theorem dX11_canPlan_10 : decode cX11_canPlan 10 = .ok (.iload_n 1, 1) := by decide +kernel
theorem dX11_canPlan_11 : decode cX11_canPlan 11 = .ok (.iconst 0, 1) := by decide +kernel
theorem dX11_canPlan_12 : decode cX11_canPlan 12 = .ok (.ldc_w 423, 3) := by decide +kernel
theorem dX11_canPlan_15 : decode cX11_canPlan 15 = .ok (.invokestatic 111, 3) := by decide +kernel
theorem dX11_canPlan_18 : decode cX11_canPlan 18 = .ok (.ifCond .eq 18, 3) := by decide +kernel
theorem dX11_canPlan_21 : decode cX11_canPlan 21 = .ok (.iload_n 2, 1) := by decide +kernel
theorem dX11_canPlan_22 : decode cX11_canPlan 22 = .ok (.iconst 0, 1) := by decide +kernel
theorem dX11_canPlan_23 : decode cX11_canPlan 23 = .ok (.ldc_w 423, 3) := by decide +kernel
theorem dX11_canPlan_26 : decode cX11_canPlan 26 = .ok (.invokestatic 111, 3) := by decide +kernel
theorem dX11_canPlan_29 : decode cX11_canPlan 29 = .ok (.ifCond .eq 7, 3) := by decide +kernel
theorem dX11_canPlan_32 : decode cX11_canPlan 32 = .ok (.iconst 1, 1) := by decide +kernel
theorem dX11_canPlan_33 : decode cX11_canPlan 33 = .ok (.goto 4, 3) := by decide +kernel
theorem dX11_canPlan_36 : decode cX11_canPlan 36 = .ok (.iconst 0, 1) := by decide +kernel
theorem dX11_canPlan_37 : decode cX11_canPlan 37 = .ok (.ireturn, 1) := by decide +kernel
theorem dX11_plan_0 : decode cX11_plan 0 = .ok (.iload_n 1, 1) := by decide +kernel
theorem dX11_plan_1 : decode cX11_plan 1 = .ok (.iload_n 2, 1) := by decide +kernel
theorem dX11_plan_2 : decode cX11_plan 2 = .ok (.iload_n 3, 1) := by decide +kernel
theorem dX11_plan_3 : decode cX11_plan 3 = .ok (.invokestatic 434, 3) := by decide +kernel
theorem dX11_plan_6 : decode cX11_plan 6 = .ok (.ifCond .ne 10, 3) := by decide +kernel
theorem dX11_plan_9 : decode cX11_plan 9 = .ok (.aload_n 0, 1) := by decide +kernel
theorem dX11_plan_10 : decode cX11_plan 10 = .ok (.bipush (-6), 2) := by decide +kernel
theorem dX11_plan_12 : decode cX11_plan 12 = .ok (.invokevirtual 132, 3) := by decide +kernel
theorem dX11_plan_15 : decode cX11_plan 15 = .ok (.ireturn, 1) := by decide +kernel
theorem dX11_plan_16 : decode cX11_plan 16 = .ok (.aload_n 0, 1) := by decide +kernel
theorem dX11_plan_17 : decode cX11_plan 17 = .ok (.getfield 86, 3) := by decide +kernel
theorem dX11_plan_20 : decode cX11_plan 20 = .ok (.aload_n 0, 1) := by decide +kernel
theorem dX11_plan_21 : decode cX11_plan 21 = .ok (.invokevirtual 384, 3) := by decide +kernel
theorem dX11_plan_24 : decode cX11_plan 24 = .ok (.iload_n 1, 1) := by decide +kernel
theorem dX11_plan_25 : decode cX11_plan 25 = .ok (.iload_n 3, 1) := by decide +kernel
theorem dX11_plan_26 : decode cX11_plan 26 = .ok (.invokevirtual 437, 3) := by decide +kernel
theorem dX11_plan_29 : decode cX11_plan 29 = .ok (.aload_n 0, 1) := by decide +kernel
theorem dX11_plan_30 : decode cX11_plan 30 = .ok (.getfield 86, 3) := by decide +kernel
theorem dX11_plan_33 : decode cX11_plan 33 = .ok (.iload_n 2, 1) := by decide +kernel
theorem dX11_plan_34 : decode cX11_plan 34 = .ok (.invokevirtual 440, 3) := by decide +kernel
theorem dX11_plan_37 : decode cX11_plan 37 = .ok (.istore 4, 2) := by decide +kernel
theorem dX11_plan_39 : decode cX11_plan 39 = .ok (.iload 4, 2) := by decide +kernel
theorem dX11_plan_41 : decode cX11_plan 41 = .ok (.iconst (-1), 1) := by decide +kernel
theorem dX11_plan_42 : decode cX11_plan 42 = .ok (.if_icmp .ne 12, 3) := by decide +kernel
theorem dX11_plan_45 : decode cX11_plan 45 = .ok (.aload_n 0, 1) := by decide +kernel
theorem dX11_plan_46 : decode cX11_plan 46 = .ok (.bipush (-6), 2) := by decide +kernel
theorem dX11_plan_48 : decode cX11_plan 48 = .ok (.invokevirtual 132, 3) := by decide +kernel
theorem dX11_plan_51 : decode cX11_plan 51 = .ok (.goto 5, 3) := by decide +kernel
theorem dX11_plan_54 : decode cX11_plan 54 = .ok (.iload 4, 2) := by decide +kernel
theorem dX11_plan_56 : decode cX11_plan 56 = .ok (.ireturn, 1) := by decide +kernel
theorem dX11_planned_0 : decode cX11_planned 0 = .ok (.iload_n 1, 1) := by decide +kernel
theorem dX11_planned_1 : decode cX11_planned 1 = .ok (.iconst 0, 1) := by decide +kernel
theorem dX11_planned_2 : decode cX11_planned 2 = .ok (.iconst 2, 1) := by decide +kernel
theorem dX11_planned_3 : decode cX11_planned 3 = .ok (.invokestatic 111, 3) := by decide +kernel
theorem dX11_planned_6 : decode cX11_planned 6 = .ok (.ifCond .eq 14, 3) := by decide +kernel
theorem dX11_planned_9 : decode cX11_planned 9 = .ok (.aload_n 0, 1) := by decide +kernel
theorem dX11_planned_10 : decode cX11_planned 10 = .ok (.getfield 86, 3) := by decide +kernel
theorem dX11_planned_13 : decode cX11_planned 13 = .ok (.iload_n 1, 1) := by decide +kernel
theorem dX11_planned_14 : decode cX11_planned 14 = .ok (.invokevirtual 443, 3) := by decide +kernel
theorem dX11_planned_17 : decode cX11_planned 17 = .ok (.goto 4, 3) := by decide +kernel
theorem dX11_planned_20 : decode cX11_planned 20 = .ok (.iconst (-1), 1) := by decide +kernel
theorem dX11_planned_21 : decode cX11_planned 21 = .ok (.ireturn, 1) := by decide +kernel
theorem dX11_judge_0 : decode cX11_judge 0 = .ok (.aload_n 0, 1) := by decide +kernel
theorem dX11_judge_1 : decode cX11_judge 1 = .ok (.iload_n 1, 1) := by decide +kernel
theorem dX11_judge_2 : decode cX11_judge 2 = .ok (.invokevirtual 198, 3) := by decide +kernel
theorem dX11_judge_5 : decode cX11_judge 5 = .ok (.istore 5, 2) := by decide +kernel
theorem dX11_judge_7 : decode cX11_judge 7 = .ok (.iload 5, 2) := by decide +kernel
theorem dX11_judge_9 : decode cX11_judge 9 = .ok (.ifCond .eq 10, 3) := by decide +kernel
theorem dX11_judge_12 : decode cX11_judge 12 = .ok (.aload_n 0, 1) := by decide +kernel
theorem dX11_judge_13 : decode cX11_judge 13 = .ok (.iload 5, 2) := by decide +kernel
theorem dX11_judge_15 : decode cX11_judge 15 = .ok (.invokevirtual 132, 3) := by decide +kernel
theorem dX11_judge_18 : decode cX11_judge 18 = .ok (.ireturn, 1) := by decide +kernel
theorem dX11_judge_19 : decode cX11_judge 19 = .ok (.aload_n 0, 1) := by decide +kernel
theorem dX11_judge_20 : decode cX11_judge 20 = .ok (.getfield 11, 3) := by decide +kernel
theorem dX11_judge_23 : decode cX11_judge 23 = .ok (.iload_n 1, 1) := by decide +kernel
theorem dX11_judge_24 : decode cX11_judge 24 = .ok (.aaload, 1) := by decide +kernel
theorem dX11_judge_25 : decode cX11_judge 25 = .ok (.getfield 235, 3) := by decide +kernel
theorem dX11_judge_28 : decode cX11_judge 28 = .ok (.iconst 1, 1) := by decide +kernel
theorem dX11_judge_29 : decode cX11_judge 29 = .ok (.aload_n 0, 1) := by decide +kernel
theorem dX11_judge_30 : decode cX11_judge 30 = .ok (.getfield 86, 3) := by decide +kernel
theorem dX11_judge_33 : decode cX11_judge 33 = .ok (.getfield 428, 3) := by decide +kernel
theorem dX11_judge_36 : decode cX11_judge 36 = .ok (.iadd, 1) := by decide +kernel
theorem dX11_judge_37 : decode cX11_judge 37 = .ok (.if_icmp .ge 10, 3) := by decide +kernel
theorem dX11_judge_40 : decode cX11_judge 40 = .ok (.aload_n 0, 1) := by decide +kernel
theorem dX11_judge_41 : decode cX11_judge 41 = .ok (.bipush (-5), 2) := by decide +kernel
theorem dX11_judge_43 : decode cX11_judge 43 = .ok (.invokevirtual 132, 3) := by decide +kernel
theorem dX11_judge_46 : decode cX11_judge 46 = .ok (.ireturn, 1) := by decide +kernel
theorem dX11_judge_47 : decode cX11_judge 47 = .ok (.iload_n 2, 1) := by decide +kernel
theorem dX11_judge_48 : decode cX11_judge 48 = .ok (.iload_n 3, 1) := by decide +kernel
theorem dX11_judge_49 : decode cX11_judge 49 = .ok (.iload 4, 2) := by decide +kernel
theorem dX11_judge_51 : decode cX11_judge 51 = .ok (.invokestatic 434, 3) := by decide +kernel
theorem dX11_judge_54 : decode cX11_judge 54 = .ok (.ifCond .ne 10, 3) := by decide +kernel
theorem dX11_judge_57 : decode cX11_judge 57 = .ok (.aload_n 0, 1) := by decide +kernel
theorem dX11_judge_58 : decode cX11_judge 58 = .ok (.bipush (-6), 2) := by decide +kernel
theorem dX11_judge_60 : decode cX11_judge 60 = .ok (.invokevirtual 132, 3) := by decide +kernel
theorem dX11_judge_63 : decode cX11_judge 63 = .ok (.ireturn, 1) := by decide +kernel
theorem dX11_judge_64 : decode cX11_judge 64 = .ok (.aload_n 0, 1) := by decide +kernel
theorem dX11_judge_65 : decode cX11_judge 65 = .ok (.getfield 86, 3) := by decide +kernel
theorem dX11_judge_68 : decode cX11_judge 68 = .ok (.aload_n 0, 1) := by decide +kernel
theorem dX11_judge_69 : decode cX11_judge 69 = .ok (.invokevirtual 384, 3) := by decide +kernel
theorem dX11_judge_72 : decode cX11_judge 72 = .ok (.iload_n 2, 1) := by decide +kernel
theorem dX11_judge_73 : decode cX11_judge 73 = .ok (.iload 4, 2) := by decide +kernel
theorem dX11_judge_75 : decode cX11_judge 75 = .ok (.invokevirtual 437, 3) := by decide +kernel
theorem dX11_judge_78 : decode cX11_judge 78 = .ok (.aload_n 0, 1) := by decide +kernel
theorem dX11_judge_79 : decode cX11_judge 79 = .ok (.getfield 86, 3) := by decide +kernel
theorem dX11_judge_82 : decode cX11_judge 82 = .ok (.aload_n 0, 1) := by decide +kernel
theorem dX11_judge_83 : decode cX11_judge 83 = .ok (.getfield 11, 3) := by decide +kernel
theorem dX11_judge_86 : decode cX11_judge 86 = .ok (.iload_n 1, 1) := by decide +kernel
theorem dX11_judge_87 : decode cX11_judge 87 = .ok (.aaload, 1) := by decide +kernel
theorem dX11_judge_88 : decode cX11_judge 88 = .ok (.invokevirtual 446, 3) := by decide +kernel
theorem dX11_judge_91 : decode cX11_judge 91 = .ok (.ifCond .eq 20, 3) := by decide +kernel
theorem dX11_judge_94 : decode cX11_judge 94 = .ok (.aload_n 0, 1) := by decide +kernel
theorem dX11_judge_95 : decode cX11_judge 95 = .ok (.getfield 86, 3) := by decide +kernel
theorem dX11_judge_98 : decode cX11_judge 98 = .ok (.aload_n 0, 1) := by decide +kernel
theorem dX11_judge_99 : decode cX11_judge 99 = .ok (.getfield 11, 3) := by decide +kernel
theorem dX11_judge_102 : decode cX11_judge 102 = .ok (.iload_n 1, 1) := by decide +kernel
theorem dX11_judge_103 : decode cX11_judge 103 = .ok (.aaload, 1) := by decide +kernel
theorem dX11_judge_104 : decode cX11_judge 104 = .ok (.iload_n 3, 1) := by decide +kernel
theorem dX11_judge_105 : decode cX11_judge 105 = .ok (.invokevirtual 450, 3) := by decide +kernel
theorem dX11_judge_108 : decode cX11_judge 108 = .ok (.goto 9, 3) := by decide +kernel
theorem dX11_judge_111 : decode cX11_judge 111 = .ok (.aload_n 0, 1) := by decide +kernel
theorem dX11_judge_112 : decode cX11_judge 112 = .ok (.bipush (-6), 2) := by decide +kernel
theorem dX11_judge_114 : decode cX11_judge 114 = .ok (.invokevirtual 132, 3) := by decide +kernel
theorem dX11_judge_117 : decode cX11_judge 117 = .ok (.ireturn, 1) := by decide +kernel
theorem dX11_room_0 : decode cX11_room 0 = .ok (.aload_n 0, 1) := by decide +kernel
theorem dX11_room_1 : decode cX11_room 1 = .ok (.getfield 98, 3) := by decide +kernel
theorem dX11_room_4 : decode cX11_room 4 = .ok (.getfield 454, 3) := by decide +kernel
theorem dX11_room_7 : decode cX11_room 7 = .ok (.bipush 9, 2) := by decide +kernel
theorem dX11_room_9 : decode cX11_room 9 = .ok (.if_icmp .ne 12, 3) := by decide +kernel
theorem dX11_room_12 : decode cX11_room 12 = .ok (.aload_n 0, 1) := by decide +kernel
theorem dX11_room_13 : decode cX11_room 13 = .ok (.bipush (-7), 2) := by decide +kernel
theorem dX11_room_15 : decode cX11_room 15 = .ok (.invokevirtual 132, 3) := by decide +kernel
theorem dX11_room_18 : decode cX11_room 18 = .ok (.goto 17, 3) := by decide +kernel
theorem dX11_room_21 : decode cX11_room 21 = .ok (.aload_n 0, 1) := by decide +kernel
theorem dX11_room_22 : decode cX11_room 22 = .ok (.getfield 98, 3) := by decide +kernel
theorem dX11_room_25 : decode cX11_room 25 = .ok (.dup, 1) := by decide +kernel
theorem dX11_room_26 : decode cX11_room 26 = .ok (.getfield 454, 3) := by decide +kernel
theorem dX11_room_29 : decode cX11_room 29 = .ok (.dup_x1, 1) := by decide +kernel
theorem dX11_room_30 : decode cX11_room 30 = .ok (.iconst 1, 1) := by decide +kernel
theorem dX11_room_31 : decode cX11_room 31 = .ok (.iadd, 1) := by decide +kernel
theorem dX11_room_32 : decode cX11_room 32 = .ok (.putfield 454, 3) := by decide +kernel
theorem dX11_room_35 : decode cX11_room 35 = .ok (.ireturn, 1) := by decide +kernel
theorem dX11_wish_0 : decode cX11_wish 0 = .ok (.aload_n 0, 1) := by decide +kernel
theorem dX11_wish_1 : decode cX11_wish 1 = .ok (.aload_n 0, 1) := by decide +kernel
theorem dX11_wish_2 : decode cX11_wish 2 = .ok (.getfield 90, 3) := by decide +kernel
theorem dX11_wish_5 : decode cX11_wish 5 = .ok (.iload_n 1, 1) := by decide +kernel
theorem dX11_wish_6 : decode cX11_wish 6 = .ok (.iload_n 2, 1) := by decide +kernel
theorem dX11_wish_7 : decode cX11_wish 7 = .ok (.invokevirtual 306, 3) := by decide +kernel
theorem dX11_wish_10 : decode cX11_wish 10 = .ok (.ireturn, 1) := by decide +kernel
theorem dX11_choose_0 : decode cX11_choose 0 = .ok (.aload_n 0, 1) := by decide +kernel
theorem dX11_choose_1 : decode cX11_choose 1 = .ok (.getfield 98, 3) := by decide +kernel
theorem dX11_choose_4 : decode cX11_choose 4 = .ok (.invokevirtual 455, 3) := by decide +kernel
theorem dX11_choose_7 : decode cX11_choose 7 = .ok (.ireturn, 1) := by decide +kernel
theorem dX11_exchange_0 : decode cX11_exchange 0 = .ok (.aload_n 0, 1) := by decide +kernel
theorem dX11_exchange_1 : decode cX11_exchange 1 = .ok (.getfield 98, 3) := by decide +kernel
theorem dX11_exchange_4 : decode cX11_exchange 4 = .ok (.invokevirtual 458, 3) := by decide +kernel
theorem dX11_exchange_7 : decode cX11_exchange 7 = .ok (.ireturn, 1) := by decide +kernel
theorem dX11_roomOf_0 : decode cX11_roomOf 0 = .ok (.aload_n 0, 1) := by decide +kernel
theorem dX11_roomOf_1 : decode cX11_roomOf 1 = .ok (.getfield 18, 3) := by decide +kernel
theorem dX11_roomOf_4 : decode cX11_roomOf 4 = .ok (.iload_n 1, 1) := by decide +kernel
theorem dX11_roomOf_5 : decode cX11_roomOf 5 = .ok (.invokevirtual 146, 3) := by decide +kernel
theorem dX11_roomOf_8 : decode cX11_roomOf 8 = .ok (.ifCond .eq 15, 3) := by decide +kernel
theorem dX11_roomOf_11 : decode cX11_roomOf 11 = .ok (.aload_n 0, 1) := by decide +kernel
theorem dX11_roomOf_12 : decode cX11_roomOf 12 = .ok (.getfield 98, 3) := by decide +kernel
theorem dX11_roomOf_15 : decode cX11_roomOf 15 = .ok (.getfield 461, 3) := by decide +kernel
theorem dX11_roomOf_18 : decode cX11_roomOf 18 = .ok (.iload_n 1, 1) := by decide +kernel
theorem dX11_roomOf_19 : decode cX11_roomOf 19 = .ok (.iaload, 1) := by decide +kernel
theorem dX11_roomOf_20 : decode cX11_roomOf 20 = .ok (.goto 4, 3) := by decide +kernel
theorem dX11_roomOf_23 : decode cX11_roomOf 23 = .ok (.iconst (-1), 1) := by decide +kernel
theorem dX11_roomOf_24 : decode cX11_roomOf 24 = .ok (.ireturn, 1) := by decide +kernel
theorem dX11_status_0 : decode cX11_status 0 = .ok (.iload_n 1, 1) := by decide +kernel
theorem dX11_status_1 : decode cX11_status 1 = .ok (.tableswitch 184 0 18 #[91, 99, 107, 115, 123, 131, 139, 147, 155, 160, 168, 184, 184, 184, 184, 184, 184, 184, 176], 91) := by decide +kernel
theorem dX11_status_92 : decode cX11_status 92 = .ok (.aload_n 0, 1) := by decide +kernel
theorem dX11_status_93 : decode cX11_status 93 = .ok (.getfield 18, 3) := by decide +kernel
theorem dX11_status_96 : decode cX11_status 96 = .ok (.getfield 140, 3) := by decide +kernel
theorem dX11_status_99 : decode cX11_status 99 = .ok (.ireturn, 1) := by decide +kernel
theorem dX11_status_100 : decode cX11_status 100 = .ok (.aload_n 0, 1) := by decide +kernel
theorem dX11_status_101 : decode cX11_status 101 = .ok (.getfield 18, 3) := by decide +kernel
theorem dX11_status_104 : decode cX11_status 104 = .ok (.getfield 162, 3) := by decide +kernel
theorem dX11_status_107 : decode cX11_status 107 = .ok (.ireturn, 1) := by decide +kernel
theorem dX11_status_108 : decode cX11_status 108 = .ok (.aload_n 0, 1) := by decide +kernel
theorem dX11_status_109 : decode cX11_status 109 = .ok (.getfield 25, 3) := by decide +kernel
theorem dX11_status_112 : decode cX11_status 112 = .ok (.getfield 242, 3) := by decide +kernel
theorem dX11_status_115 : decode cX11_status 115 = .ok (.ireturn, 1) := by decide +kernel
theorem dX11_status_116 : decode cX11_status 116 = .ok (.aload_n 0, 1) := by decide +kernel
theorem dX11_status_117 : decode cX11_status 117 = .ok (.getfield 43, 3) := by decide +kernel
theorem dX11_status_120 : decode cX11_status 120 = .ok (.getfield 279, 3) := by decide +kernel
theorem dX11_status_123 : decode cX11_status 123 = .ok (.ireturn, 1) := by decide +kernel
theorem dX11_status_124 : decode cX11_status 124 = .ok (.aload_n 0, 1) := by decide +kernel
theorem dX11_status_125 : decode cX11_status 125 = .ok (.getfield 43, 3) := by decide +kernel
theorem dX11_status_128 : decode cX11_status 128 = .ok (.invokevirtual 464, 3) := by decide +kernel
theorem dX11_status_131 : decode cX11_status 131 = .ok (.ireturn, 1) := by decide +kernel
theorem dX11_status_132 : decode cX11_status 132 = .ok (.aload_n 0, 1) := by decide +kernel
theorem dX11_status_133 : decode cX11_status 133 = .ok (.getfield 70, 3) := by decide +kernel
theorem dX11_status_136 : decode cX11_status 136 = .ok (.getfield 338, 3) := by decide +kernel
theorem dX11_status_139 : decode cX11_status 139 = .ok (.ireturn, 1) := by decide +kernel
theorem dX11_status_140 : decode cX11_status 140 = .ok (.aload_n 0, 1) := by decide +kernel
theorem dX11_status_141 : decode cX11_status 141 = .ok (.getfield 70, 3) := by decide +kernel
theorem dX11_status_144 : decode cX11_status 144 = .ok (.getfield 358, 3) := by decide +kernel
theorem dX11_status_147 : decode cX11_status 147 = .ok (.ireturn, 1) := by decide +kernel
theorem dX11_status_148 : decode cX11_status 148 = .ok (.aload_n 0, 1) := by decide +kernel
theorem dX11_status_149 : decode cX11_status 149 = .ok (.getfield 77, 3) := by decide +kernel
theorem dX11_status_152 : decode cX11_status 152 = .ok (.getfield 467, 3) := by decide +kernel
theorem dX11_status_155 : decode cX11_status 155 = .ok (.ireturn, 1) := by decide +kernel
theorem dX11_status_156 : decode cX11_status 156 = .ok (.aload_n 0, 1) := by decide +kernel
theorem dX11_status_157 : decode cX11_status 157 = .ok (.getfield 106, 3) := by decide +kernel
theorem dX11_status_160 : decode cX11_status 160 = .ok (.ireturn, 1) := by decide +kernel
theorem dX11_status_161 : decode cX11_status 161 = .ok (.aload_n 0, 1) := by decide +kernel
theorem dX11_status_162 : decode cX11_status 162 = .ok (.getfield 77, 3) := by decide +kernel
theorem dX11_status_165 : decode cX11_status 165 = .ok (.getfield 407, 3) := by decide +kernel
theorem dX11_status_168 : decode cX11_status 168 = .ok (.ireturn, 1) := by decide +kernel
theorem dX11_status_169 : decode cX11_status 169 = .ok (.aload_n 0, 1) := by decide +kernel
theorem dX11_status_170 : decode cX11_status 170 = .ok (.getfield 98, 3) := by decide +kernel
theorem dX11_status_173 : decode cX11_status 173 = .ok (.getfield 454, 3) := by decide +kernel
theorem dX11_status_176 : decode cX11_status 176 = .ok (.ireturn, 1) := by decide +kernel
theorem dX11_status_177 : decode cX11_status 177 = .ok (.aload_n 0, 1) := by decide +kernel
theorem dX11_status_178 : decode cX11_status 178 = .ok (.getfield 61, 3) := by decide +kernel
theorem dX11_status_181 : decode cX11_status 181 = .ok (.getfield 470, 3) := by decide +kernel
theorem dX11_status_184 : decode cX11_status 184 = .ok (.ireturn, 1) := by decide +kernel
theorem dX11_status_185 : decode cX11_status 185 = .ok (.iload_n 1, 1) := by decide +kernel
theorem dX11_status_186 : decode cX11_status 186 = .ok (.bipush 11, 2) := by decide +kernel
theorem dX11_status_188 : decode cX11_status 188 = .ok (.bipush 17, 2) := by decide +kernel
theorem dX11_status_190 : decode cX11_status 190 = .ok (.invokestatic 111, 3) := by decide +kernel
theorem dX11_status_193 : decode cX11_status 193 = .ok (.ifCond .eq 15, 3) := by decide +kernel
theorem dX11_status_196 : decode cX11_status 196 = .ok (.aload_n 0, 1) := by decide +kernel
theorem dX11_status_197 : decode cX11_status 197 = .ok (.getfield 102, 3) := by decide +kernel
theorem dX11_status_200 : decode cX11_status 200 = .ok (.iload_n 1, 1) := by decide +kernel
theorem dX11_status_201 : decode cX11_status 201 = .ok (.bipush 10, 2) := by decide +kernel
theorem dX11_status_203 : decode cX11_status 203 = .ok (.isub, 1) := by decide +kernel
theorem dX11_status_204 : decode cX11_status 204 = .ok (.iaload, 1) := by decide +kernel
theorem dX11_status_205 : decode cX11_status 205 = .ok (.goto 4, 3) := by decide +kernel
theorem dX11_status_208 : decode cX11_status 208 = .ok (.iconst (-1), 1) := by decide +kernel
theorem dX11_status_209 : decode cX11_status 209 = .ok (.ireturn, 1) := by decide +kernel
theorem dX12_no_0 : decode cX12_no 0 = .ok (.aload_n 0, 1) := by decide +kernel
theorem dX12_no_1 : decode cX12_no 1 = .ok (.getfield 190, 3) := by decide +kernel
theorem dX12_no_4 : decode cX12_no 4 = .ok (.iload_n 1, 1) := by decide +kernel
theorem dX12_no_5 : decode cX12_no 5 = .ok (.ineg, 1) := by decide +kernel
theorem dX12_no_6 : decode cX12_no 6 = .ok (.dup2, 1) := by decide +kernel
theorem dX12_no_7 : decode cX12_no 7 = .ok (.iaload, 1) := by decide +kernel
theorem dX12_no_8 : decode cX12_no 8 = .ok (.iconst 1, 1) := by decide +kernel
theorem dX12_no_9 : decode cX12_no 9 = .ok (.iadd, 1) := by decide +kernel
theorem dX12_no_10 : decode cX12_no 10 = .ok (.iastore, 1) := by decide +kernel
theorem dX12_no_11 : decode cX12_no 11 = .ok (.iload_n 1, 1) := by decide +kernel
theorem dX12_no_12 : decode cX12_no 12 = .ok (.ireturn, 1) := by decide +kernel
theorem dX12_isOne_0 : decode cX12_isOne 0 = .ok (.iload_n 1, 1) := by decide +kernel
theorem dX12_isOne_1 : decode cX12_isOne 1 = .ok (.ifCond .lt 15, 3) := by decide +kernel
theorem dX12_isOne_4 : decode cX12_isOne 4 = .ok (.iload_n 1, 1) := by decide +kernel
theorem dX12_isOne_5 : decode cX12_isOne 5 = .ok (.aload_n 0, 1) := by decide +kernel
theorem dX12_isOne_6 : decode cX12_isOne 6 = .ok (.getfield 256, 3) := by decide +kernel
theorem dX12_isOne_9 : decode cX12_isOne 9 = .ok (.if_icmp .ge 7, 3) := by decide +kernel
theorem dX12_isOne_12 : decode cX12_isOne 12 = .ok (.iconst 1, 1) := by decide +kernel
theorem dX12_isOne_13 : decode cX12_isOne 13 = .ok (.goto 4, 3) := by decide +kernel
theorem dX12_isOne_16 : decode cX12_isOne 16 = .ok (.iconst 0, 1) := by decide +kernel
theorem dX12_isOne_17 : decode cX12_isOne 17 = .ok (.ireturn, 1) := by decide +kernel
theorem dX12_isStatute_0 : decode cX12_isStatute 0 = .ok (.iload_n 0, 1) := by decide +kernel
theorem dX12_isStatute_1 : decode cX12_isStatute 1 = .ok (.ifCond .lt 12, 3) := by decide +kernel
theorem dX12_isStatute_4 : decode cX12_isStatute 4 = .ok (.iload_n 0, 1) := by decide +kernel
theorem dX12_isStatute_5 : decode cX12_isStatute 5 = .ok (.iconst 4, 1) := by decide +kernel
theorem dX12_isStatute_6 : decode cX12_isStatute 6 = .ok (.if_icmp .ge 7, 3) := by decide +kernel
theorem dX12_isStatute_9 : decode cX12_isStatute 9 = .ok (.iconst 1, 1) := by decide +kernel
theorem dX12_isStatute_10 : decode cX12_isStatute 10 = .ok (.goto 4, 3) := by decide +kernel
theorem dX12_isStatute_13 : decode cX12_isStatute 13 = .ok (.iconst 0, 1) := by decide +kernel
theorem dX12_isStatute_14 : decode cX12_isStatute 14 = .ok (.ireturn, 1) := by decide +kernel
theorem dX12_isShelf_0 : decode cX12_isShelf 0 = .ok (.iload_n 0, 1) := by decide +kernel
theorem dX12_isShelf_1 : decode cX12_isShelf 1 = .ok (.ifCond .lt 13, 3) := by decide +kernel
theorem dX12_isShelf_4 : decode cX12_isShelf 4 = .ok (.iload_n 0, 1) := by decide +kernel
theorem dX12_isShelf_5 : decode cX12_isShelf 5 = .ok (.bipush 10, 2) := by decide +kernel
theorem dX12_isShelf_7 : decode cX12_isShelf 7 = .ok (.if_icmp .ge 7, 3) := by decide +kernel
theorem dX12_isShelf_10 : decode cX12_isShelf 10 = .ok (.iconst 1, 1) := by decide +kernel
theorem dX12_isShelf_11 : decode cX12_isShelf 11 = .ok (.goto 4, 3) := by decide +kernel
theorem dX12_isShelf_14 : decode cX12_isShelf 14 = .ok (.iconst 0, 1) := by decide +kernel
theorem dX12_isShelf_15 : decode cX12_isShelf 15 = .ok (.ireturn, 1) := by decide +kernel
theorem dX12_isPlace_0 : decode cX12_isPlace 0 = .ok (.iload_n 1, 1) := by decide +kernel
theorem dX12_isPlace_1 : decode cX12_isPlace 1 = .ok (.ifCond .lt 15, 3) := by decide +kernel
theorem dX12_isPlace_4 : decode cX12_isPlace 4 = .ok (.iload_n 1, 1) := by decide +kernel
theorem dX12_isPlace_5 : decode cX12_isPlace 5 = .ok (.aload_n 0, 1) := by decide +kernel
theorem dX12_isPlace_6 : decode cX12_isPlace 6 = .ok (.getfield 259, 3) := by decide +kernel
theorem dX12_isPlace_9 : decode cX12_isPlace 9 = .ok (.if_icmp .ge 7, 3) := by decide +kernel
theorem dX12_isPlace_12 : decode cX12_isPlace 12 = .ok (.iconst 1, 1) := by decide +kernel
theorem dX12_isPlace_13 : decode cX12_isPlace 13 = .ok (.goto 4, 3) := by decide +kernel
theorem dX12_isPlace_16 : decode cX12_isPlace 16 = .ok (.iconst 0, 1) := by decide +kernel
theorem dX12_isPlace_17 : decode cX12_isPlace 17 = .ok (.ireturn, 1) := by decide +kernel
theorem dX12_year_0 : decode cX12_year 0 = .ok (.aload_n 0, 1) := by decide +kernel
theorem dX12_year_1 : decode cX12_year 1 = .ok (.getfield 262, 3) := by decide +kernel
theorem dX12_year_4 : decode cX12_year 4 = .ok (.sipush 365, 3) := by decide +kernel
theorem dX12_year_7 : decode cX12_year 7 = .ok (.idiv, 1) := by decide +kernel
theorem dX12_year_8 : decode cX12_year 8 = .ok (.ireturn, 1) := by decide +kernel
theorem dX12_person_0 : decode cX12_person 0 = .ok (.iload_n 1, 1) := by decide +kernel
theorem dX12_person_1 : decode cX12_person 1 = .ok (.ldc_w 265, 3) := by decide +kernel
theorem dX12_person_4 : decode cX12_person 4 = .ok (.if_icmp .lt 10, 3) := by decide +kernel
theorem dX12_person_7 : decode cX12_person 7 = .ok (.iload_n 1, 1) := by decide +kernel
theorem dX12_person_8 : decode cX12_person 8 = .ok (.ldc_w 266, 3) := by decide +kernel
theorem dX12_person_11 : decode cX12_person 11 = .ok (.if_icmp .le 10, 3) := by decide +kernel
theorem dX12_person_14 : decode cX12_person 14 = .ok (.aload_n 0, 1) := by decide +kernel
theorem dX12_person_15 : decode cX12_person 15 = .ok (.bipush (-6), 2) := by decide +kernel
theorem dX12_person_17 : decode cX12_person 17 = .ok (.invokevirtual 267, 3) := by decide +kernel
theorem dX12_person_20 : decode cX12_person 20 = .ok (.ireturn, 1) := by decide +kernel
theorem dX12_person_21 : decode cX12_person 21 = .ok (.aload_n 0, 1) := by decide +kernel
theorem dX12_person_22 : decode cX12_person 22 = .ok (.getfield 256, 3) := by decide +kernel
theorem dX12_person_25 : decode cX12_person 25 = .ok (.bipush 24, 2) := by decide +kernel
theorem dX12_person_27 : decode cX12_person 27 = .ok (.if_icmp .ne 10, 3) := by decide +kernel
theorem dX12_person_30 : decode cX12_person 30 = .ok (.aload_n 0, 1) := by decide +kernel
theorem dX12_person_31 : decode cX12_person 31 = .ok (.bipush (-7), 2) := by decide +kernel
theorem dX12_person_33 : decode cX12_person 33 = .ok (.invokevirtual 267, 3) := by decide +kernel
theorem dX12_person_36 : decode cX12_person 36 = .ok (.ireturn, 1) := by decide +kernel
theorem dX12_person_37 : decode cX12_person 37 = .ok (.aload_n 0, 1) := by decide +kernel
theorem dX12_person_38 : decode cX12_person 38 = .ok (.getfield 13, 3) := by decide +kernel
theorem dX12_person_41 : decode cX12_person 41 = .ok (.aload_n 0, 1) := by decide +kernel
theorem dX12_person_42 : decode cX12_person 42 = .ok (.getfield 256, 3) := by decide +kernel
theorem dX12_person_45 : decode cX12_person 45 = .ok (.iload_n 1, 1) := by decide +kernel
theorem dX12_person_46 : decode cX12_person 46 = .ok (.iastore, 1) := by decide +kernel
theorem dX12_person_47 : decode cX12_person 47 = .ok (.aload_n 0, 1) := by decide +kernel
theorem dX12_person_48 : decode cX12_person 48 = .ok (.dup, 1) := by decide +kernel
theorem dX12_person_49 : decode cX12_person 49 = .ok (.getfield 256, 3) := by decide +kernel
theorem dX12_person_52 : decode cX12_person 52 = .ok (.dup_x1, 1) := by decide +kernel
theorem dX12_person_53 : decode cX12_person 53 = .ok (.iconst 1, 1) := by decide +kernel
theorem dX12_person_54 : decode cX12_person 54 = .ok (.iadd, 1) := by decide +kernel
theorem dX12_person_55 : decode cX12_person 55 = .ok (.putfield 256, 3) := by decide +kernel
theorem dX12_person_58 : decode cX12_person 58 = .ok (.ireturn, 1) := by decide +kernel
theorem dX12_founder_0 : decode cX12_founder 0 = .ok (.aload_n 0, 1) := by decide +kernel
theorem dX12_founder_1 : decode cX12_founder 1 = .ok (.iload_n 1, 1) := by decide +kernel
theorem dX12_founder_2 : decode cX12_founder 2 = .ok (.invokevirtual 271, 3) := by decide +kernel
theorem dX12_founder_5 : decode cX12_founder 5 = .ok (.ifCond .ne 9, 3) := by decide +kernel
theorem dX12_founder_8 : decode cX12_founder 8 = .ok (.aload_n 0, 1) := by decide +kernel
theorem dX12_founder_9 : decode cX12_founder 9 = .ok (.iconst (-1), 1) := by decide +kernel
theorem dX12_founder_10 : decode cX12_founder 10 = .ok (.invokevirtual 267, 3) := by decide +kernel
theorem dX12_founder_13 : decode cX12_founder 13 = .ok (.ireturn, 1) := by decide +kernel
theorem dX12_founder_14 : decode cX12_founder 14 = .ok (.aload_n 0, 1) := by decide +kernel
theorem dX12_founder_15 : decode cX12_founder 15 = .ok (.getfield 29, 3) := by decide +kernel
theorem dX12_founder_18 : decode cX12_founder 18 = .ok (.iload_n 1, 1) := by decide +kernel
theorem dX12_founder_19 : decode cX12_founder 19 = .ok (.baload, 1) := by decide +kernel
theorem dX12_founder_20 : decode cX12_founder 20 = .ok (.ifCond .eq 5, 3) := by decide +kernel
theorem dX12_founder_23 : decode cX12_founder 23 = .ok (.iconst 0, 1) := by decide +kernel
theorem dX12_founder_24 : decode cX12_founder 24 = .ok (.ireturn, 1) := by decide +kernel
theorem dX12_founder_25 : decode cX12_founder 25 = .ok (.aload_n 0, 1) := by decide +kernel
theorem dX12_founder_26 : decode cX12_founder 26 = .ok (.getfield 29, 3) := by decide +kernel
theorem dX12_founder_29 : decode cX12_founder 29 = .ok (.iload_n 1, 1) := by decide +kernel
theorem dX12_founder_30 : decode cX12_founder 30 = .ok (.iconst 1, 1) := by decide +kernel
theorem dX12_founder_31 : decode cX12_founder 31 = .ok (.bastore, 1) := by decide +kernel
theorem dX12_founder_32 : decode cX12_founder 32 = .ok (.iconst 1, 1) := by decide +kernel
theorem dX12_founder_33 : decode cX12_founder 33 = .ok (.ireturn, 1) := by decide +kernel
theorem dX12_climbs_0 : decode cX12_climbs 0 = .ok (.iconst 0, 1) := by decide +kernel
theorem dX12_climbs_1 : decode cX12_climbs 1 = .ok (.istore 4, 2) := by decide +kernel
theorem dX12_climbs_3 : decode cX12_climbs 3 = .ok (.iload 4, 2) := by decide +kernel
theorem dX12_climbs_5 : decode cX12_climbs 5 = .ok (.aload_n 0, 1) := by decide +kernel
theorem dX12_climbs_6 : decode cX12_climbs 6 = .ok (.getfield 256, 3) := by decide +kernel
theorem dX12_climbs_9 : decode cX12_climbs 9 = .ok (.if_icmp .ge 14, 3) := by decide +kernel
theorem dX12_climbs_12 : decode cX12_climbs 12 = .ok (.aload_n 3, 1) := by decide +kernel
theorem dX12_climbs_13 : decode cX12_climbs 13 = .ok (.iload 4, 2) := by decide +kernel
theorem dX12_climbs_15 : decode cX12_climbs 15 = .ok (.iconst (-1), 1) := by decide +kernel
theorem dX12_climbs_16 : decode cX12_climbs 16 = .ok (.iastore, 1) := by decide +kernel
theorem dX12_climbs_17 : decode cX12_climbs 17 = .ok (.iinc 4 1, 3) := by decide +kernel
theorem dX12_climbs_20 : decode cX12_climbs 20 = .ok (.goto (-17), 3) := by decide +kernel
theorem dX12_climbs_23 : decode cX12_climbs 23 = .ok (.iconst 0, 1) := by decide +kernel
theorem dX12_climbs_24 : decode cX12_climbs 24 = .ok (.istore 4, 2) := by decide +kernel
theorem dX12_climbs_26 : decode cX12_climbs 26 = .ok (.aload_n 3, 1) := by decide +kernel
theorem dX12_climbs_27 : decode cX12_climbs 27 = .ok (.iload_n 1, 1) := by decide +kernel
theorem dX12_climbs_28 : decode cX12_climbs 28 = .ok (.iconst 0, 1) := by decide +kernel
theorem dX12_climbs_29 : decode cX12_climbs 29 = .ok (.iastore, 1) := by decide +kernel
theorem dX12_climbs_30 : decode cX12_climbs 30 = .ok (.aload_n 0, 1) := by decide +kernel
theorem dX12_climbs_31 : decode cX12_climbs 31 = .ok (.getfield 199, 3) := by decide +kernel
theorem dX12_climbs_34 : decode cX12_climbs 34 = .ok (.iload 4, 2) := by decide +kernel
theorem dX12_climbs_36 : decode cX12_climbs 36 = .ok (.iinc 4 1, 3) := by decide +kernel
theorem dX12_climbs_39 : decode cX12_climbs 39 = .ok (.iload_n 1, 1) := by decide +kernel
theorem dX12_climbs_40 : decode cX12_climbs 40 = .ok (.iastore, 1) := by decide +kernel
theorem dX12_climbs_41 : decode cX12_climbs 41 = .ok (.iconst 0, 1) := by decide +kernel
theorem dX12_climbs_42 : decode cX12_climbs 42 = .ok (.istore 5, 2) := by decide +kernel
theorem dX12_climbs_44 : decode cX12_climbs 44 = .ok (.iload 5, 2) := by decide +kernel
theorem dX12_climbs_46 : decode cX12_climbs 46 = .ok (.iload 4, 2) := by decide +kernel
theorem dX12_climbs_48 : decode cX12_climbs 48 = .ok (.if_icmp .ge 102, 3) := by decide +kernel
theorem dX12_climbs_51 : decode cX12_climbs 51 = .ok (.aload_n 0, 1) := by decide +kernel
theorem dX12_climbs_52 : decode cX12_climbs 52 = .ok (.getfield 199, 3) := by decide +kernel
theorem dX12_climbs_55 : decode cX12_climbs 55 = .ok (.iload 5, 2) := by decide +kernel
theorem dX12_climbs_57 : decode cX12_climbs 57 = .ok (.iaload, 1) := by decide +kernel
theorem dX12_climbs_58 : decode cX12_climbs 58 = .ok (.istore 6, 2) := by decide +kernel
theorem dX12_climbs_60 : decode cX12_climbs 60 = .ok (.iconst 0, 1) := by decide +kernel
theorem dX12_climbs_61 : decode cX12_climbs 61 = .ok (.istore 7, 2) := by decide +kernel
theorem dX12_climbs_63 : decode cX12_climbs 63 = .ok (.iload 7, 2) := by decide +kernel
theorem dX12_climbs_65 : decode cX12_climbs 65 = .ok (.iconst 2, 1) := by decide +kernel
theorem dX12_climbs_66 : decode cX12_climbs 66 = .ok (.if_icmp .ge 78, 3) := by decide +kernel
theorem dX12_climbs_69 : decode cX12_climbs 69 = .ok (.aload_n 0, 1) := by decide +kernel
theorem dX12_climbs_70 : decode cX12_climbs 70 = .ok (.getfield 23, 3) := by decide +kernel
theorem dX12_climbs_73 : decode cX12_climbs 73 = .ok (.iconst 2, 1) := by decide +kernel
theorem dX12_climbs_74 : decode cX12_climbs 74 = .ok (.iload 6, 2) := by decide +kernel
theorem dX12_climbs_76 : decode cX12_climbs 76 = .ok (.imul, 1) := by decide +kernel
theorem dX12_climbs_77 : decode cX12_climbs 77 = .ok (.iload 7, 2) := by decide +kernel
theorem dX12_climbs_79 : decode cX12_climbs 79 = .ok (.iadd, 1) := by decide +kernel
theorem dX12_climbs_80 : decode cX12_climbs 80 = .ok (.iaload, 1) := by decide +kernel
theorem dX12_climbs_81 : decode cX12_climbs 81 = .ok (.istore 8, 2) := by decide +kernel
theorem dX12_climbs_83 : decode cX12_climbs 83 = .ok (.iload 8, 2) := by decide +kernel
theorem dX12_climbs_85 : decode cX12_climbs 85 = .ok (.iconst (-1), 1) := by decide +kernel
theorem dX12_climbs_86 : decode cX12_climbs 86 = .ok (.if_icmp .eq 52, 3) := by decide +kernel
theorem dX12_climbs_89 : decode cX12_climbs 89 = .ok (.aload_n 0, 1) := by decide +kernel
theorem dX12_climbs_90 : decode cX12_climbs 90 = .ok (.getfield 26, 3) := by decide +kernel
theorem dX12_climbs_93 : decode cX12_climbs 93 = .ok (.iconst 2, 1) := by decide +kernel
theorem dX12_climbs_94 : decode cX12_climbs 94 = .ok (.iload 6, 2) := by decide +kernel
theorem dX12_climbs_96 : decode cX12_climbs 96 = .ok (.imul, 1) := by decide +kernel
theorem dX12_climbs_97 : decode cX12_climbs 97 = .ok (.iload 7, 2) := by decide +kernel
theorem dX12_climbs_99 : decode cX12_climbs 99 = .ok (.iadd, 1) := by decide +kernel
theorem dX12_climbs_100 : decode cX12_climbs 100 = .ok (.iaload, 1) := by decide +kernel
theorem dX12_climbs_101 : decode cX12_climbs 101 = .ok (.iload_n 2, 1) := by decide +kernel
theorem dX12_climbs_102 : decode cX12_climbs 102 = .ok (.if_icmp .gt 36, 3) := by decide +kernel
theorem dX12_climbs_105 : decode cX12_climbs 105 = .ok (.aload_n 3, 1) := by decide +kernel
theorem dX12_climbs_106 : decode cX12_climbs 106 = .ok (.iload 8, 2) := by decide +kernel
theorem dX12_climbs_108 : decode cX12_climbs 108 = .ok (.iaload, 1) := by decide +kernel
theorem dX12_climbs_109 : decode cX12_climbs 109 = .ok (.iconst (-1), 1) := by decide +kernel
theorem dX12_climbs_110 : decode cX12_climbs 110 = .ok (.if_icmp .eq 6, 3) := by decide +kernel
theorem dX12_climbs_113 : decode cX12_climbs 113 = .ok (.goto 25, 3) := by decide +kernel
theorem dX12_climbs_116 : decode cX12_climbs 116 = .ok (.aload_n 3, 1) := by decide +kernel
theorem dX12_climbs_117 : decode cX12_climbs 117 = .ok (.iload 8, 2) := by decide +kernel
theorem dX12_climbs_119 : decode cX12_climbs 119 = .ok (.aload_n 3, 1) := by decide +kernel
theorem dX12_climbs_120 : decode cX12_climbs 120 = .ok (.iload 6, 2) := by decide +kernel
theorem dX12_climbs_122 : decode cX12_climbs 122 = .ok (.iaload, 1) := by decide +kernel
theorem dX12_climbs_123 : decode cX12_climbs 123 = .ok (.iconst 1, 1) := by decide +kernel
theorem dX12_climbs_124 : decode cX12_climbs 124 = .ok (.iadd, 1) := by decide +kernel
theorem dX12_climbs_125 : decode cX12_climbs 125 = .ok (.iastore, 1) := by decide +kernel
theorem dX12_climbs_126 : decode cX12_climbs 126 = .ok (.aload_n 0, 1) := by decide +kernel
theorem dX12_climbs_127 : decode cX12_climbs 127 = .ok (.getfield 199, 3) := by decide +kernel
theorem dX12_climbs_130 : decode cX12_climbs 130 = .ok (.iload 4, 2) := by decide +kernel
theorem dX12_climbs_132 : decode cX12_climbs 132 = .ok (.iinc 4 1, 3) := by decide +kernel
theorem dX12_climbs_135 : decode cX12_climbs 135 = .ok (.iload 8, 2) := by decide +kernel
theorem dX12_climbs_137 : decode cX12_climbs 137 = .ok (.iastore, 1) := by decide +kernel
theorem dX12_climbs_138 : decode cX12_climbs 138 = .ok (.iinc 7 1, 3) := by decide +kernel
theorem dX12_climbs_141 : decode cX12_climbs 141 = .ok (.goto (-78), 3) := by decide +kernel
theorem dX12_climbs_144 : decode cX12_climbs 144 = .ok (.iinc 5 1, 3) := by decide +kernel
theorem dX12_climbs_147 : decode cX12_climbs 147 = .ok (.goto (-103), 3) := by decide +kernel
theorem dX12_climbs_150 : decode cX12_climbs 150 = .ok (.return_, 1) := by decide +kernel
theorem dX12_link_0 : decode cX12_link 0 = .ok (.aload_n 0, 1) := by decide +kernel
theorem dX12_link_1 : decode cX12_link 1 = .ok (.iload_n 1, 1) := by decide +kernel
theorem dX12_link_2 : decode cX12_link 2 = .ok (.invokevirtual 271, 3) := by decide +kernel
theorem dX12_link_5 : decode cX12_link 5 = .ok (.ifCond .eq 11, 3) := by decide +kernel
theorem dX12_link_8 : decode cX12_link 8 = .ok (.aload_n 0, 1) := by decide +kernel
theorem dX12_link_9 : decode cX12_link 9 = .ok (.iload_n 3, 1) := by decide +kernel
theorem dX12_link_10 : decode cX12_link 10 = .ok (.invokevirtual 271, 3) := by decide +kernel
theorem dX12_link_13 : decode cX12_link 13 = .ok (.ifCond .ne 9, 3) := by decide +kernel
theorem dX12_link_16 : decode cX12_link 16 = .ok (.aload_n 0, 1) := by decide +kernel
theorem dX12_link_17 : decode cX12_link 17 = .ok (.iconst (-1), 1) := by decide +kernel
theorem dX12_link_18 : decode cX12_link 18 = .ok (.invokevirtual 267, 3) := by decide +kernel
theorem dX12_link_21 : decode cX12_link 21 = .ok (.ireturn, 1) := by decide +kernel
theorem dX12_link_22 : decode cX12_link 22 = .ok (.iload_n 2, 1) := by decide +kernel
theorem dX12_link_23 : decode cX12_link 23 = .ok (.ifCond .lt 27, 3) := by decide +kernel
theorem dX12_link_26 : decode cX12_link 26 = .ok (.iload_n 2, 1) := by decide +kernel
theorem dX12_link_27 : decode cX12_link 27 = .ok (.iconst 1, 1) := by decide +kernel
theorem dX12_link_28 : decode cX12_link 28 = .ok (.if_icmp .gt 22, 3) := by decide +kernel
theorem dX12_link_31 : decode cX12_link 31 = .ok (.aload_n 0, 1) := by decide +kernel
theorem dX12_link_32 : decode cX12_link 32 = .ok (.getfield 23, 3) := by decide +kernel
theorem dX12_link_35 : decode cX12_link 35 = .ok (.iconst 2, 1) := by decide +kernel
theorem dX12_link_36 : decode cX12_link 36 = .ok (.iload_n 1, 1) := by decide +kernel
theorem dX12_link_37 : decode cX12_link 37 = .ok (.imul, 1) := by decide +kernel
theorem dX12_link_38 : decode cX12_link 38 = .ok (.iload_n 2, 1) := by decide +kernel
theorem dX12_link_39 : decode cX12_link 39 = .ok (.iadd, 1) := by decide +kernel
