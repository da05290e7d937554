theorem dX7_mendBest_176 : decode cX7_mendBest 176 = .ok (.iastore, 1) := by decide +kernel
theorem dX7_mendBest_177 : decode cX7_mendBest 177 = .ok (.aload_n 0, 1) := by decide +kernel
theorem dX7_mendBest_178 : decode cX7_mendBest 178 = .ok (.getfield 32, 3) := by decide +kernel
theorem dX7_mendBest_181 : decode cX7_mendBest 181 = .ok (.iconst 2, 1) := by decide +kernel
theorem dX7_mendBest_182 : decode cX7_mendBest 182 = .ok (.iload 4, 2) := by decide +kernel
theorem dX7_mendBest_184 : decode cX7_mendBest 184 = .ok (.iastore, 1) := by decide +kernel
theorem dX7_mendBest_185 : decode cX7_mendBest 185 = .ok (.iinc 4 1, 3) := by decide +kernel
theorem dX7_mendBest_188 : decode cX7_mendBest 188 = .ok (.goto (-126), 3) := by decide +kernel
theorem dX7_mendBest_191 : decode cX7_mendBest 191 = .ok (.iinc 3 1, 3) := by decide +kernel
theorem dX7_mendBest_194 : decode cX7_mendBest 194 = .ok (.goto (-178), 3) := by decide +kernel
theorem dX7_mendBest_197 : decode cX7_mendBest 197 = .ok (.return_, 1) := by decide +kernel
theorem dX7_worthOf_0 : decode cX7_worthOf 0 = .ok (.aload_n 0, 1) := by decide +kernel
theorem dX7_worthOf_1 : decode cX7_worthOf 1 = .ok (.getfield 26, 3) := by decide +kernel
theorem dX7_worthOf_4 : decode cX7_worthOf 4 = .ok (.aload_n 0, 1) := by decide +kernel
theorem dX7_worthOf_5 : decode cX7_worthOf 5 = .ok (.getfield 39, 3) := by decide +kernel
theorem dX7_worthOf_8 : decode cX7_worthOf 8 = .ok (.iconst 1, 1) := by decide +kernel
theorem dX7_worthOf_9 : decode cX7_worthOf 9 = .ok (.isub, 1) := by decide +kernel
theorem dX7_worthOf_10 : decode cX7_worthOf 10 = .ok (.iaload, 1) := by decide +kernel
theorem dX7_worthOf_11 : decode cX7_worthOf 11 = .ok (.aload_n 0, 1) := by decide +kernel
theorem dX7_worthOf_12 : decode cX7_worthOf 12 = .ok (.iconst 0, 1) := by decide +kernel
theorem dX7_worthOf_13 : decode cX7_worthOf 13 = .ok (.iload_n 1, 1) := by decide +kernel
theorem dX7_worthOf_14 : decode cX7_worthOf 14 = .ok (.invokevirtual 121, 3) := by decide +kernel
theorem dX7_worthOf_17 : decode cX7_worthOf 17 = .ok (.iadd, 1) := by decide +kernel
theorem dX7_worthOf_18 : decode cX7_worthOf 18 = .ok (.aload_n 0, 1) := by decide +kernel
theorem dX7_worthOf_19 : decode cX7_worthOf 19 = .ok (.iconst 1, 1) := by decide +kernel
theorem dX7_worthOf_20 : decode cX7_worthOf 20 = .ok (.iload_n 2, 1) := by decide +kernel
theorem dX7_worthOf_21 : decode cX7_worthOf 21 = .ok (.invokevirtual 121, 3) := by decide +kernel
theorem dX7_worthOf_24 : decode cX7_worthOf 24 = .ok (.iadd, 1) := by decide +kernel
theorem dX7_worthOf_25 : decode cX7_worthOf 25 = .ok (.ireturn, 1) := by decide +kernel
theorem dX7_gainOfRoof_0 : decode cX7_gainOfRoof 0 = .ok (.iload_n 2, 1) := by decide +kernel
theorem dX7_gainOfRoof_1 : decode cX7_gainOfRoof 1 = .ok (.aload_n 0, 1) := by decide +kernel
theorem dX7_gainOfRoof_2 : decode cX7_gainOfRoof 2 = .ok (.getfield 39, 3) := by decide +kernel
theorem dX7_gainOfRoof_5 : decode cX7_gainOfRoof 5 = .ok (.if_icmp .ge 26, 3) := by decide +kernel
theorem dX7_gainOfRoof_8 : decode cX7_gainOfRoof 8 = .ok (.aload_n 0, 1) := by decide +kernel
theorem dX7_gainOfRoof_9 : decode cX7_gainOfRoof 9 = .ok (.getfield 15, 3) := by decide +kernel
theorem dX7_gainOfRoof_12 : decode cX7_gainOfRoof 12 = .ok (.iload_n 1, 1) := by decide +kernel
theorem dX7_gainOfRoof_13 : decode cX7_gainOfRoof 13 = .ok (.iaload, 1) := by decide +kernel
theorem dX7_gainOfRoof_14 : decode cX7_gainOfRoof 14 = .ok (.aload_n 0, 1) := by decide +kernel
theorem dX7_gainOfRoof_15 : decode cX7_gainOfRoof 15 = .ok (.getfield 39, 3) := by decide +kernel
theorem dX7_gainOfRoof_18 : decode cX7_gainOfRoof 18 = .ok (.iload_n 2, 1) := by decide +kernel
theorem dX7_gainOfRoof_19 : decode cX7_gainOfRoof 19 = .ok (.isub, 1) := by decide +kernel
theorem dX7_gainOfRoof_20 : decode cX7_gainOfRoof 20 = .ok (.imul, 1) := by decide +kernel
theorem dX7_gainOfRoof_21 : decode cX7_gainOfRoof 21 = .ok (.aload_n 0, 1) := by decide +kernel
theorem dX7_gainOfRoof_22 : decode cX7_gainOfRoof 22 = .ok (.getfield 11, 3) := by decide +kernel
theorem dX7_gainOfRoof_25 : decode cX7_gainOfRoof 25 = .ok (.iload_n 1, 1) := by decide +kernel
theorem dX7_gainOfRoof_26 : decode cX7_gainOfRoof 26 = .ok (.iaload, 1) := by decide +kernel
theorem dX7_gainOfRoof_27 : decode cX7_gainOfRoof 27 = .ok (.isub, 1) := by decide +kernel
theorem dX7_gainOfRoof_28 : decode cX7_gainOfRoof 28 = .ok (.goto 4, 3) := by decide +kernel
theorem dX7_gainOfRoof_31 : decode cX7_gainOfRoof 31 = .ok (.iconst 0, 1) := by decide +kernel
theorem dX7_gainOfRoof_32 : decode cX7_gainOfRoof 32 = .ok (.ireturn, 1) := by decide +kernel
theorem dX7_canFollow_0 : decode cX7_canFollow 0 = .ok (.aload_n 1, 1) := by decide +kernel
theorem dX7_canFollow_1 : decode cX7_canFollow 1 = .ok (.iconst 0, 1) := by decide +kernel
theorem dX7_canFollow_2 : decode cX7_canFollow 2 = .ok (.invokevirtual 124, 3) := by decide +kernel
theorem dX7_canFollow_5 : decode cX7_canFollow 5 = .ok (.aload_n 0, 1) := by decide +kernel
theorem dX7_canFollow_6 : decode cX7_canFollow 6 = .ok (.getfield 42, 3) := by decide +kernel
theorem dX7_canFollow_9 : decode cX7_canFollow 9 = .ok (.iconst (-1), 1) := by decide +kernel
theorem dX7_canFollow_10 : decode cX7_canFollow 10 = .ok (.ixor, 1) := by decide +kernel
theorem dX7_canFollow_11 : decode cX7_canFollow 11 = .ok (.iand, 1) := by decide +kernel
theorem dX7_canFollow_12 : decode cX7_canFollow 12 = .ok (.ifCond .eq 5, 3) := by decide +kernel
theorem dX7_canFollow_15 : decode cX7_canFollow 15 = .ok (.iconst 0, 1) := by decide +kernel
theorem dX7_canFollow_16 : decode cX7_canFollow 16 = .ok (.ireturn, 1) := by decide +kernel
theorem dX7_canFollow_17 : decode cX7_canFollow 17 = .ok (.iconst 0, 1) := by decide +kernel
theorem dX7_canFollow_18 : decode cX7_canFollow 18 = .ok (.istore_n 2, 1) := by decide +kernel
theorem dX7_canFollow_19 : decode cX7_canFollow 19 = .ok (.iload_n 2, 1) := by decide +kernel
theorem dX7_canFollow_20 : decode cX7_canFollow 20 = .ok (.aload_n 0, 1) := by decide +kernel
theorem dX7_canFollow_21 : decode cX7_canFollow 21 = .ok (.getfield 35, 3) := by decide +kernel
theorem dX7_canFollow_24 : decode cX7_canFollow 24 = .ok (.if_icmp .ge 32, 3) := by decide +kernel
theorem dX7_canFollow_27 : decode cX7_canFollow 27 = .ok (.aload_n 1, 1) := by decide +kernel
theorem dX7_canFollow_28 : decode cX7_canFollow 28 = .ok (.iconst 1, 1) := by decide +kernel
theorem dX7_canFollow_29 : decode cX7_canFollow 29 = .ok (.iload_n 2, 1) := by decide +kernel
theorem dX7_canFollow_30 : decode cX7_canFollow 30 = .ok (.iadd, 1) := by decide +kernel
theorem dX7_canFollow_31 : decode cX7_canFollow 31 = .ok (.invokevirtual 124, 3) := by decide +kernel
theorem dX7_canFollow_34 : decode cX7_canFollow 34 = .ok (.istore_n 3, 1) := by decide +kernel
theorem dX7_canFollow_35 : decode cX7_canFollow 35 = .ok (.iload_n 3, 1) := by decide +kernel
theorem dX7_canFollow_36 : decode cX7_canFollow 36 = .ok (.iconst (-1), 1) := by decide +kernel
theorem dX7_canFollow_37 : decode cX7_canFollow 37 = .ok (.if_icmp .lt 11, 3) := by decide +kernel
theorem dX7_canFollow_40 : decode cX7_canFollow 40 = .ok (.iload_n 3, 1) := by decide +kernel
theorem dX7_canFollow_41 : decode cX7_canFollow 41 = .ok (.aload_n 0, 1) := by decide +kernel
theorem dX7_canFollow_42 : decode cX7_canFollow 42 = .ok (.getfield 39, 3) := by decide +kernel
theorem dX7_canFollow_45 : decode cX7_canFollow 45 = .ok (.if_icmp .lt 5, 3) := by decide +kernel
theorem dX7_canFollow_48 : decode cX7_canFollow 48 = .ok (.iconst 0, 1) := by decide +kernel
theorem dX7_canFollow_49 : decode cX7_canFollow 49 = .ok (.ireturn, 1) := by decide +kernel
theorem dX7_canFollow_50 : decode cX7_canFollow 50 = .ok (.iinc 2 1, 3) := by decide +kernel
theorem dX7_canFollow_53 : decode cX7_canFollow 53 = .ok (.goto (-34), 3) := by decide +kernel
theorem dX7_canFollow_56 : decode cX7_canFollow 56 = .ok (.iconst 1, 1) := by decide +kernel
theorem dX7_canFollow_57 : decode cX7_canFollow 57 = .ok (.ireturn, 1) := by decide +kernel
theorem dX7_yearOf_0 : decode cX7_yearOf 0 = .ok (.iload_n 2, 1) := by decide +kernel
theorem dX7_yearOf_1 : decode cX7_yearOf 1 = .ok (.aload_n 0, 1) := by decide +kernel
theorem dX7_yearOf_2 : decode cX7_yearOf 2 = .ok (.getfield 35, 3) := by decide +kernel
theorem dX7_yearOf_5 : decode cX7_yearOf 5 = .ok (.if_icmp .ge 13, 3) := by decide +kernel
theorem dX7_yearOf_8 : decode cX7_yearOf 8 = .ok (.aload_n 1, 1) := by decide +kernel
theorem dX7_yearOf_9 : decode cX7_yearOf 9 = .ok (.iconst 1, 1) := by decide +kernel
theorem dX7_yearOf_10 : decode cX7_yearOf 10 = .ok (.iload_n 2, 1) := by decide +kernel
theorem dX7_yearOf_11 : decode cX7_yearOf 11 = .ok (.iadd, 1) := by decide +kernel
theorem dX7_yearOf_12 : decode cX7_yearOf 12 = .ok (.invokevirtual 124, 3) := by decide +kernel
theorem dX7_yearOf_15 : decode cX7_yearOf 15 = .ok (.goto 4, 3) := by decide +kernel
theorem dX7_yearOf_18 : decode cX7_yearOf 18 = .ok (.iconst (-1), 1) := by decide +kernel
theorem dX7_yearOf_19 : decode cX7_yearOf 19 = .ok (.istore_n 3, 1) := by decide +kernel
theorem dX7_yearOf_20 : decode cX7_yearOf 20 = .ok (.iload_n 3, 1) := by decide +kernel
theorem dX7_yearOf_21 : decode cX7_yearOf 21 = .ok (.iconst (-1), 1) := by decide +kernel
theorem dX7_yearOf_22 : decode cX7_yearOf 22 = .ok (.if_icmp .ne 10, 3) := by decide +kernel
theorem dX7_yearOf_25 : decode cX7_yearOf 25 = .ok (.aload_n 0, 1) := by decide +kernel
theorem dX7_yearOf_26 : decode cX7_yearOf 26 = .ok (.getfield 39, 3) := by decide +kernel
theorem dX7_yearOf_29 : decode cX7_yearOf 29 = .ok (.goto 4, 3) := by decide +kernel
theorem dX7_yearOf_32 : decode cX7_yearOf 32 = .ok (.iload_n 3, 1) := by decide +kernel
theorem dX7_yearOf_33 : decode cX7_yearOf 33 = .ok (.ireturn, 1) := by decide +kernel
theorem dX7_outcomeOf_0 : decode cX7_outcomeOf 0 = .ok (.aload_n 0, 1) := by decide +kernel
theorem dX7_outcomeOf_1 : decode cX7_outcomeOf 1 = .ok (.aload_n 1, 1) := by decide +kernel
theorem dX7_outcomeOf_2 : decode cX7_outcomeOf 2 = .ok (.iconst 0, 1) := by decide +kernel
theorem dX7_outcomeOf_3 : decode cX7_outcomeOf 3 = .ok (.invokevirtual 129, 3) := by decide +kernel
theorem dX7_outcomeOf_6 : decode cX7_outcomeOf 6 = .ok (.istore_n 3, 1) := by decide +kernel
theorem dX7_outcomeOf_7 : decode cX7_outcomeOf 7 = .ok (.aload_n 0, 1) := by decide +kernel
theorem dX7_outcomeOf_8 : decode cX7_outcomeOf 8 = .ok (.aload_n 1, 1) := by decide +kernel
theorem dX7_outcomeOf_9 : decode cX7_outcomeOf 9 = .ok (.iconst 1, 1) := by decide +kernel
theorem dX7_outcomeOf_10 : decode cX7_outcomeOf 10 = .ok (.invokevirtual 129, 3) := by decide +kernel
theorem dX7_outcomeOf_13 : decode cX7_outcomeOf 13 = .ok (.istore 4, 2) := by decide +kernel
theorem dX7_outcomeOf_15 : decode cX7_outcomeOf 15 = .ok (.aload_n 0, 1) := by decide +kernel
theorem dX7_outcomeOf_16 : decode cX7_outcomeOf 16 = .ok (.aload_n 1, 1) := by decide +kernel
theorem dX7_outcomeOf_17 : decode cX7_outcomeOf 17 = .ok (.iconst 0, 1) := by decide +kernel
theorem dX7_outcomeOf_18 : decode cX7_outcomeOf 18 = .ok (.invokevirtual 124, 3) := by decide +kernel
theorem dX7_outcomeOf_21 : decode cX7_outcomeOf 21 = .ok (.invokevirtual 107, 3) := by decide +kernel
theorem dX7_outcomeOf_24 : decode cX7_outcomeOf 24 = .ok (.iconst 0, 1) := by decide +kernel
theorem dX7_outcomeOf_25 : decode cX7_outcomeOf 25 = .ok (.istore 5, 2) := by decide +kernel
theorem dX7_outcomeOf_27 : decode cX7_outcomeOf 27 = .ok (.iload 5, 2) := by decide +kernel
theorem dX7_outcomeOf_29 : decode cX7_outcomeOf 29 = .ok (.aload_n 0, 1) := by decide +kernel
theorem dX7_outcomeOf_30 : decode cX7_outcomeOf 30 = .ok (.getfield 39, 3) := by decide +kernel
theorem dX7_outcomeOf_33 : decode cX7_outcomeOf 33 = .ok (.if_icmp .ge 65, 3) := by decide +kernel
theorem dX7_outcomeOf_36 : decode cX7_outcomeOf 36 = .ok (.iload_n 3, 1) := by decide +kernel
theorem dX7_outcomeOf_37 : decode cX7_outcomeOf 37 = .ok (.iload 5, 2) := by decide +kernel
theorem dX7_outcomeOf_39 : decode cX7_outcomeOf 39 = .ok (.if_icmp .gt 12, 3) := by decide +kernel
theorem dX7_outcomeOf_42 : decode cX7_outcomeOf 42 = .ok (.aload_n 0, 1) := by decide +kernel
theorem dX7_outcomeOf_43 : decode cX7_outcomeOf 43 = .ok (.getfield 11, 3) := by decide +kernel
theorem dX7_outcomeOf_46 : decode cX7_outcomeOf 46 = .ok (.iconst 0, 1) := by decide +kernel
theorem dX7_outcomeOf_47 : decode cX7_outcomeOf 47 = .ok (.iaload, 1) := by decide +kernel
theorem dX7_outcomeOf_48 : decode cX7_outcomeOf 48 = .ok (.goto 4, 3) := by decide +kernel
theorem dX7_outcomeOf_51 : decode cX7_outcomeOf 51 = .ok (.iconst 0, 1) := by decide +kernel
theorem dX7_outcomeOf_52 : decode cX7_outcomeOf 52 = .ok (.iload 4, 2) := by decide +kernel
theorem dX7_outcomeOf_54 : decode cX7_outcomeOf 54 = .ok (.iload 5, 2) := by decide +kernel
theorem dX7_outcomeOf_56 : decode cX7_outcomeOf 56 = .ok (.if_icmp .gt 12, 3) := by decide +kernel
theorem dX7_outcomeOf_59 : decode cX7_outcomeOf 59 = .ok (.aload_n 0, 1) := by decide +kernel
theorem dX7_outcomeOf_60 : decode cX7_outcomeOf 60 = .ok (.getfield 11, 3) := by decide +kernel
theorem dX7_outcomeOf_63 : decode cX7_outcomeOf 63 = .ok (.iconst 1, 1) := by decide +kernel
theorem dX7_outcomeOf_64 : decode cX7_outcomeOf 64 = .ok (.iaload, 1) := by decide +kernel
theorem dX7_outcomeOf_65 : decode cX7_outcomeOf 65 = .ok (.goto 4, 3) := by decide +kernel
theorem dX7_outcomeOf_68 : decode cX7_outcomeOf 68 = .ok (.iconst 0, 1) := by decide +kernel
theorem dX7_outcomeOf_69 : decode cX7_outcomeOf 69 = .ok (.iadd, 1) := by decide +kernel
theorem dX7_outcomeOf_70 : decode cX7_outcomeOf 70 = .ok (.istore 6, 2) := by decide +kernel
theorem dX7_outcomeOf_72 : decode cX7_outcomeOf 72 = .ok (.aload_n 0, 1) := by decide +kernel
theorem dX7_outcomeOf_73 : decode cX7_outcomeOf 73 = .ok (.getfield 26, 3) := by decide +kernel
theorem dX7_outcomeOf_76 : decode cX7_outcomeOf 76 = .ok (.iload 5, 2) := by decide +kernel
theorem dX7_outcomeOf_78 : decode cX7_outcomeOf 78 = .ok (.iaload, 1) := by decide +kernel
theorem dX7_outcomeOf_79 : decode cX7_outcomeOf 79 = .ok (.iload 6, 2) := by decide +kernel
theorem dX7_outcomeOf_81 : decode cX7_outcomeOf 81 = .ok (.isub, 1) := by decide +kernel
theorem dX7_outcomeOf_82 : decode cX7_outcomeOf 82 = .ok (.iload_n 2, 1) := by decide +kernel
theorem dX7_outcomeOf_83 : decode cX7_outcomeOf 83 = .ok (.if_icmp .ge 9, 3) := by decide +kernel
theorem dX7_outcomeOf_86 : decode cX7_outcomeOf 86 = .ok (.bipush (-10), 2) := by decide +kernel
theorem dX7_outcomeOf_88 : decode cX7_outcomeOf 88 = .ok (.iload 5, 2) := by decide +kernel
theorem dX7_outcomeOf_90 : decode cX7_outcomeOf 90 = .ok (.isub, 1) := by decide +kernel
theorem dX7_outcomeOf_91 : decode cX7_outcomeOf 91 = .ok (.ireturn, 1) := by decide +kernel
theorem dX7_outcomeOf_92 : decode cX7_outcomeOf 92 = .ok (.iinc 5 1, 3) := by decide +kernel
theorem dX7_outcomeOf_95 : decode cX7_outcomeOf 95 = .ok (.goto (-68), 3) := by decide +kernel
theorem dX7_outcomeOf_98 : decode cX7_outcomeOf 98 = .ok (.aload_n 0, 1) := by decide +kernel
theorem dX7_outcomeOf_99 : decode cX7_outcomeOf 99 = .ok (.iload_n 3, 1) := by decide +kernel
theorem dX7_outcomeOf_100 : decode cX7_outcomeOf 100 = .ok (.iload 4, 2) := by decide +kernel
theorem dX7_outcomeOf_102 : decode cX7_outcomeOf 102 = .ok (.invokevirtual 118, 3) := by decide +kernel
theorem dX7_outcomeOf_105 : decode cX7_outcomeOf 105 = .ok (.ireturn, 1) := by decide +kernel
theorem dX8_chooseAll_0 : decode cX8_chooseAll 0 = .ok (.aload_n 0, 1) := by decide +kernel
theorem dX8_chooseAll_1 : decode cX8_chooseAll 1 = .ok (.getfield 22, 3) := by decide +kernel
theorem dX8_chooseAll_4 : decode cX8_chooseAll 4 = .ok (.invokevirtual 36, 3) := by decide +kernel
theorem dX8_chooseAll_7 : decode cX8_chooseAll 7 = .ok (.istore_n 1, 1) := by decide +kernel
theorem dX8_chooseAll_8 : decode cX8_chooseAll 8 = .ok (.iconst 0, 1) := by decide +kernel
theorem dX8_chooseAll_9 : decode cX8_chooseAll 9 = .ok (.istore_n 2, 1) := by decide +kernel
theorem dX8_chooseAll_10 : decode cX8_chooseAll 10 = .ok (.iload_n 2, 1) := by decide +kernel
theorem dX8_chooseAll_11 : decode cX8_chooseAll 11 = .ok (.iload_n 1, 1) := by decide +kernel
theorem dX8_chooseAll_12 : decode cX8_chooseAll 12 = .ok (.if_icmp .ge 32, 3) := by decide +kernel
theorem dX8_chooseAll_15 : decode cX8_chooseAll 15 = .ok (.aload_n 0, 1) := by decide +kernel
theorem dX8_chooseAll_16 : decode cX8_chooseAll 16 = .ok (.getfield 9, 3) := by decide +kernel
theorem dX8_chooseAll_19 : decode cX8_chooseAll 19 = .ok (.aload_n 0, 1) := by decide +kernel
theorem dX8_chooseAll_20 : decode cX8_chooseAll 20 = .ok (.getfield 22, 3) := by decide +kernel
theorem dX8_chooseAll_23 : decode cX8_chooseAll 23 = .ok (.getfield 42, 3) := by decide +kernel
theorem dX8_chooseAll_26 : decode cX8_chooseAll 26 = .ok (.aload_n 0, 1) := by decide +kernel
theorem dX8_chooseAll_27 : decode cX8_chooseAll 27 = .ok (.getfield 22, 3) := by decide +kernel
theorem dX8_chooseAll_30 : decode cX8_chooseAll 30 = .ok (.getfield 45, 3) := by decide +kernel
theorem dX8_chooseAll_33 : decode cX8_chooseAll 33 = .ok (.iload_n 2, 1) := by decide +kernel
theorem dX8_chooseAll_34 : decode cX8_chooseAll 34 = .ok (.iaload, 1) := by decide +kernel
theorem dX8_chooseAll_35 : decode cX8_chooseAll 35 = .ok (.iaload, 1) := by decide +kernel
theorem dX8_chooseAll_36 : decode cX8_chooseAll 36 = .ok (.iconst (-1), 1) := by decide +kernel
theorem dX8_chooseAll_37 : decode cX8_chooseAll 37 = .ok (.iastore, 1) := by decide +kernel
theorem dX8_chooseAll_38 : decode cX8_chooseAll 38 = .ok (.iinc 2 1, 3) := by decide +kernel
theorem dX8_chooseAll_41 : decode cX8_chooseAll 41 = .ok (.goto (-31), 3) := by decide +kernel
theorem dX8_chooseAll_44 : decode cX8_chooseAll 44 = .ok (.iconst 1, 1) := by decide +kernel
theorem dX8_chooseAll_45 : decode cX8_chooseAll 45 = .ok (.aload_n 0, 1) := by decide +kernel
theorem dX8_chooseAll_46 : decode cX8_chooseAll 46 = .ok (.getfield 18, 3) := by decide +kernel
theorem dX8_chooseAll_49 : decode cX8_chooseAll 49 = .ok (.ishl, 1) := by decide +kernel
theorem dX8_chooseAll_50 : decode cX8_chooseAll 50 = .ok (.iconst 1, 1) := by decide +kernel
theorem dX8_chooseAll_51 : decode cX8_chooseAll 51 = .ok (.isub, 1) := by decide +kernel
theorem dX8_chooseAll_52 : decode cX8_chooseAll 52 = .ok (.istore_n 2, 1) := by decide +kernel
theorem dX8_chooseAll_53 : decode cX8_chooseAll 53 = .ok (.iconst 0, 1) := by decide +kernel
theorem dX8_chooseAll_54 : decode cX8_chooseAll 54 = .ok (.istore_n 3, 1) := by decide +kernel
theorem dX8_chooseAll_55 : decode cX8_chooseAll 55 = .ok (.iload_n 3, 1) := by decide +kernel
theorem dX8_chooseAll_56 : decode cX8_chooseAll 56 = .ok (.bipush 24, 2) := by decide +kernel
theorem dX8_chooseAll_58 : decode cX8_chooseAll 58 = .ok (.if_icmp .ge 32, 3) := by decide +kernel
theorem dX8_chooseAll_61 : decode cX8_chooseAll 61 = .ok (.aload_n 0, 1) := by decide +kernel
theorem dX8_chooseAll_62 : decode cX8_chooseAll 62 = .ok (.getfield 9, 3) := by decide +kernel
theorem dX8_chooseAll_65 : decode cX8_chooseAll 65 = .ok (.iload_n 3, 1) := by decide +kernel
theorem dX8_chooseAll_66 : decode cX8_chooseAll 66 = .ok (.iaload, 1) := by decide +kernel
theorem dX8_chooseAll_67 : decode cX8_chooseAll 67 = .ok (.iconst (-1), 1) := by decide +kernel
theorem dX8_chooseAll_68 : decode cX8_chooseAll 68 = .ok (.if_icmp .eq 16, 3) := by decide +kernel
theorem dX8_chooseAll_71 : decode cX8_chooseAll 71 = .ok (.iload_n 2, 1) := by decide +kernel
theorem dX8_chooseAll_72 : decode cX8_chooseAll 72 = .ok (.iconst 1, 1) := by decide +kernel
theorem dX8_chooseAll_73 : decode cX8_chooseAll 73 = .ok (.aload_n 0, 1) := by decide +kernel
theorem dX8_chooseAll_74 : decode cX8_chooseAll 74 = .ok (.getfield 9, 3) := by decide +kernel
theorem dX8_chooseAll_77 : decode cX8_chooseAll 77 = .ok (.iload_n 3, 1) := by decide +kernel
theorem dX8_chooseAll_78 : decode cX8_chooseAll 78 = .ok (.iaload, 1) := by decide +kernel
theorem dX8_chooseAll_79 : decode cX8_chooseAll 79 = .ok (.ishl, 1) := by decide +kernel
theorem dX8_chooseAll_80 : decode cX8_chooseAll 80 = .ok (.iconst (-1), 1) := by decide +kernel
theorem dX8_chooseAll_81 : decode cX8_chooseAll 81 = .ok (.ixor, 1) := by decide +kernel
theorem dX8_chooseAll_82 : decode cX8_chooseAll 82 = .ok (.iand, 1) := by decide +kernel
theorem dX8_chooseAll_83 : decode cX8_chooseAll 83 = .ok (.istore_n 2, 1) := by decide +kernel
theorem dX8_chooseAll_84 : decode cX8_chooseAll 84 = .ok (.iinc 3 1, 3) := by decide +kernel
theorem dX8_chooseAll_87 : decode cX8_chooseAll 87 = .ok (.goto (-32), 3) := by decide +kernel
theorem dX8_chooseAll_90 : decode cX8_chooseAll 90 = .ok (.iconst 0, 1) := by decide +kernel
theorem dX8_chooseAll_91 : decode cX8_chooseAll 91 = .ok (.istore_n 3, 1) := by decide +kernel
theorem dX8_chooseAll_92 : decode cX8_chooseAll 92 = .ok (.iconst 0, 1) := by decide +kernel
theorem dX8_chooseAll_93 : decode cX8_chooseAll 93 = .ok (.istore 4, 2) := by decide +kernel
theorem dX8_chooseAll_95 : decode cX8_chooseAll 95 = .ok (.iload 4, 2) := by decide +kernel
theorem dX8_chooseAll_97 : decode cX8_chooseAll 97 = .ok (.iload_n 1, 1) := by decide +kernel
theorem dX8_chooseAll_98 : decode cX8_chooseAll 98 = .ok (.if_icmp .ge 68, 3) := by decide +kernel
theorem dX8_chooseAll_101 : decode cX8_chooseAll 101 = .ok (.aload_n 0, 1) := by decide +kernel
theorem dX8_chooseAll_102 : decode cX8_chooseAll 102 = .ok (.getfield 22, 3) := by decide +kernel
theorem dX8_chooseAll_105 : decode cX8_chooseAll 105 = .ok (.getfield 42, 3) := by decide +kernel
theorem dX8_chooseAll_108 : decode cX8_chooseAll 108 = .ok (.aload_n 0, 1) := by decide +kernel
theorem dX8_chooseAll_109 : decode cX8_chooseAll 109 = .ok (.getfield 22, 3) := by decide +kernel
theorem dX8_chooseAll_112 : decode cX8_chooseAll 112 = .ok (.getfield 45, 3) := by decide +kernel
theorem dX8_chooseAll_115 : decode cX8_chooseAll 115 = .ok (.iload 4, 2) := by decide +kernel
theorem dX8_chooseAll_117 : decode cX8_chooseAll 117 = .ok (.iaload, 1) := by decide +kernel
theorem dX8_chooseAll_118 : decode cX8_chooseAll 118 = .ok (.iaload, 1) := by decide +kernel
theorem dX8_chooseAll_119 : decode cX8_chooseAll 119 = .ok (.istore 5, 2) := by decide +kernel
theorem dX8_chooseAll_121 : decode cX8_chooseAll 121 = .ok (.aload_n 0, 1) := by decide +kernel
theorem dX8_chooseAll_122 : decode cX8_chooseAll 122 = .ok (.getfield 26, 3) := by decide +kernel
theorem dX8_chooseAll_125 : decode cX8_chooseAll 125 = .ok (.iload 5, 2) := by decide +kernel
theorem dX8_chooseAll_127 : decode cX8_chooseAll 127 = .ok (.iload_n 2, 1) := by decide +kernel
theorem dX8_chooseAll_128 : decode cX8_chooseAll 128 = .ok (.invokevirtual 48, 3) := by decide +kernel
theorem dX8_chooseAll_131 : decode cX8_chooseAll 131 = .ok (.istore 6, 2) := by decide +kernel
theorem dX8_chooseAll_133 : decode cX8_chooseAll 133 = .ok (.iload 6, 2) := by decide +kernel
theorem dX8_chooseAll_135 : decode cX8_chooseAll 135 = .ok (.iconst (-1), 1) := by decide +kernel
theorem dX8_chooseAll_136 : decode cX8_chooseAll 136 = .ok (.if_icmp .eq 24, 3) := by decide +kernel
theorem dX8_chooseAll_139 : decode cX8_chooseAll 139 = .ok (.aload_n 0, 1) := by decide +kernel
theorem dX8_chooseAll_140 : decode cX8_chooseAll 140 = .ok (.getfield 9, 3) := by decide +kernel
theorem dX8_chooseAll_143 : decode cX8_chooseAll 143 = .ok (.iload 5, 2) := by decide +kernel
theorem dX8_chooseAll_145 : decode cX8_chooseAll 145 = .ok (.iload 6, 2) := by decide +kernel
theorem dX8_chooseAll_147 : decode cX8_chooseAll 147 = .ok (.iastore, 1) := by decide +kernel
theorem dX8_chooseAll_148 : decode cX8_chooseAll 148 = .ok (.iload_n 2, 1) := by decide +kernel
theorem dX8_chooseAll_149 : decode cX8_chooseAll 149 = .ok (.iconst 1, 1) := by decide +kernel
theorem dX8_chooseAll_150 : decode cX8_chooseAll 150 = .ok (.iload 6, 2) := by decide +kernel
theorem dX8_chooseAll_152 : decode cX8_chooseAll 152 = .ok (.ishl, 1) := by decide +kernel
theorem dX8_chooseAll_153 : decode cX8_chooseAll 153 = .ok (.iconst (-1), 1) := by decide +kernel
theorem dX8_chooseAll_154 : decode cX8_chooseAll 154 = .ok (.ixor, 1) := by decide +kernel
theorem dX8_chooseAll_155 : decode cX8_chooseAll 155 = .ok (.iand, 1) := by decide +kernel
theorem dX8_chooseAll_156 : decode cX8_chooseAll 156 = .ok (.istore_n 2, 1) := by decide +kernel
theorem dX8_chooseAll_157 : decode cX8_chooseAll 157 = .ok (.iinc 3 1, 3) := by decide +kernel
theorem dX8_chooseAll_160 : decode cX8_chooseAll 160 = .ok (.iinc 4 1, 3) := by decide +kernel
theorem dX8_chooseAll_163 : decode cX8_chooseAll 163 = .ok (.goto (-68), 3) := by decide +kernel
theorem dX8_chooseAll_166 : decode cX8_chooseAll 166 = .ok (.iload_n 3, 1) := by decide +kernel
theorem dX8_chooseAll_167 : decode cX8_chooseAll 167 = .ok (.ireturn, 1) := by decide +kernel
theorem dX8_exchangeAll_0 : decode cX8_exchangeAll 0 = .ok (.iconst 0, 1) := by decide +kernel
theorem dX8_exchangeAll_1 : decode cX8_exchangeAll 1 = .ok (.istore_n 1, 1) := by decide +kernel
theorem dX8_exchangeAll_2 : decode cX8_exchangeAll 2 = .ok (.iconst 0, 1) := by decide +kernel
theorem dX8_exchangeAll_3 : decode cX8_exchangeAll 3 = .ok (.istore_n 2, 1) := by decide +kernel
theorem dX8_exchangeAll_4 : decode cX8_exchangeAll 4 = .ok (.iload_n 2, 1) := by decide +kernel
theorem dX8_exchangeAll_5 : decode cX8_exchangeAll 5 = .ok (.bipush 24, 2) := by decide +kernel
theorem dX8_exchangeAll_7 : decode cX8_exchangeAll 7 = .ok (.if_icmp .ge 42, 3) := by decide +kernel
theorem dX8_exchangeAll_10 : decode cX8_exchangeAll 10 = .ok (.aload_n 0, 1) := by decide +kernel
theorem dX8_exchangeAll_11 : decode cX8_exchangeAll 11 = .ok (.getfield 9, 3) := by decide +kernel
theorem dX8_exchangeAll_14 : decode cX8_exchangeAll 14 = .ok (.iload_n 2, 1) := by decide +kernel
theorem dX8_exchangeAll_15 : decode cX8_exchangeAll 15 = .ok (.iaload, 1) := by decide +kernel
theorem dX8_exchangeAll_16 : decode cX8_exchangeAll 16 = .ok (.iconst (-1), 1) := by decide +kernel
theorem dX8_exchangeAll_17 : decode cX8_exchangeAll 17 = .ok (.if_icmp .eq 26, 3) := by decide +kernel
theorem dX8_exchangeAll_20 : decode cX8_exchangeAll 20 = .ok (.iload_n 1, 1) := by decide +kernel
theorem dX8_exchangeAll_21 : decode cX8_exchangeAll 21 = .ok (.iconst 1, 1) := by decide +kernel
theorem dX8_exchangeAll_22 : decode cX8_exchangeAll 22 = .ok (.aload_n 0, 1) := by decide +kernel
theorem dX8_exchangeAll_23 : decode cX8_exchangeAll 23 = .ok (.getfield 9, 3) := by decide +kernel
theorem dX8_exchangeAll_26 : decode cX8_exchangeAll 26 = .ok (.iload_n 2, 1) := by decide +kernel
theorem dX8_exchangeAll_27 : decode cX8_exchangeAll 27 = .ok (.iaload, 1) := by decide +kernel
theorem dX8_exchangeAll_28 : decode cX8_exchangeAll 28 = .ok (.ishl, 1) := by decide +kernel
theorem dX8_exchangeAll_29 : decode cX8_exchangeAll 29 = .ok (.ior, 1) := by decide +kernel
theorem dX8_exchangeAll_30 : decode cX8_exchangeAll 30 = .ok (.istore_n 1, 1) := by decide +kernel
theorem dX8_exchangeAll_31 : decode cX8_exchangeAll 31 = .ok (.aload_n 0, 1) := by decide +kernel
theorem dX8_exchangeAll_32 : decode cX8_exchangeAll 32 = .ok (.getfield 15, 3) := by decide +kernel
theorem dX8_exchangeAll_35 : decode cX8_exchangeAll 35 = .ok (.aload_n 0, 1) := by decide +kernel
theorem dX8_exchangeAll_36 : decode cX8_exchangeAll 36 = .ok (.getfield 9, 3) := by decide +kernel
theorem dX8_exchangeAll_39 : decode cX8_exchangeAll 39 = .ok (.iload_n 2, 1) := by decide +kernel
theorem dX8_exchangeAll_40 : decode cX8_exchangeAll 40 = .ok (.iaload, 1) := by decide +kernel
theorem dX8_exchangeAll_41 : decode cX8_exchangeAll 41 = .ok (.iload_n 2, 1) := by decide +kernel
theorem dX8_exchangeAll_42 : decode cX8_exchangeAll 42 = .ok (.iastore, 1) := by decide +kernel
theorem dX8_exchangeAll_43 : decode cX8_exchangeAll 43 = .ok (.iinc 2 1, 3) := by decide +kernel
theorem dX8_exchangeAll_46 : decode cX8_exchangeAll 46 = .ok (.goto (-42), 3) := by decide +kernel
theorem dX8_exchangeAll_49 : decode cX8_exchangeAll 49 = .ok (.iload_n 1, 1) := by decide +kernel
theorem dX8_exchangeAll_50 : decode cX8_exchangeAll 50 = .ok (.istore_n 2, 1) := by decide +kernel
theorem dX8_exchangeAll_51 : decode cX8_exchangeAll 51 = .ok (.iconst 0, 1) := by decide +kernel
theorem dX8_exchangeAll_52 : decode cX8_exchangeAll 52 = .ok (.istore_n 3, 1) := by decide +kernel
theorem dX8_exchangeAll_53 : decode cX8_exchangeAll 53 = .ok (.iload_n 3, 1) := by decide +kernel
theorem dX8_exchangeAll_54 : decode cX8_exchangeAll 54 = .ok (.bipush 9, 2) := by decide +kernel
theorem dX8_exchangeAll_56 : decode cX8_exchangeAll 56 = .ok (.if_icmp .ge 23, 3) := by decide +kernel
theorem dX8_exchangeAll_59 : decode cX8_exchangeAll 59 = .ok (.iload_n 1, 1) := by decide +kernel
theorem dX8_exchangeAll_60 : decode cX8_exchangeAll 60 = .ok (.ifCond .eq 19, 3) := by decide +kernel
theorem dX8_exchangeAll_63 : decode cX8_exchangeAll 63 = .ok (.iload_n 1, 1) := by decide +kernel
theorem dX8_exchangeAll_64 : decode cX8_exchangeAll 64 = .ok (.aload_n 0, 1) := by decide +kernel
theorem dX8_exchangeAll_65 : decode cX8_exchangeAll 65 = .ok (.iload_n 1, 1) := by decide +kernel
theorem dX8_exchangeAll_66 : decode cX8_exchangeAll 66 = .ok (.invokevirtual 54, 3) := by decide +kernel
theorem dX8_exchangeAll_69 : decode cX8_exchangeAll 69 = .ok (.iconst (-1), 1) := by decide +kernel
theorem dX8_exchangeAll_70 : decode cX8_exchangeAll 70 = .ok (.ixor, 1) := by decide +kernel
theorem dX8_exchangeAll_71 : decode cX8_exchangeAll 71 = .ok (.iand, 1) := by decide +kernel
theorem dX8_exchangeAll_72 : decode cX8_exchangeAll 72 = .ok (.istore_n 1, 1) := by decide +kernel
theorem dX8_exchangeAll_73 : decode cX8_exchangeAll 73 = .ok (.iinc 3 1, 3) := by decide +kernel
theorem dX8_exchangeAll_76 : decode cX8_exchangeAll 76 = .ok (.goto (-23), 3) := by decide +kernel
theorem dX8_exchangeAll_79 : decode cX8_exchangeAll 79 = .ok (.iconst 0, 1) := by decide +kernel
theorem dX8_exchangeAll_80 : decode cX8_exchangeAll 80 = .ok (.istore_n 3, 1) := by decide +kernel
theorem dX8_exchangeAll_81 : decode cX8_exchangeAll 81 = .ok (.iconst 0, 1) := by decide +kernel
theorem dX8_exchangeAll_82 : decode cX8_exchangeAll 82 = .ok (.istore 4, 2) := by decide +kernel
theorem dX8_exchangeAll_84 : decode cX8_exchangeAll 84 = .ok (.iload 4, 2) := by decide +kernel
theorem dX8_exchangeAll_86 : decode cX8_exchangeAll 86 = .ok (.bipush 9, 2) := by decide +kernel
theorem dX8_exchangeAll_88 : decode cX8_exchangeAll 88 = .ok (.if_icmp .ge 38, 3) := by decide +kernel
theorem dX8_exchangeAll_91 : decode cX8_exchangeAll 91 = .ok (.iload_n 2, 1) := by decide +kernel
theorem dX8_exchangeAll_92 : decode cX8_exchangeAll 92 = .ok (.iload 4, 2) := by decide +kernel
theorem dX8_exchangeAll_94 : decode cX8_exchangeAll 94 = .ok (.iushr, 1) := by decide +kernel
theorem dX8_exchangeAll_95 : decode cX8_exchangeAll 95 = .ok (.iconst 1, 1) := by decide +kernel
theorem dX8_exchangeAll_96 : decode cX8_exchangeAll 96 = .ok (.iand, 1) := by decide +kernel
theorem dX8_exchangeAll_97 : decode cX8_exchangeAll 97 = .ok (.ifCond .eq 23, 3) := by decide +kernel
theorem dX8_exchangeAll_100 : decode cX8_exchangeAll 100 = .ok (.aload_n 0, 1) := by decide +kernel
theorem dX8_exchangeAll_101 : decode cX8_exchangeAll 101 = .ok (.getfield 9, 3) := by decide +kernel
theorem dX8_exchangeAll_104 : decode cX8_exchangeAll 104 = .ok (.aload_n 0, 1) := by decide +kernel
theorem dX8_exchangeAll_105 : decode cX8_exchangeAll 105 = .ok (.getfield 15, 3) := by decide +kernel
theorem dX8_exchangeAll_108 : decode cX8_exchangeAll 108 = .ok (.iload 4, 2) := by decide +kernel
theorem dX8_exchangeAll_110 : decode cX8_exchangeAll 110 = .ok (.iaload, 1) := by decide +kernel
theorem dX8_exchangeAll_111 : decode cX8_exchangeAll 111 = .ok (.iaload, 1) := by decide +kernel
theorem dX8_exchangeAll_112 : decode cX8_exchangeAll 112 = .ok (.iload 4, 2) := by decide +kernel
theorem dX8_exchangeAll_114 : decode cX8_exchangeAll 114 = .ok (.if_icmp .eq 6, 3) := by decide +kernel
theorem dX8_exchangeAll_117 : decode cX8_exchangeAll 117 = .ok (.iinc 3 1, 3) := by decide +kernel
theorem dX8_exchangeAll_120 : decode cX8_exchangeAll 120 = .ok (.iinc 4 1, 3) := by decide +kernel
theorem dX8_exchangeAll_123 : decode cX8_exchangeAll 123 = .ok (.goto (-39), 3) := by decide +kernel
theorem dX8_exchangeAll_126 : decode cX8_exchangeAll 126 = .ok (.iload_n 3, 1) := by decide +kernel
theorem dX8_exchangeAll_127 : decode cX8_exchangeAll 127 = .ok (.ireturn, 1) := by decide +kernel
theorem dX8_closeRing_0 : decode cX8_closeRing 0 = .ok (.iconst 0, 1) := by decide +kernel
theorem dX8_closeRing_1 : decode cX8_closeRing 1 = .ok (.istore_n 2, 1) := by decide +kernel
theorem dX8_closeRing_2 : decode cX8_closeRing 2 = .ok (.iload_n 2, 1) := by decide +kernel
theorem dX8_closeRing_3 : decode cX8_closeRing 3 = .ok (.bipush 8, 2) := by decide +kernel
theorem dX8_closeRing_5 : decode cX8_closeRing 5 = .ok (.if_icmp .ge 17, 3) := by decide +kernel
theorem dX8_closeRing_8 : decode cX8_closeRing 8 = .ok (.iload_n 1, 1) := by decide +kernel
theorem dX8_closeRing_9 : decode cX8_closeRing 9 = .ok (.iload_n 2, 1) := by decide +kernel
theorem dX8_closeRing_10 : decode cX8_closeRing 10 = .ok (.iushr, 1) := by decide +kernel
theorem dX8_closeRing_11 : decode cX8_closeRing 11 = .ok (.iconst 1, 1) := by decide +kernel
theorem dX8_closeRing_12 : decode cX8_closeRing 12 = .ok (.iand, 1) := by decide +kernel
theorem dX8_closeRing_13 : decode cX8_closeRing 13 = .ok (.ifCond .ne 9, 3) := by decide +kernel
theorem dX8_closeRing_16 : decode cX8_closeRing 16 = .ok (.iinc 2 1, 3) := by decide +kernel
theorem dX8_closeRing_19 : decode cX8_closeRing 19 = .ok (.goto (-17), 3) := by decide +kernel
theorem dX8_closeRing_22 : decode cX8_closeRing 22 = .ok (.iconst 0, 1) := by decide +kernel
theorem dX8_closeRing_23 : decode cX8_closeRing 23 = .ok (.istore_n 3, 1) := by decide +kernel
theorem dX8_closeRing_24 : decode cX8_closeRing 24 = .ok (.iload_n 3, 1) := by decide +kernel
theorem dX8_closeRing_25 : decode cX8_closeRing 25 = .ok (.bipush 9, 2) := by decide +kernel
theorem dX8_closeRing_27 : decode cX8_closeRing 27 = .ok (.if_icmp .ge 16, 3) := by decide +kernel
theorem dX8_closeRing_30 : decode cX8_closeRing 30 = .ok (.aload_n 0, 1) := by decide +kernel
theorem dX8_closeRing_31 : decode cX8_closeRing 31 = .ok (.iload_n 2, 1) := by decide +kernel
theorem dX8_closeRing_32 : decode cX8_closeRing 32 = .ok (.iload_n 1, 1) := by decide +kernel
theorem dX8_closeRing_33 : decode cX8_closeRing 33 = .ok (.invokevirtual 58, 3) := by decide +kernel
theorem dX8_closeRing_36 : decode cX8_closeRing 36 = .ok (.istore_n 2, 1) := by decide +kernel
theorem dX8_closeRing_37 : decode cX8_closeRing 37 = .ok (.iinc 3 1, 3) := by decide +kernel
theorem dX8_closeRing_40 : decode cX8_closeRing 40 = .ok (.goto (-16), 3) := by decide +kernel
theorem dX8_closeRing_43 : decode cX8_closeRing 43 = .ok (.iconst 0, 1) := by decide +kernel
theorem dX8_closeRing_44 : decode cX8_closeRing 44 = .ok (.istore_n 3, 1) := by decide +kernel
theorem dX8_closeRing_45 : decode cX8_closeRing 45 = .ok (.iconst 0, 1) := by decide +kernel
theorem dX8_closeRing_46 : decode cX8_closeRing 46 = .ok (.istore 4, 2) := by decide +kernel
theorem dX8_closeRing_48 : decode cX8_closeRing 48 = .ok (.iload 4, 2) := by decide +kernel
theorem dX8_closeRing_50 : decode cX8_closeRing 50 = .ok (.bipush 9, 2) := by decide +kernel
theorem dX8_closeRing_52 : decode cX8_closeRing 52 = .ok (.if_icmp .ge 47, 3) := by decide +kernel
theorem dX8_closeRing_55 : decode cX8_closeRing 55 = .ok (.iload_n 3, 1) := by decide +kernel
theorem dX8_closeRing_56 : decode cX8_closeRing 56 = .ok (.iload_n 2, 1) := by decide +kernel
theorem dX8_closeRing_57 : decode cX8_closeRing 57 = .ok (.iushr, 1) := by decide +kernel
theorem dX8_closeRing_58 : decode cX8_closeRing 58 = .ok (.iconst 1, 1) := by decide +kernel
theorem dX8_closeRing_59 : decode cX8_closeRing 59 = .ok (.iand, 1) := by decide +kernel
theorem dX8_closeRing_60 : decode cX8_closeRing 60 = .ok (.ifCond .ne 39, 3) := by decide +kernel
theorem dX8_closeRing_63 : decode cX8_closeRing 63 = .ok (.iload_n 3, 1) := by decide +kernel
theorem dX8_closeRing_64 : decode cX8_closeRing 64 = .ok (.iconst 1, 1) := by decide +kernel
theorem dX8_closeRing_65 : decode cX8_closeRing 65 = .ok (.iload_n 2, 1) := by decide +kernel
theorem dX8_closeRing_66 : decode cX8_closeRing 66 = .ok (.ishl, 1) := by decide +kernel
theorem dX8_closeRing_67 : decode cX8_closeRing 67 = .ok (.ior, 1) := by decide +kernel
theorem dX8_closeRing_68 : decode cX8_closeRing 68 = .ok (.istore_n 3, 1) := by decide +kernel
theorem dX8_closeRing_69 : decode cX8_closeRing 69 = .ok (.aload_n 0, 1) := by decide +kernel
theorem dX8_closeRing_70 : decode cX8_closeRing 70 = .ok (.iload_n 2, 1) := by decide +kernel
theorem dX8_closeRing_71 : decode cX8_closeRing 71 = .ok (.iload_n 1, 1) := by decide +kernel
theorem dX8_closeRing_72 : decode cX8_closeRing 72 = .ok (.invokevirtual 58, 3) := by decide +kernel
theorem dX8_closeRing_75 : decode cX8_closeRing 75 = .ok (.istore 5, 2) := by decide +kernel
theorem dX8_closeRing_77 : decode cX8_closeRing 77 = .ok (.aload_n 0, 1) := by decide +kernel
theorem dX8_closeRing_78 : decode cX8_closeRing 78 = .ok (.getfield 9, 3) := by decide +kernel
theorem dX8_closeRing_81 : decode cX8_closeRing 81 = .ok (.aload_n 0, 1) := by decide +kernel
theorem dX8_closeRing_82 : decode cX8_closeRing 82 = .ok (.getfield 15, 3) := by decide +kernel
theorem dX8_closeRing_85 : decode cX8_closeRing 85 = .ok (.iload_n 2, 1) := by decide +kernel
theorem dX8_closeRing_86 : decode cX8_closeRing 86 = .ok (.iaload, 1) := by decide +kernel
theorem dX8_closeRing_87 : decode cX8_closeRing 87 = .ok (.iload 5, 2) := by decide +kernel
theorem dX8_closeRing_89 : decode cX8_closeRing 89 = .ok (.iastore, 1) := by decide +kernel
theorem dX8_closeRing_90 : decode cX8_closeRing 90 = .ok (.iload 5, 2) := by decide +kernel
theorem dX8_closeRing_92 : decode cX8_closeRing 92 = .ok (.istore_n 2, 1) := by decide +kernel
theorem dX8_closeRing_93 : decode cX8_closeRing 93 = .ok (.iinc 4 1, 3) := by decide +kernel
theorem dX8_closeRing_96 : decode cX8_closeRing 96 = .ok (.goto (-48), 3) := by decide +kernel
theorem dX8_closeRing_99 : decode cX8_closeRing 99 = .ok (.iload_n 3, 1) := by decide +kernel
theorem dX8_closeRing_100 : decode cX8_closeRing 100 = .ok (.ireturn, 1) := by decide +kernel
theorem dX8_wantedFor_0 : decode cX8_wantedFor 0 = .ok (.aload_n 0, 1) := by decide +kernel
theorem dX8_wantedFor_1 : decode cX8_wantedFor 1 = .ok (.getfield 26, 3) := by decide +kernel
theorem dX8_wantedFor_4 : decode cX8_wantedFor 4 = .ok (.aload_n 0, 1) := by decide +kernel
theorem dX8_wantedFor_5 : decode cX8_wantedFor 5 = .ok (.getfield 15, 3) := by decide +kernel
theorem dX8_wantedFor_8 : decode cX8_wantedFor 8 = .ok (.iload_n 1, 1) := by decide +kernel
theorem dX8_wantedFor_9 : decode cX8_wantedFor 9 = .ok (.iaload, 1) := by decide +kernel
theorem dX8_wantedFor_10 : decode cX8_wantedFor 10 = .ok (.iload_n 2, 1) := by decide +kernel
theorem dX8_wantedFor_11 : decode cX8_wantedFor 11 = .ok (.invokevirtual 48, 3) := by decide +kernel
theorem dX8_wantedFor_14 : decode cX8_wantedFor 14 = .ok (.istore_n 3, 1) := by decide +kernel
theorem dX8_wantedFor_15 : decode cX8_wantedFor 15 = .ok (.iload_n 3, 1) := by decide +kernel
theorem dX8_wantedFor_16 : decode cX8_wantedFor 16 = .ok (.iconst (-1), 1) := by decide +kernel
theorem dX8_wantedFor_17 : decode cX8_wantedFor 17 = .ok (.if_icmp .ne 7, 3) := by decide +kernel
theorem dX8_wantedFor_20 : decode cX8_wantedFor 20 = .ok (.iload_n 1, 1) := by decide +kernel
theorem dX8_wantedFor_21 : decode cX8_wantedFor 21 = .ok (.goto 4, 3) := by decide +kernel
theorem dX8_wantedFor_24 : decode cX8_wantedFor 24 = .ok (.iload_n 3, 1) := by decide +kernel
theorem dX8_wantedFor_25 : decode cX8_wantedFor 25 = .ok (.ireturn, 1) := by decide +kernel
theorem dX9_takeRow_0 : decode cX9_takeRow 0 = .ok (.aload_n 0, 1) := by decide +kernel
theorem dX9_takeRow_1 : decode cX9_takeRow 1 = .ok (.getfield 9, 3) := by decide +kernel
theorem dX9_takeRow_4 : decode cX9_takeRow 4 = .ok (.lconst 0, 1) := by decide +kernel
theorem dX9_takeRow_5 : decode cX9_takeRow 5 = .ok (.invokestatic 25, 3) := by decide +kernel
theorem dX9_takeRow_8 : decode cX9_takeRow 8 = .ok (.aload_n 0, 1) := by decide +kernel
theorem dX9_takeRow_9 : decode cX9_takeRow 9 = .ok (.iload_n 1, 1) := by decide +kernel
theorem dX9_takeRow_10 : decode cX9_takeRow 10 = .ok (.putfield 15, 3) := by decide +kernel
theorem dX9_takeRow_13 : decode cX9_takeRow 13 = .ok (.aload_n 0, 1) := by decide +kernel
theorem dX9_takeRow_14 : decode cX9_takeRow 14 = .ok (.iload_n 2, 1) := by decide +kernel
theorem dX9_takeRow_15 : decode cX9_takeRow 15 = .ok (.putfield 19, 3) := by decide +kernel
theorem dX9_takeRow_18 : decode cX9_takeRow 18 = .ok (.aload_n 0, 1) := by decide +kernel
theorem dX9_takeRow_19 : decode cX9_takeRow 19 = .ok (.iconst (-1), 1) := by decide +kernel
theorem dX9_takeRow_20 : decode cX9_takeRow 20 = .ok (.putfield 22, 3) := by decide +kernel
theorem dX9_takeRow_23 : decode cX9_takeRow 23 = .ok (.return_, 1) := by decide +kernel
theorem dX9_takePerson_0 : decode cX9_takePerson 0 = .ok (.aload_n 0, 1) := by decide +kernel
theorem dX9_takePerson_1 : decode cX9_takePerson 1 = .ok (.iconst (-1), 1) := by decide +kernel
theorem dX9_takePerson_2 : decode cX9_takePerson 2 = .ok (.putfield 15, 3) := by decide +kernel
theorem dX9_takePerson_5 : decode cX9_takePerson 5 = .ok (.aload_n 0, 1) := by decide +kernel
theorem dX9_takePerson_6 : decode cX9_takePerson 6 = .ok (.iconst 0, 1) := by decide +kernel
theorem dX9_takePerson_7 : decode cX9_takePerson 7 = .ok (.putfield 19, 3) := by decide +kernel
theorem dX9_takePerson_10 : decode cX9_takePerson 10 = .ok (.aload_n 0, 1) := by decide +kernel
theorem dX9_takePerson_11 : decode cX9_takePerson 11 = .ok (.iload_n 1, 1) := by decide +kernel
theorem dX9_takePerson_12 : decode cX9_takePerson 12 = .ok (.putfield 22, 3) := by decide +kernel
theorem dX9_takePerson_15 : decode cX9_takePerson 15 = .ok (.return_, 1) := by decide +kernel
theorem dX9_hasElement_0 : decode cX9_hasElement 0 = .ok (.iload_n 1, 1) := by decide +kernel
theorem dX9_hasElement_1 : decode cX9_hasElement 1 = .ok (.ifCond .lt 15, 3) := by decide +kernel
theorem dX9_hasElement_4 : decode cX9_hasElement 4 = .ok (.iload_n 1, 1) := by decide +kernel
theorem dX9_hasElement_5 : decode cX9_hasElement 5 = .ok (.aload_n 0, 1) := by decide +kernel
theorem dX9_hasElement_6 : decode cX9_hasElement 6 = .ok (.getfield 19, 3) := by decide +kernel
theorem dX9_hasElement_9 : decode cX9_hasElement 9 = .ok (.if_icmp .ge 7, 3) := by decide +kernel
theorem dX9_hasElement_12 : decode cX9_hasElement 12 = .ok (.iconst 1, 1) := by decide +kernel
theorem dX9_hasElement_13 : decode cX9_hasElement 13 = .ok (.goto 4, 3) := by decide +kernel
theorem dX9_hasElement_16 : decode cX9_hasElement 16 = .ok (.iconst 0, 1) := by decide +kernel
theorem dX9_hasElement_17 : decode cX9_hasElement 17 = .ok (.ireturn, 1) := by decide +kernel
theorem dX9_hasStretch_0 : decode cX9_hasStretch 0 = .ok (.iload_n 1, 1) := by decide +kernel
theorem dX9_hasStretch_1 : decode cX9_hasStretch 1 = .ok (.ifCond .lt 25, 3) := by decide +kernel
theorem dX9_hasStretch_4 : decode cX9_hasStretch 4 = .ok (.iload_n 1, 1) := by decide +kernel
theorem dX9_hasStretch_5 : decode cX9_hasStretch 5 = .ok (.aload_n 0, 1) := by decide +kernel
theorem dX9_hasStretch_6 : decode cX9_hasStretch 6 = .ok (.getfield 19, 3) := by decide +kernel
theorem dX9_hasStretch_9 : decode cX9_hasStretch 9 = .ok (.if_icmp .gt 17, 3) := by decide +kernel
theorem dX9_hasStretch_12 : decode cX9_hasStretch 12 = .ok (.iload_n 2, 1) := by decide +kernel
theorem dX9_hasStretch_13 : decode cX9_hasStretch 13 = .ok (.aload_n 0, 1) := by decide +kernel
theorem dX9_hasStretch_14 : decode cX9_hasStretch 14 = .ok (.getfield 19, 3) := by decide +kernel
theorem dX9_hasStretch_17 : decode cX9_hasStretch 17 = .ok (.iload_n 1, 1) := by decide +kernel
theorem dX9_hasStretch_18 : decode cX9_hasStretch 18 = .ok (.isub, 1) := by decide +kernel
theorem dX9_hasStretch_19 : decode cX9_hasStretch 19 = .ok (.if_icmp .gt 7, 3) := by decide +kernel
theorem dX9_hasStretch_22 : decode cX9_hasStretch 22 = .ok (.iconst 1, 1) := by decide +kernel
theorem dX9_hasStretch_23 : decode cX9_hasStretch 23 = .ok (.goto 4, 3) := by decide +kernel
theorem dX9_hasStretch_26 : decode cX9_hasStretch 26 = .ok (.iconst 0, 1) := by decide +kernel
theorem dX9_hasStretch_27 : decode cX9_hasStretch 27 = .ok (.ireturn, 1) := by decide +kernel
theorem dX9_put_0 : decode cX9_put 0 = .ok (.aload_n 0, 1) := by decide +kernel
theorem dX9_put_1 : decode cX9_put 1 = .ok (.getfield 15, 3) := by decide +kernel
theorem dX9_put_4 : decode cX9_put 4 = .ok (.tableswitch 66 0 2 #[28, 41, 54], 28) := by decide +kernel
theorem dX9_put_32 : decode cX9_put 32 = .ok (.aload_n 0, 1) := by decide +kernel
theorem dX9_put_33 : decode cX9_put 33 = .ok (.getfield 9, 3) := by decide +kernel
theorem dX9_put_36 : decode cX9_put 36 = .ok (.iload_n 1, 1) := by decide +kernel
theorem dX9_put_37 : decode cX9_put 37 = .ok (.lload_n 2, 1) := by decide +kernel
theorem dX9_put_38 : decode cX9_put 38 = .ok (.l2i, 1) := by decide +kernel
theorem dX9_put_39 : decode cX9_put 39 = .ok (.i2b, 1) := by decide +kernel
theorem dX9_put_40 : decode cX9_put 40 = .ok (.i2l, 1) := by decide +kernel
theorem dX9_put_41 : decode cX9_put 41 = .ok (.lastore, 1) := by decide +kernel
theorem dX9_put_42 : decode cX9_put 42 = .ok (.goto 35, 3) := by decide +kernel
theorem dX9_put_45 : decode cX9_put 45 = .ok (.aload_n 0, 1) := by decide +kernel
theorem dX9_put_46 : decode cX9_put 46 = .ok (.getfield 9, 3) := by decide +kernel
theorem dX9_put_49 : decode cX9_put 49 = .ok (.iload_n 1, 1) := by decide +kernel
theorem dX9_put_50 : decode cX9_put 50 = .ok (.lload_n 2, 1) := by decide +kernel
theorem dX9_put_51 : decode cX9_put 51 = .ok (.l2i, 1) := by decide +kernel
theorem dX9_put_52 : decode cX9_put 52 = .ok (.i2s, 1) := by decide +kernel
theorem dX9_put_53 : decode cX9_put 53 = .ok (.i2l, 1) := by decide +kernel
theorem dX9_put_54 : decode cX9_put 54 = .ok (.lastore, 1) := by decide +kernel
theorem dX9_put_55 : decode cX9_put 55 = .ok (.goto 22, 3) := by decide +kernel
theorem dX9_put_58 : decode cX9_put 58 = .ok (.aload_n 0, 1) := by decide +kernel
theorem dX9_put_59 : decode cX9_put 59 = .ok (.getfield 9, 3) := by decide +kernel
theorem dX9_put_62 : decode cX9_put 62 = .ok (.iload_n 1, 1) := by decide +kernel
theorem dX9_put_63 : decode cX9_put 63 = .ok (.lload_n 2, 1) := by decide +kernel
theorem dX9_put_64 : decode cX9_put 64 = .ok (.l2i, 1) := by decide +kernel
theorem dX9_put_65 : decode cX9_put 65 = .ok (.i2l, 1) := by decide +kernel
theorem dX9_put_66 : decode cX9_put 66 = .ok (.lastore, 1) := by decide +kernel
theorem dX9_put_67 : decode cX9_put 67 = .ok (.goto 10, 3) := by decide +kernel
theorem dX9_put_70 : decode cX9_put 70 = .ok (.aload_n 0, 1) := by decide +kernel
theorem dX9_put_71 : decode cX9_put 71 = .ok (.getfield 9, 3) := by decide +kernel
theorem dX9_put_74 : decode cX9_put 74 = .ok (.iload_n 1, 1) := by decide +kernel
theorem dX9_put_75 : decode cX9_put 75 = .ok (.lload_n 2, 1) := by decide +kernel
theorem dX9_put_76 : decode cX9_put 76 = .ok (.lastore, 1) := by decide +kernel
theorem dX9_put_77 : decode cX9_put 77 = .ok (.return_, 1) := by decide +kernel
theorem dX9_letter_0 : decode cX9_letter 0 = .ok (.aload_n 0, 1) := by decide +kernel
theorem dX9_letter_1 : decode cX9_letter 1 = .ok (.getfield 9, 3) := by decide +kernel
theorem dX9_letter_4 : decode cX9_letter 4 = .ok (.iload_n 1, 1) := by decide +kernel
theorem dX9_letter_5 : decode cX9_letter 5 = .ok (.laload, 1) := by decide +kernel
theorem dX9_letter_6 : decode cX9_letter 6 = .ok (.l2i, 1) := by decide +kernel
theorem dX9_letter_7 : decode cX9_letter 7 = .ok (.ireturn, 1) := by decide +kernel
theorem dX9_copyLetters_0 : decode cX9_copyLetters 0 = .ok (.iconst 0, 1) := by decide +kernel
theorem dX9_copyLetters_1 : decode cX9_copyLetters 1 = .ok (.istore_n 3, 1) := by decide +kernel
theorem dX9_copyLetters_2 : decode cX9_copyLetters 2 = .ok (.iload_n 3, 1) := by decide +kernel
theorem dX9_copyLetters_3 : decode cX9_copyLetters 3 = .ok (.aload_n 0, 1) := by decide +kernel
theorem dX9_copyLetters_4 : decode cX9_copyLetters 4 = .ok (.getfield 19, 3) := by decide +kernel
theorem dX9_copyLetters_7 : decode cX9_copyLetters 7 = .ok (.if_icmp .ge 19, 3) := by decide +kernel
theorem dX9_copyLetters_10 : decode cX9_copyLetters 10 = .ok (.aload_n 1, 1) := by decide +kernel
theorem dX9_copyLetters_11 : decode cX9_copyLetters 11 = .ok (.iload_n 2, 1) := by decide +kernel
theorem dX9_copyLetters_12 : decode cX9_copyLetters 12 = .ok (.iload_n 3, 1) := by decide +kernel
theorem dX9_copyLetters_13 : decode cX9_copyLetters 13 = .ok (.iadd, 1) := by decide +kernel
theorem dX9_copyLetters_14 : decode cX9_copyLetters 14 = .ok (.aload_n 0, 1) := by decide +kernel
theorem dX9_copyLetters_15 : decode cX9_copyLetters 15 = .ok (.iload_n 3, 1) := by decide +kernel
theorem dX9_copyLetters_16 : decode cX9_copyLetters 16 = .ok (.invokevirtual 31, 3) := by decide +kernel
theorem dX9_copyLetters_19 : decode cX9_copyLetters 19 = .ok (.iastore, 1) := by decide +kernel
theorem dX9_copyLetters_20 : decode cX9_copyLetters 20 = .ok (.iinc 3 1, 3) := by decide +kernel
theorem dX9_copyLetters_23 : decode cX9_copyLetters 23 = .ok (.goto (-21), 3) := by decide +kernel
theorem dX9_copyLetters_26 : decode cX9_copyLetters 26 = .ok (.aload_n 0, 1) := by decide +kernel
theorem dX9_copyLetters_27 : decode cX9_copyLetters 27 = .ok (.getfield 19, 3) := by decide +kernel
theorem dX9_copyLetters_30 : decode cX9_copyLetters 30 = .ok (.ireturn, 1) := by decide +kernel
theorem dX10_tellFirst_0 : decode cX10_tellFirst 0 = .ok (.aload_n 0, 1) := by decide +kernel
theorem dX10_tellFirst_1 : decode cX10_tellFirst 1 = .ok (.getfield 15, 3) := by decide +kernel
theorem dX10_tellFirst_4 : decode cX10_tellFirst 4 = .ok (.iload_n 1, 1) := by decide +kernel
theorem dX10_tellFirst_5 : decode cX10_tellFirst 5 = .ok (.aload_n 2, 1) := by decide +kernel
theorem dX10_tellFirst_6 : decode cX10_tellFirst 6 = .ok (.aload_n 0, 1) := by decide +kernel
theorem dX10_tellFirst_7 : decode cX10_tellFirst 7 = .ok (.getfield 9, 3) := by decide +kernel
theorem dX10_tellFirst_10 : decode cX10_tellFirst 10 = .ok (.bipush 80, 2) := by decide +kernel
theorem dX10_tellFirst_12 : decode cX10_tellFirst 12 = .ok (.iload_n 1, 1) := by decide +kernel
theorem dX10_tellFirst_13 : decode cX10_tellFirst 13 = .ok (.imul, 1) := by decide +kernel
theorem dX10_tellFirst_14 : decode cX10_tellFirst 14 = .ok (.invokevirtual 55, 3) := by decide +kernel
theorem dX10_tellFirst_17 : decode cX10_tellFirst 17 = .ok (.iastore, 1) := by decide +kernel
theorem dX10_tellFirst_18 : decode cX10_tellFirst 18 = .ok (.aload_n 2, 1) := by decide +kernel
theorem dX10_tellFirst_19 : decode cX10_tellFirst 19 = .ok (.getfield 61, 3) := by decide +kernel
theorem dX10_tellFirst_22 : decode cX10_tellFirst 22 = .ok (.ireturn, 1) := by decide +kernel
theorem dX10_tellWords_0 : decode cX10_tellWords 0 = .ok (.aload_n 0, 1) := by decide +kernel
theorem dX10_tellWords_1 : decode cX10_tellWords 1 = .ok (.getfield 30, 3) := by decide +kernel
theorem dX10_tellWords_4 : decode cX10_tellWords 4 = .ok (.aload_n 0, 1) := by decide +kernel
theorem dX10_tellWords_5 : decode cX10_tellWords 5 = .ok (.getfield 45, 3) := by decide +kernel
theorem dX10_tellWords_8 : decode cX10_tellWords 8 = .ok (.aload_n 1, 1) := by decide +kernel
theorem dX10_tellWords_9 : decode cX10_tellWords 9 = .ok (.aload_n 0, 1) := by decide +kernel
theorem dX10_tellWords_10 : decode cX10_tellWords 10 = .ok (.getfield 27, 3) := by decide +kernel
theorem dX10_tellWords_13 : decode cX10_tellWords 13 = .ok (.bipush 80, 2) := by decide +kernel
theorem dX10_tellWords_15 : decode cX10_tellWords 15 = .ok (.aload_n 0, 1) := by decide +kernel
theorem dX10_tellWords_16 : decode cX10_tellWords 16 = .ok (.getfield 45, 3) := by decide +kernel
theorem dX10_tellWords_19 : decode cX10_tellWords 19 = .ok (.imul, 1) := by decide +kernel
theorem dX10_tellWords_20 : decode cX10_tellWords 20 = .ok (.invokevirtual 55, 3) := by decide +kernel
theorem dX10_tellWords_23 : decode cX10_tellWords 23 = .ok (.iastore, 1) := by decide +kernel
theorem dX10_tellWords_24 : decode cX10_tellWords 24 = .ok (.aload_n 0, 1) := by decide +kernel
theorem dX10_tellWords_25 : decode cX10_tellWords 25 = .ok (.getfield 36, 3) := by decide +kernel
theorem dX10_tellWords_28 : decode cX10_tellWords 28 = .ok (.aload_n 0, 1) := by decide +kernel
theorem dX10_tellWords_29 : decode cX10_tellWords 29 = .ok (.getfield 45, 3) := by decide +kernel
theorem dX10_tellWords_32 : decode cX10_tellWords 32 = .ok (.aload_n 2, 1) := by decide +kernel
theorem dX10_tellWords_33 : decode cX10_tellWords 33 = .ok (.aload_n 0, 1) := by decide +kernel
theorem dX10_tellWords_34 : decode cX10_tellWords 34 = .ok (.getfield 33, 3) := by decide +kernel
theorem dX10_tellWords_37 : decode cX10_tellWords 37 = .ok (.bipush 80, 2) := by decide +kernel
theorem dX10_tellWords_39 : decode cX10_tellWords 39 = .ok (.aload_n 0, 1) := by decide +kernel
theorem dX10_tellWords_40 : decode cX10_tellWords 40 = .ok (.getfield 45, 3) := by decide +kernel
theorem dX10_tellWords_43 : decode cX10_tellWords 43 = .ok (.imul, 1) := by decide +kernel
theorem dX10_tellWords_44 : decode cX10_tellWords 44 = .ok (.invokevirtual 55, 3) := by decide +kernel
theorem dX10_tellWords_47 : decode cX10_tellWords 47 = .ok (.iastore, 1) := by decide +kernel
theorem dX10_tellWords_48 : decode cX10_tellWords 48 = .ok (.return_, 1) := by decide +kernel
theorem dX10_tellTerms_0 : decode cX10_tellTerms 0 = .ok (.aload_n 0, 1) := by decide +kernel
theorem dX10_tellTerms_1 : decode cX10_tellTerms 1 = .ok (.getfield 18, 3) := by decide +kernel
theorem dX10_tellTerms_4 : decode cX10_tellTerms 4 = .ok (.aload_n 0, 1) := by decide +kernel
theorem dX10_tellTerms_5 : decode cX10_tellTerms 5 = .ok (.getfield 45, 3) := by decide +kernel
theorem dX10_tellTerms_8 : decode cX10_tellTerms 8 = .ok (.iload_n 1, 1) := by decide +kernel
theorem dX10_tellTerms_9 : decode cX10_tellTerms 9 = .ok (.iastore, 1) := by decide +kernel
theorem dX10_tellTerms_10 : decode cX10_tellTerms 10 = .ok (.aload_n 0, 1) := by decide +kernel
theorem dX10_tellTerms_11 : decode cX10_tellTerms 11 = .ok (.getfield 21, 3) := by decide +kernel
theorem dX10_tellTerms_14 : decode cX10_tellTerms 14 = .ok (.aload_n 0, 1) := by decide +kernel
theorem dX10_tellTerms_15 : decode cX10_tellTerms 15 = .ok (.getfield 45, 3) := by decide +kernel
theorem dX10_tellTerms_18 : decode cX10_tellTerms 18 = .ok (.iload_n 2, 1) := by decide +kernel
theorem dX10_tellTerms_19 : decode cX10_tellTerms 19 = .ok (.iastore, 1) := by decide +kernel
theorem dX10_tellTerms_20 : decode cX10_tellTerms 20 = .ok (.aload_n 0, 1) := by decide +kernel
theorem dX10_tellTerms_21 : decode cX10_tellTerms 21 = .ok (.getfield 24, 3) := by decide +kernel
theorem dX10_tellTerms_24 : decode cX10_tellTerms 24 = .ok (.aload_n 0, 1) := by decide +kernel
theorem dX10_tellTerms_25 : decode cX10_tellTerms 25 = .ok (.getfield 45, 3) := by decide +kernel
theorem dX10_tellTerms_28 : decode cX10_tellTerms 28 = .ok (.iload_n 3, 1) := by decide +kernel
theorem dX10_tellTerms_29 : decode cX10_tellTerms 29 = .ok (.iastore, 1) := by decide +kernel
theorem dX10_tellTerms_30 : decode cX10_tellTerms 30 = .ok (.aload_n 0, 1) := by decide +kernel
theorem dX10_tellTerms_31 : decode cX10_tellTerms 31 = .ok (.getfield 45, 3) := by decide +kernel
theorem dX10_tellTerms_34 : decode cX10_tellTerms 34 = .ok (.istore 4, 2) := by decide +kernel
theorem dX10_tellTerms_36 : decode cX10_tellTerms 36 = .ok (.iload 4, 2) := by decide +kernel
theorem dX10_tellTerms_38 : decode cX10_tellTerms 38 = .ok (.ifCond .le 43, 3) := by decide +kernel
theorem dX10_tellTerms_41 : decode cX10_tellTerms 41 = .ok (.aload_n 0, 1) := by decide +kernel
theorem dX10_tellTerms_42 : decode cX10_tellTerms 42 = .ok (.getfield 21, 3) := by decide +kernel
theorem dX10_tellTerms_45 : decode cX10_tellTerms 45 = .ok (.aload_n 0, 1) := by decide +kernel
theorem dX10_tellTerms_46 : decode cX10_tellTerms 46 = .ok (.getfield 39, 3) := by decide +kernel
theorem dX10_tellTerms_49 : decode cX10_tellTerms 49 = .ok (.iload 4, 2) := by decide +kernel
theorem dX10_tellTerms_51 : decode cX10_tellTerms 51 = .ok (.iconst 1, 1) := by decide +kernel
theorem dX10_tellTerms_52 : decode cX10_tellTerms 52 = .ok (.isub, 1) := by decide +kernel
theorem dX10_tellTerms_53 : decode cX10_tellTerms 53 = .ok (.iaload, 1) := by decide +kernel
theorem dX10_tellTerms_54 : decode cX10_tellTerms 54 = .ok (.iaload, 1) := by decide +kernel
theorem dX10_tellTerms_55 : decode cX10_tellTerms 55 = .ok (.iload_n 2, 1) := by decide +kernel
theorem dX10_tellTerms_56 : decode cX10_tellTerms 56 = .ok (.if_icmp .le 25, 3) := by decide +kernel
theorem dX10_tellTerms_59 : decode cX10_tellTerms 59 = .ok (.aload_n 0, 1) := by decide +kernel
theorem dX10_tellTerms_60 : decode cX10_tellTerms 60 = .ok (.getfield 39, 3) := by decide +kernel
theorem dX10_tellTerms_63 : decode cX10_tellTerms 63 = .ok (.iload 4, 2) := by decide +kernel
theorem dX10_tellTerms_65 : decode cX10_tellTerms 65 = .ok (.aload_n 0, 1) := by decide +kernel
theorem dX10_tellTerms_66 : decode cX10_tellTerms 66 = .ok (.getfield 39, 3) := by decide +kernel
theorem dX10_tellTerms_69 : decode cX10_tellTerms 69 = .ok (.iload 4, 2) := by decide +kernel
theorem dX10_tellTerms_71 : decode cX10_tellTerms 71 = .ok (.iconst 1, 1) := by decide +kernel
theorem dX10_tellTerms_72 : decode cX10_tellTerms 72 = .ok (.isub, 1) := by decide +kernel
theorem dX10_tellTerms_73 : decode cX10_tellTerms 73 = .ok (.iaload, 1) := by decide +kernel
theorem dX10_tellTerms_74 : decode cX10_tellTerms 74 = .ok (.iastore, 1) := by decide +kernel
theorem dX10_tellTerms_75 : decode cX10_tellTerms 75 = .ok (.iinc 4 (-1), 3) := by decide +kernel
theorem dX10_tellTerms_78 : decode cX10_tellTerms 78 = .ok (.goto (-42), 3) := by decide +kernel
theorem dX10_tellTerms_81 : decode cX10_tellTerms 81 = .ok (.aload_n 0, 1) := by decide +kernel
theorem dX10_tellTerms_82 : decode cX10_tellTerms 82 = .ok (.getfield 39, 3) := by decide +kernel
theorem dX10_tellTerms_85 : decode cX10_tellTerms 85 = .ok (.iload 4, 2) := by decide +kernel
theorem dX10_tellTerms_87 : decode cX10_tellTerms 87 = .ok (.aload_n 0, 1) := by decide +kernel
theorem dX10_tellTerms_88 : decode cX10_tellTerms 88 = .ok (.getfield 45, 3) := by decide +kernel
theorem dX10_tellTerms_91 : decode cX10_tellTerms 91 = .ok (.iastore, 1) := by decide +kernel
theorem dX10_tellTerms_92 : decode cX10_tellTerms 92 = .ok (.aload_n 0, 1) := by decide +kernel
theorem dX10_tellTerms_93 : decode cX10_tellTerms 93 = .ok (.dup, 1) := by decide +kernel
theorem dX10_tellTerms_94 : decode cX10_tellTerms 94 = .ok (.getfield 45, 3) := by decide +kernel
theorem dX10_tellTerms_97 : decode cX10_tellTerms 97 = .ok (.dup_x1, 1) := by decide +kernel
theorem dX10_tellTerms_98 : decode cX10_tellTerms 98 = .ok (.iconst 1, 1) := by decide +kernel
theorem dX10_tellTerms_99 : decode cX10_tellTerms 99 = .ok (.iadd, 1) := by decide +kernel
theorem dX10_tellTerms_100 : decode cX10_tellTerms 100 = .ok (.putfield 45, 3) := by decide +kernel
theorem dX10_tellTerms_103 : decode cX10_tellTerms 103 = .ok (.ireturn, 1) := by decide +kernel
theorem dX10_inForce_0 : decode cX10_inForce 0 = .ok (.aload_n 0, 1) := by decide +kernel
theorem dX10_inForce_1 : decode cX10_inForce 1 = .ok (.getfield 24, 3) := by decide +kernel
theorem dX10_inForce_4 : decode cX10_inForce 4 = .ok (.iload_n 1, 1) := by decide +kernel
theorem dX10_inForce_5 : decode cX10_inForce 5 = .ok (.iaload, 1) := by decide +kernel
theorem dX10_inForce_6 : decode cX10_inForce 6 = .ok (.iload_n 3, 1) := by decide +kernel
theorem dX10_inForce_7 : decode cX10_inForce 7 = .ok (.if_icmp .gt 17, 3) := by decide +kernel
theorem dX10_inForce_10 : decode cX10_inForce 10 = .ok (.aload_n 0, 1) := by decide +kernel
theorem dX10_inForce_11 : decode cX10_inForce 11 = .ok (.getfield 21, 3) := by decide +kernel
theorem dX10_inForce_14 : decode cX10_inForce 14 = .ok (.iload_n 1, 1) := by decide +kernel
theorem dX10_inForce_15 : decode cX10_inForce 15 = .ok (.iaload, 1) := by decide +kernel
theorem dX10_inForce_16 : decode cX10_inForce 16 = .ok (.iload_n 2, 1) := by decide +kernel
theorem dX10_inForce_17 : decode cX10_inForce 17 = .ok (.if_icmp .gt 7, 3) := by decide +kernel
theorem dX10_inForce_20 : decode cX10_inForce 20 = .ok (.iconst 1, 1) := by decide +kernel
theorem dX10_inForce_21 : decode cX10_inForce 21 = .ok (.goto 4, 3) := by decide +kernel
theorem dX10_inForce_24 : decode cX10_inForce 24 = .ok (.iconst 0, 1) := by decide +kernel
theorem dX10_inForce_25 : decode cX10_inForce 25 = .ok (.ireturn, 1) := by decide +kernel
theorem dX10_compose_0 : decode cX10_compose 0 = .ok (.aload_n 0, 1) := by decide +kernel
theorem dX10_compose_1 : decode cX10_compose 1 = .ok (.iconst 0, 1) := by decide +kernel
theorem dX10_compose_2 : decode cX10_compose 2 = .ok (.putfield 52, 3) := by decide +kernel
theorem dX10_compose_5 : decode cX10_compose 5 = .ok (.aload_n 0, 1) := by decide +kernel
theorem dX10_compose_6 : decode cX10_compose 6 = .ok (.aload_n 0, 1) := by decide +kernel
theorem dX10_compose_7 : decode cX10_compose 7 = .ok (.getfield 15, 3) := by decide +kernel
theorem dX10_compose_10 : decode cX10_compose 10 = .ok (.iload_n 1, 1) := by decide +kernel
theorem dX10_compose_11 : decode cX10_compose 11 = .ok (.iaload, 1) := by decide +kernel
theorem dX10_compose_12 : decode cX10_compose 12 = .ok (.putfield 49, 3) := by decide +kernel
theorem dX10_compose_15 : decode cX10_compose 15 = .ok (.aload_n 0, 1) := by decide +kernel
theorem dX10_compose_16 : decode cX10_compose 16 = .ok (.getfield 49, 3) := by decide +kernel
theorem dX10_compose_19 : decode cX10_compose 19 = .ok (.ifCond .ne 19, 3) := by decide +kernel
theorem dX10_compose_22 : decode cX10_compose 22 = .ok (.aload_n 0, 1) := by decide +kernel
theorem dX10_compose_23 : decode cX10_compose 23 = .ok (.getfield 42, 3) := by decide +kernel
theorem dX10_compose_26 : decode cX10_compose 26 = .ok (.iconst 0, 1) := by decide +kernel
theorem dX10_compose_27 : decode cX10_compose 27 = .ok (.bipush 119, 2) := by decide +kernel
theorem dX10_compose_29 : decode cX10_compose 29 = .ok (.iastore, 1) := by decide +kernel
theorem dX10_compose_30 : decode cX10_compose 30 = .ok (.aload_n 0, 1) := by decide +kernel
theorem dX10_compose_31 : decode cX10_compose 31 = .ok (.iconst 1, 1) := by decide +kernel
theorem dX10_compose_32 : decode cX10_compose 32 = .ok (.putfield 49, 3) := by decide +kernel
theorem dX10_compose_35 : decode cX10_compose 35 = .ok (.goto 23, 3) := by decide +kernel
theorem dX10_compose_38 : decode cX10_compose 38 = .ok (.aload_n 0, 1) := by decide +kernel
theorem dX10_compose_39 : decode cX10_compose 39 = .ok (.getfield 9, 3) := by decide +kernel
theorem dX10_compose_42 : decode cX10_compose 42 = .ok (.bipush 80, 2) := by decide +kernel
theorem dX10_compose_44 : decode cX10_compose 44 = .ok (.iload_n 1, 1) := by decide +kernel
theorem dX10_compose_45 : decode cX10_compose 45 = .ok (.imul, 1) := by decide +kernel
theorem dX10_compose_46 : decode cX10_compose 46 = .ok (.aload_n 0, 1) := by decide +kernel
theorem dX10_compose_47 : decode cX10_compose 47 = .ok (.getfield 42, 3) := by decide +kernel
theorem dX10_compose_50 : decode cX10_compose 50 = .ok (.iconst 0, 1) := by decide +kernel
theorem dX10_compose_51 : decode cX10_compose 51 = .ok (.aload_n 0, 1) := by decide +kernel
theorem dX10_compose_52 : decode cX10_compose 52 = .ok (.getfield 49, 3) := by decide +kernel
theorem dX10_compose_55 : decode cX10_compose 55 = .ok (.invokestatic 62, 3) := by decide +kernel
theorem dX10_compose_58 : decode cX10_compose 58 = .ok (.iconst 0, 1) := by decide +kernel
theorem dX10_compose_59 : decode cX10_compose 59 = .ok (.istore 4, 2) := by decide +kernel
theorem dX10_compose_61 : decode cX10_compose 61 = .ok (.iload 4, 2) := by decide +kernel
theorem dX10_compose_63 : decode cX10_compose 63 = .ok (.aload_n 0, 1) := by decide +kernel
theorem dX10_compose_64 : decode cX10_compose 64 = .ok (.getfield 45, 3) := by decide +kernel
theorem dX10_compose_67 : decode cX10_compose 67 = .ok (.if_icmp .ge 62, 3) := by decide +kernel
theorem dX10_compose_70 : decode cX10_compose 70 = .ok (.aload_n 0, 1) := by decide +kernel
theorem dX10_compose_71 : decode cX10_compose 71 = .ok (.getfield 39, 3) := by decide +kernel
theorem dX10_compose_74 : decode cX10_compose 74 = .ok (.iload 4, 2) := by decide +kernel
theorem dX10_compose_76 : decode cX10_compose 76 = .ok (.iaload, 1) := by decide +kernel
theorem dX10_compose_77 : decode cX10_compose 77 = .ok (.istore 5, 2) := by decide +kernel
theorem dX10_compose_79 : decode cX10_compose 79 = .ok (.aload_n 0, 1) := by decide +kernel
theorem dX10_compose_80 : decode cX10_compose 80 = .ok (.getfield 18, 3) := by decide +kernel
theorem dX10_compose_83 : decode cX10_compose 83 = .ok (.iload 5, 2) := by decide +kernel
theorem dX10_compose_85 : decode cX10_compose 85 = .ok (.iaload, 1) := by decide +kernel
theorem dX10_compose_86 : decode cX10_compose 86 = .ok (.iload_n 1, 1) := by decide +kernel
theorem dX10_compose_87 : decode cX10_compose 87 = .ok (.if_icmp .ne 36, 3) := by decide +kernel
theorem dX10_compose_90 : decode cX10_compose 90 = .ok (.aload_n 0, 1) := by decide +kernel
theorem dX10_compose_91 : decode cX10_compose 91 = .ok (.iload 5, 2) := by decide +kernel
theorem dX10_compose_93 : decode cX10_compose 93 = .ok (.iload_n 2, 1) := by decide +kernel
theorem dX10_compose_94 : decode cX10_compose 94 = .ok (.iload_n 3, 1) := by decide +kernel
theorem dX10_compose_95 : decode cX10_compose 95 = .ok (.invokevirtual 68, 3) := by decide +kernel
theorem dX10_compose_98 : decode cX10_compose 98 = .ok (.ifCond .eq 25, 3) := by decide +kernel
theorem dX10_compose_101 : decode cX10_compose 101 = .ok (.aload_n 0, 1) := by decide +kernel
theorem dX10_compose_102 : decode cX10_compose 102 = .ok (.iload 5, 2) := by decide +kernel
theorem dX10_compose_104 : decode cX10_compose 104 = .ok (.invokevirtual 72, 3) := by decide +kernel
theorem dX10_compose_107 : decode cX10_compose 107 = .ok (.ifCond .ne 16, 3) := by decide +kernel
theorem dX10_compose_110 : decode cX10_compose 110 = .ok (.aload_n 0, 1) := by decide +kernel
theorem dX10_compose_111 : decode cX10_compose 111 = .ok (.dup, 1) := by decide +kernel
theorem dX10_compose_112 : decode cX10_compose 112 = .ok (.getfield 52, 3) := by decide +kernel
theorem dX10_compose_115 : decode cX10_compose 115 = .ok (.iconst 1, 1) := by decide +kernel
theorem dX10_compose_116 : decode cX10_compose 116 = .ok (.iload 5, 2) := by decide +kernel
theorem dX10_compose_118 : decode cX10_compose 118 = .ok (.ishl, 1) := by decide +kernel
theorem dX10_compose_119 : decode cX10_compose 119 = .ok (.ior, 1) := by decide +kernel
theorem dX10_compose_120 : decode cX10_compose 120 = .ok (.putfield 52, 3) := by decide +kernel
theorem dX10_compose_123 : decode cX10_compose 123 = .ok (.iinc 4 1, 3) := by decide +kernel
theorem dX10_compose_126 : decode cX10_compose 126 = .ok (.goto (-65), 3) := by decide +kernel
theorem dX10_compose_129 : decode cX10_compose 129 = .ok (.return_, 1) := by decide +kernel
theorem dX10_replace_0 : decode cX10_replace 0 = .ok (.aload_n 0, 1) := by decide +kernel
theorem dX10_replace_1 : decode cX10_replace 1 = .ok (.iload_n 1, 1) := by decide +kernel
theorem dX10_replace_2 : decode cX10_replace 2 = .ok (.invokevirtual 76, 3) := by decide +kernel
theorem dX10_replace_5 : decode cX10_replace 5 = .ok (.istore_n 2, 1) := by decide +kernel
theorem dX10_replace_6 : decode cX10_replace 6 = .ok (.aload_n 0, 1) := by decide +kernel
theorem dX10_replace_7 : decode cX10_replace 7 = .ok (.getfield 49, 3) := by decide +kernel
theorem dX10_replace_10 : decode cX10_replace 10 = .ok (.aload_n 0, 1) := by decide +kernel
theorem dX10_replace_11 : decode cX10_replace 11 = .ok (.getfield 30, 3) := by decide +kernel
theorem dX10_replace_14 : decode cX10_replace 14 = .ok (.iload_n 1, 1) := by decide +kernel
theorem dX10_replace_15 : decode cX10_replace 15 = .ok (.iaload, 1) := by decide +kernel
theorem dX10_replace_16 : decode cX10_replace 16 = .ok (.isub, 1) := by decide +kernel
theorem dX10_replace_17 : decode cX10_replace 17 = .ok (.aload_n 0, 1) := by decide +kernel
theorem dX10_replace_18 : decode cX10_replace 18 = .ok (.getfield 36, 3) := by decide +kernel
theorem dX10_replace_21 : decode cX10_replace 21 = .ok (.iload_n 1, 1) := by decide +kernel
theorem dX10_replace_22 : decode cX10_replace 22 = .ok (.iaload, 1) := by decide +kernel
theorem dX10_replace_23 : decode cX10_replace 23 = .ok (.iadd, 1) := by decide +kernel
theorem dX10_replace_24 : decode cX10_replace 24 = .ok (.istore_n 3, 1) := by decide +kernel
theorem dX10_replace_25 : decode cX10_replace 25 = .ok (.iload_n 2, 1) := by decide +kernel
theorem dX10_replace_26 : decode cX10_replace 26 = .ok (.iconst (-1), 1) := by decide +kernel
theorem dX10_replace_27 : decode cX10_replace 27 = .ok (.if_icmp .eq 10, 3) := by decide +kernel
theorem dX10_replace_30 : decode cX10_replace 30 = .ok (.iload_n 3, 1) := by decide +kernel
theorem dX10_replace_31 : decode cX10_replace 31 = .ok (.sipush 200, 3) := by decide +kernel
theorem dX10_replace_34 : decode cX10_replace 34 = .ok (.if_icmp .le 5, 3) := by decide +kernel
theorem dX10_replace_37 : decode cX10_replace 37 = .ok (.iconst 0, 1) := by decide +kernel
theorem dX10_replace_38 : decode cX10_replace 38 = .ok (.ireturn, 1) := by decide +kernel
theorem dX10_replace_39 : decode cX10_replace 39 = .ok (.iload_n 2, 1) := by decide +kernel
theorem dX10_replace_40 : decode cX10_replace 40 = .ok (.aload_n 0, 1) := by decide +kernel
theorem dX10_replace_41 : decode cX10_replace 41 = .ok (.getfield 30, 3) := by decide +kernel
theorem dX10_replace_44 : decode cX10_replace 44 = .ok (.iload_n 1, 1) := by decide +kernel
theorem dX10_replace_45 : decode cX10_replace 45 = .ok (.iaload, 1) := by decide +kernel
theorem dX10_replace_46 : decode cX10_replace 46 = .ok (.iadd, 1) := by decide +kernel
theorem dX10_replace_47 : decode cX10_replace 47 = .ok (.istore 4, 2) := by decide +kernel
theorem dX10_replace_49 : decode cX10_replace 49 = .ok (.aload_n 0, 1) := by decide +kernel
theorem dX10_replace_50 : decode cX10_replace 50 = .ok (.getfield 42, 3) := by decide +kernel
theorem dX10_replace_53 : decode cX10_replace 53 = .ok (.iload 4, 2) := by decide +kernel
theorem dX10_replace_55 : decode cX10_replace 55 = .ok (.aload_n 0, 1) := by decide +kernel
theorem dX10_replace_56 : decode cX10_replace 56 = .ok (.getfield 42, 3) := by decide +kernel
theorem dX10_replace_59 : decode cX10_replace 59 = .ok (.iload_n 2, 1) := by decide +kernel
theorem dX10_replace_60 : decode cX10_replace 60 = .ok (.aload_n 0, 1) := by decide +kernel
theorem dX10_replace_61 : decode cX10_replace 61 = .ok (.getfield 36, 3) := by decide +kernel
theorem dX10_replace_64 : decode cX10_replace 64 = .ok (.iload_n 1, 1) := by decide +kernel
theorem dX10_replace_65 : decode cX10_replace 65 = .ok (.iaload, 1) := by decide +kernel
theorem dX10_replace_66 : decode cX10_replace 66 = .ok (.iadd, 1) := by decide +kernel
theorem dX10_replace_67 : decode cX10_replace 67 = .ok (.aload_n 0, 1) := by decide +kernel
theorem dX10_replace_68 : decode cX10_replace 68 = .ok (.getfield 49, 3) := by decide +kernel
theorem dX10_replace_71 : decode cX10_replace 71 = .ok (.iload 4, 2) := by decide +kernel
theorem dX10_replace_73 : decode cX10_replace 73 = .ok (.isub, 1) := by decide +kernel
theorem dX10_replace_74 : decode cX10_replace 74 = .ok (.invokestatic 62, 3) := by decide +kernel
theorem dX10_replace_77 : decode cX10_replace 77 = .ok (.aload_n 0, 1) := by decide +kernel
theorem dX10_replace_78 : decode cX10_replace 78 = .ok (.getfield 33, 3) := by decide +kernel
theorem dX10_replace_81 : decode cX10_replace 81 = .ok (.bipush 80, 2) := by decide +kernel
theorem dX10_replace_83 : decode cX10_replace 83 = .ok (.iload_n 1, 1) := by decide +kernel
theorem dX10_replace_84 : decode cX10_replace 84 = .ok (.imul, 1) := by decide +kernel
theorem dX10_replace_85 : decode cX10_replace 85 = .ok (.aload_n 0, 1) := by decide +kernel
theorem dX10_replace_86 : decode cX10_replace 86 = .ok (.getfield 42, 3) := by decide +kernel
theorem dX10_replace_89 : decode cX10_replace 89 = .ok (.iload_n 2, 1) := by decide +kernel
theorem dX10_replace_90 : decode cX10_replace 90 = .ok (.aload_n 0, 1) := by decide +kernel
theorem dX10_replace_91 : decode cX10_replace 91 = .ok (.getfield 36, 3) := by decide +kernel
theorem dX10_replace_94 : decode cX10_replace 94 = .ok (.iload_n 1, 1) := by decide +kernel
theorem dX10_replace_95 : decode cX10_replace 95 = .ok (.iaload, 1) := by decide +kernel
theorem dX10_replace_96 : decode cX10_replace 96 = .ok (.invokestatic 62, 3) := by decide +kernel
theorem dX10_replace_99 : decode cX10_replace 99 = .ok (.aload_n 0, 1) := by decide +kernel
theorem dX10_replace_100 : decode cX10_replace 100 = .ok (.iload_n 3, 1) := by decide +kernel
theorem dX10_replace_101 : decode cX10_replace 101 = .ok (.putfield 49, 3) := by decide +kernel
theorem dX10_replace_104 : decode cX10_replace 104 = .ok (.iconst 1, 1) := by decide +kernel
theorem dX10_replace_105 : decode cX10_replace 105 = .ok (.ireturn, 1) := by decide +kernel
theorem dX10_firstPlaceOf_0 : decode cX10_firstPlaceOf 0 = .ok (.iconst 0, 1) := by decide +kernel
theorem dX10_firstPlaceOf_1 : decode cX10_firstPlaceOf 1 = .ok (.istore_n 2, 1) := by decide +kernel
theorem dX10_firstPlaceOf_2 : decode cX10_firstPlaceOf 2 = .ok (.iload_n 2, 1) := by decide +kernel
theorem dX10_firstPlaceOf_3 : decode cX10_firstPlaceOf 3 = .ok (.aload_n 0, 1) := by decide +kernel
theorem dX10_firstPlaceOf_4 : decode cX10_firstPlaceOf 4 = .ok (.getfield 30, 3) := by decide +kernel
theorem dX10_firstPlaceOf_7 : decode cX10_firstPlaceOf 7 = .ok (.iload_n 1, 1) := by decide +kernel
theorem dX10_firstPlaceOf_8 : decode cX10_firstPlaceOf 8 = .ok (.iaload, 1) := by decide +kernel
theorem dX10_firstPlaceOf_9 : decode cX10_firstPlaceOf 9 = .ok (.iadd, 1) := by decide +kernel
theorem dX10_firstPlaceOf_10 : decode cX10_firstPlaceOf 10 = .ok (.aload_n 0, 1) := by decide +kernel
theorem dX10_firstPlaceOf_11 : decode cX10_firstPlaceOf 11 = .ok (.getfield 49, 3) := by decide +kernel
theorem dX10_firstPlaceOf_14 : decode cX10_firstPlaceOf 14 = .ok (.if_icmp .gt 61, 3) := by decide +kernel
theorem dX10_firstPlaceOf_17 : decode cX10_firstPlaceOf 17 = .ok (.iconst 0, 1) := by decide +kernel
theorem dX10_firstPlaceOf_18 : decode cX10_firstPlaceOf 18 = .ok (.istore_n 3, 1) := by decide +kernel
theorem dX10_firstPlaceOf_19 : decode cX10_firstPlaceOf 19 = .ok (.iload_n 3, 1) := by decide +kernel
theorem dX10_firstPlaceOf_20 : decode cX10_firstPlaceOf 20 = .ok (.aload_n 0, 1) := by decide +kernel
theorem dX10_firstPlaceOf_21 : decode cX10_firstPlaceOf 21 = .ok (.getfield 30, 3) := by decide +kernel
theorem dX10_firstPlaceOf_24 : decode cX10_firstPlaceOf 24 = .ok (.iload_n 1, 1) := by decide +kernel
theorem dX10_firstPlaceOf_25 : decode cX10_firstPlaceOf 25 = .ok (.iaload, 1) := by decide +kernel
theorem dX10_firstPlaceOf_26 : decode cX10_firstPlaceOf 26 = .ok (.if_icmp .ge 31, 3) := by decide +kernel
theorem dX10_firstPlaceOf_29 : decode cX10_firstPlaceOf 29 = .ok (.aload_n 0, 1) := by decide +kernel
theorem dX10_firstPlaceOf_30 : decode cX10_firstPlaceOf 30 = .ok (.getfield 42, 3) := by decide +kernel
theorem dX10_firstPlaceOf_33 : decode cX10_firstPlaceOf 33 = .ok (.iload_n 2, 1) := by decide +kernel
theorem dX10_firstPlaceOf_34 : decode cX10_firstPlaceOf 34 = .ok (.iload_n 3, 1) := by decide +kernel
theorem dX10_firstPlaceOf_35 : decode cX10_firstPlaceOf 35 = .ok (.iadd, 1) := by decide +kernel
theorem dX10_firstPlaceOf_36 : decode cX10_firstPlaceOf 36 = .ok (.iaload, 1) := by decide +kernel
theorem dX10_firstPlaceOf_37 : decode cX10_firstPlaceOf 37 = .ok (.aload_n 0, 1) := by decide +kernel
theorem dX10_firstPlaceOf_38 : decode cX10_firstPlaceOf 38 = .ok (.getfield 27, 3) := by decide +kernel
theorem dX10_firstPlaceOf_41 : decode cX10_firstPlaceOf 41 = .ok (.bipush 80, 2) := by decide +kernel
theorem dX10_firstPlaceOf_43 : decode cX10_firstPlaceOf 43 = .ok (.iload_n 1, 1) := by decide +kernel
theorem dX10_firstPlaceOf_44 : decode cX10_firstPlaceOf 44 = .ok (.imul, 1) := by decide +kernel
theorem dX10_firstPlaceOf_45 : decode cX10_firstPlaceOf 45 = .ok (.iload_n 3, 1) := by decide +kernel
theorem dX10_firstPlaceOf_46 : decode cX10_firstPlaceOf 46 = .ok (.iadd, 1) := by decide +kernel
theorem dX10_firstPlaceOf_47 : decode cX10_firstPlaceOf 47 = .ok (.iaload, 1) := by decide +kernel
theorem dX10_firstPlaceOf_48 : decode cX10_firstPlaceOf 48 = .ok (.if_icmp .ne 9, 3) := by decide +kernel
theorem dX10_firstPlaceOf_51 : decode cX10_firstPlaceOf 51 = .ok (.iinc 3 1, 3) := by decide +kernel
theorem dX10_firstPlaceOf_54 : decode cX10_firstPlaceOf 54 = .ok (.goto (-35), 3) := by decide +kernel
theorem dX10_firstPlaceOf_57 : decode cX10_firstPlaceOf 57 = .ok (.iload_n 3, 1) := by decide +kernel
theorem dX10_firstPlaceOf_58 : decode cX10_firstPlaceOf 58 = .ok (.aload_n 0, 1) := by decide +kernel
theorem dX10_firstPlaceOf_59 : decode cX10_firstPlaceOf 59 = .ok (.getfield 30, 3) := by decide +kernel
theorem dX10_firstPlaceOf_62 : decode cX10_firstPlaceOf 62 = .ok (.iload_n 1, 1) := by decide +kernel
theorem dX10_firstPlaceOf_63 : decode cX10_firstPlaceOf 63 = .ok (.iaload, 1) := by decide +kernel
theorem dX10_firstPlaceOf_64 : decode cX10_firstPlaceOf 64 = .ok (.if_icmp .ne 5, 3) := by decide +kernel
theorem dX10_firstPlaceOf_67 : decode cX10_firstPlaceOf 67 = .ok (.iload_n 2, 1) := by decide +kernel
theorem dX10_firstPlaceOf_68 : decode cX10_firstPlaceOf 68 = .ok (.ireturn, 1) := by decide +kernel
theorem dX10_firstPlaceOf_69 : decode cX10_firstPlaceOf 69 = .ok (.iinc 2 1, 3) := by decide +kernel
theorem dX10_firstPlaceOf_72 : decode cX10_firstPlaceOf 72 = .ok (.goto (-70), 3) := by decide +kernel
theorem dX10_firstPlaceOf_75 : decode cX10_firstPlaceOf 75 = .ok (.iconst (-1), 1) := by decide +kernel
theorem dX10_firstPlaceOf_76 : decode cX10_firstPlaceOf 76 = .ok (.ireturn, 1) := by decide +kernel
theorem dX11_refuse_0 : decode cX11_refuse 0 = .ok (.aload_n 0, 1) := by decide +kernel
theorem dX11_refuse_1 : decode cX11_refuse 1 = .ok (.getfield 102, 3) := by decide +kernel
theorem dX11_refuse_4 : decode cX11_refuse 4 = .ok (.iload_n 1, 1) := by decide +kernel
theorem dX11_refuse_5 : decode cX11_refuse 5 = .ok (.ineg, 1) := by decide +kernel
theorem dX11_refuse_6 : decode cX11_refuse 6 = .ok (.dup2, 1) := by decide +kernel
theorem dX11_refuse_7 : decode cX11_refuse 7 = .ok (.iaload, 1) := by decide +kernel
theorem dX11_refuse_8 : decode cX11_refuse 8 = .ok (.iconst 1, 1) := by decide +kernel
theorem dX11_refuse_9 : decode cX11_refuse 9 = .ok (.iadd, 1) := by decide +kernel
theorem dX11_refuse_10 : decode cX11_refuse 10 = .ok (.iastore, 1) := by decide +kernel
theorem dX11_refuse_11 : decode cX11_refuse 11 = .ok (.iload_n 1, 1) := by decide +kernel
theorem dX11_refuse_12 : decode cX11_refuse 12 = .ok (.ireturn, 1) := by decide +kernel
theorem dX11_within_0 : decode cX11_within 0 = .ok (.iload_n 0, 1) := by decide +kernel
theorem dX11_within_1 : decode cX11_within 1 = .ok (.iload_n 1, 1) := by decide +kernel
theorem dX11_within_2 : decode cX11_within 2 = .ok (.if_icmp .lt 12, 3) := by decide +kernel
theorem dX11_within_5 : decode cX11_within 5 = .ok (.iload_n 0, 1) := by decide +kernel
theorem dX11_within_6 : decode cX11_within 6 = .ok (.iload_n 2, 1) := by decide +kernel
theorem dX11_within_7 : decode cX11_within 7 = .ok (.if_icmp .gt 7, 3) := by decide +kernel
theorem dX11_within_10 : decode cX11_within 10 = .ok (.iconst 1, 1) := by decide +kernel
theorem dX11_within_11 : decode cX11_within 11 = .ok (.goto 4, 3) := by decide +kernel
theorem dX11_within_14 : decode cX11_within 14 = .ok (.iconst 0, 1) := by decide +kernel
theorem dX11_within_15 : decode cX11_within 15 = .ok (.ireturn, 1) := by decide +kernel
theorem dX11_isShelf_0 : decode cX11_isShelf 0 = .ok (.iload_n 0, 1) := by decide +kernel
theorem dX11_isShelf_1 : decode cX11_isShelf 1 = .ok (.iconst 0, 1) := by decide +kernel
theorem dX11_isShelf_2 : decode cX11_isShelf 2 = .ok (.bipush 9, 2) := by decide +kernel
theorem dX11_isShelf_4 : decode cX11_isShelf 4 = .ok (.invokestatic 111, 3) := by decide +kernel
theorem dX11_isShelf_7 : decode cX11_isShelf 7 = .ok (.ireturn, 1) := by decide +kernel
theorem dX11_isStatute_0 : decode cX11_isStatute 0 = .ok (.iload_n 0, 1) := by decide +kernel
theorem dX11_isStatute_1 : decode cX11_isStatute 1 = .ok (.iconst 0, 1) := by decide +kernel
theorem dX11_isStatute_2 : decode cX11_isStatute 2 = .ok (.iconst 3, 1) := by decide +kernel
theorem dX11_isStatute_3 : decode cX11_isStatute 3 = .ok (.invokestatic 111, 3) := by decide +kernel
theorem dX11_isStatute_6 : decode cX11_isStatute 6 = .ok (.ireturn, 1) := by decide +kernel
theorem dX11_rowTrouble_0 : decode cX11_rowTrouble 0 = .ok (.iload_n 1, 1) := by decide +kernel
theorem dX11_rowTrouble_1 : decode cX11_rowTrouble 1 = .ok (.invokestatic 115, 3) := by decide +kernel
theorem dX11_rowTrouble_4 : decode cX11_rowTrouble 4 = .ok (.ifCond .ne 5, 3) := by decide +kernel
theorem dX11_rowTrouble_7 : decode cX11_rowTrouble 7 = .ok (.iconst (-1), 1) := by decide +kernel
theorem dX11_rowTrouble_8 : decode cX11_rowTrouble 8 = .ok (.ireturn, 1) := by decide +kernel
theorem dX11_rowTrouble_9 : decode cX11_rowTrouble 9 = .ok (.aload_n 0, 1) := by decide +kernel
theorem dX11_rowTrouble_10 : decode cX11_rowTrouble 10 = .ok (.getfield 11, 3) := by decide +kernel
theorem dX11_rowTrouble_13 : decode cX11_rowTrouble 13 = .ok (.iload_n 1, 1) := by decide +kernel
theorem dX11_rowTrouble_14 : decode cX11_rowTrouble 14 = .ok (.aaload, 1) := by decide +kernel
theorem dX11_rowTrouble_15 : decode cX11_rowTrouble 15 = .ok (.getfield 119, 3) := by decide +kernel
theorem dX11_rowTrouble_18 : decode cX11_rowTrouble 18 = .ok (.iconst (-1), 1) := by decide +kernel
theorem dX11_rowTrouble_19 : decode cX11_rowTrouble 19 = .ok (.if_icmp .eq 6, 3) := by decide +kernel
theorem dX11_rowTrouble_22 : decode cX11_rowTrouble 22 = .ok (.bipush (-2), 2) := by decide +kernel
theorem dX11_rowTrouble_24 : decode cX11_rowTrouble 24 = .ok (.ireturn, 1) := by decide +kernel
theorem dX11_rowTrouble_25 : decode cX11_rowTrouble 25 = .ok (.aload_n 0, 1) := by decide +kernel
theorem dX11_rowTrouble_26 : decode cX11_rowTrouble 26 = .ok (.getfield 11, 3) := by decide +kernel
theorem dX11_rowTrouble_29 : decode cX11_rowTrouble 29 = .ok (.iload_n 1, 1) := by decide +kernel
theorem dX11_rowTrouble_30 : decode cX11_rowTrouble 30 = .ok (.aaload, 1) := by decide +kernel
theorem dX11_rowTrouble_31 : decode cX11_rowTrouble 31 = .ok (.getfield 122, 3) := by decide +kernel
theorem dX11_rowTrouble_34 : decode cX11_rowTrouble 34 = .ok (.iconst (-1), 1) := by decide +kernel
theorem dX11_rowTrouble_35 : decode cX11_rowTrouble 35 = .ok (.if_icmp .ne 8, 3) := by decide +kernel
theorem dX11_rowTrouble_38 : decode cX11_rowTrouble 38 = .ok (.bipush (-3), 2) := by decide +kernel
theorem dX11_rowTrouble_40 : decode cX11_rowTrouble 40 = .ok (.goto 4, 3) := by decide +kernel
theorem dX11_rowTrouble_43 : decode cX11_rowTrouble 43 = .ok (.iconst 0, 1) := by decide +kernel
theorem dX11_rowTrouble_44 : decode cX11_rowTrouble 44 = .ok (.ireturn, 1) := by decide +kernel
theorem dX11_firstTrouble_0 : decode cX11_firstTrouble 0 = .ok (.iload_n 0, 1) := by decide +kernel
theorem dX11_firstTrouble_1 : decode cX11_firstTrouble 1 = .ok (.ifCond .eq 7, 3) := by decide +kernel
theorem dX11_firstTrouble_4 : decode cX11_firstTrouble 4 = .ok (.iload_n 1, 1) := by decide +kernel
theorem dX11_firstTrouble_5 : decode cX11_firstTrouble 5 = .ok (.ifCond .ne 7, 3) := by decide +kernel
theorem dX11_firstTrouble_8 : decode cX11_firstTrouble 8 = .ok (.iload_n 0, 1) := by decide +kernel
theorem dX11_firstTrouble_9 : decode cX11_firstTrouble 9 = .ok (.iload_n 1, 1) := by decide +kernel
theorem dX11_firstTrouble_10 : decode cX11_firstTrouble 10 = .ok (.iadd, 1) := by decide +kernel
theorem dX11_firstTrouble_11 : decode cX11_firstTrouble 11 = .ok (.ireturn, 1) := by decide +kernel
theorem dX11_firstTrouble_12 : decode cX11_firstTrouble 12 = .ok (.iload_n 0, 1) := by decide +kernel
theorem dX11_firstTrouble_13 : decode cX11_firstTrouble 13 = .ok (.iload_n 1, 1) := by decide +kernel
theorem dX11_firstTrouble_14 : decode cX11_firstTrouble 14 = .ok (.invokestatic 125, 3) := by decide +kernel
theorem dX11_firstTrouble_17 : decode cX11_firstTrouble 17 = .ok (.ireturn, 1) := by decide +kernel
theorem dX11_thisYear_0 : decode cX11_thisYear 0 = .ok (.aload_n 0, 1) := by decide +kernel
theorem dX11_thisYear_1 : decode cX11_thisYear 1 = .ok (.getfield 106, 3) := by decide +kernel
theorem dX11_thisYear_4 : decode cX11_thisYear 4 = .ok (.sipush 365, 3) := by decide +kernel
theorem dX11_thisYear_7 : decode cX11_thisYear 7 = .ok (.idiv, 1) := by decide +kernel
theorem dX11_thisYear_8 : decode cX11_thisYear 8 = .ok (.ireturn, 1) := by decide +kernel
theorem dX11_days_0 : decode cX11_days 0 = .ok (.iload_n 1, 1) := by decide +kernel
theorem dX11_days_1 : decode cX11_days 1 = .ok (.iconst 1, 1) := by decide +kernel
theorem dX11_days_2 : decode cX11_days 2 = .ok (.sipush 4000, 3) := by decide +kernel
theorem dX11_days_5 : decode cX11_days 5 = .ok (.invokestatic 111, 3) := by decide +kernel
theorem dX11_days_8 : decode cX11_days 8 = .ok (.ifCond .eq 14, 3) := by decide +kernel
theorem dX11_days_11 : decode cX11_days 11 = .ok (.aload_n 0, 1) := by decide +kernel
theorem dX11_days_12 : decode cX11_days 12 = .ok (.getfield 106, 3) := by decide +kernel
theorem dX11_days_15 : decode cX11_days 15 = .ok (.iload_n 1, 1) := by decide +kernel
theorem dX11_days_16 : decode cX11_days 16 = .ok (.iadd, 1) := by decide +kernel
theorem dX11_days_17 : decode cX11_days 17 = .ok (.ldc 131, 2) := by decide +kernel
theorem dX11_days_19 : decode cX11_days 19 = .ok (.if_icmp .le 10, 3) := by decide +kernel
theorem dX11_days_22 : decode cX11_days 22 = .ok (.aload_n 0, 1) := by decide +kernel
theorem dX11_days_23 : decode cX11_days 23 = .ok (.bipush (-6), 2) := by decide +kernel
theorem dX11_days_25 : decode cX11_days 25 = .ok (.invokevirtual 132, 3) := by decide +kernel
theorem dX11_days_28 : decode cX11_days 28 = .ok (.ireturn, 1) := by decide +kernel
theorem dX11_days_29 : decode cX11_days 29 = .ok (.aload_n 0, 1) := by decide +kernel
theorem dX11_days_30 : decode cX11_days 30 = .ok (.dup, 1) := by decide +kernel
theorem dX11_days_31 : decode cX11_days 31 = .ok (.getfield 106, 3) := by decide +kernel
theorem dX11_days_34 : decode cX11_days 34 = .ok (.iload_n 1, 1) := by decide +kernel
theorem dX11_days_35 : decode cX11_days 35 = .ok (.iadd, 1) := by decide +kernel
theorem dX11_days_36 : decode cX11_days 36 = .ok (.putfield 106, 3) := by decide +kernel
theorem dX11_days_39 : decode cX11_days 39 = .ok (.aload_n 0, 1) := by decide +kernel
theorem dX11_days_40 : decode cX11_days 40 = .ok (.getfield 43, 3) := by decide +kernel
theorem dX11_days_43 : decode cX11_days 43 = .ok (.aload_n 0, 1) := by decide +kernel
theorem dX11_days_44 : decode cX11_days 44 = .ok (.getfield 106, 3) := by decide +kernel
theorem dX11_days_47 : decode cX11_days 47 = .ok (.invokevirtual 136, 3) := by decide +kernel
theorem dX11_days_50 : decode cX11_days 50 = .ok (.ireturn, 1) := by decide +kernel
theorem dX11_person_0 : decode cX11_person 0 = .ok (.iload_n 1, 1) := by decide +kernel
theorem dX11_person_1 : decode cX11_person 1 = .ok (.ldc 139, 2) := by decide +kernel
theorem dX11_person_3 : decode cX11_person 3 = .ok (.ldc 131, 2) := by decide +kernel
theorem dX11_person_5 : decode cX11_person 5 = .ok (.invokestatic 111, 3) := by decide +kernel
theorem dX11_person_8 : decode cX11_person 8 = .ok (.ifCond .ne 10, 3) := by decide +kernel
theorem dX11_person_11 : decode cX11_person 11 = .ok (.aload_n 0, 1) := by decide +kernel
theorem dX11_person_12 : decode cX11_person 12 = .ok (.bipush (-6), 2) := by decide +kernel
theorem dX11_person_14 : decode cX11_person 14 = .ok (.invokevirtual 132, 3) := by decide +kernel
theorem dX11_person_17 : decode cX11_person 17 = .ok (.ireturn, 1) := by decide +kernel
theorem dX11_person_18 : decode cX11_person 18 = .ok (.aload_n 0, 1) := by decide +kernel
theorem dX11_person_19 : decode cX11_person 19 = .ok (.getfield 18, 3) := by decide +kernel
theorem dX11_person_22 : decode cX11_person 22 = .ok (.getfield 140, 3) := by decide +kernel
theorem dX11_person_25 : decode cX11_person 25 = .ok (.bipush 24, 2) := by decide +kernel
theorem dX11_person_27 : decode cX11_person 27 = .ok (.if_icmp .ne 12, 3) := by decide +kernel
theorem dX11_person_30 : decode cX11_person 30 = .ok (.aload_n 0, 1) := by decide +kernel
theorem dX11_person_31 : decode cX11_person 31 = .ok (.bipush (-7), 2) := by decide +kernel
theorem dX11_person_33 : decode cX11_person 33 = .ok (.invokevirtual 132, 3) := by decide +kernel
theorem dX11_person_36 : decode cX11_person 36 = .ok (.goto 11, 3) := by decide +kernel
theorem dX11_person_39 : decode cX11_person 39 = .ok (.aload_n 0, 1) := by decide +kernel
theorem dX11_person_40 : decode cX11_person 40 = .ok (.getfield 18, 3) := by decide +kernel
theorem dX11_person_43 : decode cX11_person 43 = .ok (.iload_n 1, 1) := by decide +kernel
theorem dX11_person_44 : decode cX11_person 44 = .ok (.invokevirtual 143, 3) := by decide +kernel
theorem dX11_person_47 : decode cX11_person 47 = .ok (.ireturn, 1) := by decide +kernel
theorem dX11_founder_0 : decode cX11_founder 0 = .ok (.aload_n 0, 1) := by decide +kernel
theorem dX11_founder_1 : decode cX11_founder 1 = .ok (.getfield 18, 3) := by decide +kernel
theorem dX11_founder_4 : decode cX11_founder 4 = .ok (.iload_n 1, 1) := by decide +kernel
theorem dX11_founder_5 : decode cX11_founder 5 = .ok (.invokevirtual 146, 3) := by decide +kernel
theorem dX11_founder_8 : decode cX11_founder 8 = .ok (.ifCond .ne 9, 3) := by decide +kernel
theorem dX11_founder_11 : decode cX11_founder 11 = .ok (.aload_n 0, 1) := by decide +kernel
theorem dX11_founder_12 : decode cX11_founder 12 = .ok (.iconst (-1), 1) := by decide +kernel
theorem dX11_founder_13 : decode cX11_founder 13 = .ok (.invokevirtual 132, 3) := by decide +kernel
theorem dX11_founder_16 : decode cX11_founder 16 = .ok (.ireturn, 1) := by decide +kernel
theorem dX11_founder_17 : decode cX11_founder 17 = .ok (.aload_n 0, 1) := by decide +kernel
theorem dX11_founder_18 : decode cX11_founder 18 = .ok (.getfield 18, 3) := by decide +kernel
theorem dX11_founder_21 : decode cX11_founder 21 = .ok (.getfield 149, 3) := by decide +kernel
theorem dX11_founder_24 : decode cX11_founder 24 = .ok (.istore_n 2, 1) := by decide +kernel
theorem dX11_founder_25 : decode cX11_founder 25 = .ok (.aload_n 0, 1) := by decide +kernel
theorem dX11_founder_26 : decode cX11_founder 26 = .ok (.getfield 18, 3) := by decide +kernel
theorem dX11_founder_29 : decode cX11_founder 29 = .ok (.dup, 1) := by decide +kernel
theorem dX11_founder_30 : decode cX11_founder 30 = .ok (.getfield 149, 3) := by decide +kernel
theorem dX11_founder_33 : decode cX11_founder 33 = .ok (.iconst 1, 1) := by decide +kernel
theorem dX11_founder_34 : decode cX11_founder 34 = .ok (.iload_n 1, 1) := by decide +kernel
theorem dX11_founder_35 : decode cX11_founder 35 = .ok (.ishl, 1) := by decide +kernel
theorem dX11_founder_36 : decode cX11_founder 36 = .ok (.ior, 1) := by decide +kernel
theorem dX11_founder_37 : decode cX11_founder 37 = .ok (.putfield 149, 3) := by decide +kernel
theorem dX11_founder_40 : decode cX11_founder 40 = .ok (.aload_n 0, 1) := by decide +kernel
theorem dX11_founder_41 : decode cX11_founder 41 = .ok (.getfield 18, 3) := by decide +kernel
theorem dX11_founder_44 : decode cX11_founder 44 = .ok (.getfield 149, 3) := by decide +kernel
theorem dX11_founder_47 : decode cX11_founder 47 = .ok (.iload_n 2, 1) := by decide +kernel
theorem dX11_founder_48 : decode cX11_founder 48 = .ok (.if_icmp .ne 7, 3) := by decide +kernel
theorem dX11_founder_51 : decode cX11_founder 51 = .ok (.iconst 0, 1) := by decide +kernel
theorem dX11_founder_52 : decode cX11_founder 52 = .ok (.goto 4, 3) := by decide +kernel
theorem dX11_founder_55 : decode cX11_founder 55 = .ok (.iconst 1, 1) := by decide +kernel
theorem dX11_founder_56 : decode cX11_founder 56 = .ok (.ireturn, 1) := by decide +kernel
theorem dX11_link_0 : decode cX11_link 0 = .ok (.aload_n 0, 1) := by decide +kernel
theorem dX11_link_1 : decode cX11_link 1 = .ok (.getfield 18, 3) := by decide +kernel
theorem dX11_link_4 : decode cX11_link 4 = .ok (.iload_n 1, 1) := by decide +kernel
theorem dX11_link_5 : decode cX11_link 5 = .ok (.invokevirtual 146, 3) := by decide +kernel
theorem dX11_link_8 : decode cX11_link 8 = .ok (.ifCond .eq 14, 3) := by decide +kernel
theorem dX11_link_11 : decode cX11_link 11 = .ok (.aload_n 0, 1) := by decide +kernel
theorem dX11_link_12 : decode cX11_link 12 = .ok (.getfield 18, 3) := by decide +kernel
theorem dX11_link_15 : decode cX11_link 15 = .ok (.iload_n 3, 1) := by decide +kernel
theorem dX11_link_16 : decode cX11_link 16 = .ok (.invokevirtual 146, 3) := by decide +kernel
theorem dX11_link_19 : decode cX11_link 19 = .ok (.ifCond .ne 9, 3) := by decide +kernel
theorem dX11_link_22 : decode cX11_link 22 = .ok (.aload_n 0, 1) := by decide +kernel
theorem dX11_link_23 : decode cX11_link 23 = .ok (.iconst (-1), 1) := by decide +kernel
theorem dX11_link_24 : decode cX11_link 24 = .ok (.invokevirtual 132, 3) := by decide +kernel
theorem dX11_link_27 : decode cX11_link 27 = .ok (.ireturn, 1) := by decide +kernel
theorem dX11_link_28 : decode cX11_link 28 = .ok (.iload_n 2, 1) := by decide +kernel
theorem dX11_link_29 : decode cX11_link 29 = .ok (.iconst 0, 1) := by decide +kernel
theorem dX11_link_30 : decode cX11_link 30 = .ok (.iconst 1, 1) := by decide +kernel
theorem dX11_link_31 : decode cX11_link 31 = .ok (.invokestatic 111, 3) := by decide +kernel
theorem dX11_link_34 : decode cX11_link 34 = .ok (.ifCond .eq 20, 3) := by decide +kernel
theorem dX11_link_37 : decode cX11_link 37 = .ok (.aload_n 0, 1) := by decide +kernel
theorem dX11_link_38 : decode cX11_link 38 = .ok (.getfield 18, 3) := by decide +kernel
theorem dX11_link_41 : decode cX11_link 41 = .ok (.iload_n 1, 1) := by decide +kernel
theorem dX11_link_42 : decode cX11_link 42 = .ok (.iload_n 2, 1) := by decide +kernel
theorem dX11_link_43 : decode cX11_link 43 = .ok (.iload_n 3, 1) := by decide +kernel
theorem dX11_link_44 : decode cX11_link 44 = .ok (.aload_n 0, 1) := by decide +kernel
theorem dX11_link_45 : decode cX11_link 45 = .ok (.getfield 106, 3) := by decide +kernel
theorem dX11_link_48 : decode cX11_link 48 = .ok (.invokevirtual 152, 3) := by decide +kernel
theorem dX11_link_51 : decode cX11_link 51 = .ok (.ifCond .ne 10, 3) := by decide +kernel
theorem dX11_link_54 : decode cX11_link 54 = .ok (.aload_n 0, 1) := by decide +kernel
theorem dX11_link_55 : decode cX11_link 55 = .ok (.bipush (-6), 2) := by decide +kernel
theorem dX11_link_57 : decode cX11_link 57 = .ok (.invokevirtual 132, 3) := by decide +kernel
theorem dX11_link_60 : decode cX11_link 60 = .ok (.ireturn, 1) := by decide +kernel
theorem dX11_link_61 : decode cX11_link 61 = .ok (.aload_n 0, 1) := by decide +kernel
theorem dX11_link_62 : decode cX11_link 62 = .ok (.getfield 18, 3) := by decide +kernel
theorem dX11_link_65 : decode cX11_link 65 = .ok (.getfield 156, 3) := by decide +kernel
theorem dX11_link_68 : decode cX11_link 68 = .ok (.iconst 2, 1) := by decide +kernel
theorem dX11_link_69 : decode cX11_link 69 = .ok (.iload_n 1, 1) := by decide +kernel
theorem dX11_link_70 : decode cX11_link 70 = .ok (.imul, 1) := by decide +kernel
theorem dX11_link_71 : decode cX11_link 71 = .ok (.iload_n 2, 1) := by decide +kernel
theorem dX11_link_72 : decode cX11_link 72 = .ok (.iadd, 1) := by decide +kernel
theorem dX11_link_73 : decode cX11_link 73 = .ok (.iload_n 3, 1) := by decide +kernel
theorem dX11_link_74 : decode cX11_link 74 = .ok (.iastore, 1) := by decide +kernel
theorem dX11_link_75 : decode cX11_link 75 = .ok (.aload_n 0, 1) := by decide +kernel
theorem dX11_link_76 : decode cX11_link 76 = .ok (.getfield 18, 3) := by decide +kernel
theorem dX11_link_79 : decode cX11_link 79 = .ok (.getfield 159, 3) := by decide +kernel
theorem dX11_link_82 : decode cX11_link 82 = .ok (.iconst 2, 1) := by decide +kernel
theorem dX11_link_83 : decode cX11_link 83 = .ok (.iload_n 1, 1) := by decide +kernel
theorem dX11_link_84 : decode cX11_link 84 = .ok (.imul, 1) := by decide +kernel
theorem dX11_link_85 : decode cX11_link 85 = .ok (.iload_n 2, 1) := by decide +kernel
theorem dX11_link_86 : decode cX11_link 86 = .ok (.iadd, 1) := by decide +kernel
theorem dX11_link_87 : decode cX11_link 87 = .ok (.aload_n 0, 1) := by decide +kernel
theorem dX11_link_88 : decode cX11_link 88 = .ok (.getfield 106, 3) := by decide +kernel
theorem dX11_link_91 : decode cX11_link 91 = .ok (.iastore, 1) := by decide +kernel
theorem dX11_link_92 : decode cX11_link 92 = .ok (.iconst 1, 1) := by decide +kernel
theorem dX11_link_93 : decode cX11_link 93 = .ok (.ireturn, 1) := by decide +kernel
theorem dX11_fact_0 : decode cX11_fact 0 = .ok (.aload_n 0, 1) := by decide +kernel
theorem dX11_fact_1 : decode cX11_fact 1 = .ok (.getfield 18, 3) := by decide +kernel
theorem dX11_fact_4 : decode cX11_fact 4 = .ok (.iload_n 1, 1) := by decide +kernel
theorem dX11_fact_5 : decode cX11_fact 5 = .ok (.invokevirtual 146, 3) := by decide +kernel
theorem dX11_fact_8 : decode cX11_fact 8 = .ok (.ifCond .ne 9, 3) := by decide +kernel
theorem dX11_fact_11 : decode cX11_fact 11 = .ok (.aload_n 0, 1) := by decide +kernel
theorem dX11_fact_12 : decode cX11_fact 12 = .ok (.iconst (-1), 1) := by decide +kernel
theorem dX11_fact_13 : decode cX11_fact 13 = .ok (.invokevirtual 132, 3) := by decide +kernel
theorem dX11_fact_16 : decode cX11_fact 16 = .ok (.ireturn, 1) := by decide +kernel
theorem dX11_fact_17 : decode cX11_fact 17 = .ok (.iload_n 2, 1) := by decide +kernel
theorem dX11_fact_18 : decode cX11_fact 18 = .ok (.iconst 0, 1) := by decide +kernel
theorem dX11_fact_19 : decode cX11_fact 19 = .ok (.iconst 3, 1) := by decide +kernel
theorem dX11_fact_20 : decode cX11_fact 20 = .ok (.invokestatic 111, 3) := by decide +kernel
theorem dX11_fact_23 : decode cX11_fact 23 = .ok (.ifCond .eq 26, 3) := by decide +kernel
theorem dX11_fact_26 : decode cX11_fact 26 = .ok (.iload_n 3, 1) := by decide +kernel
theorem dX11_fact_27 : decode cX11_fact 27 = .ok (.iconst 0, 1) := by decide +kernel
theorem dX11_fact_28 : decode cX11_fact 28 = .ok (.sipush 9999, 3) := by decide +kernel
theorem dX11_fact_31 : decode cX11_fact 31 = .ok (.invokestatic 111, 3) := by decide +kernel
theorem dX11_fact_34 : decode cX11_fact 34 = .ok (.ifCond .eq 15, 3) := by decide +kernel
theorem dX11_fact_37 : decode cX11_fact 37 = .ok (.iload 4, 2) := by decide +kernel
theorem dX11_fact_39 : decode cX11_fact 39 = .ok (.ldc 139, 2) := by decide +kernel
theorem dX11_fact_41 : decode cX11_fact 41 = .ok (.ldc 131, 2) := by decide +kernel
theorem dX11_fact_43 : decode cX11_fact 43 = .ok (.invokestatic 111, 3) := by decide +kernel
theorem dX11_fact_46 : decode cX11_fact 46 = .ok (.ifCond .ne 10, 3) := by decide +kernel
theorem dX11_fact_49 : decode cX11_fact 49 = .ok (.aload_n 0, 1) := by decide +kernel
theorem dX11_fact_50 : decode cX11_fact 50 = .ok (.bipush (-6), 2) := by decide +kernel
theorem dX11_fact_52 : decode cX11_fact 52 = .ok (.invokevirtual 132, 3) := by decide +kernel
theorem dX11_fact_55 : decode cX11_fact 55 = .ok (.ireturn, 1) := by decide +kernel
theorem dX11_fact_56 : decode cX11_fact 56 = .ok (.aload_n 0, 1) := by decide +kernel
theorem dX11_fact_57 : decode cX11_fact 57 = .ok (.getfield 18, 3) := by decide +kernel
theorem dX11_fact_60 : decode cX11_fact 60 = .ok (.getfield 162, 3) := by decide +kernel
theorem dX11_fact_63 : decode cX11_fact 63 = .ok (.sipush 400, 3) := by decide +kernel
theorem dX11_fact_66 : decode cX11_fact 66 = .ok (.if_icmp .ne 10, 3) := by decide +kernel
theorem dX11_fact_69 : decode cX11_fact 69 = .ok (.aload_n 0, 1) := by decide +kernel
theorem dX11_fact_70 : decode cX11_fact 70 = .ok (.bipush (-7), 2) := by decide +kernel
theorem dX11_fact_72 : decode cX11_fact 72 = .ok (.invokevirtual 132, 3) := by decide +kernel
theorem dX11_fact_75 : decode cX11_fact 75 = .ok (.ireturn, 1) := by decide +kernel
theorem dX11_fact_76 : decode cX11_fact 76 = .ok (.aload_n 0, 1) := by decide +kernel
theorem dX11_fact_77 : decode cX11_fact 77 = .ok (.getfield 18, 3) := by decide +kernel
theorem dX11_fact_80 : decode cX11_fact 80 = .ok (.iconst 4, 1) := by decide +kernel
theorem dX11_fact_81 : decode cX11_fact 81 = .ok (.iload_n 1, 1) := by decide +kernel
theorem dX11_fact_82 : decode cX11_fact 82 = .ok (.imul, 1) := by decide +kernel
theorem dX11_fact_83 : decode cX11_fact 83 = .ok (.iload_n 2, 1) := by decide +kernel
theorem dX11_fact_84 : decode cX11_fact 84 = .ok (.iadd, 1) := by decide +kernel
theorem dX11_fact_85 : decode cX11_fact 85 = .ok (.iload_n 3, 1) := by decide +kernel
theorem dX11_fact_86 : decode cX11_fact 86 = .ok (.iload 4, 2) := by decide +kernel
theorem dX11_fact_88 : decode cX11_fact 88 = .ok (.aload_n 0, 1) := by decide +kernel
theorem dX11_fact_89 : decode cX11_fact 89 = .ok (.getfield 106, 3) := by decide +kernel
theorem dX11_fact_92 : decode cX11_fact 92 = .ok (.invokevirtual 165, 3) := by decide +kernel
theorem dX11_fact_95 : decode cX11_fact 95 = .ok (.ireturn, 1) := by decide +kernel
theorem dX11_death_0 : decode cX11_death 0 = .ok (.aload_n 0, 1) := by decide +kernel
theorem dX11_death_1 : decode cX11_death 1 = .ok (.getfield 18, 3) := by decide +kernel
theorem dX11_death_4 : decode cX11_death 4 = .ok (.iload_n 1, 1) := by decide +kernel
theorem dX11_death_5 : decode cX11_death 5 = .ok (.invokevirtual 146, 3) := by decide +kernel
theorem dX11_death_8 : decode cX11_death 8 = .ok (.ifCond .ne 9, 3) := by decide +kernel
theorem dX11_death_11 : decode cX11_death 11 = .ok (.aload_n 0, 1) := by decide +kernel
theorem dX11_death_12 : decode cX11_death 12 = .ok (.iconst (-1), 1) := by decide +kernel
theorem dX11_death_13 : decode cX11_death 13 = .ok (.invokevirtual 132, 3) := by decide +kernel
theorem dX11_death_16 : decode cX11_death 16 = .ok (.ireturn, 1) := by decide +kernel
theorem dX11_death_17 : decode cX11_death 17 = .ok (.aload_n 0, 1) := by decide +kernel
theorem dX11_death_18 : decode cX11_death 18 = .ok (.getfield 18, 3) := by decide +kernel
theorem dX11_death_21 : decode cX11_death 21 = .ok (.getfield 169, 3) := by decide +kernel
theorem dX11_death_24 : decode cX11_death 24 = .ok (.iload_n 1, 1) := by decide +kernel
theorem dX11_death_25 : decode cX11_death 25 = .ok (.iaload, 1) := by decide +kernel
theorem dX11_death_26 : decode cX11_death 26 = .ok (.iconst (-1), 1) := by decide +kernel
theorem dX11_death_27 : decode cX11_death 27 = .ok (.if_icmp .ne 24, 3) := by decide +kernel
theorem dX11_death_30 : decode cX11_death 30 = .ok (.iload_n 2, 1) := by decide +kernel
theorem dX11_death_31 : decode cX11_death 31 = .ok (.aload_n 0, 1) := by decide +kernel
theorem dX11_death_32 : decode cX11_death 32 = .ok (.getfield 18, 3) := by decide +kernel
theorem dX11_death_35 : decode cX11_death 35 = .ok (.getfield 172, 3) := by decide +kernel
theorem dX11_death_38 : decode cX11_death 38 = .ok (.iload_n 1, 1) := by decide +kernel
theorem dX11_death_39 : decode cX11_death 39 = .ok (.iaload, 1) := by decide +kernel
theorem dX11_death_40 : decode cX11_death 40 = .ok (.if_icmp .lt 11, 3) := by decide +kernel
theorem dX11_death_43 : decode cX11_death 43 = .ok (.iload_n 2, 1) := by decide +kernel
theorem dX11_death_44 : decode cX11_death 44 = .ok (.aload_n 0, 1) := by decide +kernel
theorem dX11_death_45 : decode cX11_death 45 = .ok (.getfield 106, 3) := by decide +kernel
theorem dX11_death_48 : decode cX11_death 48 = .ok (.if_icmp .le 10, 3) := by decide +kernel
theorem dX11_death_51 : decode cX11_death 51 = .ok (.aload_n 0, 1) := by decide +kernel
theorem dX11_death_52 : decode cX11_death 52 = .ok (.bipush (-6), 2) := by decide +kernel
theorem dX11_death_54 : decode cX11_death 54 = .ok (.invokevirtual 132, 3) := by decide +kernel
theorem dX11_death_57 : decode cX11_death 57 = .ok (.ireturn, 1) := by decide +kernel
theorem dX11_death_58 : decode cX11_death 58 = .ok (.aload_n 0, 1) := by decide +kernel
theorem dX11_death_59 : decode cX11_death 59 = .ok (.getfield 18, 3) := by decide +kernel
theorem dX11_death_62 : decode cX11_death 62 = .ok (.getfield 175, 3) := by decide +kernel
theorem dX11_death_65 : decode cX11_death 65 = .ok (.iload_n 1, 1) := by decide +kernel
theorem dX11_death_66 : decode cX11_death 66 = .ok (.iload_n 2, 1) := by decide +kernel
theorem dX11_death_67 : decode cX11_death 67 = .ok (.iastore, 1) := by decide +kernel
theorem dX11_death_68 : decode cX11_death 68 = .ok (.aload_n 0, 1) := by decide +kernel
theorem dX11_death_69 : decode cX11_death 69 = .ok (.getfield 18, 3) := by decide +kernel
theorem dX11_death_72 : decode cX11_death 72 = .ok (.getfield 169, 3) := by decide +kernel
theorem dX11_death_75 : decode cX11_death 75 = .ok (.iload_n 1, 1) := by decide +kernel
theorem dX11_death_76 : decode cX11_death 76 = .ok (.aload_n 0, 1) := by decide +kernel
theorem dX11_death_77 : decode cX11_death 77 = .ok (.getfield 106, 3) := by decide +kernel
theorem dX11_death_80 : decode cX11_death 80 = .ok (.iastore, 1) := by decide +kernel
theorem dX11_death_81 : decode cX11_death 81 = .ok (.iconst 1, 1) := by decide +kernel
theorem dX11_death_82 : decode cX11_death 82 = .ok (.ireturn, 1) := by decide +kernel
theorem dX11_is_0 : decode cX11_is 0 = .ok (.aload_n 0, 1) := by decide +kernel
theorem dX11_is_1 : decode cX11_is 1 = .ok (.getfield 18, 3) := by decide +kernel
theorem dX11_is_4 : decode cX11_is 4 = .ok (.iload_n 1, 1) := by decide +kernel
theorem dX11_is_5 : decode cX11_is 5 = .ok (.invokevirtual 146, 3) := by decide +kernel
theorem dX11_is_8 : decode cX11_is 8 = .ok (.ifCond .eq 12, 3) := by decide +kernel
theorem dX11_is_11 : decode cX11_is 11 = .ok (.iload_n 2, 1) := by decide +kernel
theorem dX11_is_12 : decode cX11_is 12 = .ok (.iconst 0, 1) := by decide +kernel
theorem dX11_is_13 : decode cX11_is 13 = .ok (.iconst 3, 1) := by decide +kernel
theorem dX11_is_14 : decode cX11_is 14 = .ok (.invokestatic 111, 3) := by decide +kernel
theorem dX11_is_17 : decode cX11_is 17 = .ok (.ifCond .ne 5, 3) := by decide +kernel
theorem dX11_is_20 : decode cX11_is 20 = .ok (.iconst (-1), 1) := by decide +kernel
theorem dX11_is_21 : decode cX11_is 21 = .ok (.ireturn, 1) := by decide +kernel
theorem dX11_is_22 : decode cX11_is 22 = .ok (.aload_n 0, 1) := by decide +kernel
theorem dX11_is_23 : decode cX11_is 23 = .ok (.getfield 18, 3) := by decide +kernel
theorem dX11_is_26 : decode cX11_is 26 = .ok (.iconst 4, 1) := by decide +kernel
theorem dX11_is_27 : decode cX11_is 27 = .ok (.iload_n 1, 1) := by decide +kernel
theorem dX11_is_28 : decode cX11_is 28 = .ok (.imul, 1) := by decide +kernel
theorem dX11_is_29 : decode cX11_is 29 = .ok (.iload_n 2, 1) := by decide +kernel
theorem dX11_is_30 : decode cX11_is 30 = .ok (.iadd, 1) := by decide +kernel
theorem dX11_is_31 : decode cX11_is 31 = .ok (.iload_n 3, 1) := by decide +kernel
theorem dX11_is_32 : decode cX11_is 32 = .ok (.iload 4, 2) := by decide +kernel
theorem dX11_is_34 : decode cX11_is 34 = .ok (.invokevirtual 178, 3) := by decide +kernel
theorem dX11_is_37 : decode cX11_is 37 = .ok (.ireturn, 1) := by decide +kernel
theorem dX11_kin_0 : decode cX11_kin 0 = .ok (.aload_n 0, 1) := by decide +kernel
theorem dX11_kin_1 : decode cX11_kin 1 = .ok (.getfield 18, 3) := by decide +kernel
theorem dX11_kin_4 : decode cX11_kin 4 = .ok (.iload_n 1, 1) := by decide +kernel
theorem dX11_kin_5 : decode cX11_kin 5 = .ok (.invokevirtual 146, 3) := by decide +kernel
theorem dX11_kin_8 : decode cX11_kin 8 = .ok (.ifCond .ne 5, 3) := by decide +kernel
theorem dX11_kin_11 : decode cX11_kin 11 = .ok (.iconst (-1), 1) := by decide +kernel
theorem dX11_kin_12 : decode cX11_kin 12 = .ok (.ireturn, 1) := by decide +kernel
theorem dX11_kin_13 : decode cX11_kin 13 = .ok (.aload_n 0, 1) := by decide +kernel
theorem dX11_kin_14 : decode cX11_kin 14 = .ok (.getfield 18, 3) := by decide +kernel
theorem dX11_kin_17 : decode cX11_kin 17 = .ok (.iload_n 1, 1) := by decide +kernel
theorem dX11_kin_18 : decode cX11_kin 18 = .ok (.iload_n 3, 1) := by decide +kernel
theorem dX11_kin_19 : decode cX11_kin 19 = .ok (.invokevirtual 182, 3) := by decide +kernel
theorem dX11_kin_22 : decode cX11_kin 22 = .ok (.iload_n 2, 1) := by decide +kernel
theorem dX11_kin_23 : decode cX11_kin 23 = .ok (.ifCond .eq 13, 3) := by decide +kernel
theorem dX11_kin_26 : decode cX11_kin 26 = .ok (.aload_n 0, 1) := by decide +kernel
theorem dX11_kin_27 : decode cX11_kin 27 = .ok (.getfield 18, 3) := by decide +kernel
theorem dX11_kin_30 : decode cX11_kin 30 = .ok (.getfield 186, 3) := by decide +kernel
theorem dX11_kin_33 : decode cX11_kin 33 = .ok (.goto 10, 3) := by decide +kernel
theorem dX11_kin_36 : decode cX11_kin 36 = .ok (.aload_n 0, 1) := by decide +kernel
theorem dX11_kin_37 : decode cX11_kin 37 = .ok (.getfield 18, 3) := by decide +kernel
theorem dX11_kin_40 : decode cX11_kin 40 = .ok (.getfield 189, 3) := by decide +kernel
theorem dX11_kin_43 : decode cX11_kin 43 = .ok (.ireturn, 1) := by decide +kernel
theorem dX11_settles_0 : decode cX11_settles 0 = .ok (.aload_n 0, 1) := by decide +kernel
theorem dX11_settles_1 : decode cX11_settles 1 = .ok (.getfield 18, 3) := by decide +kernel
theorem dX11_settles_4 : decode cX11_settles 4 = .ok (.iload_n 1, 1) := by decide +kernel
theorem dX11_settles_5 : decode cX11_settles 5 = .ok (.invokevirtual 146, 3) := by decide +kernel
theorem dX11_settles_8 : decode cX11_settles 8 = .ok (.ifCond .eq 18, 3) := by decide +kernel
theorem dX11_settles_11 : decode cX11_settles 11 = .ok (.aload_n 0, 1) := by decide +kernel
theorem dX11_settles_12 : decode cX11_settles 12 = .ok (.getfield 18, 3) := by decide +kernel
theorem dX11_settles_15 : decode cX11_settles 15 = .ok (.iload_n 1, 1) := by decide +kernel
theorem dX11_settles_16 : decode cX11_settles 16 = .ok (.aload_n 0, 1) := by decide +kernel
theorem dX11_settles_17 : decode cX11_settles 17 = .ok (.getfield 106, 3) := by decide +kernel
theorem dX11_settles_20 : decode cX11_settles 20 = .ok (.invokevirtual 192, 3) := by decide +kernel
theorem dX11_settles_23 : decode cX11_settles 23 = .ok (.goto 4, 3) := by decide +kernel
theorem dX11_settles_26 : decode cX11_settles 26 = .ok (.iconst (-1), 1) := by decide +kernel
theorem dX11_settles_27 : decode cX11_settles 27 = .ok (.ireturn, 1) := by decide +kernel
theorem dX11_row_0 : decode cX11_row 0 = .ok (.iload_n 1, 1) := by decide +kernel
theorem dX11_row_1 : decode cX11_row 1 = .ok (.invokestatic 115, 3) := by decide +kernel
theorem dX11_row_4 : decode cX11_row 4 = .ok (.ifCond .ne 9, 3) := by decide +kernel
theorem dX11_row_7 : decode cX11_row 7 = .ok (.aload_n 0, 1) := by decide +kernel
theorem dX11_row_8 : decode cX11_row 8 = .ok (.iconst (-1), 1) := by decide +kernel
theorem dX11_row_9 : decode cX11_row 9 = .ok (.invokevirtual 132, 3) := by decide +kernel
theorem dX11_row_12 : decode cX11_row 12 = .ok (.ireturn, 1) := by decide +kernel
theorem dX11_row_13 : decode cX11_row 13 = .ok (.iload_n 3, 1) := by decide +kernel
theorem dX11_row_14 : decode cX11_row 14 = .ok (.ifCond .ge 10, 3) := by decide +kernel
theorem dX11_row_17 : decode cX11_row 17 = .ok (.aload_n 0, 1) := by decide +kernel
theorem dX11_row_18 : decode cX11_row 18 = .ok (.bipush (-4), 2) := by decide +kernel
theorem dX11_row_20 : decode cX11_row 20 = .ok (.invokevirtual 132, 3) := by decide +kernel
theorem dX11_row_23 : decode cX11_row 23 = .ok (.ireturn, 1) := by decide +kernel
theorem dX11_row_24 : decode cX11_row 24 = .ok (.iload_n 2, 1) := by decide +kernel
theorem dX11_row_25 : decode cX11_row 25 = .ok (.iconst 0, 1) := by decide +kernel
theorem dX11_row_26 : decode cX11_row 26 = .ok (.iconst 3, 1) := by decide +kernel
theorem dX11_row_27 : decode cX11_row 27 = .ok (.invokestatic 111, 3) := by decide +kernel
theorem dX11_row_30 : decode cX11_row 30 = .ok (.ifCond .ne 10, 3) := by decide +kernel
theorem dX11_row_33 : decode cX11_row 33 = .ok (.aload_n 0, 1) := by decide +kernel
theorem dX11_row_34 : decode cX11_row 34 = .ok (.bipush (-6), 2) := by decide +kernel
theorem dX11_row_36 : decode cX11_row 36 = .ok (.invokevirtual 132, 3) := by decide +kernel
theorem dX11_row_39 : decode cX11_row 39 = .ok (.ireturn, 1) := by decide +kernel
theorem dX11_row_40 : decode cX11_row 40 = .ok (.iload_n 3, 1) := by decide +kernel
theorem dX11_row_41 : decode cX11_row 41 = .ok (.bipush 80, 2) := by decide +kernel
theorem dX11_row_43 : decode cX11_row 43 = .ok (.if_icmp .le 10, 3) := by decide +kernel
theorem dX11_row_46 : decode cX11_row 46 = .ok (.aload_n 0, 1) := by decide +kernel
theorem dX11_row_47 : decode cX11_row 47 = .ok (.bipush (-7), 2) := by decide +kernel
theorem dX11_row_49 : decode cX11_row 49 = .ok (.invokevirtual 132, 3) := by decide +kernel
theorem dX11_row_52 : decode cX11_row 52 = .ok (.ireturn, 1) := by decide +kernel
theorem dX11_row_53 : decode cX11_row 53 = .ok (.aload_n 0, 1) := by decide +kernel
theorem dX11_row_54 : decode cX11_row 54 = .ok (.getfield 11, 3) := by decide +kernel
theorem dX11_row_57 : decode cX11_row 57 = .ok (.iload_n 1, 1) := by decide +kernel
theorem dX11_row_58 : decode cX11_row 58 = .ok (.aaload, 1) := by decide +kernel
theorem dX11_row_59 : decode cX11_row 59 = .ok (.iload_n 2, 1) := by decide +kernel
theorem dX11_row_60 : decode cX11_row 60 = .ok (.iload_n 3, 1) := by decide +kernel
theorem dX11_row_61 : decode cX11_row 61 = .ok (.invokevirtual 195, 3) := by decide +kernel
theorem dX11_row_64 : decode cX11_row 64 = .ok (.iconst 1, 1) := by decide +kernel
theorem dX11_row_65 : decode cX11_row 65 = .ok (.ireturn, 1) := by decide +kernel
theorem dX11_set_0 : decode cX11_set 0 = .ok (.aload_n 0, 1) := by decide +kernel
theorem dX11_set_1 : decode cX11_set 1 = .ok (.iload_n 1, 1) := by decide +kernel
theorem dX11_set_2 : decode cX11_set 2 = .ok (.invokevirtual 198, 3) := by decide +kernel
theorem dX11_set_5 : decode cX11_set 5 = .ok (.istore 5, 2) := by decide +kernel
theorem dX11_set_7 : decode cX11_set 7 = .ok (.iload 5, 2) := by decide +kernel
theorem dX11_set_9 : decode cX11_set 9 = .ok (.ifCond .eq 10, 3) := by decide +kernel
theorem dX11_set_12 : decode cX11_set 12 = .ok (.aload_n 0, 1) := by decide +kernel
theorem dX11_set_13 : decode cX11_set 13 = .ok (.iload 5, 2) := by decide +kernel
theorem dX11_set_15 : decode cX11_set 15 = .ok (.invokevirtual 132, 3) := by decide +kernel
theorem dX11_set_18 : decode cX11_set 18 = .ok (.ireturn, 1) := by decide +kernel
theorem dX11_set_19 : decode cX11_set 19 = .ok (.aload_n 0, 1) := by decide +kernel
theorem dX11_set_20 : decode cX11_set 20 = .ok (.getfield 11, 3) := by decide +kernel
theorem dX11_set_23 : decode cX11_set 23 = .ok (.iload_n 1, 1) := by decide +kernel
theorem dX11_set_24 : decode cX11_set 24 = .ok (.aaload, 1) := by decide +kernel
theorem dX11_set_25 : decode cX11_set 25 = .ok (.iload_n 2, 1) := by decide +kernel
theorem dX11_set_26 : decode cX11_set 26 = .ok (.invokevirtual 201, 3) := by decide +kernel
theorem dX11_set_29 : decode cX11_set 29 = .ok (.ifCond .ne 10, 3) := by decide +kernel
theorem dX11_set_32 : decode cX11_set 32 = .ok (.aload_n 0, 1) := by decide +kernel
theorem dX11_set_33 : decode cX11_set 33 = .ok (.bipush (-5), 2) := by decide +kernel
theorem dX11_set_35 : decode cX11_set 35 = .ok (.invokevirtual 132, 3) := by decide +kernel
theorem dX11_set_38 : decode cX11_set 38 = .ok (.ireturn, 1) := by decide +kernel
theorem dX11_set_39 : decode cX11_set 39 = .ok (.aload_n 0, 1) := by decide +kernel
theorem dX11_set_40 : decode cX11_set 40 = .ok (.getfield 11, 3) := by decide +kernel
theorem dX11_set_43 : decode cX11_set 43 = .ok (.iload_n 1, 1) := by decide +kernel
theorem dX11_set_44 : decode cX11_set 44 = .ok (.aaload, 1) := by decide +kernel
theorem dX11_set_45 : decode cX11_set 45 = .ok (.iload_n 2, 1) := by decide +kernel
theorem dX11_set_46 : decode cX11_set 46 = .ok (.lload_n 3, 1) := by decide +kernel
theorem dX11_set_47 : decode cX11_set 47 = .ok (.invokevirtual 204, 3) := by decide +kernel
theorem dX11_set_50 : decode cX11_set 50 = .ok (.iconst 1, 1) := by decide +kernel
theorem dX11_set_51 : decode cX11_set 51 = .ok (.ireturn, 1) := by decide +kernel
theorem dX11_copy_0 : decode cX11_copy 0 = .ok (.aload_n 0, 1) := by decide +kernel
theorem dX11_copy_1 : decode cX11_copy 1 = .ok (.iload_n 1, 1) := by decide +kernel
theorem dX11_copy_2 : decode cX11_copy 2 = .ok (.invokevirtual 198, 3) := by decide +kernel
theorem dX11_copy_5 : decode cX11_copy 5 = .ok (.aload_n 0, 1) := by decide +kernel
theorem dX11_copy_6 : decode cX11_copy 6 = .ok (.iload_n 2, 1) := by decide +kernel
theorem dX11_copy_7 : decode cX11_copy 7 = .ok (.invokevirtual 198, 3) := by decide +kernel
theorem dX11_copy_10 : decode cX11_copy 10 = .ok (.invokestatic 208, 3) := by decide +kernel
theorem dX11_copy_13 : decode cX11_copy 13 = .ok (.istore 6, 2) := by decide +kernel
theorem dX11_copy_15 : decode cX11_copy 15 = .ok (.iload 6, 2) := by decide +kernel
theorem dX11_copy_17 : decode cX11_copy 17 = .ok (.ifCond .eq 10, 3) := by decide +kernel
theorem dX11_copy_20 : decode cX11_copy 20 = .ok (.aload_n 0, 1) := by decide +kernel
theorem dX11_copy_21 : decode cX11_copy 21 = .ok (.iload 6, 2) := by decide +kernel
theorem dX11_copy_23 : decode cX11_copy 23 = .ok (.invokevirtual 132, 3) := by decide +kernel
theorem dX11_copy_26 : decode cX11_copy 26 = .ok (.ireturn, 1) := by decide +kernel
theorem dX11_copy_27 : decode cX11_copy 27 = .ok (.aload_n 0, 1) := by decide +kernel
theorem dX11_copy_28 : decode cX11_copy 28 = .ok (.getfield 11, 3) := by decide +kernel
theorem dX11_copy_31 : decode cX11_copy 31 = .ok (.iload_n 1, 1) := by decide +kernel
theorem dX11_copy_32 : decode cX11_copy 32 = .ok (.aaload, 1) := by decide +kernel
theorem dX11_copy_33 : decode cX11_copy 33 = .ok (.astore 7, 2) := by decide +kernel
theorem dX11_copy_35 : decode cX11_copy 35 = .ok (.aload_n 0, 1) := by decide +kernel
theorem dX11_copy_36 : decode cX11_copy 36 = .ok (.getfield 11, 3) := by decide +kernel
theorem dX11_copy_39 : decode cX11_copy 39 = .ok (.iload_n 2, 1) := by decide +kernel
theorem dX11_copy_40 : decode cX11_copy 40 = .ok (.aaload, 1) := by decide +kernel
theorem dX11_copy_41 : decode cX11_copy 41 = .ok (.astore 8, 2) := by decide +kernel
theorem dX11_copy_43 : decode cX11_copy 43 = .ok (.aload 7, 2) := by decide +kernel
theorem dX11_copy_45 : decode cX11_copy 45 = .ok (.getfield 122, 3) := by decide +kernel
theorem dX11_copy_48 : decode cX11_copy 48 = .ok (.aload 8, 2) := by decide +kernel
theorem dX11_copy_50 : decode cX11_copy 50 = .ok (.getfield 122, 3) := by decide +kernel
theorem dX11_copy_53 : decode cX11_copy 53 = .ok (.if_icmp .eq 10, 3) := by decide +kernel
theorem dX11_copy_56 : decode cX11_copy 56 = .ok (.aload_n 0, 1) := by decide +kernel
theorem dX11_copy_57 : decode cX11_copy 57 = .ok (.bipush (-2), 2) := by decide +kernel
theorem dX11_copy_59 : decode cX11_copy 59 = .ok (.invokevirtual 132, 3) := by decide +kernel
theorem dX11_copy_62 : decode cX11_copy 62 = .ok (.ireturn, 1) := by decide +kernel
theorem dX11_copy_63 : decode cX11_copy 63 = .ok (.iload 5, 2) := by decide +kernel
theorem dX11_copy_65 : decode cX11_copy 65 = .ok (.ifCond .ge 10, 3) := by decide +kernel
theorem dX11_copy_68 : decode cX11_copy 68 = .ok (.aload_n 0, 1) := by decide +kernel
theorem dX11_copy_69 : decode cX11_copy 69 = .ok (.bipush (-4), 2) := by decide +kernel
theorem dX11_copy_71 : decode cX11_copy 71 = .ok (.invokevirtual 132, 3) := by decide +kernel
theorem dX11_copy_74 : decode cX11_copy 74 = .ok (.ireturn, 1) := by decide +kernel
theorem dX11_copy_75 : decode cX11_copy 75 = .ok (.aload 7, 2) := by decide +kernel
theorem dX11_copy_77 : decode cX11_copy 77 = .ok (.iload_n 3, 1) := by decide +kernel
theorem dX11_copy_78 : decode cX11_copy 78 = .ok (.iload 5, 2) := by decide +kernel
theorem dX11_copy_80 : decode cX11_copy 80 = .ok (.invokevirtual 211, 3) := by decide +kernel
theorem dX11_copy_83 : decode cX11_copy 83 = .ok (.ifCond .eq 15, 3) := by decide +kernel
theorem dX11_copy_86 : decode cX11_copy 86 = .ok (.aload 8, 2) := by decide +kernel
theorem dX11_copy_88 : decode cX11_copy 88 = .ok (.iload 4, 2) := by decide +kernel
theorem dX11_copy_90 : decode cX11_copy 90 = .ok (.iload 5, 2) := by decide +kernel
theorem dX11_copy_92 : decode cX11_copy 92 = .ok (.invokevirtual 211, 3) := by decide +kernel
theorem dX11_copy_95 : decode cX11_copy 95 = .ok (.ifCond .ne 10, 3) := by decide +kernel
theorem dX11_copy_98 : decode cX11_copy 98 = .ok (.aload_n 0, 1) := by decide +kernel
theorem dX11_copy_99 : decode cX11_copy 99 = .ok (.bipush (-5), 2) := by decide +kernel
theorem dX11_copy_101 : decode cX11_copy 101 = .ok (.invokevirtual 132, 3) := by decide +kernel
theorem dX11_copy_104 : decode cX11_copy 104 = .ok (.ireturn, 1) := by decide +kernel
theorem dX11_copy_105 : decode cX11_copy 105 = .ok (.aload 7, 2) := by decide +kernel
theorem dX11_copy_107 : decode cX11_copy 107 = .ok (.getfield 215, 3) := by decide +kernel
theorem dX11_copy_110 : decode cX11_copy 110 = .ok (.iload_n 3, 1) := by decide +kernel
theorem dX11_copy_111 : decode cX11_copy 111 = .ok (.aload 8, 2) := by decide +kernel
theorem dX11_copy_113 : decode cX11_copy 113 = .ok (.getfield 215, 3) := by decide +kernel
theorem dX11_copy_116 : decode cX11_copy 116 = .ok (.iload 4, 2) := by decide +kernel
theorem dX11_copy_118 : decode cX11_copy 118 = .ok (.iload 5, 2) := by decide +kernel
theorem dX11_copy_120 : decode cX11_copy 120 = .ok (.invokestatic 219, 3) := by decide +kernel
theorem dX11_copy_123 : decode cX11_copy 123 = .ok (.iconst 1, 1) := by decide +kernel
theorem dX11_copy_124 : decode cX11_copy 124 = .ok (.ireturn, 1) := by decide +kernel
theorem dX11_element_0 : decode cX11_element 0 = .ok (.aload_n 0, 1) := by decide +kernel
theorem dX11_element_1 : decode cX11_element 1 = .ok (.iload_n 1, 1) := by decide +kernel
theorem dX11_element_2 : decode cX11_element 2 = .ok (.invokevirtual 198, 3) := by decide +kernel
theorem dX11_element_5 : decode cX11_element 5 = .ok (.ifCond .ne 30, 3) := by decide +kernel
theorem dX11_element_8 : decode cX11_element 8 = .ok (.aload_n 0, 1) := by decide +kernel
theorem dX11_element_9 : decode cX11_element 9 = .ok (.getfield 11, 3) := by decide +kernel
theorem dX11_element_12 : decode cX11_element 12 = .ok (.iload_n 1, 1) := by decide +kernel
theorem dX11_element_13 : decode cX11_element 13 = .ok (.aaload, 1) := by decide +kernel
theorem dX11_element_14 : decode cX11_element 14 = .ok (.iload_n 2, 1) := by decide +kernel
theorem dX11_element_15 : decode cX11_element 15 = .ok (.invokevirtual 201, 3) := by decide +kernel
theorem dX11_element_18 : decode cX11_element 18 = .ok (.ifCond .eq 17, 3) := by decide +kernel
theorem dX11_element_21 : decode cX11_element 21 = .ok (.aload_n 0, 1) := by decide +kernel
theorem dX11_element_22 : decode cX11_element 22 = .ok (.getfield 11, 3) := by decide +kernel
theorem dX11_element_25 : decode cX11_element 25 = .ok (.iload_n 1, 1) := by decide +kernel
theorem dX11_element_26 : decode cX11_element 26 = .ok (.aaload, 1) := by decide +kernel
theorem dX11_element_27 : decode cX11_element 27 = .ok (.getfield 215, 3) := by decide +kernel
theorem dX11_element_30 : decode cX11_element 30 = .ok (.iload_n 2, 1) := by decide +kernel
theorem dX11_element_31 : decode cX11_element 31 = .ok (.laload, 1) := by decide +kernel
theorem dX11_element_32 : decode cX11_element 32 = .ok (.goto 4, 3) := by decide +kernel
theorem dX11_element_35 : decode cX11_element 35 = .ok (.lconst 0, 1) := by decide +kernel
theorem dX11_element_36 : decode cX11_element 36 = .ok (.lreturn, 1) := by decide +kernel
theorem dX11_show_0 : decode cX11_show 0 = .ok (.iload_n 1, 1) := by decide +kernel
theorem dX11_show_1 : decode cX11_show 1 = .ok (.invokestatic 115, 3) := by decide +kernel
theorem dX11_show_4 : decode cX11_show 4 = .ok (.ifCond .eq 19, 3) := by decide +kernel
theorem dX11_show_7 : decode cX11_show 7 = .ok (.iload_n 2, 1) := by decide +kernel
theorem dX11_show_8 : decode cX11_show 8 = .ok (.iconst (-1), 1) := by decide +kernel
theorem dX11_show_9 : decode cX11_show 9 = .ok (.if_icmp .eq 20, 3) := by decide +kernel
theorem dX11_show_12 : decode cX11_show 12 = .ok (.aload_n 0, 1) := by decide +kernel
theorem dX11_show_13 : decode cX11_show 13 = .ok (.getfield 18, 3) := by decide +kernel
theorem dX11_show_16 : decode cX11_show 16 = .ok (.iload_n 2, 1) := by decide +kernel
theorem dX11_show_17 : decode cX11_show 17 = .ok (.invokevirtual 146, 3) := by decide +kernel
theorem dX11_show_20 : decode cX11_show 20 = .ok (.ifCond .ne 9, 3) := by decide +kernel
theorem dX11_show_23 : decode cX11_show 23 = .ok (.aload_n 0, 1) := by decide +kernel
theorem dX11_show_24 : decode cX11_show 24 = .ok (.iconst (-1), 1) := by decide +kernel
theorem dX11_show_25 : decode cX11_show 25 = .ok (.invokevirtual 132, 3) := by decide +kernel
theorem dX11_show_28 : decode cX11_show 28 = .ok (.ireturn, 1) := by decide +kernel
theorem dX11_show_29 : decode cX11_show 29 = .ok (.aload_n 0, 1) := by decide +kernel
theorem dX11_show_30 : decode cX11_show 30 = .ok (.getfield 11, 3) := by decide +kernel
theorem dX11_show_33 : decode cX11_show 33 = .ok (.iload_n 1, 1) := by decide +kernel
theorem dX11_show_34 : decode cX11_show 34 = .ok (.aaload, 1) := by decide +kernel
theorem dX11_show_35 : decode cX11_show 35 = .ok (.iload_n 2, 1) := by decide +kernel
theorem dX11_show_36 : decode cX11_show 36 = .ok (.invokevirtual 225, 3) := by decide +kernel
theorem dX11_show_39 : decode cX11_show 39 = .ok (.iload_n 2, 1) := by decide +kernel
theorem dX11_show_40 : decode cX11_show 40 = .ok (.iconst (-1), 1) := by decide +kernel
theorem dX11_show_41 : decode cX11_show 41 = .ok (.if_icmp .ne 7, 3) := by decide +kernel
theorem dX11_show_44 : decode cX11_show 44 = .ok (.iconst 0, 1) := by decide +kernel
theorem dX11_show_45 : decode cX11_show 45 = .ok (.goto 4, 3) := by decide +kernel
theorem dX11_show_48 : decode cX11_show 48 = .ok (.iconst 1, 1) := by decide +kernel
theorem dX11_show_49 : decode cX11_show 49 = .ok (.ireturn, 1) := by decide +kernel
theorem dX11_holds_0 : decode cX11_holds 0 = .ok (.iload_n 1, 1) := by decide +kernel
theorem dX11_holds_1 : decode cX11_holds 1 = .ok (.invokestatic 115, 3) := by decide +kernel
theorem dX11_holds_4 : decode cX11_holds 4 = .ok (.ifCond .ne 5, 3) := by decide +kernel
theorem dX11_holds_7 : decode cX11_holds 7 = .ok (.iconst (-1), 1) := by decide +kernel
theorem dX11_holds_8 : decode cX11_holds 8 = .ok (.ireturn, 1) := by decide +kernel
theorem dX11_holds_9 : decode cX11_holds 9 = .ok (.aload_n 0, 1) := by decide +kernel
theorem dX11_holds_10 : decode cX11_holds 10 = .ok (.getfield 11, 3) := by decide +kernel
theorem dX11_holds_13 : decode cX11_holds 13 = .ok (.iload_n 1, 1) := by decide +kernel
theorem dX11_holds_14 : decode cX11_holds 14 = .ok (.aaload, 1) := by decide +kernel
theorem dX11_holds_15 : decode cX11_holds 15 = .ok (.getfield 122, 3) := by decide +kernel
theorem dX11_holds_18 : decode cX11_holds 18 = .ok (.iconst (-1), 1) := by decide +kernel
theorem dX11_holds_19 : decode cX11_holds 19 = .ok (.if_icmp .ne 15, 3) := by decide +kernel
theorem dX11_holds_22 : decode cX11_holds 22 = .ok (.aload_n 0, 1) := by decide +kernel
theorem dX11_holds_23 : decode cX11_holds 23 = .ok (.getfield 11, 3) := by decide +kernel
theorem dX11_holds_26 : decode cX11_holds 26 = .ok (.iload_n 1, 1) := by decide +kernel
theorem dX11_holds_27 : decode cX11_holds 27 = .ok (.aaload, 1) := by decide +kernel
theorem dX11_holds_28 : decode cX11_holds 28 = .ok (.getfield 119, 3) := by decide +kernel
theorem dX11_holds_31 : decode cX11_holds 31 = .ok (.goto 15, 3) := by decide +kernel
theorem dX11_holds_34 : decode cX11_holds 34 = .ok (.bipush 100, 2) := by decide +kernel
theorem dX11_holds_36 : decode cX11_holds 36 = .ok (.aload_n 0, 1) := by decide +kernel
theorem dX11_holds_37 : decode cX11_holds 37 = .ok (.getfield 11, 3) := by decide +kernel
theorem dX11_holds_40 : decode cX11_holds 40 = .ok (.iload_n 1, 1) := by decide +kernel
theorem dX11_holds_41 : decode cX11_holds 41 = .ok (.aaload, 1) := by decide +kernel
theorem dX11_holds_42 : decode cX11_holds 42 = .ok (.getfield 122, 3) := by decide +kernel
theorem dX11_holds_45 : decode cX11_holds 45 = .ok (.iadd, 1) := by decide +kernel
theorem dX11_holds_46 : decode cX11_holds 46 = .ok (.ireturn, 1) := by decide +kernel
theorem dX11_bornIn_0 : decode cX11_bornIn 0 = .ok (.iload_n 1, 1) := by decide +kernel
theorem dX11_bornIn_1 : decode cX11_bornIn 1 = .ok (.invokestatic 115, 3) := by decide +kernel
theorem dX11_bornIn_4 : decode cX11_bornIn 4 = .ok (.ifCond .ne 12, 3) := by decide +kernel
theorem dX11_bornIn_7 : decode cX11_bornIn 7 = .ok (.aload_n 0, 1) := by decide +kernel
theorem dX11_bornIn_8 : decode cX11_bornIn 8 = .ok (.iconst (-1), 1) := by decide +kernel
theorem dX11_bornIn_9 : decode cX11_bornIn 9 = .ok (.invokevirtual 132, 3) := by decide +kernel
theorem dX11_bornIn_12 : decode cX11_bornIn 12 = .ok (.ldc 228, 2) := by decide +kernel
theorem dX11_bornIn_14 : decode cX11_bornIn 14 = .ok (.isub, 1) := by decide +kernel
theorem dX11_bornIn_15 : decode cX11_bornIn 15 = .ok (.ireturn, 1) := by decide +kernel
theorem dX11_bornIn_16 : decode cX11_bornIn 16 = .ok (.aload_n 0, 1) := by decide +kernel
theorem dX11_bornIn_17 : decode cX11_bornIn 17 = .ok (.getfield 11, 3) := by decide +kernel
theorem dX11_bornIn_20 : decode cX11_bornIn 20 = .ok (.iload_n 1, 1) := by decide +kernel
theorem dX11_bornIn_21 : decode cX11_bornIn 21 = .ok (.aaload, 1) := by decide +kernel
theorem dX11_bornIn_22 : decode cX11_bornIn 22 = .ok (.getfield 122, 3) := by decide +kernel
theorem dX11_bornIn_25 : decode cX11_bornIn 25 = .ok (.iconst (-1), 1) := by decide +kernel
theorem dX11_bornIn_26 : decode cX11_bornIn 26 = .ok (.if_icmp .eq 13, 3) := by decide +kernel
theorem dX11_bornIn_29 : decode cX11_bornIn 29 = .ok (.aload_n 0, 1) := by decide +kernel
theorem dX11_bornIn_30 : decode cX11_bornIn 30 = .ok (.bipush (-2), 2) := by decide +kernel
theorem dX11_bornIn_32 : decode cX11_bornIn 32 = .ok (.invokevirtual 132, 3) := by decide +kernel
theorem dX11_bornIn_35 : decode cX11_bornIn 35 = .ok (.ldc 228, 2) := by decide +kernel
theorem dX11_bornIn_37 : decode cX11_bornIn 37 = .ok (.isub, 1) := by decide +kernel
theorem dX11_bornIn_38 : decode cX11_bornIn 38 = .ok (.ireturn, 1) := by decide +kernel
theorem dX11_bornIn_39 : decode cX11_bornIn 39 = .ok (.aload_n 0, 1) := by decide +kernel
theorem dX11_bornIn_40 : decode cX11_bornIn 40 = .ok (.getfield 11, 3) := by decide +kernel
theorem dX11_bornIn_43 : decode cX11_bornIn 43 = .ok (.iload_n 1, 1) := by decide +kernel
theorem dX11_bornIn_44 : decode cX11_bornIn 44 = .ok (.aaload, 1) := by decide +kernel
theorem dX11_bornIn_45 : decode cX11_bornIn 45 = .ok (.getfield 119, 3) := by decide +kernel
theorem dX11_bornIn_48 : decode cX11_bornIn 48 = .ok (.istore_n 2, 1) := by decide +kernel
theorem dX11_bornIn_49 : decode cX11_bornIn 49 = .ok (.aload_n 0, 1) := by decide +kernel
theorem dX11_bornIn_50 : decode cX11_bornIn 50 = .ok (.getfield 18, 3) := by decide +kernel
theorem dX11_bornIn_53 : decode cX11_bornIn 53 = .ok (.iload_n 2, 1) := by decide +kernel
theorem dX11_bornIn_54 : decode cX11_bornIn 54 = .ok (.invokevirtual 146, 3) := by decide +kernel
theorem dX11_bornIn_57 : decode cX11_bornIn 57 = .ok (.ifCond .eq 15, 3) := by decide +kernel
theorem dX11_bornIn_60 : decode cX11_bornIn 60 = .ok (.aload_n 0, 1) := by decide +kernel
theorem dX11_bornIn_61 : decode cX11_bornIn 61 = .ok (.getfield 18, 3) := by decide +kernel
theorem dX11_bornIn_64 : decode cX11_bornIn 64 = .ok (.getfield 172, 3) := by decide +kernel
theorem dX11_bornIn_67 : decode cX11_bornIn 67 = .ok (.iload_n 2, 1) := by decide +kernel
theorem dX11_bornIn_68 : decode cX11_bornIn 68 = .ok (.iaload, 1) := by decide +kernel
theorem dX11_bornIn_69 : decode cX11_bornIn 69 = .ok (.goto 12, 3) := by decide +kernel
theorem dX11_bornIn_72 : decode cX11_bornIn 72 = .ok (.aload_n 0, 1) := by decide +kernel
theorem dX11_bornIn_73 : decode cX11_bornIn 73 = .ok (.bipush (-3), 2) := by decide +kernel
theorem dX11_bornIn_75 : decode cX11_bornIn 75 = .ok (.invokevirtual 132, 3) := by decide +kernel
theorem dX11_bornIn_78 : decode cX11_bornIn 78 = .ok (.ldc 228, 2) := by decide +kernel
theorem dX11_bornIn_80 : decode cX11_bornIn 80 = .ok (.isub, 1) := by decide +kernel
theorem dX11_bornIn_81 : decode cX11_bornIn 81 = .ok (.ireturn, 1) := by decide +kernel
theorem dX11_statute_0 : decode cX11_statute 0 = .ok (.iload_n 1, 1) := by decide +kernel
theorem dX11_statute_1 : decode cX11_statute 1 = .ok (.invokestatic 229, 3) := by decide +kernel
theorem dX11_statute_4 : decode cX11_statute 4 = .ok (.ifCond .eq 11, 3) := by decide +kernel
theorem dX11_statute_7 : decode cX11_statute 7 = .ok (.aload_n 0, 1) := by decide +kernel
theorem dX11_statute_8 : decode cX11_statute 8 = .ok (.iload_n 2, 1) := by decide +kernel
theorem dX11_statute_9 : decode cX11_statute 9 = .ok (.invokevirtual 198, 3) := by decide +kernel
theorem dX11_statute_12 : decode cX11_statute 12 = .ok (.goto 4, 3) := by decide +kernel
theorem dX11_statute_15 : decode cX11_statute 15 = .ok (.iconst (-1), 1) := by decide +kernel
theorem dX11_statute_16 : decode cX11_statute 16 = .ok (.istore_n 3, 1) := by decide +kernel
theorem dX11_statute_17 : decode cX11_statute 17 = .ok (.iload_n 3, 1) := by decide +kernel
theorem dX11_statute_18 : decode cX11_statute 18 = .ok (.ifCond .eq 9, 3) := by decide +kernel
theorem dX11_statute_21 : decode cX11_statute 21 = .ok (.aload_n 0, 1) := by decide +kernel
theorem dX11_statute_22 : decode cX11_statute 22 = .ok (.iload_n 3, 1) := by decide +kernel
theorem dX11_statute_23 : decode cX11_statute 23 = .ok (.invokevirtual 132, 3) := by decide +kernel
theorem dX11_statute_26 : decode cX11_statute 26 = .ok (.ireturn, 1) := by decide +kernel
theorem dX11_statute_27 : decode cX11_statute 27 = .ok (.aload_n 0, 1) := by decide +kernel
theorem dX11_statute_28 : decode cX11_statute 28 = .ok (.getfield 25, 3) := by decide +kernel
theorem dX11_statute_31 : decode cX11_statute 31 = .ok (.getfield 232, 3) := by decide +kernel
theorem dX11_statute_34 : decode cX11_statute 34 = .ok (.iload_n 1, 1) := by decide +kernel
theorem dX11_statute_35 : decode cX11_statute 35 = .ok (.iaload, 1) := by decide +kernel
theorem dX11_statute_36 : decode cX11_statute 36 = .ok (.ifCond .ne 15, 3) := by decide +kernel
theorem dX11_statute_39 : decode cX11_statute 39 = .ok (.aload_n 0, 1) := by decide +kernel
theorem dX11_statute_40 : decode cX11_statute 40 = .ok (.getfield 11, 3) := by decide +kernel
theorem dX11_statute_43 : decode cX11_statute 43 = .ok (.iload_n 2, 1) := by decide +kernel
theorem dX11_statute_44 : decode cX11_statute 44 = .ok (.aaload, 1) := by decide +kernel
theorem dX11_statute_45 : decode cX11_statute 45 = .ok (.getfield 235, 3) := by decide +kernel
theorem dX11_statute_48 : decode cX11_statute 48 = .ok (.ifCond .ne 10, 3) := by decide +kernel
theorem dX11_statute_51 : decode cX11_statute 51 = .ok (.aload_n 0, 1) := by decide +kernel
theorem dX11_statute_52 : decode cX11_statute 52 = .ok (.bipush (-6), 2) := by decide +kernel
theorem dX11_statute_54 : decode cX11_statute 54 = .ok (.invokevirtual 132, 3) := by decide +kernel
theorem dX11_statute_57 : decode cX11_statute 57 = .ok (.ireturn, 1) := by decide +kernel
theorem dX11_statute_58 : decode cX11_statute 58 = .ok (.aload_n 0, 1) := by decide +kernel
theorem dX11_statute_59 : decode cX11_statute 59 = .ok (.getfield 25, 3) := by decide +kernel
theorem dX11_statute_62 : decode cX11_statute 62 = .ok (.iload_n 1, 1) := by decide +kernel
theorem dX11_statute_63 : decode cX11_statute 63 = .ok (.aload_n 0, 1) := by decide +kernel
theorem dX11_statute_64 : decode cX11_statute 64 = .ok (.getfield 11, 3) := by decide +kernel
theorem dX11_statute_67 : decode cX11_statute 67 = .ok (.iload_n 2, 1) := by decide +kernel
theorem dX11_statute_68 : decode cX11_statute 68 = .ok (.aaload, 1) := by decide +kernel
theorem dX11_statute_69 : decode cX11_statute 69 = .ok (.invokevirtual 238, 3) := by decide +kernel
theorem dX11_statute_72 : decode cX11_statute 72 = .ok (.ireturn, 1) := by decide +kernel
theorem dX11_amend_0 : decode cX11_amend 0 = .ok (.iload_n 1, 1) := by decide +kernel
theorem dX11_amend_1 : decode cX11_amend 1 = .ok (.invokestatic 229, 3) := by decide +kernel
theorem dX11_amend_4 : decode cX11_amend 4 = .ok (.ifCond .eq 19, 3) := by decide +kernel
theorem dX11_amend_7 : decode cX11_amend 7 = .ok (.aload_n 0, 1) := by decide +kernel
theorem dX11_amend_8 : decode cX11_amend 8 = .ok (.iload_n 2, 1) := by decide +kernel
theorem dX11_amend_9 : decode cX11_amend 9 = .ok (.invokevirtual 198, 3) := by decide +kernel
theorem dX11_amend_12 : decode cX11_amend 12 = .ok (.aload_n 0, 1) := by decide +kernel
theorem dX11_amend_13 : decode cX11_amend 13 = .ok (.iload_n 3, 1) := by decide +kernel
theorem dX11_amend_14 : decode cX11_amend 14 = .ok (.invokevirtual 198, 3) := by decide +kernel
theorem dX11_amend_17 : decode cX11_amend 17 = .ok (.invokestatic 208, 3) := by decide +kernel
theorem dX11_amend_20 : decode cX11_amend 20 = .ok (.goto 4, 3) := by decide +kernel
theorem dX11_amend_23 : decode cX11_amend 23 = .ok (.iconst (-1), 1) := by decide +kernel
