theorem dX12_link_40 : decode cX12_link 40 = .ok (.iaload, 1) := by decide +kernel
theorem dX12_link_41 : decode cX12_link 41 = .ok (.iconst (-1), 1) := by decide +kernel
theorem dX12_link_42 : decode cX12_link 42 = .ok (.if_icmp .ne 8, 3) := by decide +kernel
theorem dX12_link_45 : decode cX12_link 45 = .ok (.iload_n 3, 1) := by decide +kernel
theorem dX12_link_46 : decode cX12_link 46 = .ok (.iload_n 1, 1) := by decide +kernel
theorem dX12_link_47 : decode cX12_link 47 = .ok (.if_icmp .ne 10, 3) := by decide +kernel
theorem dX12_link_50 : decode cX12_link 50 = .ok (.aload_n 0, 1) := by decide +kernel
theorem dX12_link_51 : decode cX12_link 51 = .ok (.bipush (-6), 2) := by decide +kernel
theorem dX12_link_53 : decode cX12_link 53 = .ok (.invokevirtual 267, 3) := by decide +kernel
theorem dX12_link_56 : decode cX12_link 56 = .ok (.ireturn, 1) := by decide +kernel
theorem dX12_link_57 : decode cX12_link 57 = .ok (.aload_n 0, 1) := by decide +kernel
theorem dX12_link_58 : decode cX12_link 58 = .ok (.iload_n 3, 1) := by decide +kernel
theorem dX12_link_59 : decode cX12_link 59 = .ok (.aload_n 0, 1) := by decide +kernel
theorem dX12_link_60 : decode cX12_link 60 = .ok (.getfield 262, 3) := by decide +kernel
theorem dX12_link_63 : decode cX12_link 63 = .ok (.aload_n 0, 1) := by decide +kernel
theorem dX12_link_64 : decode cX12_link 64 = .ok (.getfield 193, 3) := by decide +kernel
theorem dX12_link_67 : decode cX12_link 67 = .ok (.invokevirtual 275, 3) := by decide +kernel
theorem dX12_link_70 : decode cX12_link 70 = .ok (.aload_n 0, 1) := by decide +kernel
theorem dX12_link_71 : decode cX12_link 71 = .ok (.getfield 193, 3) := by decide +kernel
theorem dX12_link_74 : decode cX12_link 74 = .ok (.iload_n 1, 1) := by decide +kernel
theorem dX12_link_75 : decode cX12_link 75 = .ok (.iaload, 1) := by decide +kernel
theorem dX12_link_76 : decode cX12_link 76 = .ok (.iconst (-1), 1) := by decide +kernel
theorem dX12_link_77 : decode cX12_link 77 = .ok (.if_icmp .eq 10, 3) := by decide +kernel
theorem dX12_link_80 : decode cX12_link 80 = .ok (.aload_n 0, 1) := by decide +kernel
theorem dX12_link_81 : decode cX12_link 81 = .ok (.bipush (-6), 2) := by decide +kernel
theorem dX12_link_83 : decode cX12_link 83 = .ok (.invokevirtual 267, 3) := by decide +kernel
theorem dX12_link_86 : decode cX12_link 86 = .ok (.ireturn, 1) := by decide +kernel
theorem dX12_link_87 : decode cX12_link 87 = .ok (.aload_n 0, 1) := by decide +kernel
theorem dX12_link_88 : decode cX12_link 88 = .ok (.getfield 23, 3) := by decide +kernel
theorem dX12_link_91 : decode cX12_link 91 = .ok (.iconst 2, 1) := by decide +kernel
theorem dX12_link_92 : decode cX12_link 92 = .ok (.iload_n 1, 1) := by decide +kernel
theorem dX12_link_93 : decode cX12_link 93 = .ok (.imul, 1) := by decide +kernel
theorem dX12_link_94 : decode cX12_link 94 = .ok (.iload_n 2, 1) := by decide +kernel
theorem dX12_link_95 : decode cX12_link 95 = .ok (.iadd, 1) := by decide +kernel
theorem dX12_link_96 : decode cX12_link 96 = .ok (.iload_n 3, 1) := by decide +kernel
theorem dX12_link_97 : decode cX12_link 97 = .ok (.iastore, 1) := by decide +kernel
theorem dX12_link_98 : decode cX12_link 98 = .ok (.aload_n 0, 1) := by decide +kernel
theorem dX12_link_99 : decode cX12_link 99 = .ok (.getfield 26, 3) := by decide +kernel
theorem dX12_link_102 : decode cX12_link 102 = .ok (.iconst 2, 1) := by decide +kernel
theorem dX12_link_103 : decode cX12_link 103 = .ok (.iload_n 1, 1) := by decide +kernel
theorem dX12_link_104 : decode cX12_link 104 = .ok (.imul, 1) := by decide +kernel
theorem dX12_link_105 : decode cX12_link 105 = .ok (.iload_n 2, 1) := by decide +kernel
theorem dX12_link_106 : decode cX12_link 106 = .ok (.iadd, 1) := by decide +kernel
theorem dX12_link_107 : decode cX12_link 107 = .ok (.aload_n 0, 1) := by decide +kernel
theorem dX12_link_108 : decode cX12_link 108 = .ok (.getfield 262, 3) := by decide +kernel
theorem dX12_link_111 : decode cX12_link 111 = .ok (.iastore, 1) := by decide +kernel
theorem dX12_link_112 : decode cX12_link 112 = .ok (.iconst 1, 1) := by decide +kernel
theorem dX12_link_113 : decode cX12_link 113 = .ok (.ireturn, 1) := by decide +kernel
theorem dX12_fact_0 : decode cX12_fact 0 = .ok (.aload_n 0, 1) := by decide +kernel
theorem dX12_fact_1 : decode cX12_fact 1 = .ok (.iload_n 1, 1) := by decide +kernel
theorem dX12_fact_2 : decode cX12_fact 2 = .ok (.invokevirtual 271, 3) := by decide +kernel
theorem dX12_fact_5 : decode cX12_fact 5 = .ok (.ifCond .ne 9, 3) := by decide +kernel
theorem dX12_fact_8 : decode cX12_fact 8 = .ok (.aload_n 0, 1) := by decide +kernel
theorem dX12_fact_9 : decode cX12_fact 9 = .ok (.iconst (-1), 1) := by decide +kernel
theorem dX12_fact_10 : decode cX12_fact 10 = .ok (.invokevirtual 267, 3) := by decide +kernel
theorem dX12_fact_13 : decode cX12_fact 13 = .ok (.ireturn, 1) := by decide +kernel
theorem dX12_fact_14 : decode cX12_fact 14 = .ok (.iload_n 2, 1) := by decide +kernel
theorem dX12_fact_15 : decode cX12_fact 15 = .ok (.ifCond .lt 35, 3) := by decide +kernel
theorem dX12_fact_18 : decode cX12_fact 18 = .ok (.iload_n 2, 1) := by decide +kernel
theorem dX12_fact_19 : decode cX12_fact 19 = .ok (.iconst 3, 1) := by decide +kernel
theorem dX12_fact_20 : decode cX12_fact 20 = .ok (.if_icmp .gt 30, 3) := by decide +kernel
theorem dX12_fact_23 : decode cX12_fact 23 = .ok (.iload_n 3, 1) := by decide +kernel
theorem dX12_fact_24 : decode cX12_fact 24 = .ok (.ifCond .lt 26, 3) := by decide +kernel
theorem dX12_fact_27 : decode cX12_fact 27 = .ok (.iload_n 3, 1) := by decide +kernel
theorem dX12_fact_28 : decode cX12_fact 28 = .ok (.sipush 9999, 3) := by decide +kernel
theorem dX12_fact_31 : decode cX12_fact 31 = .ok (.if_icmp .gt 19, 3) := by decide +kernel
theorem dX12_fact_34 : decode cX12_fact 34 = .ok (.iload 4, 2) := by decide +kernel
theorem dX12_fact_36 : decode cX12_fact 36 = .ok (.ldc_w 265, 3) := by decide +kernel
theorem dX12_fact_39 : decode cX12_fact 39 = .ok (.if_icmp .lt 11, 3) := by decide +kernel
theorem dX12_fact_42 : decode cX12_fact 42 = .ok (.iload 4, 2) := by decide +kernel
theorem dX12_fact_44 : decode cX12_fact 44 = .ok (.ldc_w 266, 3) := by decide +kernel
theorem dX12_fact_47 : decode cX12_fact 47 = .ok (.if_icmp .le 10, 3) := by decide +kernel
theorem dX12_fact_50 : decode cX12_fact 50 = .ok (.aload_n 0, 1) := by decide +kernel
theorem dX12_fact_51 : decode cX12_fact 51 = .ok (.bipush (-6), 2) := by decide +kernel
theorem dX12_fact_53 : decode cX12_fact 53 = .ok (.invokevirtual 267, 3) := by decide +kernel
theorem dX12_fact_56 : decode cX12_fact 56 = .ok (.ireturn, 1) := by decide +kernel
theorem dX12_fact_57 : decode cX12_fact 57 = .ok (.aload_n 0, 1) := by decide +kernel
theorem dX12_fact_58 : decode cX12_fact 58 = .ok (.getfield 279, 3) := by decide +kernel
theorem dX12_fact_61 : decode cX12_fact 61 = .ok (.sipush 400, 3) := by decide +kernel
theorem dX12_fact_64 : decode cX12_fact 64 = .ok (.if_icmp .ne 10, 3) := by decide +kernel
theorem dX12_fact_67 : decode cX12_fact 67 = .ok (.aload_n 0, 1) := by decide +kernel
theorem dX12_fact_68 : decode cX12_fact 68 = .ok (.bipush (-7), 2) := by decide +kernel
theorem dX12_fact_70 : decode cX12_fact 70 = .ok (.invokevirtual 267, 3) := by decide +kernel
theorem dX12_fact_73 : decode cX12_fact 73 = .ok (.ireturn, 1) := by decide +kernel
theorem dX12_fact_74 : decode cX12_fact 74 = .ok (.aload_n 0, 1) := by decide +kernel
theorem dX12_fact_75 : decode cX12_fact 75 = .ok (.getfield 36, 3) := by decide +kernel
theorem dX12_fact_78 : decode cX12_fact 78 = .ok (.aload_n 0, 1) := by decide +kernel
theorem dX12_fact_79 : decode cX12_fact 79 = .ok (.getfield 279, 3) := by decide +kernel
theorem dX12_fact_82 : decode cX12_fact 82 = .ok (.iload_n 1, 1) := by decide +kernel
theorem dX12_fact_83 : decode cX12_fact 83 = .ok (.iastore, 1) := by decide +kernel
theorem dX12_fact_84 : decode cX12_fact 84 = .ok (.aload_n 0, 1) := by decide +kernel
theorem dX12_fact_85 : decode cX12_fact 85 = .ok (.getfield 39, 3) := by decide +kernel
theorem dX12_fact_88 : decode cX12_fact 88 = .ok (.aload_n 0, 1) := by decide +kernel
theorem dX12_fact_89 : decode cX12_fact 89 = .ok (.getfield 279, 3) := by decide +kernel
theorem dX12_fact_92 : decode cX12_fact 92 = .ok (.iload_n 2, 1) := by decide +kernel
theorem dX12_fact_93 : decode cX12_fact 93 = .ok (.iastore, 1) := by decide +kernel
theorem dX12_fact_94 : decode cX12_fact 94 = .ok (.aload_n 0, 1) := by decide +kernel
theorem dX12_fact_95 : decode cX12_fact 95 = .ok (.getfield 42, 3) := by decide +kernel
theorem dX12_fact_98 : decode cX12_fact 98 = .ok (.aload_n 0, 1) := by decide +kernel
theorem dX12_fact_99 : decode cX12_fact 99 = .ok (.getfield 279, 3) := by decide +kernel
theorem dX12_fact_102 : decode cX12_fact 102 = .ok (.iload_n 3, 1) := by decide +kernel
theorem dX12_fact_103 : decode cX12_fact 103 = .ok (.iastore, 1) := by decide +kernel
theorem dX12_fact_104 : decode cX12_fact 104 = .ok (.aload_n 0, 1) := by decide +kernel
theorem dX12_fact_105 : decode cX12_fact 105 = .ok (.getfield 45, 3) := by decide +kernel
theorem dX12_fact_108 : decode cX12_fact 108 = .ok (.aload_n 0, 1) := by decide +kernel
theorem dX12_fact_109 : decode cX12_fact 109 = .ok (.getfield 279, 3) := by decide +kernel
theorem dX12_fact_112 : decode cX12_fact 112 = .ok (.iload 4, 2) := by decide +kernel
theorem dX12_fact_114 : decode cX12_fact 114 = .ok (.iastore, 1) := by decide +kernel
theorem dX12_fact_115 : decode cX12_fact 115 = .ok (.aload_n 0, 1) := by decide +kernel
theorem dX12_fact_116 : decode cX12_fact 116 = .ok (.getfield 48, 3) := by decide +kernel
theorem dX12_fact_119 : decode cX12_fact 119 = .ok (.aload_n 0, 1) := by decide +kernel
theorem dX12_fact_120 : decode cX12_fact 120 = .ok (.getfield 279, 3) := by decide +kernel
theorem dX12_fact_123 : decode cX12_fact 123 = .ok (.aload_n 0, 1) := by decide +kernel
theorem dX12_fact_124 : decode cX12_fact 124 = .ok (.getfield 262, 3) := by decide +kernel
theorem dX12_fact_127 : decode cX12_fact 127 = .ok (.iastore, 1) := by decide +kernel
theorem dX12_fact_128 : decode cX12_fact 128 = .ok (.aload_n 0, 1) := by decide +kernel
theorem dX12_fact_129 : decode cX12_fact 129 = .ok (.dup, 1) := by decide +kernel
theorem dX12_fact_130 : decode cX12_fact 130 = .ok (.getfield 279, 3) := by decide +kernel
theorem dX12_fact_133 : decode cX12_fact 133 = .ok (.iconst 1, 1) := by decide +kernel
theorem dX12_fact_134 : decode cX12_fact 134 = .ok (.iadd, 1) := by decide +kernel
theorem dX12_fact_135 : decode cX12_fact 135 = .ok (.dup_x1, 1) := by decide +kernel
theorem dX12_fact_136 : decode cX12_fact 136 = .ok (.putfield 279, 3) := by decide +kernel
theorem dX12_fact_139 : decode cX12_fact 139 = .ok (.ireturn, 1) := by decide +kernel
theorem dX12_death_0 : decode cX12_death 0 = .ok (.aload_n 0, 1) := by decide +kernel
theorem dX12_death_1 : decode cX12_death 1 = .ok (.iload_n 1, 1) := by decide +kernel
theorem dX12_death_2 : decode cX12_death 2 = .ok (.invokevirtual 271, 3) := by decide +kernel
theorem dX12_death_5 : decode cX12_death 5 = .ok (.ifCond .ne 9, 3) := by decide +kernel
theorem dX12_death_8 : decode cX12_death 8 = .ok (.aload_n 0, 1) := by decide +kernel
theorem dX12_death_9 : decode cX12_death 9 = .ok (.iconst (-1), 1) := by decide +kernel
theorem dX12_death_10 : decode cX12_death 10 = .ok (.invokevirtual 267, 3) := by decide +kernel
theorem dX12_death_13 : decode cX12_death 13 = .ok (.ireturn, 1) := by decide +kernel
theorem dX12_death_14 : decode cX12_death 14 = .ok (.aload_n 0, 1) := by decide +kernel
theorem dX12_death_15 : decode cX12_death 15 = .ok (.getfield 33, 3) := by decide +kernel
theorem dX12_death_18 : decode cX12_death 18 = .ok (.iload_n 1, 1) := by decide +kernel
theorem dX12_death_19 : decode cX12_death 19 = .ok (.baload, 1) := by decide +kernel
theorem dX12_death_20 : decode cX12_death 20 = .ok (.ifCond .ne 21, 3) := by decide +kernel
theorem dX12_death_23 : decode cX12_death 23 = .ok (.iload_n 2, 1) := by decide +kernel
theorem dX12_death_24 : decode cX12_death 24 = .ok (.aload_n 0, 1) := by decide +kernel
theorem dX12_death_25 : decode cX12_death 25 = .ok (.getfield 13, 3) := by decide +kernel
theorem dX12_death_28 : decode cX12_death 28 = .ok (.iload_n 1, 1) := by decide +kernel
theorem dX12_death_29 : decode cX12_death 29 = .ok (.iaload, 1) := by decide +kernel
theorem dX12_death_30 : decode cX12_death 30 = .ok (.if_icmp .lt 11, 3) := by decide +kernel
theorem dX12_death_33 : decode cX12_death 33 = .ok (.iload_n 2, 1) := by decide +kernel
theorem dX12_death_34 : decode cX12_death 34 = .ok (.aload_n 0, 1) := by decide +kernel
theorem dX12_death_35 : decode cX12_death 35 = .ok (.getfield 262, 3) := by decide +kernel
theorem dX12_death_38 : decode cX12_death 38 = .ok (.if_icmp .le 10, 3) := by decide +kernel
theorem dX12_death_41 : decode cX12_death 41 = .ok (.aload_n 0, 1) := by decide +kernel
theorem dX12_death_42 : decode cX12_death 42 = .ok (.bipush (-6), 2) := by decide +kernel
theorem dX12_death_44 : decode cX12_death 44 = .ok (.invokevirtual 267, 3) := by decide +kernel
theorem dX12_death_47 : decode cX12_death 47 = .ok (.ireturn, 1) := by decide +kernel
theorem dX12_death_48 : decode cX12_death 48 = .ok (.aload_n 0, 1) := by decide +kernel
theorem dX12_death_49 : decode cX12_death 49 = .ok (.getfield 33, 3) := by decide +kernel
theorem dX12_death_52 : decode cX12_death 52 = .ok (.iload_n 1, 1) := by decide +kernel
theorem dX12_death_53 : decode cX12_death 53 = .ok (.iconst 1, 1) := by decide +kernel
theorem dX12_death_54 : decode cX12_death 54 = .ok (.bastore, 1) := by decide +kernel
theorem dX12_death_55 : decode cX12_death 55 = .ok (.aload_n 0, 1) := by decide +kernel
theorem dX12_death_56 : decode cX12_death 56 = .ok (.getfield 17, 3) := by decide +kernel
theorem dX12_death_59 : decode cX12_death 59 = .ok (.iload_n 1, 1) := by decide +kernel
theorem dX12_death_60 : decode cX12_death 60 = .ok (.iload_n 2, 1) := by decide +kernel
theorem dX12_death_61 : decode cX12_death 61 = .ok (.iastore, 1) := by decide +kernel
theorem dX12_death_62 : decode cX12_death 62 = .ok (.aload_n 0, 1) := by decide +kernel
theorem dX12_death_63 : decode cX12_death 63 = .ok (.getfield 20, 3) := by decide +kernel
theorem dX12_death_66 : decode cX12_death 66 = .ok (.iload_n 1, 1) := by decide +kernel
theorem dX12_death_67 : decode cX12_death 67 = .ok (.aload_n 0, 1) := by decide +kernel
theorem dX12_death_68 : decode cX12_death 68 = .ok (.getfield 262, 3) := by decide +kernel
theorem dX12_death_71 : decode cX12_death 71 = .ok (.iastore, 1) := by decide +kernel
theorem dX12_death_72 : decode cX12_death 72 = .ok (.iconst 1, 1) := by decide +kernel
theorem dX12_death_73 : decode cX12_death 73 = .ok (.ireturn, 1) := by decide +kernel
theorem dX12_valueOf_0 : decode cX12_valueOf 0 = .ok (.iconst (-1), 1) := by decide +kernel
theorem dX12_valueOf_1 : decode cX12_valueOf 1 = .ok (.istore 5, 2) := by decide +kernel
theorem dX12_valueOf_3 : decode cX12_valueOf 3 = .ok (.iconst 0, 1) := by decide +kernel
theorem dX12_valueOf_4 : decode cX12_valueOf 4 = .ok (.istore 6, 2) := by decide +kernel
theorem dX12_valueOf_6 : decode cX12_valueOf 6 = .ok (.iload 6, 2) := by decide +kernel
theorem dX12_valueOf_8 : decode cX12_valueOf 8 = .ok (.aload_n 0, 1) := by decide +kernel
theorem dX12_valueOf_9 : decode cX12_valueOf 9 = .ok (.getfield 279, 3) := by decide +kernel
theorem dX12_valueOf_12 : decode cX12_valueOf 12 = .ok (.if_icmp .ge 84, 3) := by decide +kernel
theorem dX12_valueOf_15 : decode cX12_valueOf 15 = .ok (.aload_n 0, 1) := by decide +kernel
theorem dX12_valueOf_16 : decode cX12_valueOf 16 = .ok (.getfield 36, 3) := by decide +kernel
theorem dX12_valueOf_19 : decode cX12_valueOf 19 = .ok (.iload 6, 2) := by decide +kernel
theorem dX12_valueOf_21 : decode cX12_valueOf 21 = .ok (.iaload, 1) := by decide +kernel
theorem dX12_valueOf_22 : decode cX12_valueOf 22 = .ok (.iload_n 1, 1) := by decide +kernel
theorem dX12_valueOf_23 : decode cX12_valueOf 23 = .ok (.if_icmp .ne 67, 3) := by decide +kernel
theorem dX12_valueOf_26 : decode cX12_valueOf 26 = .ok (.aload_n 0, 1) := by decide +kernel
theorem dX12_valueOf_27 : decode cX12_valueOf 27 = .ok (.getfield 39, 3) := by decide +kernel
theorem dX12_valueOf_30 : decode cX12_valueOf 30 = .ok (.iload 6, 2) := by decide +kernel
theorem dX12_valueOf_32 : decode cX12_valueOf 32 = .ok (.iaload, 1) := by decide +kernel
theorem dX12_valueOf_33 : decode cX12_valueOf 33 = .ok (.iload_n 2, 1) := by decide +kernel
theorem dX12_valueOf_34 : decode cX12_valueOf 34 = .ok (.if_icmp .ne 56, 3) := by decide +kernel
theorem dX12_valueOf_37 : decode cX12_valueOf 37 = .ok (.aload_n 0, 1) := by decide +kernel
theorem dX12_valueOf_38 : decode cX12_valueOf 38 = .ok (.getfield 45, 3) := by decide +kernel
theorem dX12_valueOf_41 : decode cX12_valueOf 41 = .ok (.iload 6, 2) := by decide +kernel
theorem dX12_valueOf_43 : decode cX12_valueOf 43 = .ok (.iaload, 1) := by decide +kernel
theorem dX12_valueOf_44 : decode cX12_valueOf 44 = .ok (.iload_n 3, 1) := by decide +kernel
theorem dX12_valueOf_45 : decode cX12_valueOf 45 = .ok (.if_icmp .gt 45, 3) := by decide +kernel
theorem dX12_valueOf_48 : decode cX12_valueOf 48 = .ok (.aload_n 0, 1) := by decide +kernel
theorem dX12_valueOf_49 : decode cX12_valueOf 49 = .ok (.getfield 48, 3) := by decide +kernel
theorem dX12_valueOf_52 : decode cX12_valueOf 52 = .ok (.iload 6, 2) := by decide +kernel
theorem dX12_valueOf_54 : decode cX12_valueOf 54 = .ok (.iaload, 1) := by decide +kernel
theorem dX12_valueOf_55 : decode cX12_valueOf 55 = .ok (.iload 4, 2) := by decide +kernel
theorem dX12_valueOf_57 : decode cX12_valueOf 57 = .ok (.if_icmp .le 6, 3) := by decide +kernel
theorem dX12_valueOf_60 : decode cX12_valueOf 60 = .ok (.goto 30, 3) := by decide +kernel
theorem dX12_valueOf_63 : decode cX12_valueOf 63 = .ok (.iload 5, 2) := by decide +kernel
theorem dX12_valueOf_65 : decode cX12_valueOf 65 = .ok (.iconst (-1), 1) := by decide +kernel
theorem dX12_valueOf_66 : decode cX12_valueOf 66 = .ok (.if_icmp .eq 20, 3) := by decide +kernel
theorem dX12_valueOf_69 : decode cX12_valueOf 69 = .ok (.aload_n 0, 1) := by decide +kernel
theorem dX12_valueOf_70 : decode cX12_valueOf 70 = .ok (.getfield 45, 3) := by decide +kernel
theorem dX12_valueOf_73 : decode cX12_valueOf 73 = .ok (.iload 6, 2) := by decide +kernel
theorem dX12_valueOf_75 : decode cX12_valueOf 75 = .ok (.iaload, 1) := by decide +kernel
theorem dX12_valueOf_76 : decode cX12_valueOf 76 = .ok (.aload_n 0, 1) := by decide +kernel
theorem dX12_valueOf_77 : decode cX12_valueOf 77 = .ok (.getfield 45, 3) := by decide +kernel
theorem dX12_valueOf_80 : decode cX12_valueOf 80 = .ok (.iload 5, 2) := by decide +kernel
theorem dX12_valueOf_82 : decode cX12_valueOf 82 = .ok (.iaload, 1) := by decide +kernel
theorem dX12_valueOf_83 : decode cX12_valueOf 83 = .ok (.if_icmp .lt 7, 3) := by decide +kernel
theorem dX12_valueOf_86 : decode cX12_valueOf 86 = .ok (.iload 6, 2) := by decide +kernel
theorem dX12_valueOf_88 : decode cX12_valueOf 88 = .ok (.istore 5, 2) := by decide +kernel
theorem dX12_valueOf_90 : decode cX12_valueOf 90 = .ok (.iinc 6 1, 3) := by decide +kernel
theorem dX12_valueOf_93 : decode cX12_valueOf 93 = .ok (.goto (-87), 3) := by decide +kernel
theorem dX12_valueOf_96 : decode cX12_valueOf 96 = .ok (.iload 5, 2) := by decide +kernel
theorem dX12_valueOf_98 : decode cX12_valueOf 98 = .ok (.iconst (-1), 1) := by decide +kernel
theorem dX12_valueOf_99 : decode cX12_valueOf 99 = .ok (.if_icmp .ne 7, 3) := by decide +kernel
theorem dX12_valueOf_102 : decode cX12_valueOf 102 = .ok (.iconst 0, 1) := by decide +kernel
theorem dX12_valueOf_103 : decode cX12_valueOf 103 = .ok (.goto 10, 3) := by decide +kernel
theorem dX12_valueOf_106 : decode cX12_valueOf 106 = .ok (.aload_n 0, 1) := by decide +kernel
theorem dX12_valueOf_107 : decode cX12_valueOf 107 = .ok (.getfield 42, 3) := by decide +kernel
theorem dX12_valueOf_110 : decode cX12_valueOf 110 = .ok (.iload 5, 2) := by decide +kernel
theorem dX12_valueOf_112 : decode cX12_valueOf 112 = .ok (.iaload, 1) := by decide +kernel
theorem dX12_valueOf_113 : decode cX12_valueOf 113 = .ok (.ireturn, 1) := by decide +kernel
theorem dX12_is_0 : decode cX12_is 0 = .ok (.aload_n 0, 1) := by decide +kernel
theorem dX12_is_1 : decode cX12_is 1 = .ok (.iload_n 1, 1) := by decide +kernel
theorem dX12_is_2 : decode cX12_is 2 = .ok (.invokevirtual 271, 3) := by decide +kernel
theorem dX12_is_5 : decode cX12_is 5 = .ok (.ifCond .eq 24, 3) := by decide +kernel
theorem dX12_is_8 : decode cX12_is 8 = .ok (.iload_n 2, 1) := by decide +kernel
theorem dX12_is_9 : decode cX12_is 9 = .ok (.ifCond .lt 20, 3) := by decide +kernel
theorem dX12_is_12 : decode cX12_is 12 = .ok (.iload_n 2, 1) := by decide +kernel
theorem dX12_is_13 : decode cX12_is 13 = .ok (.iconst 4, 1) := by decide +kernel
theorem dX12_is_14 : decode cX12_is 14 = .ok (.if_icmp .ge 15, 3) := by decide +kernel
theorem dX12_is_17 : decode cX12_is 17 = .ok (.aload_n 0, 1) := by decide +kernel
theorem dX12_is_18 : decode cX12_is 18 = .ok (.iload_n 1, 1) := by decide +kernel
theorem dX12_is_19 : decode cX12_is 19 = .ok (.iload_n 2, 1) := by decide +kernel
theorem dX12_is_20 : decode cX12_is 20 = .ok (.iload_n 3, 1) := by decide +kernel
theorem dX12_is_21 : decode cX12_is 21 = .ok (.iload 4, 2) := by decide +kernel
theorem dX12_is_23 : decode cX12_is 23 = .ok (.invokevirtual 282, 3) := by decide +kernel
theorem dX12_is_26 : decode cX12_is 26 = .ok (.goto 4, 3) := by decide +kernel
theorem dX12_is_29 : decode cX12_is 29 = .ok (.iconst (-1), 1) := by decide +kernel
theorem dX12_is_30 : decode cX12_is 30 = .ok (.ireturn, 1) := by decide +kernel
theorem dX12_kinOf_0 : decode cX12_kinOf 0 = .ok (.bipush 99, 2) := by decide +kernel
theorem dX12_kinOf_2 : decode cX12_kinOf 2 = .ok (.istore_n 3, 1) := by decide +kernel
theorem dX12_kinOf_3 : decode cX12_kinOf 3 = .ok (.aload_n 0, 1) := by decide +kernel
theorem dX12_kinOf_4 : decode cX12_kinOf 4 = .ok (.iload_n 1, 1) := by decide +kernel
theorem dX12_kinOf_5 : decode cX12_kinOf 5 = .ok (.iload_n 2, 1) := by decide +kernel
theorem dX12_kinOf_6 : decode cX12_kinOf 6 = .ok (.aload_n 0, 1) := by decide +kernel
theorem dX12_kinOf_7 : decode cX12_kinOf 7 = .ok (.getfield 193, 3) := by decide +kernel
theorem dX12_kinOf_10 : decode cX12_kinOf 10 = .ok (.invokevirtual 275, 3) := by decide +kernel
theorem dX12_kinOf_13 : decode cX12_kinOf 13 = .ok (.iconst 0, 1) := by decide +kernel
theorem dX12_kinOf_14 : decode cX12_kinOf 14 = .ok (.istore 4, 2) := by decide +kernel
theorem dX12_kinOf_16 : decode cX12_kinOf 16 = .ok (.iload 4, 2) := by decide +kernel
theorem dX12_kinOf_18 : decode cX12_kinOf 18 = .ok (.aload_n 0, 1) := by decide +kernel
theorem dX12_kinOf_19 : decode cX12_kinOf 19 = .ok (.getfield 256, 3) := by decide +kernel
theorem dX12_kinOf_22 : decode cX12_kinOf 22 = .ok (.if_icmp .ge 108, 3) := by decide +kernel
theorem dX12_kinOf_25 : decode cX12_kinOf 25 = .ok (.aload_n 0, 1) := by decide +kernel
theorem dX12_kinOf_26 : decode cX12_kinOf 26 = .ok (.getfield 29, 3) := by decide +kernel
theorem dX12_kinOf_29 : decode cX12_kinOf 29 = .ok (.iload 4, 2) := by decide +kernel
theorem dX12_kinOf_31 : decode cX12_kinOf 31 = .ok (.baload, 1) := by decide +kernel
theorem dX12_kinOf_32 : decode cX12_kinOf 32 = .ok (.ifCond .ne 6, 3) := by decide +kernel
theorem dX12_kinOf_35 : decode cX12_kinOf 35 = .ok (.goto 89, 3) := by decide +kernel
theorem dX12_kinOf_38 : decode cX12_kinOf 38 = .ok (.aload_n 0, 1) := by decide +kernel
theorem dX12_kinOf_39 : decode cX12_kinOf 39 = .ok (.iload 4, 2) := by decide +kernel
theorem dX12_kinOf_41 : decode cX12_kinOf 41 = .ok (.iload_n 2, 1) := by decide +kernel
theorem dX12_kinOf_42 : decode cX12_kinOf 42 = .ok (.aload_n 0, 1) := by decide +kernel
theorem dX12_kinOf_43 : decode cX12_kinOf 43 = .ok (.getfield 196, 3) := by decide +kernel
theorem dX12_kinOf_46 : decode cX12_kinOf 46 = .ok (.invokevirtual 275, 3) := by decide +kernel
theorem dX12_kinOf_49 : decode cX12_kinOf 49 = .ok (.iconst 0, 1) := by decide +kernel
theorem dX12_kinOf_50 : decode cX12_kinOf 50 = .ok (.istore 5, 2) := by decide +kernel
theorem dX12_kinOf_52 : decode cX12_kinOf 52 = .ok (.iload 5, 2) := by decide +kernel
theorem dX12_kinOf_54 : decode cX12_kinOf 54 = .ok (.aload_n 0, 1) := by decide +kernel
theorem dX12_kinOf_55 : decode cX12_kinOf 55 = .ok (.getfield 256, 3) := by decide +kernel
theorem dX12_kinOf_58 : decode cX12_kinOf 58 = .ok (.if_icmp .ge 66, 3) := by decide +kernel
theorem dX12_kinOf_61 : decode cX12_kinOf 61 = .ok (.aload_n 0, 1) := by decide +kernel
theorem dX12_kinOf_62 : decode cX12_kinOf 62 = .ok (.getfield 193, 3) := by decide +kernel
theorem dX12_kinOf_65 : decode cX12_kinOf 65 = .ok (.iload 5, 2) := by decide +kernel
theorem dX12_kinOf_67 : decode cX12_kinOf 67 = .ok (.iaload, 1) := by decide +kernel
theorem dX12_kinOf_68 : decode cX12_kinOf 68 = .ok (.iconst (-1), 1) := by decide +kernel
theorem dX12_kinOf_69 : decode cX12_kinOf 69 = .ok (.if_icmp .eq 49, 3) := by decide +kernel
theorem dX12_kinOf_72 : decode cX12_kinOf 72 = .ok (.aload_n 0, 1) := by decide +kernel
theorem dX12_kinOf_73 : decode cX12_kinOf 73 = .ok (.getfield 196, 3) := by decide +kernel
theorem dX12_kinOf_76 : decode cX12_kinOf 76 = .ok (.iload 5, 2) := by decide +kernel
theorem dX12_kinOf_78 : decode cX12_kinOf 78 = .ok (.iaload, 1) := by decide +kernel
theorem dX12_kinOf_79 : decode cX12_kinOf 79 = .ok (.iconst (-1), 1) := by decide +kernel
theorem dX12_kinOf_80 : decode cX12_kinOf 80 = .ok (.if_icmp .eq 38, 3) := by decide +kernel
theorem dX12_kinOf_83 : decode cX12_kinOf 83 = .ok (.aload_n 0, 1) := by decide +kernel
theorem dX12_kinOf_84 : decode cX12_kinOf 84 = .ok (.getfield 193, 3) := by decide +kernel
theorem dX12_kinOf_87 : decode cX12_kinOf 87 = .ok (.iload 5, 2) := by decide +kernel
theorem dX12_kinOf_89 : decode cX12_kinOf 89 = .ok (.iaload, 1) := by decide +kernel
theorem dX12_kinOf_90 : decode cX12_kinOf 90 = .ok (.aload_n 0, 1) := by decide +kernel
theorem dX12_kinOf_91 : decode cX12_kinOf 91 = .ok (.getfield 196, 3) := by decide +kernel
theorem dX12_kinOf_94 : decode cX12_kinOf 94 = .ok (.iload 5, 2) := by decide +kernel
theorem dX12_kinOf_96 : decode cX12_kinOf 96 = .ok (.iaload, 1) := by decide +kernel
theorem dX12_kinOf_97 : decode cX12_kinOf 97 = .ok (.iadd, 1) := by decide +kernel
theorem dX12_kinOf_98 : decode cX12_kinOf 98 = .ok (.iload_n 3, 1) := by decide +kernel
theorem dX12_kinOf_99 : decode cX12_kinOf 99 = .ok (.if_icmp .ge 19, 3) := by decide +kernel
theorem dX12_kinOf_102 : decode cX12_kinOf 102 = .ok (.aload_n 0, 1) := by decide +kernel
theorem dX12_kinOf_103 : decode cX12_kinOf 103 = .ok (.getfield 193, 3) := by decide +kernel
theorem dX12_kinOf_106 : decode cX12_kinOf 106 = .ok (.iload 5, 2) := by decide +kernel
theorem dX12_kinOf_108 : decode cX12_kinOf 108 = .ok (.iaload, 1) := by decide +kernel
theorem dX12_kinOf_109 : decode cX12_kinOf 109 = .ok (.aload_n 0, 1) := by decide +kernel
theorem dX12_kinOf_110 : decode cX12_kinOf 110 = .ok (.getfield 196, 3) := by decide +kernel
theorem dX12_kinOf_113 : decode cX12_kinOf 113 = .ok (.iload 5, 2) := by decide +kernel
theorem dX12_kinOf_115 : decode cX12_kinOf 115 = .ok (.iaload, 1) := by decide +kernel
theorem dX12_kinOf_116 : decode cX12_kinOf 116 = .ok (.iadd, 1) := by decide +kernel
theorem dX12_kinOf_117 : decode cX12_kinOf 117 = .ok (.istore_n 3, 1) := by decide +kernel
theorem dX12_kinOf_118 : decode cX12_kinOf 118 = .ok (.iinc 5 1, 3) := by decide +kernel
theorem dX12_kinOf_121 : decode cX12_kinOf 121 = .ok (.goto (-69), 3) := by decide +kernel
theorem dX12_kinOf_124 : decode cX12_kinOf 124 = .ok (.iinc 4 1, 3) := by decide +kernel
theorem dX12_kinOf_127 : decode cX12_kinOf 127 = .ok (.goto (-111), 3) := by decide +kernel
theorem dX12_kinOf_130 : decode cX12_kinOf 130 = .ok (.iload_n 3, 1) := by decide +kernel
theorem dX12_kinOf_131 : decode cX12_kinOf 131 = .ok (.ireturn, 1) := by decide +kernel
theorem dX12_nearOf_0 : decode cX12_nearOf 0 = .ok (.aload_n 0, 1) := by decide +kernel
theorem dX12_nearOf_1 : decode cX12_nearOf 1 = .ok (.iload_n 1, 1) := by decide +kernel
theorem dX12_nearOf_2 : decode cX12_nearOf 2 = .ok (.iload_n 2, 1) := by decide +kernel
theorem dX12_nearOf_3 : decode cX12_nearOf 3 = .ok (.invokevirtual 286, 3) := by decide +kernel
theorem dX12_nearOf_6 : decode cX12_nearOf 6 = .ok (.istore_n 3, 1) := by decide +kernel
theorem dX12_nearOf_7 : decode cX12_nearOf 7 = .ok (.aload_n 0, 1) := by decide +kernel
theorem dX12_nearOf_8 : decode cX12_nearOf 8 = .ok (.iload_n 1, 1) := by decide +kernel
theorem dX12_nearOf_9 : decode cX12_nearOf 9 = .ok (.iload_n 2, 1) := by decide +kernel
theorem dX12_nearOf_10 : decode cX12_nearOf 10 = .ok (.aload_n 0, 1) := by decide +kernel
theorem dX12_nearOf_11 : decode cX12_nearOf 11 = .ok (.getfield 193, 3) := by decide +kernel
theorem dX12_nearOf_14 : decode cX12_nearOf 14 = .ok (.invokevirtual 275, 3) := by decide +kernel
theorem dX12_nearOf_17 : decode cX12_nearOf 17 = .ok (.iconst 0, 1) := by decide +kernel
theorem dX12_nearOf_18 : decode cX12_nearOf 18 = .ok (.istore 4, 2) := by decide +kernel
theorem dX12_nearOf_20 : decode cX12_nearOf 20 = .ok (.iload 4, 2) := by decide +kernel
theorem dX12_nearOf_22 : decode cX12_nearOf 22 = .ok (.aload_n 0, 1) := by decide +kernel
theorem dX12_nearOf_23 : decode cX12_nearOf 23 = .ok (.getfield 256, 3) := by decide +kernel
theorem dX12_nearOf_26 : decode cX12_nearOf 26 = .ok (.if_icmp .ge 102, 3) := by decide +kernel
theorem dX12_nearOf_29 : decode cX12_nearOf 29 = .ok (.iconst 0, 1) := by decide +kernel
theorem dX12_nearOf_30 : decode cX12_nearOf 30 = .ok (.istore 5, 2) := by decide +kernel
theorem dX12_nearOf_32 : decode cX12_nearOf 32 = .ok (.iload 5, 2) := by decide +kernel
theorem dX12_nearOf_34 : decode cX12_nearOf 34 = .ok (.iconst 2, 1) := by decide +kernel
theorem dX12_nearOf_35 : decode cX12_nearOf 35 = .ok (.if_icmp .ge 87, 3) := by decide +kernel
theorem dX12_nearOf_38 : decode cX12_nearOf 38 = .ok (.aload_n 0, 1) := by decide +kernel
theorem dX12_nearOf_39 : decode cX12_nearOf 39 = .ok (.getfield 23, 3) := by decide +kernel
theorem dX12_nearOf_42 : decode cX12_nearOf 42 = .ok (.iconst 2, 1) := by decide +kernel
theorem dX12_nearOf_43 : decode cX12_nearOf 43 = .ok (.iload 4, 2) := by decide +kernel
theorem dX12_nearOf_45 : decode cX12_nearOf 45 = .ok (.imul, 1) := by decide +kernel
theorem dX12_nearOf_46 : decode cX12_nearOf 46 = .ok (.iload 5, 2) := by decide +kernel
theorem dX12_nearOf_48 : decode cX12_nearOf 48 = .ok (.iadd, 1) := by decide +kernel
theorem dX12_nearOf_49 : decode cX12_nearOf 49 = .ok (.iaload, 1) := by decide +kernel
theorem dX12_nearOf_50 : decode cX12_nearOf 50 = .ok (.iconst (-1), 1) := by decide +kernel
theorem dX12_nearOf_51 : decode cX12_nearOf 51 = .ok (.if_icmp .eq 19, 3) := by decide +kernel
theorem dX12_nearOf_54 : decode cX12_nearOf 54 = .ok (.aload_n 0, 1) := by decide +kernel
theorem dX12_nearOf_55 : decode cX12_nearOf 55 = .ok (.getfield 26, 3) := by decide +kernel
theorem dX12_nearOf_58 : decode cX12_nearOf 58 = .ok (.iconst 2, 1) := by decide +kernel
theorem dX12_nearOf_59 : decode cX12_nearOf 59 = .ok (.iload 4, 2) := by decide +kernel
theorem dX12_nearOf_61 : decode cX12_nearOf 61 = .ok (.imul, 1) := by decide +kernel
theorem dX12_nearOf_62 : decode cX12_nearOf 62 = .ok (.iload 5, 2) := by decide +kernel
theorem dX12_nearOf_64 : decode cX12_nearOf 64 = .ok (.iadd, 1) := by decide +kernel
theorem dX12_nearOf_65 : decode cX12_nearOf 65 = .ok (.iaload, 1) := by decide +kernel
theorem dX12_nearOf_66 : decode cX12_nearOf 66 = .ok (.iload_n 2, 1) := by decide +kernel
theorem dX12_nearOf_67 : decode cX12_nearOf 67 = .ok (.if_icmp .le 7, 3) := by decide +kernel
theorem dX12_nearOf_70 : decode cX12_nearOf 70 = .ok (.iconst 1, 1) := by decide +kernel
theorem dX12_nearOf_71 : decode cX12_nearOf 71 = .ok (.goto 4, 3) := by decide +kernel
theorem dX12_nearOf_74 : decode cX12_nearOf 74 = .ok (.iconst 0, 1) := by decide +kernel
theorem dX12_nearOf_75 : decode cX12_nearOf 75 = .ok (.istore 6, 2) := by decide +kernel
theorem dX12_nearOf_77 : decode cX12_nearOf 77 = .ok (.aload_n 0, 1) := by decide +kernel
theorem dX12_nearOf_78 : decode cX12_nearOf 78 = .ok (.getfield 193, 3) := by decide +kernel
theorem dX12_nearOf_81 : decode cX12_nearOf 81 = .ok (.iload 4, 2) := by decide +kernel
theorem dX12_nearOf_83 : decode cX12_nearOf 83 = .ok (.iaload, 1) := by decide +kernel
theorem dX12_nearOf_84 : decode cX12_nearOf 84 = .ok (.iconst (-1), 1) := by decide +kernel
theorem dX12_nearOf_85 : decode cX12_nearOf 85 = .ok (.if_icmp .eq 31, 3) := by decide +kernel
theorem dX12_nearOf_88 : decode cX12_nearOf 88 = .ok (.iload 6, 2) := by decide +kernel
theorem dX12_nearOf_90 : decode cX12_nearOf 90 = .ok (.ifCond .eq 26, 3) := by decide +kernel
theorem dX12_nearOf_93 : decode cX12_nearOf 93 = .ok (.aload_n 0, 1) := by decide +kernel
theorem dX12_nearOf_94 : decode cX12_nearOf 94 = .ok (.getfield 193, 3) := by decide +kernel
theorem dX12_nearOf_97 : decode cX12_nearOf 97 = .ok (.iload 4, 2) := by decide +kernel
theorem dX12_nearOf_99 : decode cX12_nearOf 99 = .ok (.iaload, 1) := by decide +kernel
theorem dX12_nearOf_100 : decode cX12_nearOf 100 = .ok (.iconst 1, 1) := by decide +kernel
theorem dX12_nearOf_101 : decode cX12_nearOf 101 = .ok (.iadd, 1) := by decide +kernel
theorem dX12_nearOf_102 : decode cX12_nearOf 102 = .ok (.iload_n 3, 1) := by decide +kernel
theorem dX12_nearOf_103 : decode cX12_nearOf 103 = .ok (.if_icmp .ge 13, 3) := by decide +kernel
theorem dX12_nearOf_106 : decode cX12_nearOf 106 = .ok (.aload_n 0, 1) := by decide +kernel
theorem dX12_nearOf_107 : decode cX12_nearOf 107 = .ok (.getfield 193, 3) := by decide +kernel
theorem dX12_nearOf_110 : decode cX12_nearOf 110 = .ok (.iload 4, 2) := by decide +kernel
theorem dX12_nearOf_112 : decode cX12_nearOf 112 = .ok (.iaload, 1) := by decide +kernel
theorem dX12_nearOf_113 : decode cX12_nearOf 113 = .ok (.iconst 1, 1) := by decide +kernel
theorem dX12_nearOf_114 : decode cX12_nearOf 114 = .ok (.iadd, 1) := by decide +kernel
theorem dX12_nearOf_115 : decode cX12_nearOf 115 = .ok (.istore_n 3, 1) := by decide +kernel
theorem dX12_nearOf_116 : decode cX12_nearOf 116 = .ok (.iinc 5 1, 3) := by decide +kernel
theorem dX12_nearOf_119 : decode cX12_nearOf 119 = .ok (.goto (-87), 3) := by decide +kernel
theorem dX12_nearOf_122 : decode cX12_nearOf 122 = .ok (.iinc 4 1, 3) := by decide +kernel
theorem dX12_nearOf_125 : decode cX12_nearOf 125 = .ok (.goto (-105), 3) := by decide +kernel
theorem dX12_nearOf_128 : decode cX12_nearOf 128 = .ok (.iload_n 3, 1) := by decide +kernel
theorem dX12_nearOf_129 : decode cX12_nearOf 129 = .ok (.ireturn, 1) := by decide +kernel
theorem dX12_kin_0 : decode cX12_kin 0 = .ok (.aload_n 0, 1) := by decide +kernel
theorem dX12_kin_1 : decode cX12_kin 1 = .ok (.iload_n 1, 1) := by decide +kernel
theorem dX12_kin_2 : decode cX12_kin 2 = .ok (.invokevirtual 271, 3) := by decide +kernel
theorem dX12_kin_5 : decode cX12_kin 5 = .ok (.ifCond .ne 5, 3) := by decide +kernel
theorem dX12_kin_8 : decode cX12_kin 8 = .ok (.iconst (-1), 1) := by decide +kernel
theorem dX12_kin_9 : decode cX12_kin 9 = .ok (.ireturn, 1) := by decide +kernel
theorem dX12_kin_10 : decode cX12_kin 10 = .ok (.iload_n 2, 1) := by decide +kernel
theorem dX12_kin_11 : decode cX12_kin 11 = .ok (.ifCond .eq 12, 3) := by decide +kernel
theorem dX12_kin_14 : decode cX12_kin 14 = .ok (.aload_n 0, 1) := by decide +kernel
theorem dX12_kin_15 : decode cX12_kin 15 = .ok (.iload_n 1, 1) := by decide +kernel
theorem dX12_kin_16 : decode cX12_kin 16 = .ok (.iload_n 3, 1) := by decide +kernel
theorem dX12_kin_17 : decode cX12_kin 17 = .ok (.invokevirtual 290, 3) := by decide +kernel
theorem dX12_kin_20 : decode cX12_kin 20 = .ok (.goto 9, 3) := by decide +kernel
theorem dX12_kin_23 : decode cX12_kin 23 = .ok (.aload_n 0, 1) := by decide +kernel
theorem dX12_kin_24 : decode cX12_kin 24 = .ok (.iload_n 1, 1) := by decide +kernel
theorem dX12_kin_25 : decode cX12_kin 25 = .ok (.iload_n 3, 1) := by decide +kernel
theorem dX12_kin_26 : decode cX12_kin 26 = .ok (.invokevirtual 286, 3) := by decide +kernel
theorem dX12_kin_29 : decode cX12_kin 29 = .ok (.ireturn, 1) := by decide +kernel
theorem dX12_settles_0 : decode cX12_settles 0 = .ok (.aload_n 0, 1) := by decide +kernel
theorem dX12_settles_1 : decode cX12_settles 1 = .ok (.iload_n 1, 1) := by decide +kernel
theorem dX12_settles_2 : decode cX12_settles 2 = .ok (.invokevirtual 271, 3) := by decide +kernel
theorem dX12_settles_5 : decode cX12_settles 5 = .ok (.ifCond .ne 5, 3) := by decide +kernel
theorem dX12_settles_8 : decode cX12_settles 8 = .ok (.iconst (-1), 1) := by decide +kernel
theorem dX12_settles_9 : decode cX12_settles 9 = .ok (.ireturn, 1) := by decide +kernel
theorem dX12_settles_10 : decode cX12_settles 10 = .ok (.aload_n 0, 1) := by decide +kernel
theorem dX12_settles_11 : decode cX12_settles 11 = .ok (.iload_n 1, 1) := by decide +kernel
theorem dX12_settles_12 : decode cX12_settles 12 = .ok (.aload_n 0, 1) := by decide +kernel
theorem dX12_settles_13 : decode cX12_settles 13 = .ok (.getfield 262, 3) := by decide +kernel
theorem dX12_settles_16 : decode cX12_settles 16 = .ok (.invokevirtual 290, 3) := by decide +kernel
theorem dX12_settles_19 : decode cX12_settles 19 = .ok (.istore_n 2, 1) := by decide +kernel
theorem dX12_settles_20 : decode cX12_settles 20 = .ok (.iload_n 2, 1) := by decide +kernel
theorem dX12_settles_21 : decode cX12_settles 21 = .ok (.aload_n 0, 1) := by decide +kernel
theorem dX12_settles_22 : decode cX12_settles 22 = .ok (.iload_n 1, 1) := by decide +kernel
theorem dX12_settles_23 : decode cX12_settles 23 = .ok (.aload_n 0, 1) := by decide +kernel
theorem dX12_settles_24 : decode cX12_settles 24 = .ok (.getfield 262, 3) := by decide +kernel
theorem dX12_settles_27 : decode cX12_settles 27 = .ok (.invokevirtual 286, 3) := by decide +kernel
theorem dX12_settles_30 : decode cX12_settles 30 = .ok (.if_icmp .ne 5, 3) := by decide +kernel
theorem dX12_settles_33 : decode cX12_settles 33 = .ok (.iconst (-1), 1) := by decide +kernel
theorem dX12_settles_34 : decode cX12_settles 34 = .ok (.ireturn, 1) := by decide +kernel
theorem dX12_settles_35 : decode cX12_settles 35 = .ok (.aload_n 0, 1) := by decide +kernel
theorem dX12_settles_36 : decode cX12_settles 36 = .ok (.iload_n 1, 1) := by decide +kernel
theorem dX12_settles_37 : decode cX12_settles 37 = .ok (.aload_n 0, 1) := by decide +kernel
theorem dX12_settles_38 : decode cX12_settles 38 = .ok (.getfield 262, 3) := by decide +kernel
theorem dX12_settles_41 : decode cX12_settles 41 = .ok (.aload_n 0, 1) := by decide +kernel
theorem dX12_settles_42 : decode cX12_settles 42 = .ok (.getfield 193, 3) := by decide +kernel
theorem dX12_settles_45 : decode cX12_settles 45 = .ok (.invokevirtual 275, 3) := by decide +kernel
theorem dX12_settles_48 : decode cX12_settles 48 = .ok (.iconst 0, 1) := by decide +kernel
theorem dX12_settles_49 : decode cX12_settles 49 = .ok (.istore_n 3, 1) := by decide +kernel
theorem dX12_settles_50 : decode cX12_settles 50 = .ok (.iload_n 3, 1) := by decide +kernel
theorem dX12_settles_51 : decode cX12_settles 51 = .ok (.aload_n 0, 1) := by decide +kernel
theorem dX12_settles_52 : decode cX12_settles 52 = .ok (.getfield 256, 3) := by decide +kernel
theorem dX12_settles_55 : decode cX12_settles 55 = .ok (.if_icmp .ge 68, 3) := by decide +kernel
theorem dX12_settles_58 : decode cX12_settles 58 = .ok (.iconst 0, 1) := by decide +kernel
theorem dX12_settles_59 : decode cX12_settles 59 = .ok (.istore 4, 2) := by decide +kernel
theorem dX12_settles_61 : decode cX12_settles 61 = .ok (.iload 4, 2) := by decide +kernel
theorem dX12_settles_63 : decode cX12_settles 63 = .ok (.iconst 2, 1) := by decide +kernel
theorem dX12_settles_64 : decode cX12_settles 64 = .ok (.if_icmp .ge 53, 3) := by decide +kernel
theorem dX12_settles_67 : decode cX12_settles 67 = .ok (.aload_n 0, 1) := by decide +kernel
theorem dX12_settles_68 : decode cX12_settles 68 = .ok (.getfield 193, 3) := by decide +kernel
theorem dX12_settles_71 : decode cX12_settles 71 = .ok (.iload_n 3, 1) := by decide +kernel
theorem dX12_settles_72 : decode cX12_settles 72 = .ok (.iaload, 1) := by decide +kernel
theorem dX12_settles_73 : decode cX12_settles 73 = .ok (.iconst 1, 1) := by decide +kernel
theorem dX12_settles_74 : decode cX12_settles 74 = .ok (.iadd, 1) := by decide +kernel
theorem dX12_settles_75 : decode cX12_settles 75 = .ok (.iload_n 2, 1) := by decide +kernel
theorem dX12_settles_76 : decode cX12_settles 76 = .ok (.if_icmp .ne 35, 3) := by decide +kernel
theorem dX12_settles_79 : decode cX12_settles 79 = .ok (.aload_n 0, 1) := by decide +kernel
theorem dX12_settles_80 : decode cX12_settles 80 = .ok (.getfield 193, 3) := by decide +kernel
theorem dX12_settles_83 : decode cX12_settles 83 = .ok (.iload_n 3, 1) := by decide +kernel
theorem dX12_settles_84 : decode cX12_settles 84 = .ok (.iaload, 1) := by decide +kernel
theorem dX12_settles_85 : decode cX12_settles 85 = .ok (.iconst (-1), 1) := by decide +kernel
theorem dX12_settles_86 : decode cX12_settles 86 = .ok (.if_icmp .eq 25, 3) := by decide +kernel
theorem dX12_settles_89 : decode cX12_settles 89 = .ok (.aload_n 0, 1) := by decide +kernel
theorem dX12_settles_90 : decode cX12_settles 90 = .ok (.getfield 23, 3) := by decide +kernel
theorem dX12_settles_93 : decode cX12_settles 93 = .ok (.iconst 2, 1) := by decide +kernel
theorem dX12_settles_94 : decode cX12_settles 94 = .ok (.iload_n 3, 1) := by decide +kernel
theorem dX12_settles_95 : decode cX12_settles 95 = .ok (.imul, 1) := by decide +kernel
theorem dX12_settles_96 : decode cX12_settles 96 = .ok (.iload 4, 2) := by decide +kernel
theorem dX12_settles_98 : decode cX12_settles 98 = .ok (.iadd, 1) := by decide +kernel
theorem dX12_settles_99 : decode cX12_settles 99 = .ok (.iaload, 1) := by decide +kernel
theorem dX12_settles_100 : decode cX12_settles 100 = .ok (.iconst (-1), 1) := by decide +kernel
theorem dX12_settles_101 : decode cX12_settles 101 = .ok (.if_icmp .ne 10, 3) := by decide +kernel
theorem dX12_settles_104 : decode cX12_settles 104 = .ok (.iconst 2, 1) := by decide +kernel
theorem dX12_settles_105 : decode cX12_settles 105 = .ok (.iload_n 3, 1) := by decide +kernel
theorem dX12_settles_106 : decode cX12_settles 106 = .ok (.imul, 1) := by decide +kernel
theorem dX12_settles_107 : decode cX12_settles 107 = .ok (.iload 4, 2) := by decide +kernel
theorem dX12_settles_109 : decode cX12_settles 109 = .ok (.iadd, 1) := by decide +kernel
theorem dX12_settles_110 : decode cX12_settles 110 = .ok (.ireturn, 1) := by decide +kernel
theorem dX12_settles_111 : decode cX12_settles 111 = .ok (.iinc 4 1, 3) := by decide +kernel
theorem dX12_settles_114 : decode cX12_settles 114 = .ok (.goto (-53), 3) := by decide +kernel
theorem dX12_settles_117 : decode cX12_settles 117 = .ok (.iinc 3 1, 3) := by decide +kernel
theorem dX12_settles_120 : decode cX12_settles 120 = .ok (.goto (-70), 3) := by decide +kernel
theorem dX12_settles_123 : decode cX12_settles 123 = .ok (.iconst (-1), 1) := by decide +kernel
theorem dX12_settles_124 : decode cX12_settles 124 = .ok (.ireturn, 1) := by decide +kernel
theorem dX12_row_0 : decode cX12_row 0 = .ok (.iload_n 1, 1) := by decide +kernel
theorem dX12_row_1 : decode cX12_row 1 = .ok (.invokestatic 293, 3) := by decide +kernel
theorem dX12_row_4 : decode cX12_row 4 = .ok (.ifCond .ne 9, 3) := by decide +kernel
theorem dX12_row_7 : decode cX12_row 7 = .ok (.aload_n 0, 1) := by decide +kernel
theorem dX12_row_8 : decode cX12_row 8 = .ok (.iconst (-1), 1) := by decide +kernel
theorem dX12_row_9 : decode cX12_row 9 = .ok (.invokevirtual 267, 3) := by decide +kernel
theorem dX12_row_12 : decode cX12_row 12 = .ok (.ireturn, 1) := by decide +kernel
theorem dX12_row_13 : decode cX12_row 13 = .ok (.iload_n 3, 1) := by decide +kernel
theorem dX12_row_14 : decode cX12_row 14 = .ok (.ifCond .ge 10, 3) := by decide +kernel
theorem dX12_row_17 : decode cX12_row 17 = .ok (.aload_n 0, 1) := by decide +kernel
theorem dX12_row_18 : decode cX12_row 18 = .ok (.bipush (-4), 2) := by decide +kernel
theorem dX12_row_20 : decode cX12_row 20 = .ok (.invokevirtual 267, 3) := by decide +kernel
theorem dX12_row_23 : decode cX12_row 23 = .ok (.ireturn, 1) := by decide +kernel
theorem dX12_row_24 : decode cX12_row 24 = .ok (.iload_n 2, 1) := by decide +kernel
theorem dX12_row_25 : decode cX12_row 25 = .ok (.ifCond .lt 8, 3) := by decide +kernel
theorem dX12_row_28 : decode cX12_row 28 = .ok (.iload_n 2, 1) := by decide +kernel
theorem dX12_row_29 : decode cX12_row 29 = .ok (.iconst 3, 1) := by decide +kernel
theorem dX12_row_30 : decode cX12_row 30 = .ok (.if_icmp .le 10, 3) := by decide +kernel
theorem dX12_row_33 : decode cX12_row 33 = .ok (.aload_n 0, 1) := by decide +kernel
theorem dX12_row_34 : decode cX12_row 34 = .ok (.bipush (-6), 2) := by decide +kernel
theorem dX12_row_36 : decode cX12_row 36 = .ok (.invokevirtual 267, 3) := by decide +kernel
theorem dX12_row_39 : decode cX12_row 39 = .ok (.ireturn, 1) := by decide +kernel
theorem dX12_row_40 : decode cX12_row 40 = .ok (.iload_n 3, 1) := by decide +kernel
theorem dX12_row_41 : decode cX12_row 41 = .ok (.bipush 80, 2) := by decide +kernel
theorem dX12_row_43 : decode cX12_row 43 = .ok (.if_icmp .le 10, 3) := by decide +kernel
theorem dX12_row_46 : decode cX12_row 46 = .ok (.aload_n 0, 1) := by decide +kernel
theorem dX12_row_47 : decode cX12_row 47 = .ok (.bipush (-7), 2) := by decide +kernel
theorem dX12_row_49 : decode cX12_row 49 = .ok (.invokevirtual 267, 3) := by decide +kernel
theorem dX12_row_52 : decode cX12_row 52 = .ok (.ireturn, 1) := by decide +kernel
theorem dX12_row_53 : decode cX12_row 53 = .ok (.aload_n 0, 1) := by decide +kernel
theorem dX12_row_54 : decode cX12_row 54 = .ok (.getfield 51, 3) := by decide +kernel
theorem dX12_row_57 : decode cX12_row 57 = .ok (.iload_n 1, 1) := by decide +kernel
theorem dX12_row_58 : decode cX12_row 58 = .ok (.iconst 1, 1) := by decide +kernel
theorem dX12_row_59 : decode cX12_row 59 = .ok (.iastore, 1) := by decide +kernel
theorem dX12_row_60 : decode cX12_row 60 = .ok (.aload_n 0, 1) := by decide +kernel
theorem dX12_row_61 : decode cX12_row 61 = .ok (.getfield 54, 3) := by decide +kernel
theorem dX12_row_64 : decode cX12_row 64 = .ok (.iload_n 1, 1) := by decide +kernel
theorem dX12_row_65 : decode cX12_row 65 = .ok (.iload_n 2, 1) := by decide +kernel
theorem dX12_row_66 : decode cX12_row 66 = .ok (.iastore, 1) := by decide +kernel
theorem dX12_row_67 : decode cX12_row 67 = .ok (.aload_n 0, 1) := by decide +kernel
theorem dX12_row_68 : decode cX12_row 68 = .ok (.getfield 57, 3) := by decide +kernel
theorem dX12_row_71 : decode cX12_row 71 = .ok (.iload_n 1, 1) := by decide +kernel
theorem dX12_row_72 : decode cX12_row 72 = .ok (.iload_n 3, 1) := by decide +kernel
theorem dX12_row_73 : decode cX12_row 73 = .ok (.iastore, 1) := by decide +kernel
theorem dX12_row_74 : decode cX12_row 74 = .ok (.iconst 0, 1) := by decide +kernel
theorem dX12_row_75 : decode cX12_row 75 = .ok (.istore 4, 2) := by decide +kernel
theorem dX12_row_77 : decode cX12_row 77 = .ok (.iload 4, 2) := by decide +kernel
theorem dX12_row_79 : decode cX12_row 79 = .ok (.bipush 80, 2) := by decide +kernel
theorem dX12_row_81 : decode cX12_row 81 = .ok (.if_icmp .ge 22, 3) := by decide +kernel
theorem dX12_row_84 : decode cX12_row 84 = .ok (.aload_n 0, 1) := by decide +kernel
theorem dX12_row_85 : decode cX12_row 85 = .ok (.getfield 63, 3) := by decide +kernel
theorem dX12_row_88 : decode cX12_row 88 = .ok (.bipush 80, 2) := by decide +kernel
theorem dX12_row_90 : decode cX12_row 90 = .ok (.iload_n 1, 1) := by decide +kernel
theorem dX12_row_91 : decode cX12_row 91 = .ok (.imul, 1) := by decide +kernel
theorem dX12_row_92 : decode cX12_row 92 = .ok (.iload 4, 2) := by decide +kernel
theorem dX12_row_94 : decode cX12_row 94 = .ok (.iadd, 1) := by decide +kernel
theorem dX12_row_95 : decode cX12_row 95 = .ok (.lconst 0, 1) := by decide +kernel
theorem dX12_row_96 : decode cX12_row 96 = .ok (.lastore, 1) := by decide +kernel
theorem dX12_row_97 : decode cX12_row 97 = .ok (.iinc 4 1, 3) := by decide +kernel
theorem dX12_row_100 : decode cX12_row 100 = .ok (.goto (-23), 3) := by decide +kernel
theorem dX12_row_103 : decode cX12_row 103 = .ok (.iconst 1, 1) := by decide +kernel
theorem dX12_row_104 : decode cX12_row 104 = .ok (.ireturn, 1) := by decide +kernel
theorem dX12_set_0 : decode cX12_set 0 = .ok (.iload_n 1, 1) := by decide +kernel
theorem dX12_set_1 : decode cX12_set 1 = .ok (.invokestatic 293, 3) := by decide +kernel
theorem dX12_set_4 : decode cX12_set 4 = .ok (.ifCond .ne 9, 3) := by decide +kernel
theorem dX12_set_7 : decode cX12_set 7 = .ok (.aload_n 0, 1) := by decide +kernel
theorem dX12_set_8 : decode cX12_set 8 = .ok (.iconst (-1), 1) := by decide +kernel
theorem dX12_set_9 : decode cX12_set 9 = .ok (.invokevirtual 267, 3) := by decide +kernel
theorem dX12_set_12 : decode cX12_set 12 = .ok (.ireturn, 1) := by decide +kernel
theorem dX12_set_13 : decode cX12_set 13 = .ok (.aload_n 0, 1) := by decide +kernel
theorem dX12_set_14 : decode cX12_set 14 = .ok (.getfield 51, 3) := by decide +kernel
theorem dX12_set_17 : decode cX12_set 17 = .ok (.iload_n 1, 1) := by decide +kernel
theorem dX12_set_18 : decode cX12_set 18 = .ok (.iaload, 1) := by decide +kernel
theorem dX12_set_19 : decode cX12_set 19 = .ok (.iconst 2, 1) := by decide +kernel
theorem dX12_set_20 : decode cX12_set 20 = .ok (.if_icmp .ne 10, 3) := by decide +kernel
theorem dX12_set_23 : decode cX12_set 23 = .ok (.aload_n 0, 1) := by decide +kernel
theorem dX12_set_24 : decode cX12_set 24 = .ok (.bipush (-2), 2) := by decide +kernel
theorem dX12_set_26 : decode cX12_set 26 = .ok (.invokevirtual 267, 3) := by decide +kernel
theorem dX12_set_29 : decode cX12_set 29 = .ok (.ireturn, 1) := by decide +kernel
theorem dX12_set_30 : decode cX12_set 30 = .ok (.aload_n 0, 1) := by decide +kernel
theorem dX12_set_31 : decode cX12_set 31 = .ok (.getfield 51, 3) := by decide +kernel
theorem dX12_set_34 : decode cX12_set 34 = .ok (.iload_n 1, 1) := by decide +kernel
theorem dX12_set_35 : decode cX12_set 35 = .ok (.iaload, 1) := by decide +kernel
theorem dX12_set_36 : decode cX12_set 36 = .ok (.ifCond .ne 10, 3) := by decide +kernel
theorem dX12_set_39 : decode cX12_set 39 = .ok (.aload_n 0, 1) := by decide +kernel
theorem dX12_set_40 : decode cX12_set 40 = .ok (.bipush (-3), 2) := by decide +kernel
theorem dX12_set_42 : decode cX12_set 42 = .ok (.invokevirtual 267, 3) := by decide +kernel
theorem dX12_set_45 : decode cX12_set 45 = .ok (.ireturn, 1) := by decide +kernel
theorem dX12_set_46 : decode cX12_set 46 = .ok (.iload_n 2, 1) := by decide +kernel
theorem dX12_set_47 : decode cX12_set 47 = .ok (.ifCond .lt 13, 3) := by decide +kernel
theorem dX12_set_50 : decode cX12_set 50 = .ok (.iload_n 2, 1) := by decide +kernel
theorem dX12_set_51 : decode cX12_set 51 = .ok (.aload_n 0, 1) := by decide +kernel
theorem dX12_set_52 : decode cX12_set 52 = .ok (.getfield 57, 3) := by decide +kernel
theorem dX12_set_55 : decode cX12_set 55 = .ok (.iload_n 1, 1) := by decide +kernel
theorem dX12_set_56 : decode cX12_set 56 = .ok (.iaload, 1) := by decide +kernel
theorem dX12_set_57 : decode cX12_set 57 = .ok (.if_icmp .lt 10, 3) := by decide +kernel
theorem dX12_set_60 : decode cX12_set 60 = .ok (.aload_n 0, 1) := by decide +kernel
theorem dX12_set_61 : decode cX12_set 61 = .ok (.bipush (-5), 2) := by decide +kernel
theorem dX12_set_63 : decode cX12_set 63 = .ok (.invokevirtual 267, 3) := by decide +kernel
theorem dX12_set_66 : decode cX12_set 66 = .ok (.ireturn, 1) := by decide +kernel
theorem dX12_set_67 : decode cX12_set 67 = .ok (.aload_n 0, 1) := by decide +kernel
theorem dX12_set_68 : decode cX12_set 68 = .ok (.getfield 63, 3) := by decide +kernel
theorem dX12_set_71 : decode cX12_set 71 = .ok (.bipush 80, 2) := by decide +kernel
theorem dX12_set_73 : decode cX12_set 73 = .ok (.iload_n 1, 1) := by decide +kernel
theorem dX12_set_74 : decode cX12_set 74 = .ok (.imul, 1) := by decide +kernel
theorem dX12_set_75 : decode cX12_set 75 = .ok (.iload_n 2, 1) := by decide +kernel
theorem dX12_set_76 : decode cX12_set 76 = .ok (.iadd, 1) := by decide +kernel
theorem dX12_set_77 : decode cX12_set 77 = .ok (.aload_n 0, 1) := by decide +kernel
theorem dX12_set_78 : decode cX12_set 78 = .ok (.getfield 54, 3) := by decide +kernel
theorem dX12_set_81 : decode cX12_set 81 = .ok (.iload_n 1, 1) := by decide +kernel
theorem dX12_set_82 : decode cX12_set 82 = .ok (.iaload, 1) := by decide +kernel
theorem dX12_set_83 : decode cX12_set 83 = .ok (.ifCond .ne 10, 3) := by decide +kernel
theorem dX12_set_86 : decode cX12_set 86 = .ok (.lload_n 3, 1) := by decide +kernel
theorem dX12_set_87 : decode cX12_set 87 = .ok (.l2i, 1) := by decide +kernel
theorem dX12_set_88 : decode cX12_set 88 = .ok (.i2b, 1) := by decide +kernel
theorem dX12_set_89 : decode cX12_set 89 = .ok (.i2l, 1) := by decide +kernel
theorem dX12_set_90 : decode cX12_set 90 = .ok (.goto 37, 3) := by decide +kernel
theorem dX12_set_93 : decode cX12_set 93 = .ok (.aload_n 0, 1) := by decide +kernel
theorem dX12_set_94 : decode cX12_set 94 = .ok (.getfield 54, 3) := by decide +kernel
theorem dX12_set_97 : decode cX12_set 97 = .ok (.iload_n 1, 1) := by decide +kernel
theorem dX12_set_98 : decode cX12_set 98 = .ok (.iaload, 1) := by decide +kernel
theorem dX12_set_99 : decode cX12_set 99 = .ok (.iconst 1, 1) := by decide +kernel
theorem dX12_set_100 : decode cX12_set 100 = .ok (.if_icmp .ne 10, 3) := by decide +kernel
theorem dX12_set_103 : decode cX12_set 103 = .ok (.lload_n 3, 1) := by decide +kernel
theorem dX12_set_104 : decode cX12_set 104 = .ok (.l2i, 1) := by decide +kernel
theorem dX12_set_105 : decode cX12_set 105 = .ok (.i2s, 1) := by decide +kernel
theorem dX12_set_106 : decode cX12_set 106 = .ok (.i2l, 1) := by decide +kernel
theorem dX12_set_107 : decode cX12_set 107 = .ok (.goto 20, 3) := by decide +kernel
theorem dX12_set_110 : decode cX12_set 110 = .ok (.aload_n 0, 1) := by decide +kernel
theorem dX12_set_111 : decode cX12_set 111 = .ok (.getfield 54, 3) := by decide +kernel
theorem dX12_set_114 : decode cX12_set 114 = .ok (.iload_n 1, 1) := by decide +kernel
theorem dX12_set_115 : decode cX12_set 115 = .ok (.iaload, 1) := by decide +kernel
theorem dX12_set_116 : decode cX12_set 116 = .ok (.iconst 2, 1) := by decide +kernel
theorem dX12_set_117 : decode cX12_set 117 = .ok (.if_icmp .ne 9, 3) := by decide +kernel
theorem dX12_set_120 : decode cX12_set 120 = .ok (.lload_n 3, 1) := by decide +kernel
theorem dX12_set_121 : decode cX12_set 121 = .ok (.l2i, 1) := by decide +kernel
theorem dX12_set_122 : decode cX12_set 122 = .ok (.i2l, 1) := by decide +kernel
theorem dX12_set_123 : decode cX12_set 123 = .ok (.goto 4, 3) := by decide +kernel
theorem dX12_set_126 : decode cX12_set 126 = .ok (.lload_n 3, 1) := by decide +kernel
theorem dX12_set_127 : decode cX12_set 127 = .ok (.lastore, 1) := by decide +kernel
theorem dX12_set_128 : decode cX12_set 128 = .ok (.iconst 1, 1) := by decide +kernel
theorem dX12_set_129 : decode cX12_set 129 = .ok (.ireturn, 1) := by decide +kernel
theorem dX12_copy_0 : decode cX12_copy 0 = .ok (.iload_n 1, 1) := by decide +kernel
theorem dX12_copy_1 : decode cX12_copy 1 = .ok (.invokestatic 293, 3) := by decide +kernel
theorem dX12_copy_4 : decode cX12_copy 4 = .ok (.ifCond .eq 10, 3) := by decide +kernel
theorem dX12_copy_7 : decode cX12_copy 7 = .ok (.iload_n 2, 1) := by decide +kernel
theorem dX12_copy_8 : decode cX12_copy 8 = .ok (.invokestatic 293, 3) := by decide +kernel
theorem dX12_copy_11 : decode cX12_copy 11 = .ok (.ifCond .ne 9, 3) := by decide +kernel
theorem dX12_copy_14 : decode cX12_copy 14 = .ok (.aload_n 0, 1) := by decide +kernel
theorem dX12_copy_15 : decode cX12_copy 15 = .ok (.iconst (-1), 1) := by decide +kernel
theorem dX12_copy_16 : decode cX12_copy 16 = .ok (.invokevirtual 267, 3) := by decide +kernel
theorem dX12_copy_19 : decode cX12_copy 19 = .ok (.ireturn, 1) := by decide +kernel
theorem dX12_copy_20 : decode cX12_copy 20 = .ok (.aload_n 0, 1) := by decide +kernel
theorem dX12_copy_21 : decode cX12_copy 21 = .ok (.getfield 51, 3) := by decide +kernel
theorem dX12_copy_24 : decode cX12_copy 24 = .ok (.iload_n 1, 1) := by decide +kernel
theorem dX12_copy_25 : decode cX12_copy 25 = .ok (.iaload, 1) := by decide +kernel
theorem dX12_copy_26 : decode cX12_copy 26 = .ok (.iconst 2, 1) := by decide +kernel
theorem dX12_copy_27 : decode cX12_copy 27 = .ok (.if_icmp .eq 48, 3) := by decide +kernel
theorem dX12_copy_30 : decode cX12_copy 30 = .ok (.aload_n 0, 1) := by decide +kernel
theorem dX12_copy_31 : decode cX12_copy 31 = .ok (.getfield 51, 3) := by decide +kernel
theorem dX12_copy_34 : decode cX12_copy 34 = .ok (.iload_n 2, 1) := by decide +kernel
theorem dX12_copy_35 : decode cX12_copy 35 = .ok (.iaload, 1) := by decide +kernel
theorem dX12_copy_36 : decode cX12_copy 36 = .ok (.iconst 2, 1) := by decide +kernel
theorem dX12_copy_37 : decode cX12_copy 37 = .ok (.if_icmp .eq 38, 3) := by decide +kernel
theorem dX12_copy_40 : decode cX12_copy 40 = .ok (.aload_n 0, 1) := by decide +kernel
theorem dX12_copy_41 : decode cX12_copy 41 = .ok (.getfield 51, 3) := by decide +kernel
theorem dX12_copy_44 : decode cX12_copy 44 = .ok (.iload_n 1, 1) := by decide +kernel
theorem dX12_copy_45 : decode cX12_copy 45 = .ok (.iaload, 1) := by decide +kernel
theorem dX12_copy_46 : decode cX12_copy 46 = .ok (.iconst 1, 1) := by decide +kernel
theorem dX12_copy_47 : decode cX12_copy 47 = .ok (.if_icmp .ne 35, 3) := by decide +kernel
theorem dX12_copy_50 : decode cX12_copy 50 = .ok (.aload_n 0, 1) := by decide +kernel
theorem dX12_copy_51 : decode cX12_copy 51 = .ok (.getfield 51, 3) := by decide +kernel
theorem dX12_copy_54 : decode cX12_copy 54 = .ok (.iload_n 2, 1) := by decide +kernel
theorem dX12_copy_55 : decode cX12_copy 55 = .ok (.iaload, 1) := by decide +kernel
theorem dX12_copy_56 : decode cX12_copy 56 = .ok (.iconst 1, 1) := by decide +kernel
theorem dX12_copy_57 : decode cX12_copy 57 = .ok (.if_icmp .ne 25, 3) := by decide +kernel
theorem dX12_copy_60 : decode cX12_copy 60 = .ok (.aload_n 0, 1) := by decide +kernel
theorem dX12_copy_61 : decode cX12_copy 61 = .ok (.getfield 54, 3) := by decide +kernel
theorem dX12_copy_64 : decode cX12_copy 64 = .ok (.iload_n 1, 1) := by decide +kernel
theorem dX12_copy_65 : decode cX12_copy 65 = .ok (.iaload, 1) := by decide +kernel
theorem dX12_copy_66 : decode cX12_copy 66 = .ok (.aload_n 0, 1) := by decide +kernel
theorem dX12_copy_67 : decode cX12_copy 67 = .ok (.getfield 54, 3) := by decide +kernel
theorem dX12_copy_70 : decode cX12_copy 70 = .ok (.iload_n 2, 1) := by decide +kernel
theorem dX12_copy_71 : decode cX12_copy 71 = .ok (.iaload, 1) := by decide +kernel
theorem dX12_copy_72 : decode cX12_copy 72 = .ok (.if_icmp .eq 10, 3) := by decide +kernel
theorem dX12_copy_75 : decode cX12_copy 75 = .ok (.aload_n 0, 1) := by decide +kernel
theorem dX12_copy_76 : decode cX12_copy 76 = .ok (.bipush (-2), 2) := by decide +kernel
theorem dX12_copy_78 : decode cX12_copy 78 = .ok (.invokevirtual 267, 3) := by decide +kernel
theorem dX12_copy_81 : decode cX12_copy 81 = .ok (.ireturn, 1) := by decide +kernel
theorem dX12_copy_82 : decode cX12_copy 82 = .ok (.aload_n 0, 1) := by decide +kernel
theorem dX12_copy_83 : decode cX12_copy 83 = .ok (.getfield 51, 3) := by decide +kernel
theorem dX12_copy_86 : decode cX12_copy 86 = .ok (.iload_n 1, 1) := by decide +kernel
theorem dX12_copy_87 : decode cX12_copy 87 = .ok (.iaload, 1) := by decide +kernel
theorem dX12_copy_88 : decode cX12_copy 88 = .ok (.ifCond .eq 12, 3) := by decide +kernel
theorem dX12_copy_91 : decode cX12_copy 91 = .ok (.aload_n 0, 1) := by decide +kernel
theorem dX12_copy_92 : decode cX12_copy 92 = .ok (.getfield 51, 3) := by decide +kernel
theorem dX12_copy_95 : decode cX12_copy 95 = .ok (.iload_n 2, 1) := by decide +kernel
theorem dX12_copy_96 : decode cX12_copy 96 = .ok (.iaload, 1) := by decide +kernel
theorem dX12_copy_97 : decode cX12_copy 97 = .ok (.ifCond .ne 10, 3) := by decide +kernel
theorem dX12_copy_100 : decode cX12_copy 100 = .ok (.aload_n 0, 1) := by decide +kernel
theorem dX12_copy_101 : decode cX12_copy 101 = .ok (.bipush (-3), 2) := by decide +kernel
theorem dX12_copy_103 : decode cX12_copy 103 = .ok (.invokevirtual 267, 3) := by decide +kernel
theorem dX12_copy_106 : decode cX12_copy 106 = .ok (.ireturn, 1) := by decide +kernel
theorem dX12_copy_107 : decode cX12_copy 107 = .ok (.iload 5, 2) := by decide +kernel
theorem dX12_copy_109 : decode cX12_copy 109 = .ok (.ifCond .ge 10, 3) := by decide +kernel
theorem dX12_copy_112 : decode cX12_copy 112 = .ok (.aload_n 0, 1) := by decide +kernel
theorem dX12_copy_113 : decode cX12_copy 113 = .ok (.bipush (-4), 2) := by decide +kernel
theorem dX12_copy_115 : decode cX12_copy 115 = .ok (.invokevirtual 267, 3) := by decide +kernel
theorem dX12_copy_118 : decode cX12_copy 118 = .ok (.ireturn, 1) := by decide +kernel
theorem dX12_copy_119 : decode cX12_copy 119 = .ok (.iload_n 3, 1) := by decide +kernel
theorem dX12_copy_120 : decode cX12_copy 120 = .ok (.ifCond .lt 35, 3) := by decide +kernel
theorem dX12_copy_123 : decode cX12_copy 123 = .ok (.iload 4, 2) := by decide +kernel
theorem dX12_copy_125 : decode cX12_copy 125 = .ok (.ifCond .lt 30, 3) := by decide +kernel
theorem dX12_copy_128 : decode cX12_copy 128 = .ok (.iload_n 3, 1) := by decide +kernel
theorem dX12_copy_129 : decode cX12_copy 129 = .ok (.aload_n 0, 1) := by decide +kernel
theorem dX12_copy_130 : decode cX12_copy 130 = .ok (.getfield 57, 3) := by decide +kernel
theorem dX12_copy_133 : decode cX12_copy 133 = .ok (.iload_n 1, 1) := by decide +kernel
theorem dX12_copy_134 : decode cX12_copy 134 = .ok (.iaload, 1) := by decide +kernel
theorem dX12_copy_135 : decode cX12_copy 135 = .ok (.iload 5, 2) := by decide +kernel
theorem dX12_copy_137 : decode cX12_copy 137 = .ok (.isub, 1) := by decide +kernel
theorem dX12_copy_138 : decode cX12_copy 138 = .ok (.if_icmp .gt 17, 3) := by decide +kernel
theorem dX12_copy_141 : decode cX12_copy 141 = .ok (.iload 4, 2) := by decide +kernel
theorem dX12_copy_143 : decode cX12_copy 143 = .ok (.aload_n 0, 1) := by decide +kernel
theorem dX12_copy_144 : decode cX12_copy 144 = .ok (.getfield 57, 3) := by decide +kernel
theorem dX12_copy_147 : decode cX12_copy 147 = .ok (.iload_n 2, 1) := by decide +kernel
theorem dX12_copy_148 : decode cX12_copy 148 = .ok (.iaload, 1) := by decide +kernel
theorem dX12_copy_149 : decode cX12_copy 149 = .ok (.iload 5, 2) := by decide +kernel
theorem dX12_copy_151 : decode cX12_copy 151 = .ok (.isub, 1) := by decide +kernel
theorem dX12_copy_152 : decode cX12_copy 152 = .ok (.if_icmp .le 10, 3) := by decide +kernel
theorem dX12_copy_155 : decode cX12_copy 155 = .ok (.aload_n 0, 1) := by decide +kernel
theorem dX12_copy_156 : decode cX12_copy 156 = .ok (.bipush (-5), 2) := by decide +kernel
theorem dX12_copy_158 : decode cX12_copy 158 = .ok (.invokevirtual 267, 3) := by decide +kernel
theorem dX12_copy_161 : decode cX12_copy 161 = .ok (.ireturn, 1) := by decide +kernel
theorem dX12_copy_162 : decode cX12_copy 162 = .ok (.iconst 0, 1) := by decide +kernel
theorem dX12_copy_163 : decode cX12_copy 163 = .ok (.istore 6, 2) := by decide +kernel
theorem dX12_copy_165 : decode cX12_copy 165 = .ok (.iload 6, 2) := by decide +kernel
theorem dX12_copy_167 : decode cX12_copy 167 = .ok (.iload 5, 2) := by decide +kernel
theorem dX12_copy_169 : decode cX12_copy 169 = .ok (.if_icmp .ge 30, 3) := by decide +kernel
theorem dX12_copy_172 : decode cX12_copy 172 = .ok (.aload_n 0, 1) := by decide +kernel
theorem dX12_copy_173 : decode cX12_copy 173 = .ok (.getfield 67, 3) := by decide +kernel
theorem dX12_copy_176 : decode cX12_copy 176 = .ok (.iload 6, 2) := by decide +kernel
theorem dX12_copy_178 : decode cX12_copy 178 = .ok (.aload_n 0, 1) := by decide +kernel
theorem dX12_copy_179 : decode cX12_copy 179 = .ok (.getfield 63, 3) := by decide +kernel
theorem dX12_copy_182 : decode cX12_copy 182 = .ok (.bipush 80, 2) := by decide +kernel
theorem dX12_copy_184 : decode cX12_copy 184 = .ok (.iload_n 1, 1) := by decide +kernel
theorem dX12_copy_185 : decode cX12_copy 185 = .ok (.imul, 1) := by decide +kernel
theorem dX12_copy_186 : decode cX12_copy 186 = .ok (.iload_n 3, 1) := by decide +kernel
theorem dX12_copy_187 : decode cX12_copy 187 = .ok (.iadd, 1) := by decide +kernel
theorem dX12_copy_188 : decode cX12_copy 188 = .ok (.iload 6, 2) := by decide +kernel
theorem dX12_copy_190 : decode cX12_copy 190 = .ok (.iadd, 1) := by decide +kernel
theorem dX12_copy_191 : decode cX12_copy 191 = .ok (.laload, 1) := by decide +kernel
theorem dX12_copy_192 : decode cX12_copy 192 = .ok (.lastore, 1) := by decide +kernel
theorem dX12_copy_193 : decode cX12_copy 193 = .ok (.iinc 6 1, 3) := by decide +kernel
theorem dX12_copy_196 : decode cX12_copy 196 = .ok (.goto (-31), 3) := by decide +kernel
theorem dX12_copy_199 : decode cX12_copy 199 = .ok (.iconst 0, 1) := by decide +kernel
theorem dX12_copy_200 : decode cX12_copy 200 = .ok (.istore 6, 2) := by decide +kernel
theorem dX12_copy_202 : decode cX12_copy 202 = .ok (.iload 6, 2) := by decide +kernel
theorem dX12_copy_204 : decode cX12_copy 204 = .ok (.iload 5, 2) := by decide +kernel
theorem dX12_copy_206 : decode cX12_copy 206 = .ok (.if_icmp .ge 31, 3) := by decide +kernel
theorem dX12_copy_209 : decode cX12_copy 209 = .ok (.aload_n 0, 1) := by decide +kernel
theorem dX12_copy_210 : decode cX12_copy 210 = .ok (.getfield 63, 3) := by decide +kernel
theorem dX12_copy_213 : decode cX12_copy 213 = .ok (.bipush 80, 2) := by decide +kernel
theorem dX12_copy_215 : decode cX12_copy 215 = .ok (.iload_n 2, 1) := by decide +kernel
theorem dX12_copy_216 : decode cX12_copy 216 = .ok (.imul, 1) := by decide +kernel
theorem dX12_copy_217 : decode cX12_copy 217 = .ok (.iload 4, 2) := by decide +kernel
theorem dX12_copy_219 : decode cX12_copy 219 = .ok (.iadd, 1) := by decide +kernel
theorem dX12_copy_220 : decode cX12_copy 220 = .ok (.iload 6, 2) := by decide +kernel
theorem dX12_copy_222 : decode cX12_copy 222 = .ok (.iadd, 1) := by decide +kernel
theorem dX12_copy_223 : decode cX12_copy 223 = .ok (.aload_n 0, 1) := by decide +kernel
theorem dX12_copy_224 : decode cX12_copy 224 = .ok (.getfield 67, 3) := by decide +kernel
theorem dX12_copy_227 : decode cX12_copy 227 = .ok (.iload 6, 2) := by decide +kernel
theorem dX12_copy_229 : decode cX12_copy 229 = .ok (.laload, 1) := by decide +kernel
theorem dX12_copy_230 : decode cX12_copy 230 = .ok (.lastore, 1) := by decide +kernel
theorem dX12_copy_231 : decode cX12_copy 231 = .ok (.iinc 6 1, 3) := by decide +kernel
theorem dX12_copy_234 : decode cX12_copy 234 = .ok (.goto (-32), 3) := by decide +kernel
theorem dX12_copy_237 : decode cX12_copy 237 = .ok (.iconst 1, 1) := by decide +kernel
theorem dX12_copy_238 : decode cX12_copy 238 = .ok (.ireturn, 1) := by decide +kernel
theorem dX12_element_0 : decode cX12_element 0 = .ok (.iload_n 1, 1) := by decide +kernel
theorem dX12_element_1 : decode cX12_element 1 = .ok (.invokestatic 293, 3) := by decide +kernel
theorem dX12_element_4 : decode cX12_element 4 = .ok (.ifCond .eq 41, 3) := by decide +kernel
theorem dX12_element_7 : decode cX12_element 7 = .ok (.aload_n 0, 1) := by decide +kernel
theorem dX12_element_8 : decode cX12_element 8 = .ok (.getfield 51, 3) := by decide +kernel
theorem dX12_element_11 : decode cX12_element 11 = .ok (.iload_n 1, 1) := by decide +kernel
theorem dX12_element_12 : decode cX12_element 12 = .ok (.iaload, 1) := by decide +kernel
theorem dX12_element_13 : decode cX12_element 13 = .ok (.iconst 1, 1) := by decide +kernel
theorem dX12_element_14 : decode cX12_element 14 = .ok (.if_icmp .ne 31, 3) := by decide +kernel
theorem dX12_element_17 : decode cX12_element 17 = .ok (.iload_n 2, 1) := by decide +kernel
theorem dX12_element_18 : decode cX12_element 18 = .ok (.ifCond .lt 27, 3) := by decide +kernel
theorem dX12_element_21 : decode cX12_element 21 = .ok (.iload_n 2, 1) := by decide +kernel
theorem dX12_element_22 : decode cX12_element 22 = .ok (.aload_n 0, 1) := by decide +kernel
theorem dX12_element_23 : decode cX12_element 23 = .ok (.getfield 57, 3) := by decide +kernel
theorem dX12_element_26 : decode cX12_element 26 = .ok (.iload_n 1, 1) := by decide +kernel
theorem dX12_element_27 : decode cX12_element 27 = .ok (.iaload, 1) := by decide +kernel
theorem dX12_element_28 : decode cX12_element 28 = .ok (.if_icmp .ge 17, 3) := by decide +kernel
theorem dX12_element_31 : decode cX12_element 31 = .ok (.aload_n 0, 1) := by decide +kernel
theorem dX12_element_32 : decode cX12_element 32 = .ok (.getfield 63, 3) := by decide +kernel
theorem dX12_element_35 : decode cX12_element 35 = .ok (.bipush 80, 2) := by decide +kernel
theorem dX12_element_37 : decode cX12_element 37 = .ok (.iload_n 1, 1) := by decide +kernel
theorem dX12_element_38 : decode cX12_element 38 = .ok (.imul, 1) := by decide +kernel
theorem dX12_element_39 : decode cX12_element 39 = .ok (.iload_n 2, 1) := by decide +kernel
theorem dX12_element_40 : decode cX12_element 40 = .ok (.iadd, 1) := by decide +kernel
theorem dX12_element_41 : decode cX12_element 41 = .ok (.laload, 1) := by decide +kernel
theorem dX12_element_42 : decode cX12_element 42 = .ok (.goto 4, 3) := by decide +kernel
theorem dX12_element_45 : decode cX12_element 45 = .ok (.lconst 0, 1) := by decide +kernel
theorem dX12_element_46 : decode cX12_element 46 = .ok (.lreturn, 1) := by decide +kernel
theorem dX12_show_0 : decode cX12_show 0 = .ok (.iload_n 1, 1) := by decide +kernel
theorem dX12_show_1 : decode cX12_show 1 = .ok (.invokestatic 293, 3) := by decide +kernel
theorem dX12_show_4 : decode cX12_show 4 = .ok (.ifCond .eq 16, 3) := by decide +kernel
theorem dX12_show_7 : decode cX12_show 7 = .ok (.iload_n 2, 1) := by decide +kernel
theorem dX12_show_8 : decode cX12_show 8 = .ok (.iconst (-1), 1) := by decide +kernel
theorem dX12_show_9 : decode cX12_show 9 = .ok (.if_icmp .eq 17, 3) := by decide +kernel
theorem dX12_show_12 : decode cX12_show 12 = .ok (.aload_n 0, 1) := by decide +kernel
theorem dX12_show_13 : decode cX12_show 13 = .ok (.iload_n 2, 1) := by decide +kernel
theorem dX12_show_14 : decode cX12_show 14 = .ok (.invokevirtual 271, 3) := by decide +kernel
theorem dX12_show_17 : decode cX12_show 17 = .ok (.ifCond .ne 9, 3) := by decide +kernel
theorem dX12_show_20 : decode cX12_show 20 = .ok (.aload_n 0, 1) := by decide +kernel
theorem dX12_show_21 : decode cX12_show 21 = .ok (.iconst (-1), 1) := by decide +kernel
theorem dX12_show_22 : decode cX12_show 22 = .ok (.invokevirtual 267, 3) := by decide +kernel
theorem dX12_show_25 : decode cX12_show 25 = .ok (.ireturn, 1) := by decide +kernel
theorem dX12_show_26 : decode cX12_show 26 = .ok (.aload_n 0, 1) := by decide +kernel
theorem dX12_show_27 : decode cX12_show 27 = .ok (.getfield 51, 3) := by decide +kernel
theorem dX12_show_30 : decode cX12_show 30 = .ok (.iload_n 1, 1) := by decide +kernel
theorem dX12_show_31 : decode cX12_show 31 = .ok (.iload_n 2, 1) := by decide +kernel
theorem dX12_show_32 : decode cX12_show 32 = .ok (.iconst (-1), 1) := by decide +kernel
theorem dX12_show_33 : decode cX12_show 33 = .ok (.if_icmp .ne 7, 3) := by decide +kernel
theorem dX12_show_36 : decode cX12_show 36 = .ok (.iconst 0, 1) := by decide +kernel
theorem dX12_show_37 : decode cX12_show 37 = .ok (.goto 4, 3) := by decide +kernel
theorem dX12_show_40 : decode cX12_show 40 = .ok (.iconst 2, 1) := by decide +kernel
theorem dX12_show_41 : decode cX12_show 41 = .ok (.iastore, 1) := by decide +kernel
theorem dX12_show_42 : decode cX12_show 42 = .ok (.aload_n 0, 1) := by decide +kernel
theorem dX12_show_43 : decode cX12_show 43 = .ok (.getfield 60, 3) := by decide +kernel
theorem dX12_show_46 : decode cX12_show 46 = .ok (.iload_n 1, 1) := by decide +kernel
theorem dX12_show_47 : decode cX12_show 47 = .ok (.iload_n 2, 1) := by decide +kernel
theorem dX12_show_48 : decode cX12_show 48 = .ok (.iastore, 1) := by decide +kernel
theorem dX12_show_49 : decode cX12_show 49 = .ok (.iload_n 2, 1) := by decide +kernel
theorem dX12_show_50 : decode cX12_show 50 = .ok (.iconst (-1), 1) := by decide +kernel
theorem dX12_show_51 : decode cX12_show 51 = .ok (.if_icmp .ne 7, 3) := by decide +kernel
theorem dX12_show_54 : decode cX12_show 54 = .ok (.iconst 0, 1) := by decide +kernel
theorem dX12_show_55 : decode cX12_show 55 = .ok (.goto 4, 3) := by decide +kernel
theorem dX12_show_58 : decode cX12_show 58 = .ok (.iconst 1, 1) := by decide +kernel
theorem dX12_show_59 : decode cX12_show 59 = .ok (.ireturn, 1) := by decide +kernel
theorem dX12_holds_0 : decode cX12_holds 0 = .ok (.iload_n 1, 1) := by decide +kernel
theorem dX12_holds_1 : decode cX12_holds 1 = .ok (.invokestatic 293, 3) := by decide +kernel
theorem dX12_holds_4 : decode cX12_holds 4 = .ok (.ifCond .eq 12, 3) := by decide +kernel
theorem dX12_holds_7 : decode cX12_holds 7 = .ok (.aload_n 0, 1) := by decide +kernel
theorem dX12_holds_8 : decode cX12_holds 8 = .ok (.getfield 51, 3) := by decide +kernel
theorem dX12_holds_11 : decode cX12_holds 11 = .ok (.iload_n 1, 1) := by decide +kernel
theorem dX12_holds_12 : decode cX12_holds 12 = .ok (.iaload, 1) := by decide +kernel
theorem dX12_holds_13 : decode cX12_holds 13 = .ok (.ifCond .ne 5, 3) := by decide +kernel
theorem dX12_holds_16 : decode cX12_holds 16 = .ok (.iconst (-1), 1) := by decide +kernel
theorem dX12_holds_17 : decode cX12_holds 17 = .ok (.ireturn, 1) := by decide +kernel
theorem dX12_holds_18 : decode cX12_holds 18 = .ok (.aload_n 0, 1) := by decide +kernel
theorem dX12_holds_19 : decode cX12_holds 19 = .ok (.getfield 51, 3) := by decide +kernel
theorem dX12_holds_22 : decode cX12_holds 22 = .ok (.iload_n 1, 1) := by decide +kernel
theorem dX12_holds_23 : decode cX12_holds 23 = .ok (.iaload, 1) := by decide +kernel
theorem dX12_holds_24 : decode cX12_holds 24 = .ok (.iconst 1, 1) := by decide +kernel
theorem dX12_holds_25 : decode cX12_holds 25 = .ok (.if_icmp .ne 15, 3) := by decide +kernel
theorem dX12_holds_28 : decode cX12_holds 28 = .ok (.bipush 100, 2) := by decide +kernel
theorem dX12_holds_30 : decode cX12_holds 30 = .ok (.aload_n 0, 1) := by decide +kernel
theorem dX12_holds_31 : decode cX12_holds 31 = .ok (.getfield 54, 3) := by decide +kernel
theorem dX12_holds_34 : decode cX12_holds 34 = .ok (.iload_n 1, 1) := by decide +kernel
theorem dX12_holds_35 : decode cX12_holds 35 = .ok (.iaload, 1) := by decide +kernel
theorem dX12_holds_36 : decode cX12_holds 36 = .ok (.iadd, 1) := by decide +kernel
theorem dX12_holds_37 : decode cX12_holds 37 = .ok (.goto 9, 3) := by decide +kernel
theorem dX12_holds_40 : decode cX12_holds 40 = .ok (.aload_n 0, 1) := by decide +kernel
theorem dX12_holds_41 : decode cX12_holds 41 = .ok (.getfield 60, 3) := by decide +kernel
theorem dX12_holds_44 : decode cX12_holds 44 = .ok (.iload_n 1, 1) := by decide +kernel
theorem dX12_holds_45 : decode cX12_holds 45 = .ok (.iaload, 1) := by decide +kernel
theorem dX12_holds_46 : decode cX12_holds 46 = .ok (.ireturn, 1) := by decide +kernel
theorem dX12_bornIn_0 : decode cX12_bornIn 0 = .ok (.iload_n 1, 1) := by decide +kernel
theorem dX12_bornIn_1 : decode cX12_bornIn 1 = .ok (.invokestatic 293, 3) := by decide +kernel
theorem dX12_bornIn_4 : decode cX12_bornIn 4 = .ok (.ifCond .ne 7, 3) := by decide +kernel
theorem dX12_bornIn_7 : decode cX12_bornIn 7 = .ok (.iconst (-1), 1) := by decide +kernel
theorem dX12_bornIn_8 : decode cX12_bornIn 8 = .ok (.goto 33, 3) := by decide +kernel
theorem dX12_bornIn_11 : decode cX12_bornIn 11 = .ok (.aload_n 0, 1) := by decide +kernel
theorem dX12_bornIn_12 : decode cX12_bornIn 12 = .ok (.getfield 51, 3) := by decide +kernel
theorem dX12_bornIn_15 : decode cX12_bornIn 15 = .ok (.iload_n 1, 1) := by decide +kernel
theorem dX12_bornIn_16 : decode cX12_bornIn 16 = .ok (.iaload, 1) := by decide +kernel
theorem dX12_bornIn_17 : decode cX12_bornIn 17 = .ok (.iconst 1, 1) := by decide +kernel
theorem dX12_bornIn_18 : decode cX12_bornIn 18 = .ok (.if_icmp .ne 8, 3) := by decide +kernel
theorem dX12_bornIn_21 : decode cX12_bornIn 21 = .ok (.bipush (-2), 2) := by decide +kernel
theorem dX12_bornIn_23 : decode cX12_bornIn 23 = .ok (.goto 18, 3) := by decide +kernel
theorem dX12_bornIn_26 : decode cX12_bornIn 26 = .ok (.aload_n 0, 1) := by decide +kernel
theorem dX12_bornIn_27 : decode cX12_bornIn 27 = .ok (.getfield 51, 3) := by decide +kernel
theorem dX12_bornIn_30 : decode cX12_bornIn 30 = .ok (.iload_n 1, 1) := by decide +kernel
theorem dX12_bornIn_31 : decode cX12_bornIn 31 = .ok (.iaload, 1) := by decide +kernel
theorem dX12_bornIn_32 : decode cX12_bornIn 32 = .ok (.ifCond .ne 8, 3) := by decide +kernel
theorem dX12_bornIn_35 : decode cX12_bornIn 35 = .ok (.bipush (-3), 2) := by decide +kernel
theorem dX12_bornIn_37 : decode cX12_bornIn 37 = .ok (.goto 4, 3) := by decide +kernel
theorem dX12_bornIn_40 : decode cX12_bornIn 40 = .ok (.iconst 0, 1) := by decide +kernel
theorem dX12_bornIn_41 : decode cX12_bornIn 41 = .ok (.istore_n 2, 1) := by decide +kernel
theorem dX12_bornIn_42 : decode cX12_bornIn 42 = .ok (.iload_n 2, 1) := by decide +kernel
theorem dX12_bornIn_43 : decode cX12_bornIn 43 = .ok (.ifCond .eq 15, 3) := by decide +kernel
theorem dX12_bornIn_46 : decode cX12_bornIn 46 = .ok (.aload_n 0, 1) := by decide +kernel
theorem dX12_bornIn_47 : decode cX12_bornIn 47 = .ok (.iload_n 2, 1) := by decide +kernel
theorem dX12_bornIn_48 : decode cX12_bornIn 48 = .ok (.invokevirtual 267, 3) := by decide +kernel
theorem dX12_bornIn_51 : decode cX12_bornIn 51 = .ok (.ldc_w 296, 3) := by decide +kernel
theorem dX12_bornIn_54 : decode cX12_bornIn 54 = .ok (.isub, 1) := by decide +kernel
theorem dX12_bornIn_55 : decode cX12_bornIn 55 = .ok (.goto 14, 3) := by decide +kernel
theorem dX12_bornIn_58 : decode cX12_bornIn 58 = .ok (.aload_n 0, 1) := by decide +kernel
theorem dX12_bornIn_59 : decode cX12_bornIn 59 = .ok (.getfield 13, 3) := by decide +kernel
theorem dX12_bornIn_62 : decode cX12_bornIn 62 = .ok (.aload_n 0, 1) := by decide +kernel
theorem dX12_bornIn_63 : decode cX12_bornIn 63 = .ok (.getfield 60, 3) := by decide +kernel
theorem dX12_bornIn_66 : decode cX12_bornIn 66 = .ok (.iload_n 1, 1) := by decide +kernel
theorem dX12_bornIn_67 : decode cX12_bornIn 67 = .ok (.iaload, 1) := by decide +kernel
theorem dX12_bornIn_68 : decode cX12_bornIn 68 = .ok (.iaload, 1) := by decide +kernel
theorem dX12_bornIn_69 : decode cX12_bornIn 69 = .ok (.ireturn, 1) := by decide +kernel
theorem dX12_wants_0 : decode cX12_wants 0 = .ok (.iload_n 1, 1) := by decide +kernel
theorem dX12_wants_1 : decode cX12_wants 1 = .ok (.invokestatic 293, 3) := by decide +kernel
theorem dX12_wants_4 : decode cX12_wants 4 = .ok (.ifCond .ne 7, 3) := by decide +kernel
theorem dX12_wants_7 : decode cX12_wants 7 = .ok (.iconst (-1), 1) := by decide +kernel
theorem dX12_wants_8 : decode cX12_wants 8 = .ok (.goto 33, 3) := by decide +kernel
theorem dX12_wants_11 : decode cX12_wants 11 = .ok (.aload_n 0, 1) := by decide +kernel
theorem dX12_wants_12 : decode cX12_wants 12 = .ok (.getfield 51, 3) := by decide +kernel
theorem dX12_wants_15 : decode cX12_wants 15 = .ok (.iload_n 1, 1) := by decide +kernel
theorem dX12_wants_16 : decode cX12_wants 16 = .ok (.iaload, 1) := by decide +kernel
theorem dX12_wants_17 : decode cX12_wants 17 = .ok (.iconst 2, 1) := by decide +kernel
theorem dX12_wants_18 : decode cX12_wants 18 = .ok (.if_icmp .ne 8, 3) := by decide +kernel
theorem dX12_wants_21 : decode cX12_wants 21 = .ok (.bipush (-2), 2) := by decide +kernel
theorem dX12_wants_23 : decode cX12_wants 23 = .ok (.goto 18, 3) := by decide +kernel
theorem dX12_wants_26 : decode cX12_wants 26 = .ok (.aload_n 0, 1) := by decide +kernel
theorem dX12_wants_27 : decode cX12_wants 27 = .ok (.getfield 51, 3) := by decide +kernel
theorem dX12_wants_30 : decode cX12_wants 30 = .ok (.iload_n 1, 1) := by decide +kernel
theorem dX12_wants_31 : decode cX12_wants 31 = .ok (.iaload, 1) := by decide +kernel
theorem dX12_wants_32 : decode cX12_wants 32 = .ok (.ifCond .ne 8, 3) := by decide +kernel
theorem dX12_wants_35 : decode cX12_wants 35 = .ok (.bipush (-3), 2) := by decide +kernel
theorem dX12_wants_37 : decode cX12_wants 37 = .ok (.goto 4, 3) := by decide +kernel
theorem dX12_wants_40 : decode cX12_wants 40 = .ok (.iconst 0, 1) := by decide +kernel
theorem dX12_wants_41 : decode cX12_wants 41 = .ok (.ireturn, 1) := by decide +kernel
theorem dX12_statute_0 : decode cX12_statute 0 = .ok (.iload_n 1, 1) := by decide +kernel
theorem dX12_statute_1 : decode cX12_statute 1 = .ok (.invokestatic 297, 3) := by decide +kernel
theorem dX12_statute_4 : decode cX12_statute 4 = .ok (.ifCond .ne 9, 3) := by decide +kernel
theorem dX12_statute_7 : decode cX12_statute 7 = .ok (.aload_n 0, 1) := by decide +kernel
theorem dX12_statute_8 : decode cX12_statute 8 = .ok (.iconst (-1), 1) := by decide +kernel
theorem dX12_statute_9 : decode cX12_statute 9 = .ok (.invokevirtual 267, 3) := by decide +kernel
theorem dX12_statute_12 : decode cX12_statute 12 = .ok (.ireturn, 1) := by decide +kernel
theorem dX12_statute_13 : decode cX12_statute 13 = .ok (.aload_n 0, 1) := by decide +kernel
theorem dX12_statute_14 : decode cX12_statute 14 = .ok (.iload_n 2, 1) := by decide +kernel
theorem dX12_statute_15 : decode cX12_statute 15 = .ok (.invokevirtual 300, 3) := by decide +kernel
theorem dX12_statute_18 : decode cX12_statute 18 = .ok (.istore_n 3, 1) := by decide +kernel
theorem dX12_statute_19 : decode cX12_statute 19 = .ok (.iload_n 3, 1) := by decide +kernel
theorem dX12_statute_20 : decode cX12_statute 20 = .ok (.ifCond .eq 9, 3) := by decide +kernel
theorem dX12_statute_23 : decode cX12_statute 23 = .ok (.aload_n 0, 1) := by decide +kernel
theorem dX12_statute_24 : decode cX12_statute 24 = .ok (.iload_n 3, 1) := by decide +kernel
theorem dX12_statute_25 : decode cX12_statute 25 = .ok (.invokevirtual 267, 3) := by decide +kernel
theorem dX12_statute_28 : decode cX12_statute 28 = .ok (.ireturn, 1) := by decide +kernel
theorem dX12_statute_29 : decode cX12_statute 29 = .ok (.aload_n 0, 1) := by decide +kernel
theorem dX12_statute_30 : decode cX12_statute 30 = .ok (.getfield 202, 3) := by decide +kernel
theorem dX12_statute_33 : decode cX12_statute 33 = .ok (.iload_n 1, 1) := by decide +kernel
theorem dX12_statute_34 : decode cX12_statute 34 = .ok (.baload, 1) := by decide +kernel
theorem dX12_statute_35 : decode cX12_statute 35 = .ok (.ifCond .ne 12, 3) := by decide +kernel
theorem dX12_statute_38 : decode cX12_statute 38 = .ok (.aload_n 0, 1) := by decide +kernel
theorem dX12_statute_39 : decode cX12_statute 39 = .ok (.getfield 57, 3) := by decide +kernel
theorem dX12_statute_42 : decode cX12_statute 42 = .ok (.iload_n 2, 1) := by decide +kernel
theorem dX12_statute_43 : decode cX12_statute 43 = .ok (.iaload, 1) := by decide +kernel
theorem dX12_statute_44 : decode cX12_statute 44 = .ok (.ifCond .ne 10, 3) := by decide +kernel
theorem dX12_statute_47 : decode cX12_statute 47 = .ok (.aload_n 0, 1) := by decide +kernel
theorem dX12_statute_48 : decode cX12_statute 48 = .ok (.bipush (-6), 2) := by decide +kernel
theorem dX12_statute_50 : decode cX12_statute 50 = .ok (.invokevirtual 267, 3) := by decide +kernel
theorem dX12_statute_53 : decode cX12_statute 53 = .ok (.ireturn, 1) := by decide +kernel
theorem dX12_statute_54 : decode cX12_statute 54 = .ok (.aload_n 0, 1) := by decide +kernel
theorem dX12_statute_55 : decode cX12_statute 55 = .ok (.getfield 202, 3) := by decide +kernel
theorem dX12_statute_58 : decode cX12_statute 58 = .ok (.iload_n 1, 1) := by decide +kernel
theorem dX12_statute_59 : decode cX12_statute 59 = .ok (.iconst 1, 1) := by decide +kernel
theorem dX12_statute_60 : decode cX12_statute 60 = .ok (.bastore, 1) := by decide +kernel
theorem dX12_statute_61 : decode cX12_statute 61 = .ok (.aload_n 0, 1) := by decide +kernel
theorem dX12_statute_62 : decode cX12_statute 62 = .ok (.getfield 73, 3) := by decide +kernel
theorem dX12_statute_65 : decode cX12_statute 65 = .ok (.iload_n 1, 1) := by decide +kernel
theorem dX12_statute_66 : decode cX12_statute 66 = .ok (.aload_n 0, 1) := by decide +kernel
theorem dX12_statute_67 : decode cX12_statute 67 = .ok (.getfield 57, 3) := by decide +kernel
theorem dX12_statute_70 : decode cX12_statute 70 = .ok (.iload_n 2, 1) := by decide +kernel
theorem dX12_statute_71 : decode cX12_statute 71 = .ok (.iaload, 1) := by decide +kernel
theorem dX12_statute_72 : decode cX12_statute 72 = .ok (.iastore, 1) := by decide +kernel
theorem dX12_statute_73 : decode cX12_statute 73 = .ok (.iconst 0, 1) := by decide +kernel
theorem dX12_statute_74 : decode cX12_statute 74 = .ok (.istore 4, 2) := by decide +kernel
theorem dX12_statute_76 : decode cX12_statute 76 = .ok (.iload 4, 2) := by decide +kernel
theorem dX12_statute_78 : decode cX12_statute 78 = .ok (.aload_n 0, 1) := by decide +kernel
theorem dX12_statute_79 : decode cX12_statute 79 = .ok (.getfield 57, 3) := by decide +kernel
theorem dX12_statute_82 : decode cX12_statute 82 = .ok (.iload_n 2, 1) := by decide +kernel
theorem dX12_statute_83 : decode cX12_statute 83 = .ok (.iaload, 1) := by decide +kernel
theorem dX12_statute_84 : decode cX12_statute 84 = .ok (.if_icmp .ge 34, 3) := by decide +kernel
theorem dX12_statute_87 : decode cX12_statute 87 = .ok (.aload_n 0, 1) := by decide +kernel
theorem dX12_statute_88 : decode cX12_statute 88 = .ok (.getfield 70, 3) := by decide +kernel
theorem dX12_statute_91 : decode cX12_statute 91 = .ok (.bipush 80, 2) := by decide +kernel
theorem dX12_statute_93 : decode cX12_statute 93 = .ok (.iload_n 1, 1) := by decide +kernel
theorem dX12_statute_94 : decode cX12_statute 94 = .ok (.imul, 1) := by decide +kernel
theorem dX12_statute_95 : decode cX12_statute 95 = .ok (.iload 4, 2) := by decide +kernel
theorem dX12_statute_97 : decode cX12_statute 97 = .ok (.iadd, 1) := by decide +kernel
theorem dX12_statute_98 : decode cX12_statute 98 = .ok (.aload_n 0, 1) := by decide +kernel
theorem dX12_statute_99 : decode cX12_statute 99 = .ok (.getfield 63, 3) := by decide +kernel
theorem dX12_statute_102 : decode cX12_statute 102 = .ok (.bipush 80, 2) := by decide +kernel
theorem dX12_statute_104 : decode cX12_statute 104 = .ok (.iload_n 2, 1) := by decide +kernel
theorem dX12_statute_105 : decode cX12_statute 105 = .ok (.imul, 1) := by decide +kernel
theorem dX12_statute_106 : decode cX12_statute 106 = .ok (.iload 4, 2) := by decide +kernel
theorem dX12_statute_108 : decode cX12_statute 108 = .ok (.iadd, 1) := by decide +kernel
theorem dX12_statute_109 : decode cX12_statute 109 = .ok (.laload, 1) := by decide +kernel
theorem dX12_statute_110 : decode cX12_statute 110 = .ok (.l2i, 1) := by decide +kernel
theorem dX12_statute_111 : decode cX12_statute 111 = .ok (.iastore, 1) := by decide +kernel
theorem dX12_statute_112 : decode cX12_statute 112 = .ok (.iinc 4 1, 3) := by decide +kernel
theorem dX12_statute_115 : decode cX12_statute 115 = .ok (.goto (-39), 3) := by decide +kernel
theorem dX12_statute_118 : decode cX12_statute 118 = .ok (.aload_n 0, 1) := by decide +kernel
theorem dX12_statute_119 : decode cX12_statute 119 = .ok (.getfield 57, 3) := by decide +kernel
theorem dX12_statute_122 : decode cX12_statute 122 = .ok (.iload_n 2, 1) := by decide +kernel
theorem dX12_statute_123 : decode cX12_statute 123 = .ok (.iaload, 1) := by decide +kernel
theorem dX12_statute_124 : decode cX12_statute 124 = .ok (.ireturn, 1) := by decide +kernel
theorem dX12_amend_0 : decode cX12_amend 0 = .ok (.iload_n 1, 1) := by decide +kernel
theorem dX12_amend_1 : decode cX12_amend 1 = .ok (.invokestatic 297, 3) := by decide +kernel
theorem dX12_amend_4 : decode cX12_amend 4 = .ok (.ifCond .eq 17, 3) := by decide +kernel
theorem dX12_amend_7 : decode cX12_amend 7 = .ok (.iload_n 2, 1) := by decide +kernel
theorem dX12_amend_8 : decode cX12_amend 8 = .ok (.invokestatic 293, 3) := by decide +kernel
theorem dX12_amend_11 : decode cX12_amend 11 = .ok (.ifCond .eq 10, 3) := by decide +kernel
theorem dX12_amend_14 : decode cX12_amend 14 = .ok (.iload_n 3, 1) := by decide +kernel
theorem dX12_amend_15 : decode cX12_amend 15 = .ok (.invokestatic 293, 3) := by decide +kernel
theorem dX12_amend_18 : decode cX12_amend 18 = .ok (.ifCond .ne 9, 3) := by decide +kernel
theorem dX12_amend_21 : decode cX12_amend 21 = .ok (.aload_n 0, 1) := by decide +kernel
theorem dX12_amend_22 : decode cX12_amend 22 = .ok (.iconst (-1), 1) := by decide +kernel
theorem dX12_amend_23 : decode cX12_amend 23 = .ok (.invokevirtual 267, 3) := by decide +kernel
theorem dX12_amend_26 : decode cX12_amend 26 = .ok (.ireturn, 1) := by decide +kernel
theorem dX12_amend_27 : decode cX12_amend 27 = .ok (.aload_n 0, 1) := by decide +kernel
theorem dX12_amend_28 : decode cX12_amend 28 = .ok (.getfield 51, 3) := by decide +kernel
theorem dX12_amend_31 : decode cX12_amend 31 = .ok (.iload_n 2, 1) := by decide +kernel
theorem dX12_amend_32 : decode cX12_amend 32 = .ok (.iaload, 1) := by decide +kernel
theorem dX12_amend_33 : decode cX12_amend 33 = .ok (.iconst 2, 1) := by decide +kernel
theorem dX12_amend_34 : decode cX12_amend 34 = .ok (.if_icmp .eq 13, 3) := by decide +kernel
theorem dX12_amend_37 : decode cX12_amend 37 = .ok (.aload_n 0, 1) := by decide +kernel
theorem dX12_amend_38 : decode cX12_amend 38 = .ok (.getfield 51, 3) := by decide +kernel
theorem dX12_amend_41 : decode cX12_amend 41 = .ok (.iload_n 3, 1) := by decide +kernel
theorem dX12_amend_42 : decode cX12_amend 42 = .ok (.iaload, 1) := by decide +kernel
theorem dX12_amend_43 : decode cX12_amend 43 = .ok (.iconst 2, 1) := by decide +kernel
theorem dX12_amend_44 : decode cX12_amend 44 = .ok (.if_icmp .ne 10, 3) := by decide +kernel
theorem dX12_amend_47 : decode cX12_amend 47 = .ok (.aload_n 0, 1) := by decide +kernel
theorem dX12_amend_48 : decode cX12_amend 48 = .ok (.bipush (-2), 2) := by decide +kernel
theorem dX12_amend_50 : decode cX12_amend 50 = .ok (.invokevirtual 267, 3) := by decide +kernel
theorem dX12_amend_53 : decode cX12_amend 53 = .ok (.ireturn, 1) := by decide +kernel
theorem dX12_amend_54 : decode cX12_amend 54 = .ok (.aload_n 0, 1) := by decide +kernel
theorem dX12_amend_55 : decode cX12_amend 55 = .ok (.getfield 51, 3) := by decide +kernel
theorem dX12_amend_58 : decode cX12_amend 58 = .ok (.iload_n 2, 1) := by decide +kernel
theorem dX12_amend_59 : decode cX12_amend 59 = .ok (.iaload, 1) := by decide +kernel
theorem dX12_amend_60 : decode cX12_amend 60 = .ok (.ifCond .eq 12, 3) := by decide +kernel
theorem dX12_amend_63 : decode cX12_amend 63 = .ok (.aload_n 0, 1) := by decide +kernel
theorem dX12_amend_64 : decode cX12_amend 64 = .ok (.getfield 51, 3) := by decide +kernel
theorem dX12_amend_67 : decode cX12_amend 67 = .ok (.iload_n 3, 1) := by decide +kernel
theorem dX12_amend_68 : decode cX12_amend 68 = .ok (.iaload, 1) := by decide +kernel
theorem dX12_amend_69 : decode cX12_amend 69 = .ok (.ifCond .ne 10, 3) := by decide +kernel
theorem dX12_amend_72 : decode cX12_amend 72 = .ok (.aload_n 0, 1) := by decide +kernel
theorem dX12_amend_73 : decode cX12_amend 73 = .ok (.bipush (-3), 2) := by decide +kernel
theorem dX12_amend_75 : decode cX12_amend 75 = .ok (.invokevirtual 267, 3) := by decide +kernel
theorem dX12_amend_78 : decode cX12_amend 78 = .ok (.ireturn, 1) := by decide +kernel
theorem dX12_amend_79 : decode cX12_amend 79 = .ok (.iload 4, 2) := by decide +kernel
theorem dX12_amend_81 : decode cX12_amend 81 = .ok (.ifCond .lt 29, 3) := by decide +kernel
theorem dX12_amend_84 : decode cX12_amend 84 = .ok (.iload 4, 2) := by decide +kernel
theorem dX12_amend_86 : decode cX12_amend 86 = .ok (.ldc_w 266, 3) := by decide +kernel
theorem dX12_amend_89 : decode cX12_amend 89 = .ok (.if_icmp .gt 21, 3) := by decide +kernel
theorem dX12_amend_92 : decode cX12_amend 92 = .ok (.aload_n 0, 1) := by decide +kernel
theorem dX12_amend_93 : decode cX12_amend 93 = .ok (.getfield 57, 3) := by decide +kernel
theorem dX12_amend_96 : decode cX12_amend 96 = .ok (.iload_n 2, 1) := by decide +kernel
theorem dX12_amend_97 : decode cX12_amend 97 = .ok (.iaload, 1) := by decide +kernel
theorem dX12_amend_98 : decode cX12_amend 98 = .ok (.ifCond .eq 12, 3) := by decide +kernel
theorem dX12_amend_101 : decode cX12_amend 101 = .ok (.aload_n 0, 1) := by decide +kernel
theorem dX12_amend_102 : decode cX12_amend 102 = .ok (.getfield 57, 3) := by decide +kernel
theorem dX12_amend_105 : decode cX12_amend 105 = .ok (.iload_n 3, 1) := by decide +kernel
theorem dX12_amend_106 : decode cX12_amend 106 = .ok (.iaload, 1) := by decide +kernel
theorem dX12_amend_107 : decode cX12_amend 107 = .ok (.ifCond .ne 10, 3) := by decide +kernel
theorem dX12_amend_110 : decode cX12_amend 110 = .ok (.aload_n 0, 1) := by decide +kernel
theorem dX12_amend_111 : decode cX12_amend 111 = .ok (.bipush (-6), 2) := by decide +kernel
theorem dX12_amend_113 : decode cX12_amend 113 = .ok (.invokevirtual 267, 3) := by decide +kernel
theorem dX12_amend_116 : decode cX12_amend 116 = .ok (.ireturn, 1) := by decide +kernel
theorem dX12_amend_117 : decode cX12_amend 117 = .ok (.aload_n 0, 1) := by decide +kernel
theorem dX12_amend_118 : decode cX12_amend 118 = .ok (.getfield 303, 3) := by decide +kernel
theorem dX12_amend_121 : decode cX12_amend 121 = .ok (.bipush 12, 2) := by decide +kernel
theorem dX12_amend_123 : decode cX12_amend 123 = .ok (.if_icmp .ne 10, 3) := by decide +kernel
theorem dX12_amend_126 : decode cX12_amend 126 = .ok (.aload_n 0, 1) := by decide +kernel
theorem dX12_amend_127 : decode cX12_amend 127 = .ok (.bipush (-7), 2) := by decide +kernel
theorem dX12_amend_129 : decode cX12_amend 129 = .ok (.invokevirtual 267, 3) := by decide +kernel
theorem dX12_amend_132 : decode cX12_amend 132 = .ok (.ireturn, 1) := by decide +kernel
theorem dX12_amend_133 : decode cX12_amend 133 = .ok (.aload_n 0, 1) := by decide +kernel
theorem dX12_amend_134 : decode cX12_amend 134 = .ok (.getfield 303, 3) := by decide +kernel
theorem dX12_amend_137 : decode cX12_amend 137 = .ok (.istore 5, 2) := by decide +kernel
theorem dX12_amend_139 : decode cX12_amend 139 = .ok (.aload_n 0, 1) := by decide +kernel
theorem dX12_amend_140 : decode cX12_amend 140 = .ok (.getfield 76, 3) := by decide +kernel
theorem dX12_amend_143 : decode cX12_amend 143 = .ok (.iload 5, 2) := by decide +kernel
theorem dX12_amend_145 : decode cX12_amend 145 = .ok (.iload_n 1, 1) := by decide +kernel
theorem dX12_amend_146 : decode cX12_amend 146 = .ok (.iastore, 1) := by decide +kernel
theorem dX12_amend_147 : decode cX12_amend 147 = .ok (.aload_n 0, 1) := by decide +kernel
theorem dX12_amend_148 : decode cX12_amend 148 = .ok (.getfield 79, 3) := by decide +kernel
theorem dX12_amend_151 : decode cX12_amend 151 = .ok (.iload 5, 2) := by decide +kernel
theorem dX12_amend_153 : decode cX12_amend 153 = .ok (.iload 4, 2) := by decide +kernel
theorem dX12_amend_155 : decode cX12_amend 155 = .ok (.iastore, 1) := by decide +kernel
theorem dX12_amend_156 : decode cX12_amend 156 = .ok (.aload_n 0, 1) := by decide +kernel
theorem dX12_amend_157 : decode cX12_amend 157 = .ok (.getfield 82, 3) := by decide +kernel
theorem dX12_amend_160 : decode cX12_amend 160 = .ok (.iload 5, 2) := by decide +kernel
theorem dX12_amend_162 : decode cX12_amend 162 = .ok (.aload_n 0, 1) := by decide +kernel
theorem dX12_amend_163 : decode cX12_amend 163 = .ok (.getfield 262, 3) := by decide +kernel
theorem dX12_amend_166 : decode cX12_amend 166 = .ok (.iastore, 1) := by decide +kernel
theorem dX12_amend_167 : decode cX12_amend 167 = .ok (.aload_n 0, 1) := by decide +kernel
theorem dX12_amend_168 : decode cX12_amend 168 = .ok (.getfield 85, 3) := by decide +kernel
theorem dX12_amend_171 : decode cX12_amend 171 = .ok (.iload 5, 2) := by decide +kernel
theorem dX12_amend_173 : decode cX12_amend 173 = .ok (.aload_n 0, 1) := by decide +kernel
theorem dX12_amend_174 : decode cX12_amend 174 = .ok (.getfield 57, 3) := by decide +kernel
theorem dX12_amend_177 : decode cX12_amend 177 = .ok (.iload_n 2, 1) := by decide +kernel
theorem dX12_amend_178 : decode cX12_amend 178 = .ok (.iaload, 1) := by decide +kernel
theorem dX12_amend_179 : decode cX12_amend 179 = .ok (.iastore, 1) := by decide +kernel
theorem dX12_amend_180 : decode cX12_amend 180 = .ok (.aload_n 0, 1) := by decide +kernel
theorem dX12_amend_181 : decode cX12_amend 181 = .ok (.getfield 88, 3) := by decide +kernel
theorem dX12_amend_184 : decode cX12_amend 184 = .ok (.iload 5, 2) := by decide +kernel
theorem dX12_amend_186 : decode cX12_amend 186 = .ok (.aload_n 0, 1) := by decide +kernel
theorem dX12_amend_187 : decode cX12_amend 187 = .ok (.getfield 57, 3) := by decide +kernel
theorem dX12_amend_190 : decode cX12_amend 190 = .ok (.iload_n 3, 1) := by decide +kernel
theorem dX12_amend_191 : decode cX12_amend 191 = .ok (.iaload, 1) := by decide +kernel
theorem dX12_amend_192 : decode cX12_amend 192 = .ok (.iastore, 1) := by decide +kernel
theorem dX12_amend_193 : decode cX12_amend 193 = .ok (.iconst 0, 1) := by decide +kernel
theorem dX12_amend_194 : decode cX12_amend 194 = .ok (.istore 6, 2) := by decide +kernel
theorem dX12_amend_196 : decode cX12_amend 196 = .ok (.iload 6, 2) := by decide +kernel
theorem dX12_amend_198 : decode cX12_amend 198 = .ok (.aload_n 0, 1) := by decide +kernel
theorem dX12_amend_199 : decode cX12_amend 199 = .ok (.getfield 57, 3) := by decide +kernel
theorem dX12_amend_202 : decode cX12_amend 202 = .ok (.iload_n 2, 1) := by decide +kernel
theorem dX12_amend_203 : decode cX12_amend 203 = .ok (.iaload, 1) := by decide +kernel
theorem dX12_amend_204 : decode cX12_amend 204 = .ok (.if_icmp .ge 35, 3) := by decide +kernel
theorem dX12_amend_207 : decode cX12_amend 207 = .ok (.aload_n 0, 1) := by decide +kernel
theorem dX12_amend_208 : decode cX12_amend 208 = .ok (.getfield 91, 3) := by decide +kernel
theorem dX12_amend_211 : decode cX12_amend 211 = .ok (.bipush 80, 2) := by decide +kernel
theorem dX12_amend_213 : decode cX12_amend 213 = .ok (.iload 5, 2) := by decide +kernel
theorem dX12_amend_215 : decode cX12_amend 215 = .ok (.imul, 1) := by decide +kernel
theorem dX12_amend_216 : decode cX12_amend 216 = .ok (.iload 6, 2) := by decide +kernel
theorem dX12_amend_218 : decode cX12_amend 218 = .ok (.iadd, 1) := by decide +kernel
theorem dX12_amend_219 : decode cX12_amend 219 = .ok (.aload_n 0, 1) := by decide +kernel
theorem dX12_amend_220 : decode cX12_amend 220 = .ok (.getfield 63, 3) := by decide +kernel
theorem dX12_amend_223 : decode cX12_amend 223 = .ok (.bipush 80, 2) := by decide +kernel
theorem dX12_amend_225 : decode cX12_amend 225 = .ok (.iload_n 2, 1) := by decide +kernel
theorem dX12_amend_226 : decode cX12_amend 226 = .ok (.imul, 1) := by decide +kernel
theorem dX12_amend_227 : decode cX12_amend 227 = .ok (.iload 6, 2) := by decide +kernel
theorem dX12_amend_229 : decode cX12_amend 229 = .ok (.iadd, 1) := by decide +kernel
theorem dX12_amend_230 : decode cX12_amend 230 = .ok (.laload, 1) := by decide +kernel
theorem dX12_amend_231 : decode cX12_amend 231 = .ok (.l2i, 1) := by decide +kernel
theorem dX12_amend_232 : decode cX12_amend 232 = .ok (.iastore, 1) := by decide +kernel
theorem dX12_amend_233 : decode cX12_amend 233 = .ok (.iinc 6 1, 3) := by decide +kernel
theorem dX12_amend_236 : decode cX12_amend 236 = .ok (.goto (-40), 3) := by decide +kernel
theorem dX12_amend_239 : decode cX12_amend 239 = .ok (.iconst 0, 1) := by decide +kernel
theorem dX12_amend_240 : decode cX12_amend 240 = .ok (.istore 6, 2) := by decide +kernel
theorem dX12_amend_242 : decode cX12_amend 242 = .ok (.iload 6, 2) := by decide +kernel
theorem dX12_amend_244 : decode cX12_amend 244 = .ok (.aload_n 0, 1) := by decide +kernel
theorem dX12_amend_245 : decode cX12_amend 245 = .ok (.getfield 57, 3) := by decide +kernel
theorem dX12_amend_248 : decode cX12_amend 248 = .ok (.iload_n 3, 1) := by decide +kernel
theorem dX12_amend_249 : decode cX12_amend 249 = .ok (.iaload, 1) := by decide +kernel
theorem dX12_amend_250 : decode cX12_amend 250 = .ok (.if_icmp .ge 35, 3) := by decide +kernel
theorem dX12_amend_253 : decode cX12_amend 253 = .ok (.aload_n 0, 1) := by decide +kernel
theorem dX12_amend_254 : decode cX12_amend 254 = .ok (.getfield 94, 3) := by decide +kernel
theorem dX12_amend_257 : decode cX12_amend 257 = .ok (.bipush 80, 2) := by decide +kernel
theorem dX12_amend_259 : decode cX12_amend 259 = .ok (.iload 5, 2) := by decide +kernel
theorem dX12_amend_261 : decode cX12_amend 261 = .ok (.imul, 1) := by decide +kernel
theorem dX12_amend_262 : decode cX12_amend 262 = .ok (.iload 6, 2) := by decide +kernel
theorem dX12_amend_264 : decode cX12_amend 264 = .ok (.iadd, 1) := by decide +kernel
theorem dX12_amend_265 : decode cX12_amend 265 = .ok (.aload_n 0, 1) := by decide +kernel
theorem dX12_amend_266 : decode cX12_amend 266 = .ok (.getfield 63, 3) := by decide +kernel
theorem dX12_amend_269 : decode cX12_amend 269 = .ok (.bipush 80, 2) := by decide +kernel
theorem dX12_amend_271 : decode cX12_amend 271 = .ok (.iload_n 3, 1) := by decide +kernel
theorem dX12_amend_272 : decode cX12_amend 272 = .ok (.imul, 1) := by decide +kernel
theorem dX12_amend_273 : decode cX12_amend 273 = .ok (.iload 6, 2) := by decide +kernel
theorem dX12_amend_275 : decode cX12_amend 275 = .ok (.iadd, 1) := by decide +kernel
theorem dX12_amend_276 : decode cX12_amend 276 = .ok (.laload, 1) := by decide +kernel
theorem dX12_amend_277 : decode cX12_amend 277 = .ok (.l2i, 1) := by decide +kernel
theorem dX12_amend_278 : decode cX12_amend 278 = .ok (.iastore, 1) := by decide +kernel
theorem dX12_amend_279 : decode cX12_amend 279 = .ok (.iinc 6 1, 3) := by decide +kernel
theorem dX12_amend_282 : decode cX12_amend 282 = .ok (.goto (-40), 3) := by decide +kernel
theorem dX12_amend_285 : decode cX12_amend 285 = .ok (.aload_n 0, 1) := by decide +kernel
theorem dX12_amend_286 : decode cX12_amend 286 = .ok (.dup, 1) := by decide +kernel
theorem dX12_amend_287 : decode cX12_amend 287 = .ok (.getfield 303, 3) := by decide +kernel
theorem dX12_amend_290 : decode cX12_amend 290 = .ok (.dup_x1, 1) := by decide +kernel
theorem dX12_amend_291 : decode cX12_amend 291 = .ok (.iconst 1, 1) := by decide +kernel
theorem dX12_amend_292 : decode cX12_amend 292 = .ok (.iadd, 1) := by decide +kernel
theorem dX12_amend_293 : decode cX12_amend 293 = .ok (.putfield 303, 3) := by decide +kernel
theorem dX12_amend_296 : decode cX12_amend 296 = .ok (.ireturn, 1) := by decide +kernel
theorem dX12_isInForce_0 : decode cX12_isInForce 0 = .ok (.aload_n 0, 1) := by decide +kernel
theorem dX12_isInForce_1 : decode cX12_isInForce 1 = .ok (.getfield 76, 3) := by decide +kernel
theorem dX12_isInForce_4 : decode cX12_isInForce 4 = .ok (.iload_n 1, 1) := by decide +kernel
theorem dX12_isInForce_5 : decode cX12_isInForce 5 = .ok (.iaload, 1) := by decide +kernel
theorem dX12_isInForce_6 : decode cX12_isInForce 6 = .ok (.iload_n 2, 1) := by decide +kernel
theorem dX12_isInForce_7 : decode cX12_isInForce 7 = .ok (.if_icmp .ne 28, 3) := by decide +kernel
theorem dX12_isInForce_10 : decode cX12_isInForce 10 = .ok (.aload_n 0, 1) := by decide +kernel
theorem dX12_isInForce_11 : decode cX12_isInForce 11 = .ok (.getfield 79, 3) := by decide +kernel
theorem dX12_isInForce_14 : decode cX12_isInForce 14 = .ok (.iload_n 1, 1) := by decide +kernel
theorem dX12_isInForce_15 : decode cX12_isInForce 15 = .ok (.iaload, 1) := by decide +kernel
theorem dX12_isInForce_16 : decode cX12_isInForce 16 = .ok (.iload_n 3, 1) := by decide +kernel
theorem dX12_isInForce_17 : decode cX12_isInForce 17 = .ok (.if_icmp .gt 18, 3) := by decide +kernel
theorem dX12_isInForce_20 : decode cX12_isInForce 20 = .ok (.aload_n 0, 1) := by decide +kernel
theorem dX12_isInForce_21 : decode cX12_isInForce 21 = .ok (.getfield 82, 3) := by decide +kernel
theorem dX12_isInForce_24 : decode cX12_isInForce 24 = .ok (.iload_n 1, 1) := by decide +kernel
theorem dX12_isInForce_25 : decode cX12_isInForce 25 = .ok (.iaload, 1) := by decide +kernel
theorem dX12_isInForce_26 : decode cX12_isInForce 26 = .ok (.iload 4, 2) := by decide +kernel
theorem dX12_isInForce_28 : decode cX12_isInForce 28 = .ok (.if_icmp .gt 7, 3) := by decide +kernel
theorem dX12_isInForce_31 : decode cX12_isInForce 31 = .ok (.iconst 1, 1) := by decide +kernel
theorem dX12_isInForce_32 : decode cX12_isInForce 32 = .ok (.goto 4, 3) := by decide +kernel
theorem dX12_isInForce_35 : decode cX12_isInForce 35 = .ok (.iconst 0, 1) := by decide +kernel
theorem dX12_isInForce_36 : decode cX12_isInForce 36 = .ok (.ireturn, 1) := by decide +kernel
theorem dX12_placeOf_0 : decode cX12_placeOf 0 = .ok (.iconst 0, 1) := by decide +kernel
theorem dX12_placeOf_1 : decode cX12_placeOf 1 = .ok (.istore_n 2, 1) := by decide +kernel
theorem dX12_placeOf_2 : decode cX12_placeOf 2 = .ok (.iload_n 2, 1) := by decide +kernel
theorem dX12_placeOf_3 : decode cX12_placeOf 3 = .ok (.aload_n 0, 1) := by decide +kernel
theorem dX12_placeOf_4 : decode cX12_placeOf 4 = .ok (.getfield 85, 3) := by decide +kernel
theorem dX12_placeOf_7 : decode cX12_placeOf 7 = .ok (.iload_n 1, 1) := by decide +kernel
theorem dX12_placeOf_8 : decode cX12_placeOf 8 = .ok (.iaload, 1) := by decide +kernel
theorem dX12_placeOf_9 : decode cX12_placeOf 9 = .ok (.iadd, 1) := by decide +kernel
theorem dX12_placeOf_10 : decode cX12_placeOf 10 = .ok (.aload_n 0, 1) := by decide +kernel
theorem dX12_placeOf_11 : decode cX12_placeOf 11 = .ok (.getfield 306, 3) := by decide +kernel
theorem dX12_placeOf_14 : decode cX12_placeOf 14 = .ok (.if_icmp .gt 61, 3) := by decide +kernel
theorem dX12_placeOf_17 : decode cX12_placeOf 17 = .ok (.iconst 0, 1) := by decide +kernel
theorem dX12_placeOf_18 : decode cX12_placeOf 18 = .ok (.istore_n 3, 1) := by decide +kernel
theorem dX12_placeOf_19 : decode cX12_placeOf 19 = .ok (.iload_n 3, 1) := by decide +kernel
theorem dX12_placeOf_20 : decode cX12_placeOf 20 = .ok (.aload_n 0, 1) := by decide +kernel
theorem dX12_placeOf_21 : decode cX12_placeOf 21 = .ok (.getfield 85, 3) := by decide +kernel
theorem dX12_placeOf_24 : decode cX12_placeOf 24 = .ok (.iload_n 1, 1) := by decide +kernel
theorem dX12_placeOf_25 : decode cX12_placeOf 25 = .ok (.iaload, 1) := by decide +kernel
theorem dX12_placeOf_26 : decode cX12_placeOf 26 = .ok (.if_icmp .ge 31, 3) := by decide +kernel
theorem dX12_placeOf_29 : decode cX12_placeOf 29 = .ok (.aload_n 0, 1) := by decide +kernel
theorem dX12_placeOf_30 : decode cX12_placeOf 30 = .ok (.getfield 100, 3) := by decide +kernel
theorem dX12_placeOf_33 : decode cX12_placeOf 33 = .ok (.iload_n 2, 1) := by decide +kernel
theorem dX12_placeOf_34 : decode cX12_placeOf 34 = .ok (.iload_n 3, 1) := by decide +kernel
theorem dX12_placeOf_35 : decode cX12_placeOf 35 = .ok (.iadd, 1) := by decide +kernel
theorem dX12_placeOf_36 : decode cX12_placeOf 36 = .ok (.iaload, 1) := by decide +kernel
theorem dX12_placeOf_37 : decode cX12_placeOf 37 = .ok (.aload_n 0, 1) := by decide +kernel
theorem dX12_placeOf_38 : decode cX12_placeOf 38 = .ok (.getfield 91, 3) := by decide +kernel
theorem dX12_placeOf_41 : decode cX12_placeOf 41 = .ok (.bipush 80, 2) := by decide +kernel
theorem dX12_placeOf_43 : decode cX12_placeOf 43 = .ok (.iload_n 1, 1) := by decide +kernel
theorem dX12_placeOf_44 : decode cX12_placeOf 44 = .ok (.imul, 1) := by decide +kernel
theorem dX12_placeOf_45 : decode cX12_placeOf 45 = .ok (.iload_n 3, 1) := by decide +kernel
theorem dX12_placeOf_46 : decode cX12_placeOf 46 = .ok (.iadd, 1) := by decide +kernel
theorem dX12_placeOf_47 : decode cX12_placeOf 47 = .ok (.iaload, 1) := by decide +kernel
theorem dX12_placeOf_48 : decode cX12_placeOf 48 = .ok (.if_icmp .ne 9, 3) := by decide +kernel
theorem dX12_placeOf_51 : decode cX12_placeOf 51 = .ok (.iinc 3 1, 3) := by decide +kernel
theorem dX12_placeOf_54 : decode cX12_placeOf 54 = .ok (.goto (-35), 3) := by decide +kernel
theorem dX12_placeOf_57 : decode cX12_placeOf 57 = .ok (.iload_n 3, 1) := by decide +kernel
theorem dX12_placeOf_58 : decode cX12_placeOf 58 = .ok (.aload_n 0, 1) := by decide +kernel
theorem dX12_placeOf_59 : decode cX12_placeOf 59 = .ok (.getfield 85, 3) := by decide +kernel
theorem dX12_placeOf_62 : decode cX12_placeOf 62 = .ok (.iload_n 1, 1) := by decide +kernel
theorem dX12_placeOf_63 : decode cX12_placeOf 63 = .ok (.iaload, 1) := by decide +kernel
theorem dX12_placeOf_64 : decode cX12_placeOf 64 = .ok (.if_icmp .ne 5, 3) := by decide +kernel
theorem dX12_placeOf_67 : decode cX12_placeOf 67 = .ok (.iload_n 2, 1) := by decide +kernel
theorem dX12_placeOf_68 : decode cX12_placeOf 68 = .ok (.ireturn, 1) := by decide +kernel
theorem dX12_placeOf_69 : decode cX12_placeOf 69 = .ok (.iinc 2 1, 3) := by decide +kernel
theorem dX12_placeOf_72 : decode cX12_placeOf 72 = .ok (.goto (-70), 3) := by decide +kernel
theorem dX12_placeOf_75 : decode cX12_placeOf 75 = .ok (.iconst (-1), 1) := by decide +kernel
theorem dX12_placeOf_76 : decode cX12_placeOf 76 = .ok (.ireturn, 1) := by decide +kernel
theorem dX12_words_0 : decode cX12_words 0 = .ok (.aload_n 0, 1) := by decide +kernel
theorem dX12_words_1 : decode cX12_words 1 = .ok (.aload_n 0, 1) := by decide +kernel
theorem dX12_words_2 : decode cX12_words 2 = .ok (.getfield 73, 3) := by decide +kernel
theorem dX12_words_5 : decode cX12_words 5 = .ok (.iload_n 1, 1) := by decide +kernel
theorem dX12_words_6 : decode cX12_words 6 = .ok (.iaload, 1) := by decide +kernel
theorem dX12_words_7 : decode cX12_words 7 = .ok (.putfield 306, 3) := by decide +kernel
theorem dX12_words_10 : decode cX12_words 10 = .ok (.iconst 0, 1) := by decide +kernel
theorem dX12_words_11 : decode cX12_words 11 = .ok (.istore 4, 2) := by decide +kernel
theorem dX12_words_13 : decode cX12_words 13 = .ok (.iload 4, 2) := by decide +kernel
theorem dX12_words_15 : decode cX12_words 15 = .ok (.aload_n 0, 1) := by decide +kernel
theorem dX12_words_16 : decode cX12_words 16 = .ok (.getfield 306, 3) := by decide +kernel
theorem dX12_words_19 : decode cX12_words 19 = .ok (.if_icmp .ge 28, 3) := by decide +kernel
theorem dX12_words_22 : decode cX12_words 22 = .ok (.aload_n 0, 1) := by decide +kernel
theorem dX12_words_23 : decode cX12_words 23 = .ok (.getfield 100, 3) := by decide +kernel
theorem dX12_words_26 : decode cX12_words 26 = .ok (.iload 4, 2) := by decide +kernel
theorem dX12_words_28 : decode cX12_words 28 = .ok (.aload_n 0, 1) := by decide +kernel
theorem dX12_words_29 : decode cX12_words 29 = .ok (.getfield 70, 3) := by decide +kernel
theorem dX12_words_32 : decode cX12_words 32 = .ok (.bipush 80, 2) := by decide +kernel
theorem dX12_words_34 : decode cX12_words 34 = .ok (.iload_n 1, 1) := by decide +kernel
theorem dX12_words_35 : decode cX12_words 35 = .ok (.imul, 1) := by decide +kernel
theorem dX12_words_36 : decode cX12_words 36 = .ok (.iload 4, 2) := by decide +kernel
theorem dX12_words_38 : decode cX12_words 38 = .ok (.iadd, 1) := by decide +kernel
theorem dX12_words_39 : decode cX12_words 39 = .ok (.iaload, 1) := by decide +kernel
theorem dX12_words_40 : decode cX12_words 40 = .ok (.iastore, 1) := by decide +kernel
theorem dX12_words_41 : decode cX12_words 41 = .ok (.iinc 4 1, 3) := by decide +kernel
theorem dX12_words_44 : decode cX12_words 44 = .ok (.goto (-31), 3) := by decide +kernel
theorem dX12_words_47 : decode cX12_words 47 = .ok (.aload_n 0, 1) := by decide +kernel
theorem dX12_words_48 : decode cX12_words 48 = .ok (.getfield 97, 3) := by decide +kernel
theorem dX12_words_51 : decode cX12_words 51 = .ok (.astore 4, 2) := by decide +kernel
theorem dX12_words_53 : decode cX12_words 53 = .ok (.iconst 0, 1) := by decide +kernel
theorem dX12_words_54 : decode cX12_words 54 = .ok (.istore 5, 2) := by decide +kernel
theorem dX12_words_56 : decode cX12_words 56 = .ok (.iload 5, 2) := by decide +kernel
theorem dX12_words_58 : decode cX12_words 58 = .ok (.bipush 12, 2) := by decide +kernel
theorem dX12_words_60 : decode cX12_words 60 = .ok (.if_icmp .ge 15, 3) := by decide +kernel
theorem dX12_words_63 : decode cX12_words 63 = .ok (.aload 4, 2) := by decide +kernel
theorem dX12_words_65 : decode cX12_words 65 = .ok (.iload 5, 2) := by decide +kernel
theorem dX12_words_67 : decode cX12_words 67 = .ok (.iconst 0, 1) := by decide +kernel
theorem dX12_words_68 : decode cX12_words 68 = .ok (.bastore, 1) := by decide +kernel
theorem dX12_words_69 : decode cX12_words 69 = .ok (.iinc 5 1, 3) := by decide +kernel
theorem dX12_words_72 : decode cX12_words 72 = .ok (.goto (-16), 3) := by decide +kernel
theorem dX12_words_75 : decode cX12_words 75 = .ok (.iconst (-1), 1) := by decide +kernel
theorem dX12_words_76 : decode cX12_words 76 = .ok (.istore 5, 2) := by decide +kernel
theorem dX12_words_78 : decode cX12_words 78 = .ok (.iconst (-1), 1) := by decide +kernel
theorem dX12_words_79 : decode cX12_words 79 = .ok (.istore 6, 2) := by decide +kernel
theorem dX12_words_81 : decode cX12_words 81 = .ok (.iconst (-1), 1) := by decide +kernel
theorem dX12_words_82 : decode cX12_words 82 = .ok (.istore 7, 2) := by decide +kernel
theorem dX12_words_84 : decode cX12_words 84 = .ok (.iconst 0, 1) := by decide +kernel
theorem dX12_words_85 : decode cX12_words 85 = .ok (.istore 8, 2) := by decide +kernel
theorem dX12_words_87 : decode cX12_words 87 = .ok (.iload 8, 2) := by decide +kernel
theorem dX12_words_89 : decode cX12_words 89 = .ok (.aload_n 0, 1) := by decide +kernel
theorem dX12_words_90 : decode cX12_words 90 = .ok (.getfield 303, 3) := by decide +kernel
theorem dX12_words_93 : decode cX12_words 93 = .ok (.if_icmp .ge 82, 3) := by decide +kernel
theorem dX12_words_96 : decode cX12_words 96 = .ok (.aload_n 0, 1) := by decide +kernel
theorem dX12_words_97 : decode cX12_words 97 = .ok (.iload 8, 2) := by decide +kernel
theorem dX12_words_99 : decode cX12_words 99 = .ok (.iload_n 1, 1) := by decide +kernel
theorem dX12_words_100 : decode cX12_words 100 = .ok (.iload_n 2, 1) := by decide +kernel
theorem dX12_words_101 : decode cX12_words 101 = .ok (.iload_n 3, 1) := by decide +kernel
theorem dX12_words_102 : decode cX12_words 102 = .ok (.invokevirtual 309, 3) := by decide +kernel
theorem dX12_words_105 : decode cX12_words 105 = .ok (.ifCond .eq 64, 3) := by decide +kernel
theorem dX12_words_108 : decode cX12_words 108 = .ok (.aload_n 0, 1) := by decide +kernel
theorem dX12_words_109 : decode cX12_words 109 = .ok (.getfield 79, 3) := by decide +kernel
theorem dX12_words_112 : decode cX12_words 112 = .ok (.iload 8, 2) := by decide +kernel
theorem dX12_words_114 : decode cX12_words 114 = .ok (.iaload, 1) := by decide +kernel
theorem dX12_words_115 : decode cX12_words 115 = .ok (.iload 6, 2) := by decide +kernel
theorem dX12_words_117 : decode cX12_words 117 = .ok (.if_icmp .lt 52, 3) := by decide +kernel
theorem dX12_words_120 : decode cX12_words 120 = .ok (.aload_n 0, 1) := by decide +kernel
theorem dX12_words_121 : decode cX12_words 121 = .ok (.getfield 79, 3) := by decide +kernel
theorem dX12_words_124 : decode cX12_words 124 = .ok (.iload 8, 2) := by decide +kernel
theorem dX12_words_126 : decode cX12_words 126 = .ok (.iaload, 1) := by decide +kernel
theorem dX12_words_127 : decode cX12_words 127 = .ok (.iload 6, 2) := by decide +kernel
theorem dX12_words_129 : decode cX12_words 129 = .ok (.if_icmp .ne 13, 3) := by decide +kernel
theorem dX12_words_132 : decode cX12_words 132 = .ok (.iload 8, 2) := by decide +kernel
theorem dX12_words_134 : decode cX12_words 134 = .ok (.iload 5, 2) := by decide +kernel
theorem dX12_words_136 : decode cX12_words 136 = .ok (.if_icmp .gt 6, 3) := by decide +kernel
theorem dX12_words_139 : decode cX12_words 139 = .ok (.goto 30, 3) := by decide +kernel
theorem dX12_words_142 : decode cX12_words 142 = .ok (.iload 7, 2) := by decide +kernel
theorem dX12_words_144 : decode cX12_words 144 = .ok (.iconst (-1), 1) := by decide +kernel
theorem dX12_words_145 : decode cX12_words 145 = .ok (.if_icmp .eq 20, 3) := by decide +kernel
theorem dX12_words_148 : decode cX12_words 148 = .ok (.aload_n 0, 1) := by decide +kernel
theorem dX12_words_149 : decode cX12_words 149 = .ok (.getfield 79, 3) := by decide +kernel
theorem dX12_words_152 : decode cX12_words 152 = .ok (.iload 8, 2) := by decide +kernel
theorem dX12_words_154 : decode cX12_words 154 = .ok (.iaload, 1) := by decide +kernel
theorem dX12_words_155 : decode cX12_words 155 = .ok (.aload_n 0, 1) := by decide +kernel
theorem dX12_words_156 : decode cX12_words 156 = .ok (.getfield 79, 3) := by decide +kernel
theorem dX12_words_159 : decode cX12_words 159 = .ok (.iload 7, 2) := by decide +kernel
theorem dX12_words_161 : decode cX12_words 161 = .ok (.iaload, 1) := by decide +kernel
theorem dX12_words_162 : decode cX12_words 162 = .ok (.if_icmp .ge 7, 3) := by decide +kernel
theorem dX12_words_165 : decode cX12_words 165 = .ok (.iload 8, 2) := by decide +kernel
theorem dX12_words_167 : decode cX12_words 167 = .ok (.istore 7, 2) := by decide +kernel
theorem dX12_words_169 : decode cX12_words 169 = .ok (.iinc 8 1, 3) := by decide +kernel
theorem dX12_words_172 : decode cX12_words 172 = .ok (.goto (-85), 3) := by decide +kernel
theorem dX12_words_175 : decode cX12_words 175 = .ok (.iload 7, 2) := by decide +kernel
theorem dX12_words_177 : decode cX12_words 177 = .ok (.iconst (-1), 1) := by decide +kernel
theorem dX12_words_178 : decode cX12_words 178 = .ok (.if_icmp .ne 4, 3) := by decide +kernel
theorem dX12_words_181 : decode cX12_words 181 = .ok (.return_, 1) := by decide +kernel
theorem dX12_words_182 : decode cX12_words 182 = .ok (.iload 7, 2) := by decide +kernel
theorem dX12_words_184 : decode cX12_words 184 = .ok (.istore 5, 2) := by decide +kernel
theorem dX12_words_186 : decode cX12_words 186 = .ok (.aload_n 0, 1) := by decide +kernel
theorem dX12_words_187 : decode cX12_words 187 = .ok (.getfield 79, 3) := by decide +kernel
theorem dX12_words_190 : decode cX12_words 190 = .ok (.iload 7, 2) := by decide +kernel
theorem dX12_words_192 : decode cX12_words 192 = .ok (.iaload, 1) := by decide +kernel
theorem dX12_words_193 : decode cX12_words 193 = .ok (.istore 6, 2) := by decide +kernel
theorem dX12_words_195 : decode cX12_words 195 = .ok (.aload_n 0, 1) := by decide +kernel
theorem dX12_words_196 : decode cX12_words 196 = .ok (.iload 7, 2) := by decide +kernel
theorem dX12_words_198 : decode cX12_words 198 = .ok (.invokevirtual 313, 3) := by decide +kernel
theorem dX12_words_201 : decode cX12_words 201 = .ok (.istore 8, 2) := by decide +kernel
theorem dX12_words_203 : decode cX12_words 203 = .ok (.iload 8, 2) := by decide +kernel
theorem dX12_words_205 : decode cX12_words 205 = .ok (.iconst (-1), 1) := by decide +kernel
theorem dX12_words_206 : decode cX12_words 206 = .ok (.if_icmp .eq 29, 3) := by decide +kernel
theorem dX12_words_209 : decode cX12_words 209 = .ok (.aload_n 0, 1) := by decide +kernel
theorem dX12_words_210 : decode cX12_words 210 = .ok (.getfield 306, 3) := by decide +kernel
theorem dX12_words_213 : decode cX12_words 213 = .ok (.aload_n 0, 1) := by decide +kernel
theorem dX12_words_214 : decode cX12_words 214 = .ok (.getfield 85, 3) := by decide +kernel
theorem dX12_words_217 : decode cX12_words 217 = .ok (.iload 7, 2) := by decide +kernel
theorem dX12_words_219 : decode cX12_words 219 = .ok (.iaload, 1) := by decide +kernel
theorem dX12_words_220 : decode cX12_words 220 = .ok (.isub, 1) := by decide +kernel
theorem dX12_words_221 : decode cX12_words 221 = .ok (.aload_n 0, 1) := by decide +kernel
theorem dX12_words_222 : decode cX12_words 222 = .ok (.getfield 88, 3) := by decide +kernel
theorem dX12_words_225 : decode cX12_words 225 = .ok (.iload 7, 2) := by decide +kernel
theorem dX12_words_227 : decode cX12_words 227 = .ok (.iaload, 1) := by decide +kernel
theorem dX12_words_228 : decode cX12_words 228 = .ok (.iadd, 1) := by decide +kernel
theorem dX12_words_229 : decode cX12_words 229 = .ok (.sipush 200, 3) := by decide +kernel
theorem dX12_words_232 : decode cX12_words 232 = .ok (.if_icmp .le 12, 3) := by decide +kernel
theorem dX12_words_235 : decode cX12_words 235 = .ok (.aload 4, 2) := by decide +kernel
theorem dX12_words_237 : decode cX12_words 237 = .ok (.iload 7, 2) := by decide +kernel
theorem dX12_words_239 : decode cX12_words 239 = .ok (.iconst 1, 1) := by decide +kernel
theorem dX12_words_240 : decode cX12_words 240 = .ok (.bastore, 1) := by decide +kernel
theorem dX12_words_241 : decode cX12_words 241 = .ok (.goto (-160), 3) := by decide +kernel
theorem dX12_words_244 : decode cX12_words 244 = .ok (.iconst 0, 1) := by decide +kernel
theorem dX12_words_245 : decode cX12_words 245 = .ok (.istore 9, 2) := by decide +kernel
theorem dX12_words_247 : decode cX12_words 247 = .ok (.iconst 0, 1) := by decide +kernel
theorem dX12_words_248 : decode cX12_words 248 = .ok (.istore 10, 2) := by decide +kernel
theorem dX12_words_250 : decode cX12_words 250 = .ok (.iload 10, 2) := by decide +kernel
theorem dX12_words_252 : decode cX12_words 252 = .ok (.iload 8, 2) := by decide +kernel
theorem dX12_words_254 : decode cX12_words 254 = .ok (.if_icmp .ge 26, 3) := by decide +kernel
theorem dX12_words_257 : decode cX12_words 257 = .ok (.aload_n 0, 1) := by decide +kernel
theorem dX12_words_258 : decode cX12_words 258 = .ok (.getfield 103, 3) := by decide +kernel
theorem dX12_words_261 : decode cX12_words 261 = .ok (.iload 9, 2) := by decide +kernel
theorem dX12_words_263 : decode cX12_words 263 = .ok (.iinc 9 1, 3) := by decide +kernel
theorem dX12_words_266 : decode cX12_words 266 = .ok (.aload_n 0, 1) := by decide +kernel
theorem dX12_words_267 : decode cX12_words 267 = .ok (.getfield 100, 3) := by decide +kernel
theorem dX12_words_270 : decode cX12_words 270 = .ok (.iload 10, 2) := by decide +kernel
theorem dX12_words_272 : decode cX12_words 272 = .ok (.iaload, 1) := by decide +kernel
theorem dX12_words_273 : decode cX12_words 273 = .ok (.iastore, 1) := by decide +kernel
theorem dX12_words_274 : decode cX12_words 274 = .ok (.iinc 10 1, 3) := by decide +kernel
theorem dX12_words_277 : decode cX12_words 277 = .ok (.goto (-27), 3) := by decide +kernel
theorem dX12_words_280 : decode cX12_words 280 = .ok (.iconst 0, 1) := by decide +kernel
theorem dX12_words_281 : decode cX12_words 281 = .ok (.istore 10, 2) := by decide +kernel
theorem dX12_words_283 : decode cX12_words 283 = .ok (.iload 10, 2) := by decide +kernel
theorem dX12_words_285 : decode cX12_words 285 = .ok (.aload_n 0, 1) := by decide +kernel
theorem dX12_words_286 : decode cX12_words 286 = .ok (.getfield 88, 3) := by decide +kernel
theorem dX12_words_289 : decode cX12_words 289 = .ok (.iload 7, 2) := by decide +kernel
theorem dX12_words_291 : decode cX12_words 291 = .ok (.iaload, 1) := by decide +kernel
theorem dX12_words_292 : decode cX12_words 292 = .ok (.if_icmp .ge 32, 3) := by decide +kernel
theorem dX12_words_295 : decode cX12_words 295 = .ok (.aload_n 0, 1) := by decide +kernel
theorem dX12_words_296 : decode cX12_words 296 = .ok (.getfield 103, 3) := by decide +kernel
theorem dX12_words_299 : decode cX12_words 299 = .ok (.iload 9, 2) := by decide +kernel
theorem dX12_words_301 : decode cX12_words 301 = .ok (.iinc 9 1, 3) := by decide +kernel
theorem dX12_words_304 : decode cX12_words 304 = .ok (.aload_n 0, 1) := by decide +kernel
theorem dX12_words_305 : decode cX12_words 305 = .ok (.getfield 94, 3) := by decide +kernel
theorem dX12_words_308 : decode cX12_words 308 = .ok (.bipush 80, 2) := by decide +kernel
theorem dX12_words_310 : decode cX12_words 310 = .ok (.iload 7, 2) := by decide +kernel
theorem dX12_words_312 : decode cX12_words 312 = .ok (.imul, 1) := by decide +kernel
theorem dX12_words_313 : decode cX12_words 313 = .ok (.iload 10, 2) := by decide +kernel
theorem dX12_words_315 : decode cX12_words 315 = .ok (.iadd, 1) := by decide +kernel
theorem dX12_words_316 : decode cX12_words 316 = .ok (.iaload, 1) := by decide +kernel
theorem dX12_words_317 : decode cX12_words 317 = .ok (.iastore, 1) := by decide +kernel
theorem dX12_words_318 : decode cX12_words 318 = .ok (.iinc 10 1, 3) := by decide +kernel
theorem dX12_words_321 : decode cX12_words 321 = .ok (.goto (-38), 3) := by decide +kernel
theorem dX12_words_324 : decode cX12_words 324 = .ok (.iload 8, 2) := by decide +kernel
theorem dX12_words_326 : decode cX12_words 326 = .ok (.aload_n 0, 1) := by decide +kernel
theorem dX12_words_327 : decode cX12_words 327 = .ok (.getfield 85, 3) := by decide +kernel
theorem dX12_words_330 : decode cX12_words 330 = .ok (.iload 7, 2) := by decide +kernel
theorem dX12_words_332 : decode cX12_words 332 = .ok (.iaload, 1) := by decide +kernel
theorem dX12_words_333 : decode cX12_words 333 = .ok (.iadd, 1) := by decide +kernel
theorem dX12_words_334 : decode cX12_words 334 = .ok (.istore 10, 2) := by decide +kernel
theorem dX12_words_336 : decode cX12_words 336 = .ok (.iload 10, 2) := by decide +kernel
theorem dX12_words_338 : decode cX12_words 338 = .ok (.aload_n 0, 1) := by decide +kernel
theorem dX12_words_339 : decode cX12_words 339 = .ok (.getfield 306, 3) := by decide +kernel
theorem dX12_words_342 : decode cX12_words 342 = .ok (.if_icmp .ge 26, 3) := by decide +kernel
theorem dX12_words_345 : decode cX12_words 345 = .ok (.aload_n 0, 1) := by decide +kernel
theorem dX12_words_346 : decode cX12_words 346 = .ok (.getfield 103, 3) := by decide +kernel
theorem dX12_words_349 : decode cX12_words 349 = .ok (.iload 9, 2) := by decide +kernel
theorem dX12_words_351 : decode cX12_words 351 = .ok (.iinc 9 1, 3) := by decide +kernel
theorem dX12_words_354 : decode cX12_words 354 = .ok (.aload_n 0, 1) := by decide +kernel
theorem dX12_words_355 : decode cX12_words 355 = .ok (.getfield 100, 3) := by decide +kernel
theorem dX12_words_358 : decode cX12_words 358 = .ok (.iload 10, 2) := by decide +kernel
theorem dX12_words_360 : decode cX12_words 360 = .ok (.iaload, 1) := by decide +kernel
theorem dX12_words_361 : decode cX12_words 361 = .ok (.iastore, 1) := by decide +kernel
theorem dX12_words_362 : decode cX12_words 362 = .ok (.iinc 10 1, 3) := by decide +kernel
theorem dX12_words_365 : decode cX12_words 365 = .ok (.goto (-29), 3) := by decide +kernel
theorem dX12_words_368 : decode cX12_words 368 = .ok (.aload_n 0, 1) := by decide +kernel
theorem dX12_words_369 : decode cX12_words 369 = .ok (.iload 9, 2) := by decide +kernel
theorem dX12_words_371 : decode cX12_words 371 = .ok (.putfield 306, 3) := by decide +kernel
theorem dX12_words_374 : decode cX12_words 374 = .ok (.iconst 0, 1) := by decide +kernel
theorem dX12_words_375 : decode cX12_words 375 = .ok (.istore 10, 2) := by decide +kernel
theorem dX12_words_377 : decode cX12_words 377 = .ok (.iload 10, 2) := by decide +kernel
theorem dX12_words_379 : decode cX12_words 379 = .ok (.iload 9, 2) := by decide +kernel
theorem dX12_words_381 : decode cX12_words 381 = .ok (.if_icmp .ge 23, 3) := by decide +kernel
theorem dX12_words_384 : decode cX12_words 384 = .ok (.aload_n 0, 1) := by decide +kernel
theorem dX12_words_385 : decode cX12_words 385 = .ok (.getfield 100, 3) := by decide +kernel
theorem dX12_words_388 : decode cX12_words 388 = .ok (.iload 10, 2) := by decide +kernel
theorem dX12_words_390 : decode cX12_words 390 = .ok (.aload_n 0, 1) := by decide +kernel
theorem dX12_words_391 : decode cX12_words 391 = .ok (.getfield 103, 3) := by decide +kernel
theorem dX12_words_394 : decode cX12_words 394 = .ok (.iload 10, 2) := by decide +kernel
theorem dX12_words_396 : decode cX12_words 396 = .ok (.iaload, 1) := by decide +kernel
theorem dX12_words_397 : decode cX12_words 397 = .ok (.iastore, 1) := by decide +kernel
theorem dX12_words_398 : decode cX12_words 398 = .ok (.iinc 10 1, 3) := by decide +kernel
theorem dX12_words_401 : decode cX12_words 401 = .ok (.goto (-24), 3) := by decide +kernel
theorem dX12_words_404 : decode cX12_words 404 = .ok (.goto (-323), 3) := by decide +kernel
theorem dX12_words__0 : decode cX12_words_ 0 = .ok (.iload_n 1, 1) := by decide +kernel
theorem dX12_words__1 : decode cX12_words_ 1 = .ok (.invokestatic 297, 3) := by decide +kernel
theorem dX12_words__4 : decode cX12_words_ 4 = .ok (.ifCond .ne 5, 3) := by decide +kernel
theorem dX12_words__7 : decode cX12_words_ 7 = .ok (.iconst (-1), 1) := by decide +kernel
theorem dX12_words__8 : decode cX12_words_ 8 = .ok (.ireturn, 1) := by decide +kernel
theorem dX12_words__9 : decode cX12_words_ 9 = .ok (.aload_n 0, 1) := by decide +kernel
theorem dX12_words__10 : decode cX12_words_ 10 = .ok (.iload_n 1, 1) := by decide +kernel
theorem dX12_words__11 : decode cX12_words_ 11 = .ok (.iload_n 2, 1) := by decide +kernel
theorem dX12_words__12 : decode cX12_words_ 12 = .ok (.iload_n 3, 1) := by decide +kernel
theorem dX12_words__13 : decode cX12_words_ 13 = .ok (.invokevirtual 316, 3) := by decide +kernel
theorem dX12_words__16 : decode cX12_words_ 16 = .ok (.iload 4, 2) := by decide +kernel
theorem dX12_words__18 : decode cX12_words_ 18 = .ok (.iconst (-1), 1) := by decide +kernel
theorem dX12_words__19 : decode cX12_words_ 19 = .ok (.if_icmp .ne 8, 3) := by decide +kernel
theorem dX12_words__22 : decode cX12_words_ 22 = .ok (.aload_n 0, 1) := by decide +kernel
theorem dX12_words__23 : decode cX12_words_ 23 = .ok (.getfield 306, 3) := by decide +kernel
theorem dX12_words__26 : decode cX12_words_ 26 = .ok (.ireturn, 1) := by decide +kernel
theorem dX12_words__27 : decode cX12_words_ 27 = .ok (.iload 4, 2) := by decide +kernel
theorem dX12_words__29 : decode cX12_words_ 29 = .ok (.ifCond .lt 22, 3) := by decide +kernel
theorem dX12_words__32 : decode cX12_words_ 32 = .ok (.iload 4, 2) := by decide +kernel
theorem dX12_words__34 : decode cX12_words_ 34 = .ok (.aload_n 0, 1) := by decide +kernel
theorem dX12_words__35 : decode cX12_words_ 35 = .ok (.getfield 306, 3) := by decide +kernel
theorem dX12_words__38 : decode cX12_words_ 38 = .ok (.if_icmp .ge 13, 3) := by decide +kernel
theorem dX12_words__41 : decode cX12_words_ 41 = .ok (.aload_n 0, 1) := by decide +kernel
theorem dX12_words__42 : decode cX12_words_ 42 = .ok (.getfield 100, 3) := by decide +kernel
theorem dX12_words__45 : decode cX12_words_ 45 = .ok (.iload 4, 2) := by decide +kernel
theorem dX12_words__47 : decode cX12_words_ 47 = .ok (.iaload, 1) := by decide +kernel
theorem dX12_words__48 : decode cX12_words_ 48 = .ok (.goto 4, 3) := by decide +kernel
theorem dX12_words__51 : decode cX12_words_ 51 = .ok (.iconst (-1), 1) := by decide +kernel
theorem dX12_words__52 : decode cX12_words_ 52 = .ok (.ireturn, 1) := by decide +kernel
theorem dX12_gone_0 : decode cX12_gone 0 = .ok (.iload_n 1, 1) := by decide +kernel
theorem dX12_gone_1 : decode cX12_gone 1 = .ok (.ifCond .lt 27, 3) := by decide +kernel
theorem dX12_gone_4 : decode cX12_gone 4 = .ok (.iload_n 1, 1) := by decide +kernel
theorem dX12_gone_5 : decode cX12_gone 5 = .ok (.aload_n 0, 1) := by decide +kernel
theorem dX12_gone_6 : decode cX12_gone 6 = .ok (.getfield 303, 3) := by decide +kernel
theorem dX12_gone_9 : decode cX12_gone 9 = .ok (.if_icmp .ge 19, 3) := by decide +kernel
theorem dX12_gone_12 : decode cX12_gone 12 = .ok (.aload_n 0, 1) := by decide +kernel
theorem dX12_gone_13 : decode cX12_gone 13 = .ok (.iload_n 1, 1) := by decide +kernel
theorem dX12_gone_14 : decode cX12_gone 14 = .ok (.aload_n 0, 1) := by decide +kernel
theorem dX12_gone_15 : decode cX12_gone 15 = .ok (.getfield 76, 3) := by decide +kernel
theorem dX12_gone_18 : decode cX12_gone 18 = .ok (.iload_n 1, 1) := by decide +kernel
theorem dX12_gone_19 : decode cX12_gone 19 = .ok (.iaload, 1) := by decide +kernel
theorem dX12_gone_20 : decode cX12_gone 20 = .ok (.iload_n 2, 1) := by decide +kernel
theorem dX12_gone_21 : decode cX12_gone 21 = .ok (.iload_n 3, 1) := by decide +kernel
theorem dX12_gone_22 : decode cX12_gone 22 = .ok (.invokevirtual 309, 3) := by decide +kernel
theorem dX12_gone_25 : decode cX12_gone 25 = .ok (.ifCond .ne 5, 3) := by decide +kernel
theorem dX12_gone_28 : decode cX12_gone 28 = .ok (.iconst (-1), 1) := by decide +kernel
theorem dX12_gone_29 : decode cX12_gone 29 = .ok (.ireturn, 1) := by decide +kernel
theorem dX12_gone_30 : decode cX12_gone 30 = .ok (.aload_n 0, 1) := by decide +kernel
theorem dX12_gone_31 : decode cX12_gone 31 = .ok (.aload_n 0, 1) := by decide +kernel
theorem dX12_gone_32 : decode cX12_gone 32 = .ok (.getfield 76, 3) := by decide +kernel
theorem dX12_gone_35 : decode cX12_gone 35 = .ok (.iload_n 1, 1) := by decide +kernel
theorem dX12_gone_36 : decode cX12_gone 36 = .ok (.iaload, 1) := by decide +kernel
theorem dX12_gone_37 : decode cX12_gone 37 = .ok (.iload_n 2, 1) := by decide +kernel
theorem dX12_gone_38 : decode cX12_gone 38 = .ok (.iload_n 3, 1) := by decide +kernel
theorem dX12_gone_39 : decode cX12_gone 39 = .ok (.invokevirtual 316, 3) := by decide +kernel
theorem dX12_gone_42 : decode cX12_gone 42 = .ok (.aload_n 0, 1) := by decide +kernel
theorem dX12_gone_43 : decode cX12_gone 43 = .ok (.getfield 97, 3) := by decide +kernel
theorem dX12_gone_46 : decode cX12_gone 46 = .ok (.iload_n 1, 1) := by decide +kernel
theorem dX12_gone_47 : decode cX12_gone 47 = .ok (.baload, 1) := by decide +kernel
theorem dX12_gone_48 : decode cX12_gone 48 = .ok (.ifCond .eq 7, 3) := by decide +kernel
theorem dX12_gone_51 : decode cX12_gone 51 = .ok (.iconst 1, 1) := by decide +kernel
theorem dX12_gone_52 : decode cX12_gone 52 = .ok (.goto 4, 3) := by decide +kernel
theorem dX12_gone_55 : decode cX12_gone 55 = .ok (.iconst 0, 1) := by decide +kernel
theorem dX12_gone_56 : decode cX12_gone 56 = .ok (.ireturn, 1) := by decide +kernel
