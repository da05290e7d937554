theorem dX12_letter_0 : decode cX12_letter 0 = .ok (.aload_n 0, 1) := by decide +kernel
theorem dX12_letter_1 : decode cX12_letter 1 = .ok (.getfield 320, 3) := by decide +kernel
theorem dX12_letter_4 : decode cX12_letter 4 = .ok (.aload_n 0, 1) := by decide +kernel
theorem dX12_letter_5 : decode cX12_letter 5 = .ok (.getfield 306, 3) := by decide +kernel
theorem dX12_letter_8 : decode cX12_letter 8 = .ok (.if_icmp .ge 15, 3) := by decide +kernel
theorem dX12_letter_11 : decode cX12_letter 11 = .ok (.aload_n 0, 1) := by decide +kernel
theorem dX12_letter_12 : decode cX12_letter 12 = .ok (.getfield 100, 3) := by decide +kernel
theorem dX12_letter_15 : decode cX12_letter 15 = .ok (.aload_n 0, 1) := by decide +kernel
theorem dX12_letter_16 : decode cX12_letter 16 = .ok (.getfield 320, 3) := by decide +kernel
theorem dX12_letter_19 : decode cX12_letter 19 = .ok (.iaload, 1) := by decide +kernel
theorem dX12_letter_20 : decode cX12_letter 20 = .ok (.goto 4, 3) := by decide +kernel
theorem dX12_letter_23 : decode cX12_letter 23 = .ok (.iconst (-1), 1) := by decide +kernel
theorem dX12_letter_24 : decode cX12_letter 24 = .ok (.ireturn, 1) := by decide +kernel
theorem dX12_reads_0 : decode cX12_reads 0 = .ok (.aload_n 0, 1) := by decide +kernel
theorem dX12_reads_1 : decode cX12_reads 1 = .ok (.invokevirtual 323, 3) := by decide +kernel
theorem dX12_reads_4 : decode cX12_reads 4 = .ok (.istore_n 1, 1) := by decide +kernel
theorem dX12_reads_5 : decode cX12_reads 5 = .ok (.aload_n 0, 1) := by decide +kernel
theorem dX12_reads_6 : decode cX12_reads 6 = .ok (.getfield 205, 3) := by decide +kernel
theorem dX12_reads_9 : decode cX12_reads 9 = .ok (.aload_n 0, 1) := by decide +kernel
theorem dX12_reads_10 : decode cX12_reads 10 = .ok (.getfield 327, 3) := by decide +kernel
theorem dX12_reads_13 : decode cX12_reads 13 = .ok (.iload_n 1, 1) := by decide +kernel
theorem dX12_reads_14 : decode cX12_reads 14 = .ok (.iastore, 1) := by decide +kernel
theorem dX12_reads_15 : decode cX12_reads 15 = .ok (.iload_n 1, 1) := by decide +kernel
theorem dX12_reads_16 : decode cX12_reads 16 = .ok (.bipush 119, 2) := by decide +kernel
theorem dX12_reads_18 : decode cX12_reads 18 = .ok (.if_icmp .ne 36, 3) := by decide +kernel
theorem dX12_reads_21 : decode cX12_reads 21 = .ok (.aload_n 0, 1) := by decide +kernel
theorem dX12_reads_22 : decode cX12_reads 22 = .ok (.getfield 320, 3) := by decide +kernel
theorem dX12_reads_25 : decode cX12_reads 25 = .ok (.aload_n 0, 1) := by decide +kernel
theorem dX12_reads_26 : decode cX12_reads 26 = .ok (.getfield 306, 3) := by decide +kernel
theorem dX12_reads_29 : decode cX12_reads 29 = .ok (.if_icmp .ge 25, 3) := by decide +kernel
theorem dX12_reads_32 : decode cX12_reads 32 = .ok (.aload_n 0, 1) := by decide +kernel
theorem dX12_reads_33 : decode cX12_reads 33 = .ok (.dup, 1) := by decide +kernel
theorem dX12_reads_34 : decode cX12_reads 34 = .ok (.getfield 320, 3) := by decide +kernel
theorem dX12_reads_37 : decode cX12_reads 37 = .ok (.iconst 1, 1) := by decide +kernel
theorem dX12_reads_38 : decode cX12_reads 38 = .ok (.iadd, 1) := by decide +kernel
theorem dX12_reads_39 : decode cX12_reads 39 = .ok (.putfield 320, 3) := by decide +kernel
theorem dX12_reads_42 : decode cX12_reads 42 = .ok (.aload_n 0, 1) := by decide +kernel
theorem dX12_reads_43 : decode cX12_reads 43 = .ok (.dup, 1) := by decide +kernel
theorem dX12_reads_44 : decode cX12_reads 44 = .ok (.getfield 327, 3) := by decide +kernel
theorem dX12_reads_47 : decode cX12_reads 47 = .ok (.iconst 1, 1) := by decide +kernel
theorem dX12_reads_48 : decode cX12_reads 48 = .ok (.iadd, 1) := by decide +kernel
theorem dX12_reads_49 : decode cX12_reads 49 = .ok (.putfield 327, 3) := by decide +kernel
theorem dX12_reads_52 : decode cX12_reads 52 = .ok (.iconst 1, 1) := by decide +kernel
theorem dX12_reads_53 : decode cX12_reads 53 = .ok (.ireturn, 1) := by decide +kernel
theorem dX12_reads_54 : decode cX12_reads 54 = .ok (.aload_n 0, 1) := by decide +kernel
theorem dX12_reads_55 : decode cX12_reads 55 = .ok (.getfield 320, 3) := by decide +kernel
theorem dX12_reads_58 : decode cX12_reads 58 = .ok (.aload_n 0, 1) := by decide +kernel
theorem dX12_reads_59 : decode cX12_reads 59 = .ok (.getfield 306, 3) := by decide +kernel
theorem dX12_reads_62 : decode cX12_reads 62 = .ok (.if_icmp .ge 33, 3) := by decide +kernel
theorem dX12_reads_65 : decode cX12_reads 65 = .ok (.iload_n 1, 1) := by decide +kernel
theorem dX12_reads_66 : decode cX12_reads 66 = .ok (.bipush 97, 2) := by decide +kernel
theorem dX12_reads_68 : decode cX12_reads 68 = .ok (.if_icmp .eq 29, 3) := by decide +kernel
theorem dX12_reads_71 : decode cX12_reads 71 = .ok (.iload_n 1, 1) := by decide +kernel
theorem dX12_reads_72 : decode cX12_reads 72 = .ok (.bipush 107, 2) := by decide +kernel
theorem dX12_reads_74 : decode cX12_reads 74 = .ok (.if_icmp .eq 23, 3) := by decide +kernel
theorem dX12_reads_77 : decode cX12_reads 77 = .ok (.iload_n 1, 1) := by decide +kernel
theorem dX12_reads_78 : decode cX12_reads 78 = .ok (.bipush 100, 2) := by decide +kernel
theorem dX12_reads_80 : decode cX12_reads 80 = .ok (.if_icmp .eq 17, 3) := by decide +kernel
theorem dX12_reads_83 : decode cX12_reads 83 = .ok (.iload_n 1, 1) := by decide +kernel
theorem dX12_reads_84 : decode cX12_reads 84 = .ok (.bipush 114, 2) := by decide +kernel
theorem dX12_reads_86 : decode cX12_reads 86 = .ok (.if_icmp .eq 11, 3) := by decide +kernel
theorem dX12_reads_89 : decode cX12_reads 89 = .ok (.iload_n 1, 1) := by decide +kernel
theorem dX12_reads_90 : decode cX12_reads 90 = .ok (.bipush 116, 2) := by decide +kernel
theorem dX12_reads_92 : decode cX12_reads 92 = .ok (.if_icmp .eq 5, 3) := by decide +kernel
theorem dX12_reads_95 : decode cX12_reads 95 = .ok (.iconst 0, 1) := by decide +kernel
theorem dX12_reads_96 : decode cX12_reads 96 = .ok (.ireturn, 1) := by decide +kernel
theorem dX12_reads_97 : decode cX12_reads 97 = .ok (.aload_n 0, 1) := by decide +kernel
theorem dX12_reads_98 : decode cX12_reads 98 = .ok (.dup, 1) := by decide +kernel
theorem dX12_reads_99 : decode cX12_reads 99 = .ok (.getfield 320, 3) := by decide +kernel
theorem dX12_reads_102 : decode cX12_reads 102 = .ok (.iconst 1, 1) := by decide +kernel
theorem dX12_reads_103 : decode cX12_reads 103 = .ok (.iadd, 1) := by decide +kernel
theorem dX12_reads_104 : decode cX12_reads 104 = .ok (.putfield 320, 3) := by decide +kernel
theorem dX12_reads_107 : decode cX12_reads 107 = .ok (.aload_n 0, 1) := by decide +kernel
theorem dX12_reads_108 : decode cX12_reads 108 = .ok (.invokevirtual 323, 3) := by decide +kernel
theorem dX12_reads_111 : decode cX12_reads 111 = .ok (.istore_n 2, 1) := by decide +kernel
theorem dX12_reads_112 : decode cX12_reads 112 = .ok (.aload_n 0, 1) := by decide +kernel
theorem dX12_reads_113 : decode cX12_reads 113 = .ok (.getfield 320, 3) := by decide +kernel
theorem dX12_reads_116 : decode cX12_reads 116 = .ok (.aload_n 0, 1) := by decide +kernel
theorem dX12_reads_117 : decode cX12_reads 117 = .ok (.getfield 306, 3) := by decide +kernel
theorem dX12_reads_120 : decode cX12_reads 120 = .ok (.if_icmp .ge 21, 3) := by decide +kernel
theorem dX12_reads_123 : decode cX12_reads 123 = .ok (.iload_n 2, 1) := by decide +kernel
theorem dX12_reads_124 : decode cX12_reads 124 = .ok (.bipush 60, 2) := by decide +kernel
theorem dX12_reads_126 : decode cX12_reads 126 = .ok (.if_icmp .eq 17, 3) := by decide +kernel
theorem dX12_reads_129 : decode cX12_reads 129 = .ok (.iload_n 2, 1) := by decide +kernel
theorem dX12_reads_130 : decode cX12_reads 130 = .ok (.bipush 62, 2) := by decide +kernel
theorem dX12_reads_132 : decode cX12_reads 132 = .ok (.if_icmp .eq 11, 3) := by decide +kernel
theorem dX12_reads_135 : decode cX12_reads 135 = .ok (.iload_n 2, 1) := by decide +kernel
theorem dX12_reads_136 : decode cX12_reads 136 = .ok (.bipush 61, 2) := by decide +kernel
theorem dX12_reads_138 : decode cX12_reads 138 = .ok (.if_icmp .eq 5, 3) := by decide +kernel
theorem dX12_reads_141 : decode cX12_reads 141 = .ok (.iconst 0, 1) := by decide +kernel
theorem dX12_reads_142 : decode cX12_reads 142 = .ok (.ireturn, 1) := by decide +kernel
theorem dX12_reads_143 : decode cX12_reads 143 = .ok (.aload_n 0, 1) := by decide +kernel
theorem dX12_reads_144 : decode cX12_reads 144 = .ok (.dup, 1) := by decide +kernel
theorem dX12_reads_145 : decode cX12_reads 145 = .ok (.getfield 320, 3) := by decide +kernel
theorem dX12_reads_148 : decode cX12_reads 148 = .ok (.iconst 1, 1) := by decide +kernel
theorem dX12_reads_149 : decode cX12_reads 149 = .ok (.iadd, 1) := by decide +kernel
theorem dX12_reads_150 : decode cX12_reads 150 = .ok (.putfield 320, 3) := by decide +kernel
theorem dX12_reads_153 : decode cX12_reads 153 = .ok (.iconst 0, 1) := by decide +kernel
theorem dX12_reads_154 : decode cX12_reads 154 = .ok (.istore_n 3, 1) := by decide +kernel
theorem dX12_reads_155 : decode cX12_reads 155 = .ok (.iconst 0, 1) := by decide +kernel
theorem dX12_reads_156 : decode cX12_reads 156 = .ok (.istore 4, 2) := by decide +kernel
theorem dX12_reads_158 : decode cX12_reads 158 = .ok (.aload_n 0, 1) := by decide +kernel
theorem dX12_reads_159 : decode cX12_reads 159 = .ok (.getfield 320, 3) := by decide +kernel
theorem dX12_reads_162 : decode cX12_reads 162 = .ok (.aload_n 0, 1) := by decide +kernel
theorem dX12_reads_163 : decode cX12_reads 163 = .ok (.getfield 306, 3) := by decide +kernel
theorem dX12_reads_166 : decode cX12_reads 166 = .ok (.if_icmp .ge 65, 3) := by decide +kernel
theorem dX12_reads_169 : decode cX12_reads 169 = .ok (.aload_n 0, 1) := by decide +kernel
theorem dX12_reads_170 : decode cX12_reads 170 = .ok (.invokevirtual 323, 3) := by decide +kernel
theorem dX12_reads_173 : decode cX12_reads 173 = .ok (.bipush 48, 2) := by decide +kernel
theorem dX12_reads_175 : decode cX12_reads 175 = .ok (.if_icmp .lt 56, 3) := by decide +kernel
theorem dX12_reads_178 : decode cX12_reads 178 = .ok (.aload_n 0, 1) := by decide +kernel
theorem dX12_reads_179 : decode cX12_reads 179 = .ok (.invokevirtual 323, 3) := by decide +kernel
theorem dX12_reads_182 : decode cX12_reads 182 = .ok (.bipush 57, 2) := by decide +kernel
theorem dX12_reads_184 : decode cX12_reads 184 = .ok (.if_icmp .gt 47, 3) := by decide +kernel
theorem dX12_reads_187 : decode cX12_reads 187 = .ok (.iload 4, 2) := by decide +kernel
theorem dX12_reads_189 : decode cX12_reads 189 = .ok (.iconst 4, 1) := by decide +kernel
theorem dX12_reads_190 : decode cX12_reads 190 = .ok (.if_icmp .ge 41, 3) := by decide +kernel
theorem dX12_reads_193 : decode cX12_reads 193 = .ok (.iload 4, 2) := by decide +kernel
theorem dX12_reads_195 : decode cX12_reads 195 = .ok (.ifCond .le 7, 3) := by decide +kernel
theorem dX12_reads_198 : decode cX12_reads 198 = .ok (.iload_n 3, 1) := by decide +kernel
theorem dX12_reads_199 : decode cX12_reads 199 = .ok (.ifCond .eq 32, 3) := by decide +kernel
theorem dX12_reads_202 : decode cX12_reads 202 = .ok (.bipush 10, 2) := by decide +kernel
theorem dX12_reads_204 : decode cX12_reads 204 = .ok (.iload_n 3, 1) := by decide +kernel
theorem dX12_reads_205 : decode cX12_reads 205 = .ok (.imul, 1) := by decide +kernel
theorem dX12_reads_206 : decode cX12_reads 206 = .ok (.aload_n 0, 1) := by decide +kernel
theorem dX12_reads_207 : decode cX12_reads 207 = .ok (.invokevirtual 323, 3) := by decide +kernel
theorem dX12_reads_210 : decode cX12_reads 210 = .ok (.iadd, 1) := by decide +kernel
theorem dX12_reads_211 : decode cX12_reads 211 = .ok (.bipush 48, 2) := by decide +kernel
theorem dX12_reads_213 : decode cX12_reads 213 = .ok (.isub, 1) := by decide +kernel
theorem dX12_reads_214 : decode cX12_reads 214 = .ok (.istore_n 3, 1) := by decide +kernel
theorem dX12_reads_215 : decode cX12_reads 215 = .ok (.iinc 4 1, 3) := by decide +kernel
theorem dX12_reads_218 : decode cX12_reads 218 = .ok (.aload_n 0, 1) := by decide +kernel
theorem dX12_reads_219 : decode cX12_reads 219 = .ok (.dup, 1) := by decide +kernel
theorem dX12_reads_220 : decode cX12_reads 220 = .ok (.getfield 320, 3) := by decide +kernel
theorem dX12_reads_223 : decode cX12_reads 223 = .ok (.iconst 1, 1) := by decide +kernel
theorem dX12_reads_224 : decode cX12_reads 224 = .ok (.iadd, 1) := by decide +kernel
theorem dX12_reads_225 : decode cX12_reads 225 = .ok (.putfield 320, 3) := by decide +kernel
theorem dX12_reads_228 : decode cX12_reads 228 = .ok (.goto (-70), 3) := by decide +kernel
theorem dX12_reads_231 : decode cX12_reads 231 = .ok (.iload 4, 2) := by decide +kernel
theorem dX12_reads_233 : decode cX12_reads 233 = .ok (.ifCond .ne 5, 3) := by decide +kernel
theorem dX12_reads_236 : decode cX12_reads 236 = .ok (.iconst 0, 1) := by decide +kernel
theorem dX12_reads_237 : decode cX12_reads 237 = .ok (.ireturn, 1) := by decide +kernel
theorem dX12_reads_238 : decode cX12_reads 238 = .ok (.aload_n 0, 1) := by decide +kernel
theorem dX12_reads_239 : decode cX12_reads 239 = .ok (.getfield 208, 3) := by decide +kernel
theorem dX12_reads_242 : decode cX12_reads 242 = .ok (.aload_n 0, 1) := by decide +kernel
theorem dX12_reads_243 : decode cX12_reads 243 = .ok (.getfield 327, 3) := by decide +kernel
theorem dX12_reads_246 : decode cX12_reads 246 = .ok (.iload_n 2, 1) := by decide +kernel
theorem dX12_reads_247 : decode cX12_reads 247 = .ok (.iastore, 1) := by decide +kernel
theorem dX12_reads_248 : decode cX12_reads 248 = .ok (.aload_n 0, 1) := by decide +kernel
theorem dX12_reads_249 : decode cX12_reads 249 = .ok (.getfield 211, 3) := by decide +kernel
theorem dX12_reads_252 : decode cX12_reads 252 = .ok (.aload_n 0, 1) := by decide +kernel
theorem dX12_reads_253 : decode cX12_reads 253 = .ok (.getfield 327, 3) := by decide +kernel
theorem dX12_reads_256 : decode cX12_reads 256 = .ok (.iload_n 3, 1) := by decide +kernel
theorem dX12_reads_257 : decode cX12_reads 257 = .ok (.iastore, 1) := by decide +kernel
theorem dX12_reads_258 : decode cX12_reads 258 = .ok (.aload_n 0, 1) := by decide +kernel
theorem dX12_reads_259 : decode cX12_reads 259 = .ok (.dup, 1) := by decide +kernel
theorem dX12_reads_260 : decode cX12_reads 260 = .ok (.getfield 327, 3) := by decide +kernel
theorem dX12_reads_263 : decode cX12_reads 263 = .ok (.iconst 1, 1) := by decide +kernel
theorem dX12_reads_264 : decode cX12_reads 264 = .ok (.iadd, 1) := by decide +kernel
theorem dX12_reads_265 : decode cX12_reads 265 = .ok (.putfield 327, 3) := by decide +kernel
theorem dX12_reads_268 : decode cX12_reads 268 = .ok (.iconst 1, 1) := by decide +kernel
theorem dX12_reads_269 : decode cX12_reads 269 = .ok (.ireturn, 1) := by decide +kernel
theorem dX12_closes_0 : decode cX12_closes 0 = .ok (.aload_n 0, 1) := by decide +kernel
theorem dX12_closes_1 : decode cX12_closes 1 = .ok (.getfield 330, 3) := by decide +kernel
theorem dX12_closes_4 : decode cX12_closes 4 = .ok (.ifCond .le 59, 3) := by decide +kernel
theorem dX12_closes_7 : decode cX12_closes 7 = .ok (.aload_n 0, 1) := by decide +kernel
theorem dX12_closes_8 : decode cX12_closes 8 = .ok (.getfield 217, 3) := by decide +kernel
theorem dX12_closes_11 : decode cX12_closes 11 = .ok (.aload_n 0, 1) := by decide +kernel
theorem dX12_closes_12 : decode cX12_closes 12 = .ok (.getfield 330, 3) := by decide +kernel
theorem dX12_closes_15 : decode cX12_closes 15 = .ok (.iconst 1, 1) := by decide +kernel
theorem dX12_closes_16 : decode cX12_closes 16 = .ok (.isub, 1) := by decide +kernel
theorem dX12_closes_17 : decode cX12_closes 17 = .ok (.iaload, 1) := by decide +kernel
theorem dX12_closes_18 : decode cX12_closes 18 = .ok (.bipush 33, 2) := by decide +kernel
theorem dX12_closes_20 : decode cX12_closes 20 = .ok (.if_icmp .ne 43, 3) := by decide +kernel
theorem dX12_closes_23 : decode cX12_closes 23 = .ok (.aload_n 0, 1) := by decide +kernel
theorem dX12_closes_24 : decode cX12_closes 24 = .ok (.dup, 1) := by decide +kernel
theorem dX12_closes_25 : decode cX12_closes 25 = .ok (.getfield 330, 3) := by decide +kernel
theorem dX12_closes_28 : decode cX12_closes 28 = .ok (.iconst 1, 1) := by decide +kernel
theorem dX12_closes_29 : decode cX12_closes 29 = .ok (.isub, 1) := by decide +kernel
theorem dX12_closes_30 : decode cX12_closes 30 = .ok (.putfield 330, 3) := by decide +kernel
theorem dX12_closes_33 : decode cX12_closes 33 = .ok (.aload_n 0, 1) := by decide +kernel
theorem dX12_closes_34 : decode cX12_closes 34 = .ok (.dup, 1) := by decide +kernel
theorem dX12_closes_35 : decode cX12_closes 35 = .ok (.getfield 333, 3) := by decide +kernel
theorem dX12_closes_38 : decode cX12_closes 38 = .ok (.iconst 1, 1) := by decide +kernel
theorem dX12_closes_39 : decode cX12_closes 39 = .ok (.isub, 1) := by decide +kernel
theorem dX12_closes_40 : decode cX12_closes 40 = .ok (.putfield 333, 3) := by decide +kernel
theorem dX12_closes_43 : decode cX12_closes 43 = .ok (.aload_n 0, 1) := by decide +kernel
theorem dX12_closes_44 : decode cX12_closes 44 = .ok (.getfield 214, 3) := by decide +kernel
theorem dX12_closes_47 : decode cX12_closes 47 = .ok (.aload_n 0, 1) := by decide +kernel
theorem dX12_closes_48 : decode cX12_closes 48 = .ok (.dup, 1) := by decide +kernel
theorem dX12_closes_49 : decode cX12_closes 49 = .ok (.getfield 336, 3) := by decide +kernel
theorem dX12_closes_52 : decode cX12_closes 52 = .ok (.dup_x1, 1) := by decide +kernel
theorem dX12_closes_53 : decode cX12_closes 53 = .ok (.iconst 1, 1) := by decide +kernel
theorem dX12_closes_54 : decode cX12_closes 54 = .ok (.iadd, 1) := by decide +kernel
theorem dX12_closes_55 : decode cX12_closes 55 = .ok (.putfield 336, 3) := by decide +kernel
theorem dX12_closes_58 : decode cX12_closes 58 = .ok (.iconst (-1), 1) := by decide +kernel
theorem dX12_closes_59 : decode cX12_closes 59 = .ok (.iastore, 1) := by decide +kernel
theorem dX12_closes_60 : decode cX12_closes 60 = .ok (.goto (-60), 3) := by decide +kernel
theorem dX12_closes_63 : decode cX12_closes 63 = .ok (.return_, 1) := by decide +kernel
theorem dX12_pops_0 : decode cX12_pops 0 = .ok (.aload_n 0, 1) := by decide +kernel
theorem dX12_pops_1 : decode cX12_pops 1 = .ok (.getfield 330, 3) := by decide +kernel
theorem dX12_pops_4 : decode cX12_pops 4 = .ok (.ifCond .le 91, 3) := by decide +kernel
theorem dX12_pops_7 : decode cX12_pops 7 = .ok (.aload_n 0, 1) := by decide +kernel
theorem dX12_pops_8 : decode cX12_pops 8 = .ok (.getfield 217, 3) := by decide +kernel
theorem dX12_pops_11 : decode cX12_pops 11 = .ok (.aload_n 0, 1) := by decide +kernel
theorem dX12_pops_12 : decode cX12_pops 12 = .ok (.getfield 330, 3) := by decide +kernel
theorem dX12_pops_15 : decode cX12_pops 15 = .ok (.iconst 1, 1) := by decide +kernel
theorem dX12_pops_16 : decode cX12_pops 16 = .ok (.isub, 1) := by decide +kernel
theorem dX12_pops_17 : decode cX12_pops 17 = .ok (.iaload, 1) := by decide +kernel
theorem dX12_pops_18 : decode cX12_pops 18 = .ok (.bipush 38, 2) := by decide +kernel
theorem dX12_pops_20 : decode cX12_pops 20 = .ok (.if_icmp .eq 25, 3) := by decide +kernel
theorem dX12_pops_23 : decode cX12_pops 23 = .ok (.aload_n 0, 1) := by decide +kernel
theorem dX12_pops_24 : decode cX12_pops 24 = .ok (.getfield 217, 3) := by decide +kernel
theorem dX12_pops_27 : decode cX12_pops 27 = .ok (.aload_n 0, 1) := by decide +kernel
theorem dX12_pops_28 : decode cX12_pops 28 = .ok (.getfield 330, 3) := by decide +kernel
theorem dX12_pops_31 : decode cX12_pops 31 = .ok (.iconst 1, 1) := by decide +kernel
theorem dX12_pops_32 : decode cX12_pops 32 = .ok (.isub, 1) := by decide +kernel
theorem dX12_pops_33 : decode cX12_pops 33 = .ok (.iaload, 1) := by decide +kernel
theorem dX12_pops_34 : decode cX12_pops 34 = .ok (.bipush 124, 2) := by decide +kernel
theorem dX12_pops_36 : decode cX12_pops 36 = .ok (.if_icmp .ne 59, 3) := by decide +kernel
theorem dX12_pops_39 : decode cX12_pops 39 = .ok (.iload_n 1, 1) := by decide +kernel
theorem dX12_pops_40 : decode cX12_pops 40 = .ok (.bipush 38, 2) := by decide +kernel
theorem dX12_pops_42 : decode cX12_pops 42 = .ok (.if_icmp .eq 53, 3) := by decide +kernel
theorem dX12_pops_45 : decode cX12_pops 45 = .ok (.aload_n 0, 1) := by decide +kernel
theorem dX12_pops_46 : decode cX12_pops 46 = .ok (.dup, 1) := by decide +kernel
theorem dX12_pops_47 : decode cX12_pops 47 = .ok (.getfield 330, 3) := by decide +kernel
theorem dX12_pops_50 : decode cX12_pops 50 = .ok (.iconst 1, 1) := by decide +kernel
theorem dX12_pops_51 : decode cX12_pops 51 = .ok (.isub, 1) := by decide +kernel
theorem dX12_pops_52 : decode cX12_pops 52 = .ok (.putfield 330, 3) := by decide +kernel
theorem dX12_pops_55 : decode cX12_pops 55 = .ok (.aload_n 0, 1) := by decide +kernel
theorem dX12_pops_56 : decode cX12_pops 56 = .ok (.getfield 214, 3) := by decide +kernel
theorem dX12_pops_59 : decode cX12_pops 59 = .ok (.aload_n 0, 1) := by decide +kernel
theorem dX12_pops_60 : decode cX12_pops 60 = .ok (.dup, 1) := by decide +kernel
theorem dX12_pops_61 : decode cX12_pops 61 = .ok (.getfield 336, 3) := by decide +kernel
theorem dX12_pops_64 : decode cX12_pops 64 = .ok (.dup_x1, 1) := by decide +kernel
theorem dX12_pops_65 : decode cX12_pops 65 = .ok (.iconst 1, 1) := by decide +kernel
theorem dX12_pops_66 : decode cX12_pops 66 = .ok (.iadd, 1) := by decide +kernel
theorem dX12_pops_67 : decode cX12_pops 67 = .ok (.putfield 336, 3) := by decide +kernel
theorem dX12_pops_70 : decode cX12_pops 70 = .ok (.aload_n 0, 1) := by decide +kernel
theorem dX12_pops_71 : decode cX12_pops 71 = .ok (.getfield 217, 3) := by decide +kernel
theorem dX12_pops_74 : decode cX12_pops 74 = .ok (.aload_n 0, 1) := by decide +kernel
theorem dX12_pops_75 : decode cX12_pops 75 = .ok (.getfield 330, 3) := by decide +kernel
theorem dX12_pops_78 : decode cX12_pops 78 = .ok (.iaload, 1) := by decide +kernel
theorem dX12_pops_79 : decode cX12_pops 79 = .ok (.bipush 38, 2) := by decide +kernel
theorem dX12_pops_81 : decode cX12_pops 81 = .ok (.if_icmp .ne 8, 3) := by decide +kernel
theorem dX12_pops_84 : decode cX12_pops 84 = .ok (.bipush (-2), 2) := by decide +kernel
theorem dX12_pops_86 : decode cX12_pops 86 = .ok (.goto 5, 3) := by decide +kernel
theorem dX12_pops_89 : decode cX12_pops 89 = .ok (.bipush (-3), 2) := by decide +kernel
theorem dX12_pops_91 : decode cX12_pops 91 = .ok (.iastore, 1) := by decide +kernel
theorem dX12_pops_92 : decode cX12_pops 92 = .ok (.goto (-92), 3) := by decide +kernel
theorem dX12_pops_95 : decode cX12_pops 95 = .ok (.return_, 1) := by decide +kernel
theorem dX12_compiles_0 : decode cX12_compiles 0 = .ok (.aload_n 0, 1) := by decide +kernel
theorem dX12_compiles_1 : decode cX12_compiles 1 = .ok (.iconst 0, 1) := by decide +kernel
theorem dX12_compiles_2 : decode cX12_compiles 2 = .ok (.putfield 327, 3) := by decide +kernel
theorem dX12_compiles_5 : decode cX12_compiles 5 = .ok (.aload_n 0, 1) := by decide +kernel
theorem dX12_compiles_6 : decode cX12_compiles 6 = .ok (.iconst 0, 1) := by decide +kernel
theorem dX12_compiles_7 : decode cX12_compiles 7 = .ok (.putfield 336, 3) := by decide +kernel
theorem dX12_compiles_10 : decode cX12_compiles 10 = .ok (.aload_n 0, 1) := by decide +kernel
theorem dX12_compiles_11 : decode cX12_compiles 11 = .ok (.iconst 0, 1) := by decide +kernel
theorem dX12_compiles_12 : decode cX12_compiles 12 = .ok (.putfield 330, 3) := by decide +kernel
theorem dX12_compiles_15 : decode cX12_compiles 15 = .ok (.aload_n 0, 1) := by decide +kernel
theorem dX12_compiles_16 : decode cX12_compiles 16 = .ok (.iconst 0, 1) := by decide +kernel
theorem dX12_compiles_17 : decode cX12_compiles 17 = .ok (.putfield 320, 3) := by decide +kernel
theorem dX12_compiles_20 : decode cX12_compiles 20 = .ok (.aload_n 0, 1) := by decide +kernel
theorem dX12_compiles_21 : decode cX12_compiles 21 = .ok (.iconst 0, 1) := by decide +kernel
theorem dX12_compiles_22 : decode cX12_compiles 22 = .ok (.putfield 333, 3) := by decide +kernel
theorem dX12_compiles_25 : decode cX12_compiles 25 = .ok (.iconst 0, 1) := by decide +kernel
theorem dX12_compiles_26 : decode cX12_compiles 26 = .ok (.istore_n 1, 1) := by decide +kernel
theorem dX12_compiles_27 : decode cX12_compiles 27 = .ok (.iconst 1, 1) := by decide +kernel
theorem dX12_compiles_28 : decode cX12_compiles 28 = .ok (.istore_n 2, 1) := by decide +kernel
theorem dX12_compiles_29 : decode cX12_compiles 29 = .ok (.aload_n 0, 1) := by decide +kernel
theorem dX12_compiles_30 : decode cX12_compiles 30 = .ok (.getfield 320, 3) := by decide +kernel
theorem dX12_compiles_33 : decode cX12_compiles 33 = .ok (.aload_n 0, 1) := by decide +kernel
theorem dX12_compiles_34 : decode cX12_compiles 34 = .ok (.getfield 306, 3) := by decide +kernel
theorem dX12_compiles_37 : decode cX12_compiles 37 = .ok (.if_icmp .ge 247, 3) := by decide +kernel
theorem dX12_compiles_40 : decode cX12_compiles 40 = .ok (.aload_n 0, 1) := by decide +kernel
theorem dX12_compiles_41 : decode cX12_compiles 41 = .ok (.invokevirtual 323, 3) := by decide +kernel
theorem dX12_compiles_44 : decode cX12_compiles 44 = .ok (.istore_n 3, 1) := by decide +kernel
theorem dX12_compiles_45 : decode cX12_compiles 45 = .ok (.iload_n 2, 1) := by decide +kernel
theorem dX12_compiles_46 : decode cX12_compiles 46 = .ok (.ifCond .eq 78, 3) := by decide +kernel
theorem dX12_compiles_49 : decode cX12_compiles 49 = .ok (.iload_n 3, 1) := by decide +kernel
theorem dX12_compiles_50 : decode cX12_compiles 50 = .ok (.bipush 33, 2) := by decide +kernel
theorem dX12_compiles_52 : decode cX12_compiles 52 = .ok (.if_icmp .eq 9, 3) := by decide +kernel
theorem dX12_compiles_55 : decode cX12_compiles 55 = .ok (.iload_n 3, 1) := by decide +kernel
theorem dX12_compiles_56 : decode cX12_compiles 56 = .ok (.bipush 40, 2) := by decide +kernel
theorem dX12_compiles_58 : decode cX12_compiles 58 = .ok (.if_icmp .ne 66, 3) := by decide +kernel
theorem dX12_compiles_61 : decode cX12_compiles 61 = .ok (.aload_n 0, 1) := by decide +kernel
theorem dX12_compiles_62 : decode cX12_compiles 62 = .ok (.getfield 333, 3) := by decide +kernel
theorem dX12_compiles_65 : decode cX12_compiles 65 = .ok (.bipush 30, 2) := by decide +kernel
theorem dX12_compiles_67 : decode cX12_compiles 67 = .ok (.if_icmp .ne 8, 3) := by decide +kernel
theorem dX12_compiles_70 : decode cX12_compiles 70 = .ok (.aload_n 0, 1) := by decide +kernel
theorem dX12_compiles_71 : decode cX12_compiles 71 = .ok (.getfield 320, 3) := by decide +kernel
theorem dX12_compiles_74 : decode cX12_compiles 74 = .ok (.ireturn, 1) := by decide +kernel
theorem dX12_compiles_75 : decode cX12_compiles 75 = .ok (.aload_n 0, 1) := by decide +kernel
theorem dX12_compiles_76 : decode cX12_compiles 76 = .ok (.dup, 1) := by decide +kernel
theorem dX12_compiles_77 : decode cX12_compiles 77 = .ok (.getfield 333, 3) := by decide +kernel
theorem dX12_compiles_80 : decode cX12_compiles 80 = .ok (.iconst 1, 1) := by decide +kernel
theorem dX12_compiles_81 : decode cX12_compiles 81 = .ok (.iadd, 1) := by decide +kernel
theorem dX12_compiles_82 : decode cX12_compiles 82 = .ok (.putfield 333, 3) := by decide +kernel
theorem dX12_compiles_85 : decode cX12_compiles 85 = .ok (.aload_n 0, 1) := by decide +kernel
theorem dX12_compiles_86 : decode cX12_compiles 86 = .ok (.getfield 217, 3) := by decide +kernel
theorem dX12_compiles_89 : decode cX12_compiles 89 = .ok (.aload_n 0, 1) := by decide +kernel
theorem dX12_compiles_90 : decode cX12_compiles 90 = .ok (.dup, 1) := by decide +kernel
theorem dX12_compiles_91 : decode cX12_compiles 91 = .ok (.getfield 330, 3) := by decide +kernel
theorem dX12_compiles_94 : decode cX12_compiles 94 = .ok (.dup_x1, 1) := by decide +kernel
theorem dX12_compiles_95 : decode cX12_compiles 95 = .ok (.iconst 1, 1) := by decide +kernel
theorem dX12_compiles_96 : decode cX12_compiles 96 = .ok (.iadd, 1) := by decide +kernel
theorem dX12_compiles_97 : decode cX12_compiles 97 = .ok (.putfield 330, 3) := by decide +kernel
theorem dX12_compiles_100 : decode cX12_compiles 100 = .ok (.iload_n 3, 1) := by decide +kernel
theorem dX12_compiles_101 : decode cX12_compiles 101 = .ok (.iastore, 1) := by decide +kernel
theorem dX12_compiles_102 : decode cX12_compiles 102 = .ok (.iload_n 3, 1) := by decide +kernel
theorem dX12_compiles_103 : decode cX12_compiles 103 = .ok (.bipush 40, 2) := by decide +kernel
theorem dX12_compiles_105 : decode cX12_compiles 105 = .ok (.if_icmp .ne 6, 3) := by decide +kernel
theorem dX12_compiles_108 : decode cX12_compiles 108 = .ok (.iinc 1 1, 3) := by decide +kernel
theorem dX12_compiles_111 : decode cX12_compiles 111 = .ok (.aload_n 0, 1) := by decide +kernel
theorem dX12_compiles_112 : decode cX12_compiles 112 = .ok (.dup, 1) := by decide +kernel
theorem dX12_compiles_113 : decode cX12_compiles 113 = .ok (.getfield 320, 3) := by decide +kernel
theorem dX12_compiles_116 : decode cX12_compiles 116 = .ok (.iconst 1, 1) := by decide +kernel
theorem dX12_compiles_117 : decode cX12_compiles 117 = .ok (.iadd, 1) := by decide +kernel
theorem dX12_compiles_118 : decode cX12_compiles 118 = .ok (.putfield 320, 3) := by decide +kernel
theorem dX12_compiles_121 : decode cX12_compiles 121 = .ok (.goto 160, 3) := by decide +kernel
theorem dX12_compiles_124 : decode cX12_compiles 124 = .ok (.iload_n 2, 1) := by decide +kernel
theorem dX12_compiles_125 : decode cX12_compiles 125 = .ok (.ifCond .eq 46, 3) := by decide +kernel
theorem dX12_compiles_128 : decode cX12_compiles 128 = .ok (.aload_n 0, 1) := by decide +kernel
theorem dX12_compiles_129 : decode cX12_compiles 129 = .ok (.invokevirtual 339, 3) := by decide +kernel
theorem dX12_compiles_132 : decode cX12_compiles 132 = .ok (.ifCond .ne 8, 3) := by decide +kernel
theorem dX12_compiles_135 : decode cX12_compiles 135 = .ok (.aload_n 0, 1) := by decide +kernel
theorem dX12_compiles_136 : decode cX12_compiles 136 = .ok (.getfield 320, 3) := by decide +kernel
theorem dX12_compiles_139 : decode cX12_compiles 139 = .ok (.ireturn, 1) := by decide +kernel
theorem dX12_compiles_140 : decode cX12_compiles 140 = .ok (.aload_n 0, 1) := by decide +kernel
theorem dX12_compiles_141 : decode cX12_compiles 141 = .ok (.getfield 214, 3) := by decide +kernel
theorem dX12_compiles_144 : decode cX12_compiles 144 = .ok (.aload_n 0, 1) := by decide +kernel
theorem dX12_compiles_145 : decode cX12_compiles 145 = .ok (.dup, 1) := by decide +kernel
theorem dX12_compiles_146 : decode cX12_compiles 146 = .ok (.getfield 336, 3) := by decide +kernel
theorem dX12_compiles_149 : decode cX12_compiles 149 = .ok (.dup_x1, 1) := by decide +kernel
theorem dX12_compiles_150 : decode cX12_compiles 150 = .ok (.iconst 1, 1) := by decide +kernel
theorem dX12_compiles_151 : decode cX12_compiles 151 = .ok (.iadd, 1) := by decide +kernel
theorem dX12_compiles_152 : decode cX12_compiles 152 = .ok (.putfield 336, 3) := by decide +kernel
theorem dX12_compiles_155 : decode cX12_compiles 155 = .ok (.aload_n 0, 1) := by decide +kernel
theorem dX12_compiles_156 : decode cX12_compiles 156 = .ok (.getfield 327, 3) := by decide +kernel
theorem dX12_compiles_159 : decode cX12_compiles 159 = .ok (.iconst 1, 1) := by decide +kernel
theorem dX12_compiles_160 : decode cX12_compiles 160 = .ok (.isub, 1) := by decide +kernel
theorem dX12_compiles_161 : decode cX12_compiles 161 = .ok (.iastore, 1) := by decide +kernel
theorem dX12_compiles_162 : decode cX12_compiles 162 = .ok (.aload_n 0, 1) := by decide +kernel
theorem dX12_compiles_163 : decode cX12_compiles 163 = .ok (.invokevirtual 343, 3) := by decide +kernel
theorem dX12_compiles_166 : decode cX12_compiles 166 = .ok (.iconst 0, 1) := by decide +kernel
theorem dX12_compiles_167 : decode cX12_compiles 167 = .ok (.istore_n 2, 1) := by decide +kernel
theorem dX12_compiles_168 : decode cX12_compiles 168 = .ok (.goto 113, 3) := by decide +kernel
theorem dX12_compiles_171 : decode cX12_compiles 171 = .ok (.iload_n 3, 1) := by decide +kernel
theorem dX12_compiles_172 : decode cX12_compiles 172 = .ok (.bipush 38, 2) := by decide +kernel
theorem dX12_compiles_174 : decode cX12_compiles 174 = .ok (.if_icmp .eq 9, 3) := by decide +kernel
theorem dX12_compiles_177 : decode cX12_compiles 177 = .ok (.iload_n 3, 1) := by decide +kernel
theorem dX12_compiles_178 : decode cX12_compiles 178 = .ok (.bipush 124, 2) := by decide +kernel
theorem dX12_compiles_180 : decode cX12_compiles 180 = .ok (.if_icmp .ne 40, 3) := by decide +kernel
theorem dX12_compiles_183 : decode cX12_compiles 183 = .ok (.aload_n 0, 1) := by decide +kernel
theorem dX12_compiles_184 : decode cX12_compiles 184 = .ok (.iload_n 3, 1) := by decide +kernel
theorem dX12_compiles_185 : decode cX12_compiles 185 = .ok (.invokevirtual 346, 3) := by decide +kernel
theorem dX12_compiles_188 : decode cX12_compiles 188 = .ok (.aload_n 0, 1) := by decide +kernel
theorem dX12_compiles_189 : decode cX12_compiles 189 = .ok (.getfield 217, 3) := by decide +kernel
theorem dX12_compiles_192 : decode cX12_compiles 192 = .ok (.aload_n 0, 1) := by decide +kernel
theorem dX12_compiles_193 : decode cX12_compiles 193 = .ok (.dup, 1) := by decide +kernel
theorem dX12_compiles_194 : decode cX12_compiles 194 = .ok (.getfield 330, 3) := by decide +kernel
theorem dX12_compiles_197 : decode cX12_compiles 197 = .ok (.dup_x1, 1) := by decide +kernel
theorem dX12_compiles_198 : decode cX12_compiles 198 = .ok (.iconst 1, 1) := by decide +kernel
theorem dX12_compiles_199 : decode cX12_compiles 199 = .ok (.iadd, 1) := by decide +kernel
theorem dX12_compiles_200 : decode cX12_compiles 200 = .ok (.putfield 330, 3) := by decide +kernel
theorem dX12_compiles_203 : decode cX12_compiles 203 = .ok (.iload_n 3, 1) := by decide +kernel
theorem dX12_compiles_204 : decode cX12_compiles 204 = .ok (.iastore, 1) := by decide +kernel
theorem dX12_compiles_205 : decode cX12_compiles 205 = .ok (.iconst 1, 1) := by decide +kernel
theorem dX12_compiles_206 : decode cX12_compiles 206 = .ok (.istore_n 2, 1) := by decide +kernel
theorem dX12_compiles_207 : decode cX12_compiles 207 = .ok (.aload_n 0, 1) := by decide +kernel
theorem dX12_compiles_208 : decode cX12_compiles 208 = .ok (.dup, 1) := by decide +kernel
theorem dX12_compiles_209 : decode cX12_compiles 209 = .ok (.getfield 320, 3) := by decide +kernel
theorem dX12_compiles_212 : decode cX12_compiles 212 = .ok (.iconst 1, 1) := by decide +kernel
theorem dX12_compiles_213 : decode cX12_compiles 213 = .ok (.iadd, 1) := by decide +kernel
theorem dX12_compiles_214 : decode cX12_compiles 214 = .ok (.putfield 320, 3) := by decide +kernel
theorem dX12_compiles_217 : decode cX12_compiles 217 = .ok (.goto 64, 3) := by decide +kernel
theorem dX12_compiles_220 : decode cX12_compiles 220 = .ok (.iload_n 3, 1) := by decide +kernel
theorem dX12_compiles_221 : decode cX12_compiles 221 = .ok (.bipush 41, 2) := by decide +kernel
theorem dX12_compiles_223 : decode cX12_compiles 223 = .ok (.if_icmp .ne 53, 3) := by decide +kernel
theorem dX12_compiles_226 : decode cX12_compiles 226 = .ok (.iload_n 1, 1) := by decide +kernel
theorem dX12_compiles_227 : decode cX12_compiles 227 = .ok (.ifCond .le 49, 3) := by decide +kernel
theorem dX12_compiles_230 : decode cX12_compiles 230 = .ok (.aload_n 0, 1) := by decide +kernel
theorem dX12_compiles_231 : decode cX12_compiles 231 = .ok (.bipush 124, 2) := by decide +kernel
theorem dX12_compiles_233 : decode cX12_compiles 233 = .ok (.invokevirtual 346, 3) := by decide +kernel
theorem dX12_compiles_236 : decode cX12_compiles 236 = .ok (.aload_n 0, 1) := by decide +kernel
theorem dX12_compiles_237 : decode cX12_compiles 237 = .ok (.dup, 1) := by decide +kernel
theorem dX12_compiles_238 : decode cX12_compiles 238 = .ok (.getfield 330, 3) := by decide +kernel
theorem dX12_compiles_241 : decode cX12_compiles 241 = .ok (.iconst 1, 1) := by decide +kernel
theorem dX12_compiles_242 : decode cX12_compiles 242 = .ok (.isub, 1) := by decide +kernel
theorem dX12_compiles_243 : decode cX12_compiles 243 = .ok (.putfield 330, 3) := by decide +kernel
theorem dX12_compiles_246 : decode cX12_compiles 246 = .ok (.aload_n 0, 1) := by decide +kernel
theorem dX12_compiles_247 : decode cX12_compiles 247 = .ok (.dup, 1) := by decide +kernel
theorem dX12_compiles_248 : decode cX12_compiles 248 = .ok (.getfield 333, 3) := by decide +kernel
theorem dX12_compiles_251 : decode cX12_compiles 251 = .ok (.iconst 1, 1) := by decide +kernel
theorem dX12_compiles_252 : decode cX12_compiles 252 = .ok (.isub, 1) := by decide +kernel
theorem dX12_compiles_253 : decode cX12_compiles 253 = .ok (.putfield 333, 3) := by decide +kernel
theorem dX12_compiles_256 : decode cX12_compiles 256 = .ok (.iinc 1 (-1), 3) := by decide +kernel
theorem dX12_compiles_259 : decode cX12_compiles 259 = .ok (.aload_n 0, 1) := by decide +kernel
theorem dX12_compiles_260 : decode cX12_compiles 260 = .ok (.invokevirtual 343, 3) := by decide +kernel
theorem dX12_compiles_263 : decode cX12_compiles 263 = .ok (.aload_n 0, 1) := by decide +kernel
theorem dX12_compiles_264 : decode cX12_compiles 264 = .ok (.dup, 1) := by decide +kernel
theorem dX12_compiles_265 : decode cX12_compiles 265 = .ok (.getfield 320, 3) := by decide +kernel
theorem dX12_compiles_268 : decode cX12_compiles 268 = .ok (.iconst 1, 1) := by decide +kernel
theorem dX12_compiles_269 : decode cX12_compiles 269 = .ok (.iadd, 1) := by decide +kernel
theorem dX12_compiles_270 : decode cX12_compiles 270 = .ok (.putfield 320, 3) := by decide +kernel
theorem dX12_compiles_273 : decode cX12_compiles 273 = .ok (.goto 8, 3) := by decide +kernel
theorem dX12_compiles_276 : decode cX12_compiles 276 = .ok (.aload_n 0, 1) := by decide +kernel
theorem dX12_compiles_277 : decode cX12_compiles 277 = .ok (.getfield 320, 3) := by decide +kernel
theorem dX12_compiles_280 : decode cX12_compiles 280 = .ok (.ireturn, 1) := by decide +kernel
theorem dX12_compiles_281 : decode cX12_compiles 281 = .ok (.goto (-252), 3) := by decide +kernel
theorem dX12_compiles_284 : decode cX12_compiles 284 = .ok (.iload_n 2, 1) := by decide +kernel
theorem dX12_compiles_285 : decode cX12_compiles 285 = .ok (.ifCond .ne 7, 3) := by decide +kernel
theorem dX12_compiles_288 : decode cX12_compiles 288 = .ok (.iload_n 1, 1) := by decide +kernel
theorem dX12_compiles_289 : decode cX12_compiles 289 = .ok (.ifCond .le 8, 3) := by decide +kernel
theorem dX12_compiles_292 : decode cX12_compiles 292 = .ok (.aload_n 0, 1) := by decide +kernel
theorem dX12_compiles_293 : decode cX12_compiles 293 = .ok (.getfield 306, 3) := by decide +kernel
theorem dX12_compiles_296 : decode cX12_compiles 296 = .ok (.ireturn, 1) := by decide +kernel
theorem dX12_compiles_297 : decode cX12_compiles 297 = .ok (.aload_n 0, 1) := by decide +kernel
theorem dX12_compiles_298 : decode cX12_compiles 298 = .ok (.bipush 124, 2) := by decide +kernel
theorem dX12_compiles_300 : decode cX12_compiles 300 = .ok (.invokevirtual 346, 3) := by decide +kernel
theorem dX12_compiles_303 : decode cX12_compiles 303 = .ok (.iconst (-1), 1) := by decide +kernel
theorem dX12_compiles_304 : decode cX12_compiles 304 = .ok (.ireturn, 1) := by decide +kernel
theorem dX12_fault_0 : decode cX12_fault 0 = .ok (.iload_n 1, 1) := by decide +kernel
theorem dX12_fault_1 : decode cX12_fault 1 = .ok (.invokestatic 297, 3) := by decide +kernel
theorem dX12_fault_4 : decode cX12_fault 4 = .ok (.ifCond .ne 5, 3) := by decide +kernel
theorem dX12_fault_7 : decode cX12_fault 7 = .ok (.iconst (-1), 1) := by decide +kernel
theorem dX12_fault_8 : decode cX12_fault 8 = .ok (.ireturn, 1) := by decide +kernel
theorem dX12_fault_9 : decode cX12_fault 9 = .ok (.aload_n 0, 1) := by decide +kernel
theorem dX12_fault_10 : decode cX12_fault 10 = .ok (.iload_n 1, 1) := by decide +kernel
theorem dX12_fault_11 : decode cX12_fault 11 = .ok (.iload_n 2, 1) := by decide +kernel
theorem dX12_fault_12 : decode cX12_fault 12 = .ok (.iload_n 3, 1) := by decide +kernel
theorem dX12_fault_13 : decode cX12_fault 13 = .ok (.invokevirtual 316, 3) := by decide +kernel
theorem dX12_fault_16 : decode cX12_fault 16 = .ok (.aload_n 0, 1) := by decide +kernel
theorem dX12_fault_17 : decode cX12_fault 17 = .ok (.invokevirtual 350, 3) := by decide +kernel
theorem dX12_fault_20 : decode cX12_fault 20 = .ok (.ireturn, 1) := by decide +kernel
theorem dX12_compared_0 : decode cX12_compared 0 = .ok (.iload_n 1, 1) := by decide +kernel
theorem dX12_compared_1 : decode cX12_compared 1 = .ok (.bipush 60, 2) := by decide +kernel
theorem dX12_compared_3 : decode cX12_compared 3 = .ok (.if_icmp .ne 11, 3) := by decide +kernel
theorem dX12_compared_6 : decode cX12_compared 6 = .ok (.iload_n 0, 1) := by decide +kernel
theorem dX12_compared_7 : decode cX12_compared 7 = .ok (.iload_n 2, 1) := by decide +kernel
theorem dX12_compared_8 : decode cX12_compared 8 = .ok (.if_icmp .ge 29, 3) := by decide +kernel
theorem dX12_compared_11 : decode cX12_compared 11 = .ok (.goto 22, 3) := by decide +kernel
theorem dX12_compared_14 : decode cX12_compared 14 = .ok (.iload_n 1, 1) := by decide +kernel
theorem dX12_compared_15 : decode cX12_compared 15 = .ok (.bipush 62, 2) := by decide +kernel
theorem dX12_compared_17 : decode cX12_compared 17 = .ok (.if_icmp .ne 11, 3) := by decide +kernel
theorem dX12_compared_20 : decode cX12_compared 20 = .ok (.iload_n 0, 1) := by decide +kernel
theorem dX12_compared_21 : decode cX12_compared 21 = .ok (.iload_n 2, 1) := by decide +kernel
theorem dX12_compared_22 : decode cX12_compared 22 = .ok (.if_icmp .le 15, 3) := by decide +kernel
theorem dX12_compared_25 : decode cX12_compared 25 = .ok (.goto 8, 3) := by decide +kernel
theorem dX12_compared_28 : decode cX12_compared 28 = .ok (.iload_n 0, 1) := by decide +kernel
theorem dX12_compared_29 : decode cX12_compared 29 = .ok (.iload_n 2, 1) := by decide +kernel
theorem dX12_compared_30 : decode cX12_compared 30 = .ok (.if_icmp .ne 7, 3) := by decide +kernel
theorem dX12_compared_33 : decode cX12_compared 33 = .ok (.iconst 1, 1) := by decide +kernel
theorem dX12_compared_34 : decode cX12_compared 34 = .ok (.goto 4, 3) := by decide +kernel
theorem dX12_compared_37 : decode cX12_compared 37 = .ok (.iconst 0, 1) := by decide +kernel
theorem dX12_compared_38 : decode cX12_compared 38 = .ok (.ireturn, 1) := by decide +kernel
theorem dX12_tested_0 : decode cX12_tested 0 = .ok (.aload_n 0, 1) := by decide +kernel
theorem dX12_tested_1 : decode cX12_tested 1 = .ok (.getfield 211, 3) := by decide +kernel
theorem dX12_tested_4 : decode cX12_tested 4 = .ok (.iload_n 1, 1) := by decide +kernel
theorem dX12_tested_5 : decode cX12_tested 5 = .ok (.iaload, 1) := by decide +kernel
theorem dX12_tested_6 : decode cX12_tested 6 = .ok (.istore 5, 2) := by decide +kernel
theorem dX12_tested_8 : decode cX12_tested 8 = .ok (.aload_n 0, 1) := by decide +kernel
theorem dX12_tested_9 : decode cX12_tested 9 = .ok (.getfield 208, 3) := by decide +kernel
theorem dX12_tested_12 : decode cX12_tested 12 = .ok (.iload_n 1, 1) := by decide +kernel
theorem dX12_tested_13 : decode cX12_tested 13 = .ok (.iaload, 1) := by decide +kernel
theorem dX12_tested_14 : decode cX12_tested 14 = .ok (.istore 6, 2) := by decide +kernel
theorem dX12_tested_16 : decode cX12_tested 16 = .ok (.aload_n 0, 1) := by decide +kernel
theorem dX12_tested_17 : decode cX12_tested 17 = .ok (.getfield 205, 3) := by decide +kernel
theorem dX12_tested_20 : decode cX12_tested 20 = .ok (.iload_n 1, 1) := by decide +kernel
theorem dX12_tested_21 : decode cX12_tested 21 = .ok (.iaload, 1) := by decide +kernel
theorem dX12_tested_22 : decode cX12_tested 22 = .ok (.lookupswitch 157 #[(97, 68), (100, 106), (114, 123), (116, 140), (119, 50)], 50) := by decide +kernel
theorem dX12_tested_72 : decode cX12_tested 72 = .ok (.aload_n 0, 1) := by decide +kernel
theorem dX12_tested_73 : decode cX12_tested 73 = .ok (.iload_n 2, 1) := by decide +kernel
theorem dX12_tested_74 : decode cX12_tested 74 = .ok (.iconst 1, 1) := by decide +kernel
theorem dX12_tested_75 : decode cX12_tested 75 = .ok (.iload_n 3, 1) := by decide +kernel
theorem dX12_tested_76 : decode cX12_tested 76 = .ok (.iload 4, 2) := by decide +kernel
theorem dX12_tested_78 : decode cX12_tested 78 = .ok (.invokevirtual 282, 3) := by decide +kernel
theorem dX12_tested_81 : decode cX12_tested 81 = .ok (.ifCond .le 7, 3) := by decide +kernel
theorem dX12_tested_84 : decode cX12_tested 84 = .ok (.iconst 1, 1) := by decide +kernel
theorem dX12_tested_85 : decode cX12_tested 85 = .ok (.goto 4, 3) := by decide +kernel
theorem dX12_tested_88 : decode cX12_tested 88 = .ok (.iconst 0, 1) := by decide +kernel
theorem dX12_tested_89 : decode cX12_tested 89 = .ok (.ireturn, 1) := by decide +kernel
theorem dX12_tested_90 : decode cX12_tested 90 = .ok (.iload_n 3, 1) := by decide +kernel
theorem dX12_tested_91 : decode cX12_tested 91 = .ok (.i2l, 1) := by decide +kernel
theorem dX12_tested_92 : decode cX12_tested 92 = .ok (.aload_n 0, 1) := by decide +kernel
theorem dX12_tested_93 : decode cX12_tested 93 = .ok (.getfield 13, 3) := by decide +kernel
theorem dX12_tested_96 : decode cX12_tested 96 = .ok (.iload_n 2, 1) := by decide +kernel
theorem dX12_tested_97 : decode cX12_tested 97 = .ok (.iaload, 1) := by decide +kernel
theorem dX12_tested_98 : decode cX12_tested 98 = .ok (.i2l, 1) := by decide +kernel
theorem dX12_tested_99 : decode cX12_tested 99 = .ok (.lsub, 1) := by decide +kernel
theorem dX12_tested_100 : decode cX12_tested 100 = .ok (.ldc2_w 353, 3) := by decide +kernel
theorem dX12_tested_103 : decode cX12_tested 103 = .ok (.ldiv, 1) := by decide +kernel
theorem dX12_tested_104 : decode cX12_tested 104 = .ok (.lstore 7, 2) := by decide +kernel
theorem dX12_tested_106 : decode cX12_tested 106 = .ok (.lload 7, 2) := by decide +kernel
theorem dX12_tested_108 : decode cX12_tested 108 = .ok (.lconst 0, 1) := by decide +kernel
theorem dX12_tested_109 : decode cX12_tested 109 = .ok (.lcmp, 1) := by decide +kernel
theorem dX12_tested_110 : decode cX12_tested 110 = .ok (.ifCond .ge 7, 3) := by decide +kernel
theorem dX12_tested_113 : decode cX12_tested 113 = .ok (.iconst 0, 1) := by decide +kernel
theorem dX12_tested_114 : decode cX12_tested 114 = .ok (.goto 6, 3) := by decide +kernel
theorem dX12_tested_117 : decode cX12_tested 117 = .ok (.lload 7, 2) := by decide +kernel
theorem dX12_tested_119 : decode cX12_tested 119 = .ok (.l2i, 1) := by decide +kernel
theorem dX12_tested_120 : decode cX12_tested 120 = .ok (.iload 6, 2) := by decide +kernel
theorem dX12_tested_122 : decode cX12_tested 122 = .ok (.iload 5, 2) := by decide +kernel
theorem dX12_tested_124 : decode cX12_tested 124 = .ok (.invokestatic 355, 3) := by decide +kernel
theorem dX12_tested_127 : decode cX12_tested 127 = .ok (.ireturn, 1) := by decide +kernel
theorem dX12_tested_128 : decode cX12_tested 128 = .ok (.aload_n 0, 1) := by decide +kernel
theorem dX12_tested_129 : decode cX12_tested 129 = .ok (.iload_n 2, 1) := by decide +kernel
theorem dX12_tested_130 : decode cX12_tested 130 = .ok (.iconst 0, 1) := by decide +kernel
theorem dX12_tested_131 : decode cX12_tested 131 = .ok (.iload_n 3, 1) := by decide +kernel
theorem dX12_tested_132 : decode cX12_tested 132 = .ok (.iload 4, 2) := by decide +kernel
theorem dX12_tested_134 : decode cX12_tested 134 = .ok (.invokevirtual 282, 3) := by decide +kernel
theorem dX12_tested_137 : decode cX12_tested 137 = .ok (.iload 6, 2) := by decide +kernel
theorem dX12_tested_139 : decode cX12_tested 139 = .ok (.iload 5, 2) := by decide +kernel
theorem dX12_tested_141 : decode cX12_tested 141 = .ok (.invokestatic 355, 3) := by decide +kernel
theorem dX12_tested_144 : decode cX12_tested 144 = .ok (.ireturn, 1) := by decide +kernel
theorem dX12_tested_145 : decode cX12_tested 145 = .ok (.aload_n 0, 1) := by decide +kernel
theorem dX12_tested_146 : decode cX12_tested 146 = .ok (.iload_n 2, 1) := by decide +kernel
theorem dX12_tested_147 : decode cX12_tested 147 = .ok (.iconst 2, 1) := by decide +kernel
theorem dX12_tested_148 : decode cX12_tested 148 = .ok (.iload_n 3, 1) := by decide +kernel
theorem dX12_tested_149 : decode cX12_tested 149 = .ok (.iload 4, 2) := by decide +kernel
theorem dX12_tested_151 : decode cX12_tested 151 = .ok (.invokevirtual 282, 3) := by decide +kernel
theorem dX12_tested_154 : decode cX12_tested 154 = .ok (.iload 6, 2) := by decide +kernel
theorem dX12_tested_156 : decode cX12_tested 156 = .ok (.iload 5, 2) := by decide +kernel
theorem dX12_tested_158 : decode cX12_tested 158 = .ok (.invokestatic 355, 3) := by decide +kernel
theorem dX12_tested_161 : decode cX12_tested 161 = .ok (.ireturn, 1) := by decide +kernel
theorem dX12_tested_162 : decode cX12_tested 162 = .ok (.aload_n 0, 1) := by decide +kernel
theorem dX12_tested_163 : decode cX12_tested 163 = .ok (.iload_n 2, 1) := by decide +kernel
theorem dX12_tested_164 : decode cX12_tested 164 = .ok (.iconst 3, 1) := by decide +kernel
theorem dX12_tested_165 : decode cX12_tested 165 = .ok (.iload_n 3, 1) := by decide +kernel
theorem dX12_tested_166 : decode cX12_tested 166 = .ok (.iload 4, 2) := by decide +kernel
theorem dX12_tested_168 : decode cX12_tested 168 = .ok (.invokevirtual 282, 3) := by decide +kernel
theorem dX12_tested_171 : decode cX12_tested 171 = .ok (.iload 6, 2) := by decide +kernel
theorem dX12_tested_173 : decode cX12_tested 173 = .ok (.iload 5, 2) := by decide +kernel
theorem dX12_tested_175 : decode cX12_tested 175 = .ok (.invokestatic 355, 3) := by decide +kernel
theorem dX12_tested_178 : decode cX12_tested 178 = .ok (.ireturn, 1) := by decide +kernel
theorem dX12_tested_179 : decode cX12_tested 179 = .ok (.aload_n 0, 1) := by decide +kernel
theorem dX12_tested_180 : decode cX12_tested 180 = .ok (.iload_n 2, 1) := by decide +kernel
theorem dX12_tested_181 : decode cX12_tested 181 = .ok (.iload 4, 2) := by decide +kernel
theorem dX12_tested_183 : decode cX12_tested 183 = .ok (.invokevirtual 286, 3) := by decide +kernel
theorem dX12_tested_186 : decode cX12_tested 186 = .ok (.istore 7, 2) := by decide +kernel
theorem dX12_tested_188 : decode cX12_tested 188 = .ok (.aload_n 0, 1) := by decide +kernel
theorem dX12_tested_189 : decode cX12_tested 189 = .ok (.iload_n 2, 1) := by decide +kernel
theorem dX12_tested_190 : decode cX12_tested 190 = .ok (.iload 4, 2) := by decide +kernel
theorem dX12_tested_192 : decode cX12_tested 192 = .ok (.invokevirtual 290, 3) := by decide +kernel
theorem dX12_tested_195 : decode cX12_tested 195 = .ok (.istore 8, 2) := by decide +kernel
theorem dX12_tested_197 : decode cX12_tested 197 = .ok (.iload 6, 2) := by decide +kernel
theorem dX12_tested_199 : decode cX12_tested 199 = .ok (.bipush 60, 2) := by decide +kernel
theorem dX12_tested_201 : decode cX12_tested 201 = .ok (.if_icmp .ne 27, 3) := by decide +kernel
theorem dX12_tested_204 : decode cX12_tested 204 = .ok (.iload 7, 2) := by decide +kernel
theorem dX12_tested_206 : decode cX12_tested 206 = .ok (.iload 5, 2) := by decide +kernel
theorem dX12_tested_208 : decode cX12_tested 208 = .ok (.if_icmp .ge 7, 3) := by decide +kernel
theorem dX12_tested_211 : decode cX12_tested 211 = .ok (.iconst 1, 1) := by decide +kernel
theorem dX12_tested_212 : decode cX12_tested 212 = .ok (.goto 15, 3) := by decide +kernel
theorem dX12_tested_215 : decode cX12_tested 215 = .ok (.iload 8, 2) := by decide +kernel
theorem dX12_tested_217 : decode cX12_tested 217 = .ok (.iload 5, 2) := by decide +kernel
theorem dX12_tested_219 : decode cX12_tested 219 = .ok (.if_icmp .ge 7, 3) := by decide +kernel
theorem dX12_tested_222 : decode cX12_tested 222 = .ok (.iconst 2, 1) := by decide +kernel
theorem dX12_tested_223 : decode cX12_tested 223 = .ok (.goto 4, 3) := by decide +kernel
theorem dX12_tested_226 : decode cX12_tested 226 = .ok (.iconst 0, 1) := by decide +kernel
theorem dX12_tested_227 : decode cX12_tested 227 = .ok (.ireturn, 1) := by decide +kernel
theorem dX12_tested_228 : decode cX12_tested 228 = .ok (.iload 6, 2) := by decide +kernel
theorem dX12_tested_230 : decode cX12_tested 230 = .ok (.bipush 62, 2) := by decide +kernel
theorem dX12_tested_232 : decode cX12_tested 232 = .ok (.if_icmp .ne 27, 3) := by decide +kernel
theorem dX12_tested_235 : decode cX12_tested 235 = .ok (.iload 7, 2) := by decide +kernel
theorem dX12_tested_237 : decode cX12_tested 237 = .ok (.iload 5, 2) := by decide +kernel
theorem dX12_tested_239 : decode cX12_tested 239 = .ok (.if_icmp .gt 7, 3) := by decide +kernel
theorem dX12_tested_242 : decode cX12_tested 242 = .ok (.iconst 0, 1) := by decide +kernel
theorem dX12_tested_243 : decode cX12_tested 243 = .ok (.goto 15, 3) := by decide +kernel
theorem dX12_tested_246 : decode cX12_tested 246 = .ok (.iload 8, 2) := by decide +kernel
theorem dX12_tested_248 : decode cX12_tested 248 = .ok (.iload 5, 2) := by decide +kernel
theorem dX12_tested_250 : decode cX12_tested 250 = .ok (.if_icmp .gt 7, 3) := by decide +kernel
theorem dX12_tested_253 : decode cX12_tested 253 = .ok (.iconst 2, 1) := by decide +kernel
theorem dX12_tested_254 : decode cX12_tested 254 = .ok (.goto 4, 3) := by decide +kernel
theorem dX12_tested_257 : decode cX12_tested 257 = .ok (.iconst 1, 1) := by decide +kernel
theorem dX12_tested_258 : decode cX12_tested 258 = .ok (.ireturn, 1) := by decide +kernel
theorem dX12_tested_259 : decode cX12_tested 259 = .ok (.iload 7, 2) := by decide +kernel
theorem dX12_tested_261 : decode cX12_tested 261 = .ok (.iload 5, 2) := by decide +kernel
theorem dX12_tested_263 : decode cX12_tested 263 = .ok (.if_icmp .ge 5, 3) := by decide +kernel
theorem dX12_tested_266 : decode cX12_tested 266 = .ok (.iconst 0, 1) := by decide +kernel
theorem dX12_tested_267 : decode cX12_tested 267 = .ok (.ireturn, 1) := by decide +kernel
theorem dX12_tested_268 : decode cX12_tested 268 = .ok (.iload 7, 2) := by decide +kernel
theorem dX12_tested_270 : decode cX12_tested 270 = .ok (.iload 5, 2) := by decide +kernel
theorem dX12_tested_272 : decode cX12_tested 272 = .ok (.if_icmp .ne 16, 3) := by decide +kernel
theorem dX12_tested_275 : decode cX12_tested 275 = .ok (.iload 8, 2) := by decide +kernel
theorem dX12_tested_277 : decode cX12_tested 277 = .ok (.iload 5, 2) := by decide +kernel
theorem dX12_tested_279 : decode cX12_tested 279 = .ok (.if_icmp .ge 7, 3) := by decide +kernel
theorem dX12_tested_282 : decode cX12_tested 282 = .ok (.iconst 2, 1) := by decide +kernel
theorem dX12_tested_283 : decode cX12_tested 283 = .ok (.goto 4, 3) := by decide +kernel
theorem dX12_tested_286 : decode cX12_tested 286 = .ok (.iconst 1, 1) := by decide +kernel
theorem dX12_tested_287 : decode cX12_tested 287 = .ok (.ireturn, 1) := by decide +kernel
theorem dX12_tested_288 : decode cX12_tested 288 = .ok (.iload 8, 2) := by decide +kernel
theorem dX12_tested_290 : decode cX12_tested 290 = .ok (.iload 5, 2) := by decide +kernel
theorem dX12_tested_292 : decode cX12_tested 292 = .ok (.if_icmp .gt 7, 3) := by decide +kernel
theorem dX12_tested_295 : decode cX12_tested 295 = .ok (.iconst 2, 1) := by decide +kernel
theorem dX12_tested_296 : decode cX12_tested 296 = .ok (.goto 4, 3) := by decide +kernel
theorem dX12_tested_299 : decode cX12_tested 299 = .ok (.iconst 0, 1) := by decide +kernel
theorem dX12_tested_300 : decode cX12_tested 300 = .ok (.ireturn, 1) := by decide +kernel
theorem dX12_joined_0 : decode cX12_joined 0 = .ok (.iload_n 0, 1) := by decide +kernel
theorem dX12_joined_1 : decode cX12_joined 1 = .ok (.iload_n 2, 1) := by decide +kernel
theorem dX12_joined_2 : decode cX12_joined 2 = .ok (.if_icmp .eq 8, 3) := by decide +kernel
theorem dX12_joined_5 : decode cX12_joined 5 = .ok (.iload_n 1, 1) := by decide +kernel
theorem dX12_joined_6 : decode cX12_joined 6 = .ok (.iload_n 2, 1) := by decide +kernel
theorem dX12_joined_7 : decode cX12_joined 7 = .ok (.if_icmp .ne 5, 3) := by decide +kernel
theorem dX12_joined_10 : decode cX12_joined 10 = .ok (.iload_n 2, 1) := by decide +kernel
theorem dX12_joined_11 : decode cX12_joined 11 = .ok (.ireturn, 1) := by decide +kernel
theorem dX12_joined_12 : decode cX12_joined 12 = .ok (.iload_n 0, 1) := by decide +kernel
theorem dX12_joined_13 : decode cX12_joined 13 = .ok (.iconst 2, 1) := by decide +kernel
theorem dX12_joined_14 : decode cX12_joined 14 = .ok (.if_icmp .eq 8, 3) := by decide +kernel
theorem dX12_joined_17 : decode cX12_joined 17 = .ok (.iload_n 1, 1) := by decide +kernel
theorem dX12_joined_18 : decode cX12_joined 18 = .ok (.iconst 2, 1) := by decide +kernel
theorem dX12_joined_19 : decode cX12_joined 19 = .ok (.if_icmp .ne 7, 3) := by decide +kernel
theorem dX12_joined_22 : decode cX12_joined 22 = .ok (.iconst 2, 1) := by decide +kernel
theorem dX12_joined_23 : decode cX12_joined 23 = .ok (.goto 6, 3) := by decide +kernel
theorem dX12_joined_26 : decode cX12_joined 26 = .ok (.iconst 1, 1) := by decide +kernel
theorem dX12_joined_27 : decode cX12_joined 27 = .ok (.iload_n 2, 1) := by decide +kernel
theorem dX12_joined_28 : decode cX12_joined 28 = .ok (.isub, 1) := by decide +kernel
theorem dX12_joined_29 : decode cX12_joined 29 = .ok (.ireturn, 1) := by decide +kernel
theorem dX12_mays_0 : decode cX12_mays 0 = .ok (.aload_n 0, 1) := by decide +kernel
theorem dX12_mays_1 : decode cX12_mays 1 = .ok (.iload_n 2, 1) := by decide +kernel
theorem dX12_mays_2 : decode cX12_mays 2 = .ok (.iload_n 3, 1) := by decide +kernel
theorem dX12_mays_3 : decode cX12_mays 3 = .ok (.iload 4, 2) := by decide +kernel
theorem dX12_mays_5 : decode cX12_mays 5 = .ok (.invokevirtual 316, 3) := by decide +kernel
theorem dX12_mays_8 : decode cX12_mays 8 = .ok (.aload_n 0, 1) := by decide +kernel
theorem dX12_mays_9 : decode cX12_mays 9 = .ok (.invokevirtual 350, 3) := by decide +kernel
theorem dX12_mays_12 : decode cX12_mays 12 = .ok (.iconst (-1), 1) := by decide +kernel
theorem dX12_mays_13 : decode cX12_mays 13 = .ok (.if_icmp .eq 5, 3) := by decide +kernel
theorem dX12_mays_16 : decode cX12_mays 16 = .ok (.iconst 3, 1) := by decide +kernel
theorem dX12_mays_17 : decode cX12_mays 17 = .ok (.ireturn, 1) := by decide +kernel
theorem dX12_mays_18 : decode cX12_mays 18 = .ok (.iload_n 3, 1) := by decide +kernel
theorem dX12_mays_19 : decode cX12_mays 19 = .ok (.aload_n 0, 1) := by decide +kernel
theorem dX12_mays_20 : decode cX12_mays 20 = .ok (.getfield 13, 3) := by decide +kernel
theorem dX12_mays_23 : decode cX12_mays 23 = .ok (.iload_n 1, 1) := by decide +kernel
theorem dX12_mays_24 : decode cX12_mays 24 = .ok (.iaload, 1) := by decide +kernel
theorem dX12_mays_25 : decode cX12_mays 25 = .ok (.if_icmp .lt 33, 3) := by decide +kernel
theorem dX12_mays_28 : decode cX12_mays 28 = .ok (.aload_n 0, 1) := by decide +kernel
theorem dX12_mays_29 : decode cX12_mays 29 = .ok (.getfield 33, 3) := by decide +kernel
theorem dX12_mays_32 : decode cX12_mays 32 = .ok (.iload_n 1, 1) := by decide +kernel
theorem dX12_mays_33 : decode cX12_mays 33 = .ok (.baload, 1) := by decide +kernel
theorem dX12_mays_34 : decode cX12_mays 34 = .ok (.ifCond .eq 26, 3) := by decide +kernel
theorem dX12_mays_37 : decode cX12_mays 37 = .ok (.aload_n 0, 1) := by decide +kernel
theorem dX12_mays_38 : decode cX12_mays 38 = .ok (.getfield 20, 3) := by decide +kernel
theorem dX12_mays_41 : decode cX12_mays 41 = .ok (.iload_n 1, 1) := by decide +kernel
theorem dX12_mays_42 : decode cX12_mays 42 = .ok (.iaload, 1) := by decide +kernel
theorem dX12_mays_43 : decode cX12_mays 43 = .ok (.iload 4, 2) := by decide +kernel
theorem dX12_mays_45 : decode cX12_mays 45 = .ok (.if_icmp .gt 15, 3) := by decide +kernel
theorem dX12_mays_48 : decode cX12_mays 48 = .ok (.iload_n 3, 1) := by decide +kernel
theorem dX12_mays_49 : decode cX12_mays 49 = .ok (.aload_n 0, 1) := by decide +kernel
theorem dX12_mays_50 : decode cX12_mays 50 = .ok (.getfield 17, 3) := by decide +kernel
theorem dX12_mays_53 : decode cX12_mays 53 = .ok (.iload_n 1, 1) := by decide +kernel
theorem dX12_mays_54 : decode cX12_mays 54 = .ok (.iaload, 1) := by decide +kernel
theorem dX12_mays_55 : decode cX12_mays 55 = .ok (.if_icmp .lt 5, 3) := by decide +kernel
theorem dX12_mays_58 : decode cX12_mays 58 = .ok (.iconst 0, 1) := by decide +kernel
theorem dX12_mays_59 : decode cX12_mays 59 = .ok (.ireturn, 1) := by decide +kernel
theorem dX12_mays_60 : decode cX12_mays 60 = .ok (.iconst 0, 1) := by decide +kernel
theorem dX12_mays_61 : decode cX12_mays 61 = .ok (.istore 5, 2) := by decide +kernel
theorem dX12_mays_63 : decode cX12_mays 63 = .ok (.iconst 0, 1) := by decide +kernel
theorem dX12_mays_64 : decode cX12_mays 64 = .ok (.istore 6, 2) := by decide +kernel
theorem dX12_mays_66 : decode cX12_mays 66 = .ok (.iload 6, 2) := by decide +kernel
theorem dX12_mays_68 : decode cX12_mays 68 = .ok (.aload_n 0, 1) := by decide +kernel
theorem dX12_mays_69 : decode cX12_mays 69 = .ok (.getfield 336, 3) := by decide +kernel
theorem dX12_mays_72 : decode cX12_mays 72 = .ok (.if_icmp .ge 135, 3) := by decide +kernel
theorem dX12_mays_75 : decode cX12_mays 75 = .ok (.aload_n 0, 1) := by decide +kernel
theorem dX12_mays_76 : decode cX12_mays 76 = .ok (.getfield 214, 3) := by decide +kernel
theorem dX12_mays_79 : decode cX12_mays 79 = .ok (.iload 6, 2) := by decide +kernel
theorem dX12_mays_81 : decode cX12_mays 81 = .ok (.iaload, 1) := by decide +kernel
theorem dX12_mays_82 : decode cX12_mays 82 = .ok (.istore 7, 2) := by decide +kernel
theorem dX12_mays_84 : decode cX12_mays 84 = .ok (.iload 7, 2) := by decide +kernel
theorem dX12_mays_86 : decode cX12_mays 86 = .ok (.ifCond .lt 26, 3) := by decide +kernel
theorem dX12_mays_89 : decode cX12_mays 89 = .ok (.aload_n 0, 1) := by decide +kernel
theorem dX12_mays_90 : decode cX12_mays 90 = .ok (.getfield 220, 3) := by decide +kernel
theorem dX12_mays_93 : decode cX12_mays 93 = .ok (.iload 5, 2) := by decide +kernel
theorem dX12_mays_95 : decode cX12_mays 95 = .ok (.iinc 5 1, 3) := by decide +kernel
theorem dX12_mays_98 : decode cX12_mays 98 = .ok (.aload_n 0, 1) := by decide +kernel
theorem dX12_mays_99 : decode cX12_mays 99 = .ok (.iload 7, 2) := by decide +kernel
theorem dX12_mays_101 : decode cX12_mays 101 = .ok (.iload_n 1, 1) := by decide +kernel
theorem dX12_mays_102 : decode cX12_mays 102 = .ok (.iload_n 3, 1) := by decide +kernel
theorem dX12_mays_103 : decode cX12_mays 103 = .ok (.iload 4, 2) := by decide +kernel
theorem dX12_mays_105 : decode cX12_mays 105 = .ok (.invokevirtual 359, 3) := by decide +kernel
theorem dX12_mays_108 : decode cX12_mays 108 = .ok (.iastore, 1) := by decide +kernel
theorem dX12_mays_109 : decode cX12_mays 109 = .ok (.goto 92, 3) := by decide +kernel
theorem dX12_mays_112 : decode cX12_mays 112 = .ok (.iload 7, 2) := by decide +kernel
theorem dX12_mays_114 : decode cX12_mays 114 = .ok (.iconst (-1), 1) := by decide +kernel
theorem dX12_mays_115 : decode cX12_mays 115 = .ok (.if_icmp .ne 43, 3) := by decide +kernel
theorem dX12_mays_118 : decode cX12_mays 118 = .ok (.aload_n 0, 1) := by decide +kernel
theorem dX12_mays_119 : decode cX12_mays 119 = .ok (.getfield 220, 3) := by decide +kernel
theorem dX12_mays_122 : decode cX12_mays 122 = .ok (.iload 5, 2) := by decide +kernel
theorem dX12_mays_124 : decode cX12_mays 124 = .ok (.iconst 1, 1) := by decide +kernel
theorem dX12_mays_125 : decode cX12_mays 125 = .ok (.isub, 1) := by decide +kernel
theorem dX12_mays_126 : decode cX12_mays 126 = .ok (.aload_n 0, 1) := by decide +kernel
theorem dX12_mays_127 : decode cX12_mays 127 = .ok (.getfield 220, 3) := by decide +kernel
theorem dX12_mays_130 : decode cX12_mays 130 = .ok (.iload 5, 2) := by decide +kernel
theorem dX12_mays_132 : decode cX12_mays 132 = .ok (.iconst 1, 1) := by decide +kernel
theorem dX12_mays_133 : decode cX12_mays 133 = .ok (.isub, 1) := by decide +kernel
theorem dX12_mays_134 : decode cX12_mays 134 = .ok (.iaload, 1) := by decide +kernel
theorem dX12_mays_135 : decode cX12_mays 135 = .ok (.iconst 2, 1) := by decide +kernel
theorem dX12_mays_136 : decode cX12_mays 136 = .ok (.if_icmp .ne 7, 3) := by decide +kernel
theorem dX12_mays_139 : decode cX12_mays 139 = .ok (.iconst 2, 1) := by decide +kernel
theorem dX12_mays_140 : decode cX12_mays 140 = .ok (.goto 14, 3) := by decide +kernel
theorem dX12_mays_143 : decode cX12_mays 143 = .ok (.iconst 1, 1) := by decide +kernel
theorem dX12_mays_144 : decode cX12_mays 144 = .ok (.aload_n 0, 1) := by decide +kernel
theorem dX12_mays_145 : decode cX12_mays 145 = .ok (.getfield 220, 3) := by decide +kernel
theorem dX12_mays_148 : decode cX12_mays 148 = .ok (.iload 5, 2) := by decide +kernel
theorem dX12_mays_150 : decode cX12_mays 150 = .ok (.iconst 1, 1) := by decide +kernel
theorem dX12_mays_151 : decode cX12_mays 151 = .ok (.isub, 1) := by decide +kernel
theorem dX12_mays_152 : decode cX12_mays 152 = .ok (.iaload, 1) := by decide +kernel
theorem dX12_mays_153 : decode cX12_mays 153 = .ok (.isub, 1) := by decide +kernel
theorem dX12_mays_154 : decode cX12_mays 154 = .ok (.iastore, 1) := by decide +kernel
theorem dX12_mays_155 : decode cX12_mays 155 = .ok (.goto 46, 3) := by decide +kernel
theorem dX12_mays_158 : decode cX12_mays 158 = .ok (.iinc 5 (-1), 3) := by decide +kernel
theorem dX12_mays_161 : decode cX12_mays 161 = .ok (.aload_n 0, 1) := by decide +kernel
theorem dX12_mays_162 : decode cX12_mays 162 = .ok (.getfield 220, 3) := by decide +kernel
theorem dX12_mays_165 : decode cX12_mays 165 = .ok (.iload 5, 2) := by decide +kernel
theorem dX12_mays_167 : decode cX12_mays 167 = .ok (.iconst 1, 1) := by decide +kernel
theorem dX12_mays_168 : decode cX12_mays 168 = .ok (.isub, 1) := by decide +kernel
theorem dX12_mays_169 : decode cX12_mays 169 = .ok (.aload_n 0, 1) := by decide +kernel
theorem dX12_mays_170 : decode cX12_mays 170 = .ok (.getfield 220, 3) := by decide +kernel
theorem dX12_mays_173 : decode cX12_mays 173 = .ok (.iload 5, 2) := by decide +kernel
theorem dX12_mays_175 : decode cX12_mays 175 = .ok (.iconst 1, 1) := by decide +kernel
theorem dX12_mays_176 : decode cX12_mays 176 = .ok (.isub, 1) := by decide +kernel
theorem dX12_mays_177 : decode cX12_mays 177 = .ok (.iaload, 1) := by decide +kernel
theorem dX12_mays_178 : decode cX12_mays 178 = .ok (.aload_n 0, 1) := by decide +kernel
theorem dX12_mays_179 : decode cX12_mays 179 = .ok (.getfield 220, 3) := by decide +kernel
theorem dX12_mays_182 : decode cX12_mays 182 = .ok (.iload 5, 2) := by decide +kernel
theorem dX12_mays_184 : decode cX12_mays 184 = .ok (.iaload, 1) := by decide +kernel
theorem dX12_mays_185 : decode cX12_mays 185 = .ok (.iload 7, 2) := by decide +kernel
theorem dX12_mays_187 : decode cX12_mays 187 = .ok (.bipush (-2), 2) := by decide +kernel
theorem dX12_mays_189 : decode cX12_mays 189 = .ok (.if_icmp .ne 7, 3) := by decide +kernel
theorem dX12_mays_192 : decode cX12_mays 192 = .ok (.iconst 0, 1) := by decide +kernel
theorem dX12_mays_193 : decode cX12_mays 193 = .ok (.goto 4, 3) := by decide +kernel
theorem dX12_mays_196 : decode cX12_mays 196 = .ok (.iconst 1, 1) := by decide +kernel
theorem dX12_mays_197 : decode cX12_mays 197 = .ok (.invokestatic 362, 3) := by decide +kernel
theorem dX12_mays_200 : decode cX12_mays 200 = .ok (.iastore, 1) := by decide +kernel
theorem dX12_mays_201 : decode cX12_mays 201 = .ok (.iinc 6 1, 3) := by decide +kernel
theorem dX12_mays_204 : decode cX12_mays 204 = .ok (.goto (-138), 3) := by decide +kernel
theorem dX12_mays_207 : decode cX12_mays 207 = .ok (.aload_n 0, 1) := by decide +kernel
theorem dX12_mays_208 : decode cX12_mays 208 = .ok (.getfield 220, 3) := by decide +kernel
theorem dX12_mays_211 : decode cX12_mays 211 = .ok (.iconst 0, 1) := by decide +kernel
theorem dX12_mays_212 : decode cX12_mays 212 = .ok (.iaload, 1) := by decide +kernel
theorem dX12_mays_213 : decode cX12_mays 213 = .ok (.ireturn, 1) := by decide +kernel
theorem dX12_may_0 : decode cX12_may 0 = .ok (.aload_n 0, 1) := by decide +kernel
theorem dX12_may_1 : decode cX12_may 1 = .ok (.iload_n 1, 1) := by decide +kernel
theorem dX12_may_2 : decode cX12_may 2 = .ok (.invokevirtual 271, 3) := by decide +kernel
theorem dX12_may_5 : decode cX12_may 5 = .ok (.ifCond .eq 22, 3) := by decide +kernel
theorem dX12_may_8 : decode cX12_may 8 = .ok (.iload_n 2, 1) := by decide +kernel
theorem dX12_may_9 : decode cX12_may 9 = .ok (.invokestatic 297, 3) := by decide +kernel
theorem dX12_may_12 : decode cX12_may 12 = .ok (.ifCond .eq 15, 3) := by decide +kernel
theorem dX12_may_15 : decode cX12_may 15 = .ok (.aload_n 0, 1) := by decide +kernel
theorem dX12_may_16 : decode cX12_may 16 = .ok (.iload_n 1, 1) := by decide +kernel
theorem dX12_may_17 : decode cX12_may 17 = .ok (.iload_n 2, 1) := by decide +kernel
theorem dX12_may_18 : decode cX12_may 18 = .ok (.iload_n 3, 1) := by decide +kernel
theorem dX12_may_19 : decode cX12_may 19 = .ok (.iload 4, 2) := by decide +kernel
theorem dX12_may_21 : decode cX12_may 21 = .ok (.invokevirtual 365, 3) := by decide +kernel
theorem dX12_may_24 : decode cX12_may 24 = .ok (.goto 4, 3) := by decide +kernel
theorem dX12_may_27 : decode cX12_may 27 = .ok (.iconst (-1), 1) := by decide +kernel
theorem dX12_may_28 : decode cX12_may 28 = .ok (.ireturn, 1) := by decide +kernel
theorem dX12_test_0 : decode cX12_test 0 = .ok (.aload_n 0, 1) := by decide +kernel
theorem dX12_test_1 : decode cX12_test 1 = .ok (.iload_n 1, 1) := by decide +kernel
theorem dX12_test_2 : decode cX12_test 2 = .ok (.invokevirtual 271, 3) := by decide +kernel
theorem dX12_test_5 : decode cX12_test 5 = .ok (.ifCond .eq 10, 3) := by decide +kernel
theorem dX12_test_8 : decode cX12_test 8 = .ok (.iload_n 2, 1) := by decide +kernel
theorem dX12_test_9 : decode cX12_test 9 = .ok (.invokestatic 297, 3) := by decide +kernel
theorem dX12_test_12 : decode cX12_test 12 = .ok (.ifCond .ne 5, 3) := by decide +kernel
theorem dX12_test_15 : decode cX12_test 15 = .ok (.iconst (-1), 1) := by decide +kernel
theorem dX12_test_16 : decode cX12_test 16 = .ok (.ireturn, 1) := by decide +kernel
theorem dX12_test_17 : decode cX12_test 17 = .ok (.aload_n 0, 1) := by decide +kernel
theorem dX12_test_18 : decode cX12_test 18 = .ok (.iload_n 2, 1) := by decide +kernel
theorem dX12_test_19 : decode cX12_test 19 = .ok (.iload_n 3, 1) := by decide +kernel
theorem dX12_test_20 : decode cX12_test 20 = .ok (.iload 4, 2) := by decide +kernel
theorem dX12_test_22 : decode cX12_test 22 = .ok (.invokevirtual 316, 3) := by decide +kernel
theorem dX12_test_25 : decode cX12_test 25 = .ok (.aload_n 0, 1) := by decide +kernel
theorem dX12_test_26 : decode cX12_test 26 = .ok (.invokevirtual 350, 3) := by decide +kernel
theorem dX12_test_29 : decode cX12_test 29 = .ok (.iconst (-1), 1) := by decide +kernel
theorem dX12_test_30 : decode cX12_test 30 = .ok (.if_icmp .ne 17, 3) := by decide +kernel
theorem dX12_test_33 : decode cX12_test 33 = .ok (.iload 5, 2) := by decide +kernel
theorem dX12_test_35 : decode cX12_test 35 = .ok (.ifCond .lt 12, 3) := by decide +kernel
theorem dX12_test_38 : decode cX12_test 38 = .ok (.iload 5, 2) := by decide +kernel
theorem dX12_test_40 : decode cX12_test 40 = .ok (.aload_n 0, 1) := by decide +kernel
theorem dX12_test_41 : decode cX12_test 41 = .ok (.getfield 327, 3) := by decide +kernel
theorem dX12_test_44 : decode cX12_test 44 = .ok (.if_icmp .lt 5, 3) := by decide +kernel
theorem dX12_test_47 : decode cX12_test 47 = .ok (.iconst (-1), 1) := by decide +kernel
theorem dX12_test_48 : decode cX12_test 48 = .ok (.ireturn, 1) := by decide +kernel
theorem dX12_test_49 : decode cX12_test 49 = .ok (.aload_n 0, 1) := by decide +kernel
theorem dX12_test_50 : decode cX12_test 50 = .ok (.iload 5, 2) := by decide +kernel
theorem dX12_test_52 : decode cX12_test 52 = .ok (.iload_n 1, 1) := by decide +kernel
theorem dX12_test_53 : decode cX12_test 53 = .ok (.iload_n 3, 1) := by decide +kernel
theorem dX12_test_54 : decode cX12_test 54 = .ok (.iload 4, 2) := by decide +kernel
theorem dX12_test_56 : decode cX12_test 56 = .ok (.invokevirtual 359, 3) := by decide +kernel
theorem dX12_test_59 : decode cX12_test 59 = .ok (.ireturn, 1) := by decide +kernel
theorem dX12_place_0 : decode cX12_place 0 = .ok (.iload_n 1, 1) := by decide +kernel
theorem dX12_place_1 : decode cX12_place 1 = .ok (.invokestatic 297, 3) := by decide +kernel
theorem dX12_place_4 : decode cX12_place 4 = .ok (.ifCond .ne 9, 3) := by decide +kernel
theorem dX12_place_7 : decode cX12_place 7 = .ok (.aload_n 0, 1) := by decide +kernel
theorem dX12_place_8 : decode cX12_place 8 = .ok (.iconst (-1), 1) := by decide +kernel
theorem dX12_place_9 : decode cX12_place 9 = .ok (.invokevirtual 267, 3) := by decide +kernel
theorem dX12_place_12 : decode cX12_place 12 = .ok (.ireturn, 1) := by decide +kernel
theorem dX12_place_13 : decode cX12_place 13 = .ok (.aload_n 0, 1) := by decide +kernel
theorem dX12_place_14 : decode cX12_place 14 = .ok (.getfield 259, 3) := by decide +kernel
theorem dX12_place_17 : decode cX12_place 17 = .ok (.bipush 12, 2) := by decide +kernel
theorem dX12_place_19 : decode cX12_place 19 = .ok (.if_icmp .ne 10, 3) := by decide +kernel
theorem dX12_place_22 : decode cX12_place 22 = .ok (.aload_n 0, 1) := by decide +kernel
theorem dX12_place_23 : decode cX12_place 23 = .ok (.bipush (-7), 2) := by decide +kernel
theorem dX12_place_25 : decode cX12_place 25 = .ok (.invokevirtual 267, 3) := by decide +kernel
theorem dX12_place_28 : decode cX12_place 28 = .ok (.ireturn, 1) := by decide +kernel
theorem dX12_place_29 : decode cX12_place 29 = .ok (.aload_n 0, 1) := by decide +kernel
theorem dX12_place_30 : decode cX12_place 30 = .ok (.getfield 106, 3) := by decide +kernel
theorem dX12_place_33 : decode cX12_place 33 = .ok (.aload_n 0, 1) := by decide +kernel
theorem dX12_place_34 : decode cX12_place 34 = .ok (.getfield 259, 3) := by decide +kernel
theorem dX12_place_37 : decode cX12_place 37 = .ok (.iload_n 1, 1) := by decide +kernel
theorem dX12_place_38 : decode cX12_place 38 = .ok (.iastore, 1) := by decide +kernel
theorem dX12_place_39 : decode cX12_place 39 = .ok (.aload_n 0, 1) := by decide +kernel
theorem dX12_place_40 : decode cX12_place 40 = .ok (.getfield 109, 3) := by decide +kernel
theorem dX12_place_43 : decode cX12_place 43 = .ok (.aload_n 0, 1) := by decide +kernel
theorem dX12_place_44 : decode cX12_place 44 = .ok (.getfield 259, 3) := by decide +kernel
theorem dX12_place_47 : decode cX12_place 47 = .ok (.iconst (-1), 1) := by decide +kernel
theorem dX12_place_48 : decode cX12_place 48 = .ok (.iastore, 1) := by decide +kernel
theorem dX12_place_49 : decode cX12_place 49 = .ok (.aload_n 0, 1) := by decide +kernel
theorem dX12_place_50 : decode cX12_place 50 = .ok (.getfield 112, 3) := by decide +kernel
theorem dX12_place_53 : decode cX12_place 53 = .ok (.aload_n 0, 1) := by decide +kernel
theorem dX12_place_54 : decode cX12_place 54 = .ok (.getfield 259, 3) := by decide +kernel
theorem dX12_place_57 : decode cX12_place 57 = .ok (.iconst (-1), 1) := by decide +kernel
theorem dX12_place_58 : decode cX12_place 58 = .ok (.iastore, 1) := by decide +kernel
theorem dX12_place_59 : decode cX12_place 59 = .ok (.aload_n 0, 1) := by decide +kernel
theorem dX12_place_60 : decode cX12_place 60 = .ok (.getfield 115, 3) := by decide +kernel
theorem dX12_place_63 : decode cX12_place 63 = .ok (.aload_n 0, 1) := by decide +kernel
theorem dX12_place_64 : decode cX12_place 64 = .ok (.getfield 259, 3) := by decide +kernel
theorem dX12_place_67 : decode cX12_place 67 = .ok (.iconst (-1), 1) := by decide +kernel
theorem dX12_place_68 : decode cX12_place 68 = .ok (.iastore, 1) := by decide +kernel
theorem dX12_place_69 : decode cX12_place 69 = .ok (.aload_n 0, 1) := by decide +kernel
theorem dX12_place_70 : decode cX12_place 70 = .ok (.dup, 1) := by decide +kernel
theorem dX12_place_71 : decode cX12_place 71 = .ok (.getfield 259, 3) := by decide +kernel
theorem dX12_place_74 : decode cX12_place 74 = .ok (.dup_x1, 1) := by decide +kernel
theorem dX12_place_75 : decode cX12_place 75 = .ok (.iconst 1, 1) := by decide +kernel
theorem dX12_place_76 : decode cX12_place 76 = .ok (.iadd, 1) := by decide +kernel
theorem dX12_place_77 : decode cX12_place 77 = .ok (.putfield 259, 3) := by decide +kernel
theorem dX12_place_80 : decode cX12_place 80 = .ok (.ireturn, 1) := by decide +kernel
theorem dX12_grace_0 : decode cX12_grace 0 = .ok (.iload_n 1, 1) := by decide +kernel
theorem dX12_grace_1 : decode cX12_grace 1 = .ok (.ifCond .lt 10, 3) := by decide +kernel
theorem dX12_grace_4 : decode cX12_grace 4 = .ok (.iload_n 1, 1) := by decide +kernel
theorem dX12_grace_5 : decode cX12_grace 5 = .ok (.sipush 4000, 3) := by decide +kernel
theorem dX12_grace_8 : decode cX12_grace 8 = .ok (.if_icmp .le 10, 3) := by decide +kernel
theorem dX12_grace_11 : decode cX12_grace 11 = .ok (.aload_n 0, 1) := by decide +kernel
theorem dX12_grace_12 : decode cX12_grace 12 = .ok (.bipush (-6), 2) := by decide +kernel
theorem dX12_grace_14 : decode cX12_grace 14 = .ok (.invokevirtual 267, 3) := by decide +kernel
theorem dX12_grace_17 : decode cX12_grace 17 = .ok (.ireturn, 1) := by decide +kernel
theorem dX12_grace_18 : decode cX12_grace 18 = .ok (.aload_n 0, 1) := by decide +kernel
theorem dX12_grace_19 : decode cX12_grace 19 = .ok (.getfield 7, 3) := by decide +kernel
theorem dX12_grace_22 : decode cX12_grace 22 = .ok (.istore_n 2, 1) := by decide +kernel
theorem dX12_grace_23 : decode cX12_grace 23 = .ok (.aload_n 0, 1) := by decide +kernel
theorem dX12_grace_24 : decode cX12_grace 24 = .ok (.iload_n 1, 1) := by decide +kernel
theorem dX12_grace_25 : decode cX12_grace 25 = .ok (.putfield 7, 3) := by decide +kernel
theorem dX12_grace_28 : decode cX12_grace 28 = .ok (.iload_n 2, 1) := by decide +kernel
theorem dX12_grace_29 : decode cX12_grace 29 = .ok (.ireturn, 1) := by decide +kernel
theorem dX12_placeHeld_0 : decode cX12_placeHeld 0 = .ok (.iconst 0, 1) := by decide +kernel
theorem dX12_placeHeld_1 : decode cX12_placeHeld 1 = .ok (.istore_n 3, 1) := by decide +kernel
theorem dX12_placeHeld_2 : decode cX12_placeHeld 2 = .ok (.iload_n 3, 1) := by decide +kernel
theorem dX12_placeHeld_3 : decode cX12_placeHeld 3 = .ok (.aload_n 0, 1) := by decide +kernel
theorem dX12_placeHeld_4 : decode cX12_placeHeld 4 = .ok (.getfield 259, 3) := by decide +kernel
theorem dX12_placeHeld_7 : decode cX12_placeHeld 7 = .ok (.if_icmp .ge 31, 3) := by decide +kernel
theorem dX12_placeHeld_10 : decode cX12_placeHeld 10 = .ok (.aload_n 0, 1) := by decide +kernel
theorem dX12_placeHeld_11 : decode cX12_placeHeld 11 = .ok (.getfield 106, 3) := by decide +kernel
theorem dX12_placeHeld_14 : decode cX12_placeHeld 14 = .ok (.iload_n 3, 1) := by decide +kernel
theorem dX12_placeHeld_15 : decode cX12_placeHeld 15 = .ok (.iaload, 1) := by decide +kernel
theorem dX12_placeHeld_16 : decode cX12_placeHeld 16 = .ok (.iload_n 2, 1) := by decide +kernel
theorem dX12_placeHeld_17 : decode cX12_placeHeld 17 = .ok (.if_icmp .ne 15, 3) := by decide +kernel
theorem dX12_placeHeld_20 : decode cX12_placeHeld 20 = .ok (.aload_n 0, 1) := by decide +kernel
theorem dX12_placeHeld_21 : decode cX12_placeHeld 21 = .ok (.getfield 109, 3) := by decide +kernel
theorem dX12_placeHeld_24 : decode cX12_placeHeld 24 = .ok (.iload_n 3, 1) := by decide +kernel
theorem dX12_placeHeld_25 : decode cX12_placeHeld 25 = .ok (.iaload, 1) := by decide +kernel
theorem dX12_placeHeld_26 : decode cX12_placeHeld 26 = .ok (.iload_n 1, 1) := by decide +kernel
theorem dX12_placeHeld_27 : decode cX12_placeHeld 27 = .ok (.if_icmp .ne 5, 3) := by decide +kernel
theorem dX12_placeHeld_30 : decode cX12_placeHeld 30 = .ok (.iload_n 3, 1) := by decide +kernel
theorem dX12_placeHeld_31 : decode cX12_placeHeld 31 = .ok (.ireturn, 1) := by decide +kernel
theorem dX12_placeHeld_32 : decode cX12_placeHeld 32 = .ok (.iinc 3 1, 3) := by decide +kernel
theorem dX12_placeHeld_35 : decode cX12_placeHeld 35 = .ok (.goto (-33), 3) := by decide +kernel
theorem dX12_placeHeld_38 : decode cX12_placeHeld 38 = .ok (.iconst (-1), 1) := by decide +kernel
theorem dX12_placeHeld_39 : decode cX12_placeHeld 39 = .ok (.ireturn, 1) := by decide +kernel
theorem dX12_mayHold_0 : decode cX12_mayHold 0 = .ok (.aload_n 0, 1) := by decide +kernel
theorem dX12_mayHold_1 : decode cX12_mayHold 1 = .ok (.iload_n 1, 1) := by decide +kernel
theorem dX12_mayHold_2 : decode cX12_mayHold 2 = .ok (.iload_n 2, 1) := by decide +kernel
theorem dX12_mayHold_3 : decode cX12_mayHold 3 = .ok (.aload_n 0, 1) := by decide +kernel
theorem dX12_mayHold_4 : decode cX12_mayHold 4 = .ok (.getfield 262, 3) := by decide +kernel
theorem dX12_mayHold_7 : decode cX12_mayHold 7 = .ok (.aload_n 0, 1) := by decide +kernel
theorem dX12_mayHold_8 : decode cX12_mayHold 8 = .ok (.getfield 262, 3) := by decide +kernel
theorem dX12_mayHold_11 : decode cX12_mayHold 11 = .ok (.invokevirtual 365, 3) := by decide +kernel
theorem dX12_mayHold_14 : decode cX12_mayHold 14 = .ok (.iconst 1, 1) := by decide +kernel
theorem dX12_mayHold_15 : decode cX12_mayHold 15 = .ok (.if_icmp .ne 7, 3) := by decide +kernel
theorem dX12_mayHold_18 : decode cX12_mayHold 18 = .ok (.iconst 1, 1) := by decide +kernel
theorem dX12_mayHold_19 : decode cX12_mayHold 19 = .ok (.goto 4, 3) := by decide +kernel
theorem dX12_mayHold_22 : decode cX12_mayHold 22 = .ok (.iconst 0, 1) := by decide +kernel
theorem dX12_mayHold_23 : decode cX12_mayHold 23 = .ok (.ireturn, 1) := by decide +kernel
theorem dX12_comes_0 : decode cX12_comes 0 = .ok (.aload_n 0, 1) := by decide +kernel
theorem dX12_comes_1 : decode cX12_comes 1 = .ok (.getfield 109, 3) := by decide +kernel
theorem dX12_comes_4 : decode cX12_comes 4 = .ok (.iload_n 2, 1) := by decide +kernel
theorem dX12_comes_5 : decode cX12_comes 5 = .ok (.iload_n 1, 1) := by decide +kernel
theorem dX12_comes_6 : decode cX12_comes 6 = .ok (.iastore, 1) := by decide +kernel
theorem dX12_comes_7 : decode cX12_comes 7 = .ok (.aload_n 0, 1) := by decide +kernel
theorem dX12_comes_8 : decode cX12_comes 8 = .ok (.getfield 112, 3) := by decide +kernel
theorem dX12_comes_11 : decode cX12_comes 11 = .ok (.iload_n 2, 1) := by decide +kernel
theorem dX12_comes_12 : decode cX12_comes 12 = .ok (.aload_n 0, 1) := by decide +kernel
theorem dX12_comes_13 : decode cX12_comes 13 = .ok (.getfield 262, 3) := by decide +kernel
theorem dX12_comes_16 : decode cX12_comes 16 = .ok (.iastore, 1) := by decide +kernel
theorem dX12_comes_17 : decode cX12_comes 17 = .ok (.aload_n 0, 1) := by decide +kernel
theorem dX12_comes_18 : decode cX12_comes 18 = .ok (.getfield 115, 3) := by decide +kernel
theorem dX12_comes_21 : decode cX12_comes 21 = .ok (.iload_n 2, 1) := by decide +kernel
theorem dX12_comes_22 : decode cX12_comes 22 = .ok (.iconst (-1), 1) := by decide +kernel
theorem dX12_comes_23 : decode cX12_comes 23 = .ok (.iastore, 1) := by decide +kernel
theorem dX12_comes_24 : decode cX12_comes 24 = .ok (.aload_n 0, 1) := by decide +kernel
theorem dX12_comes_25 : decode cX12_comes 25 = .ok (.getfield 118, 3) := by decide +kernel
theorem dX12_comes_28 : decode cX12_comes 28 = .ok (.iload_n 2, 1) := by decide +kernel
theorem dX12_comes_29 : decode cX12_comes 29 = .ok (.iconst 0, 1) := by decide +kernel
theorem dX12_comes_30 : decode cX12_comes 30 = .ok (.iastore, 1) := by decide +kernel
theorem dX12_comes_31 : decode cX12_comes 31 = .ok (.return_, 1) := by decide +kernel
theorem dX12_ends_0 : decode cX12_ends 0 = .ok (.iload_n 2, 1) := by decide +kernel
theorem dX12_ends_1 : decode cX12_ends 1 = .ok (.ifCond .ne 4, 3) := by decide +kernel
theorem dX12_ends_4 : decode cX12_ends 4 = .ok (.return_, 1) := by decide +kernel
theorem dX12_ends_5 : decode cX12_ends 5 = .ok (.aload_n 0, 1) := by decide +kernel
theorem dX12_ends_6 : decode cX12_ends 6 = .ok (.getfield 109, 3) := by decide +kernel
theorem dX12_ends_9 : decode cX12_ends 9 = .ok (.iload_n 1, 1) := by decide +kernel
theorem dX12_ends_10 : decode cX12_ends 10 = .ok (.iconst (-1), 1) := by decide +kernel
theorem dX12_ends_11 : decode cX12_ends 11 = .ok (.iastore, 1) := by decide +kernel
theorem dX12_ends_12 : decode cX12_ends 12 = .ok (.aload_n 0, 1) := by decide +kernel
theorem dX12_ends_13 : decode cX12_ends 13 = .ok (.getfield 112, 3) := by decide +kernel
theorem dX12_ends_16 : decode cX12_ends 16 = .ok (.iload_n 1, 1) := by decide +kernel
theorem dX12_ends_17 : decode cX12_ends 17 = .ok (.iconst (-1), 1) := by decide +kernel
theorem dX12_ends_18 : decode cX12_ends 18 = .ok (.iastore, 1) := by decide +kernel
theorem dX12_ends_19 : decode cX12_ends 19 = .ok (.aload_n 0, 1) := by decide +kernel
theorem dX12_ends_20 : decode cX12_ends 20 = .ok (.getfield 115, 3) := by decide +kernel
theorem dX12_ends_23 : decode cX12_ends 23 = .ok (.iload_n 1, 1) := by decide +kernel
theorem dX12_ends_24 : decode cX12_ends 24 = .ok (.iconst (-1), 1) := by decide +kernel
theorem dX12_ends_25 : decode cX12_ends 25 = .ok (.iastore, 1) := by decide +kernel
theorem dX12_ends_26 : decode cX12_ends 26 = .ok (.return_, 1) := by decide +kernel
theorem dX12_hold_0 : decode cX12_hold 0 = .ok (.aload_n 0, 1) := by decide +kernel
theorem dX12_hold_1 : decode cX12_hold 1 = .ok (.iload_n 1, 1) := by decide +kernel
theorem dX12_hold_2 : decode cX12_hold 2 = .ok (.invokevirtual 271, 3) := by decide +kernel
theorem dX12_hold_5 : decode cX12_hold 5 = .ok (.ifCond .eq 11, 3) := by decide +kernel
theorem dX12_hold_8 : decode cX12_hold 8 = .ok (.aload_n 0, 1) := by decide +kernel
theorem dX12_hold_9 : decode cX12_hold 9 = .ok (.iload_n 2, 1) := by decide +kernel
theorem dX12_hold_10 : decode cX12_hold 10 = .ok (.invokevirtual 368, 3) := by decide +kernel
theorem dX12_hold_13 : decode cX12_hold 13 = .ok (.ifCond .ne 9, 3) := by decide +kernel
theorem dX12_hold_16 : decode cX12_hold 16 = .ok (.aload_n 0, 1) := by decide +kernel
theorem dX12_hold_17 : decode cX12_hold 17 = .ok (.iconst (-1), 1) := by decide +kernel
theorem dX12_hold_18 : decode cX12_hold 18 = .ok (.invokevirtual 267, 3) := by decide +kernel
theorem dX12_hold_21 : decode cX12_hold 21 = .ok (.ireturn, 1) := by decide +kernel
theorem dX12_hold_22 : decode cX12_hold 22 = .ok (.aload_n 0, 1) := by decide +kernel
theorem dX12_hold_23 : decode cX12_hold 23 = .ok (.getfield 109, 3) := by decide +kernel
theorem dX12_hold_26 : decode cX12_hold 26 = .ok (.iload_n 2, 1) := by decide +kernel
theorem dX12_hold_27 : decode cX12_hold 27 = .ok (.iaload, 1) := by decide +kernel
theorem dX12_hold_28 : decode cX12_hold 28 = .ok (.iconst (-1), 1) := by decide +kernel
theorem dX12_hold_29 : decode cX12_hold 29 = .ok (.if_icmp .ne 32, 3) := by decide +kernel
theorem dX12_hold_32 : decode cX12_hold 32 = .ok (.aload_n 0, 1) := by decide +kernel
theorem dX12_hold_33 : decode cX12_hold 33 = .ok (.iload_n 1, 1) := by decide +kernel
theorem dX12_hold_34 : decode cX12_hold 34 = .ok (.aload_n 0, 1) := by decide +kernel
theorem dX12_hold_35 : decode cX12_hold 35 = .ok (.getfield 106, 3) := by decide +kernel
theorem dX12_hold_38 : decode cX12_hold 38 = .ok (.iload_n 2, 1) := by decide +kernel
theorem dX12_hold_39 : decode cX12_hold 39 = .ok (.iaload, 1) := by decide +kernel
theorem dX12_hold_40 : decode cX12_hold 40 = .ok (.invokevirtual 371, 3) := by decide +kernel
theorem dX12_hold_43 : decode cX12_hold 43 = .ok (.ifCond .eq 18, 3) := by decide +kernel
theorem dX12_hold_46 : decode cX12_hold 46 = .ok (.aload_n 0, 1) := by decide +kernel
theorem dX12_hold_47 : decode cX12_hold 47 = .ok (.iload_n 1, 1) := by decide +kernel
theorem dX12_hold_48 : decode cX12_hold 48 = .ok (.aload_n 0, 1) := by decide +kernel
theorem dX12_hold_49 : decode cX12_hold 49 = .ok (.getfield 106, 3) := by decide +kernel
theorem dX12_hold_52 : decode cX12_hold 52 = .ok (.iload_n 2, 1) := by decide +kernel
theorem dX12_hold_53 : decode cX12_hold 53 = .ok (.iaload, 1) := by decide +kernel
theorem dX12_hold_54 : decode cX12_hold 54 = .ok (.invokevirtual 375, 3) := by decide +kernel
theorem dX12_hold_57 : decode cX12_hold 57 = .ok (.iconst (-1), 1) := by decide +kernel
theorem dX12_hold_58 : decode cX12_hold 58 = .ok (.if_icmp .eq 10, 3) := by decide +kernel
theorem dX12_hold_61 : decode cX12_hold 61 = .ok (.aload_n 0, 1) := by decide +kernel
theorem dX12_hold_62 : decode cX12_hold 62 = .ok (.bipush (-6), 2) := by decide +kernel
theorem dX12_hold_64 : decode cX12_hold 64 = .ok (.invokevirtual 267, 3) := by decide +kernel
theorem dX12_hold_67 : decode cX12_hold 67 = .ok (.ireturn, 1) := by decide +kernel
theorem dX12_hold_68 : decode cX12_hold 68 = .ok (.aload_n 0, 1) := by decide +kernel
theorem dX12_hold_69 : decode cX12_hold 69 = .ok (.iload_n 1, 1) := by decide +kernel
theorem dX12_hold_70 : decode cX12_hold 70 = .ok (.iload_n 2, 1) := by decide +kernel
theorem dX12_hold_71 : decode cX12_hold 71 = .ok (.invokevirtual 378, 3) := by decide +kernel
theorem dX12_hold_74 : decode cX12_hold 74 = .ok (.iconst 1, 1) := by decide +kernel
theorem dX12_hold_75 : decode cX12_hold 75 = .ok (.ireturn, 1) := by decide +kernel
theorem dX12_leave_0 : decode cX12_leave 0 = .ok (.aload_n 0, 1) := by decide +kernel
theorem dX12_leave_1 : decode cX12_leave 1 = .ok (.iload_n 1, 1) := by decide +kernel
theorem dX12_leave_2 : decode cX12_leave 2 = .ok (.invokevirtual 368, 3) := by decide +kernel
theorem dX12_leave_5 : decode cX12_leave 5 = .ok (.ifCond .ne 9, 3) := by decide +kernel
theorem dX12_leave_8 : decode cX12_leave 8 = .ok (.aload_n 0, 1) := by decide +kernel
theorem dX12_leave_9 : decode cX12_leave 9 = .ok (.iconst (-1), 1) := by decide +kernel
theorem dX12_leave_10 : decode cX12_leave 10 = .ok (.invokevirtual 267, 3) := by decide +kernel
theorem dX12_leave_13 : decode cX12_leave 13 = .ok (.ireturn, 1) := by decide +kernel
theorem dX12_leave_14 : decode cX12_leave 14 = .ok (.aload_n 0, 1) := by decide +kernel
theorem dX12_leave_15 : decode cX12_leave 15 = .ok (.getfield 109, 3) := by decide +kernel
theorem dX12_leave_18 : decode cX12_leave 18 = .ok (.iload_n 1, 1) := by decide +kernel
theorem dX12_leave_19 : decode cX12_leave 19 = .ok (.iaload, 1) := by decide +kernel
theorem dX12_leave_20 : decode cX12_leave 20 = .ok (.iconst (-1), 1) := by decide +kernel
theorem dX12_leave_21 : decode cX12_leave 21 = .ok (.if_icmp .ne 10, 3) := by decide +kernel
theorem dX12_leave_24 : decode cX12_leave 24 = .ok (.aload_n 0, 1) := by decide +kernel
theorem dX12_leave_25 : decode cX12_leave 25 = .ok (.bipush (-6), 2) := by decide +kernel
theorem dX12_leave_27 : decode cX12_leave 27 = .ok (.invokevirtual 267, 3) := by decide +kernel
theorem dX12_leave_30 : decode cX12_leave 30 = .ok (.ireturn, 1) := by decide +kernel
theorem dX12_leave_31 : decode cX12_leave 31 = .ok (.aload_n 0, 1) := by decide +kernel
theorem dX12_leave_32 : decode cX12_leave 32 = .ok (.getfield 109, 3) := by decide +kernel
theorem dX12_leave_35 : decode cX12_leave 35 = .ok (.iload_n 1, 1) := by decide +kernel
theorem dX12_leave_36 : decode cX12_leave 36 = .ok (.iaload, 1) := by decide +kernel
theorem dX12_leave_37 : decode cX12_leave 37 = .ok (.istore_n 2, 1) := by decide +kernel
theorem dX12_leave_38 : decode cX12_leave 38 = .ok (.aload_n 0, 1) := by decide +kernel
theorem dX12_leave_39 : decode cX12_leave 39 = .ok (.iload_n 1, 1) := by decide +kernel
theorem dX12_leave_40 : decode cX12_leave 40 = .ok (.iconst 1, 1) := by decide +kernel
theorem dX12_leave_41 : decode cX12_leave 41 = .ok (.invokevirtual 382, 3) := by decide +kernel
theorem dX12_leave_44 : decode cX12_leave 44 = .ok (.iload_n 2, 1) := by decide +kernel
theorem dX12_leave_45 : decode cX12_leave 45 = .ok (.ireturn, 1) := by decide +kernel
theorem dX12_about_0 : decode cX12_about 0 = .ok (.aload_n 0, 1) := by decide +kernel
theorem dX12_about_1 : decode cX12_about 1 = .ok (.iload_n 1, 1) := by decide +kernel
theorem dX12_about_2 : decode cX12_about 2 = .ok (.invokevirtual 368, 3) := by decide +kernel
theorem dX12_about_5 : decode cX12_about 5 = .ok (.ifCond .eq 12, 3) := by decide +kernel
theorem dX12_about_8 : decode cX12_about 8 = .ok (.iload_n 2, 1) := by decide +kernel
theorem dX12_about_9 : decode cX12_about 9 = .ok (.ifCond .lt 8, 3) := by decide +kernel
theorem dX12_about_12 : decode cX12_about 12 = .ok (.iload_n 2, 1) := by decide +kernel
theorem dX12_about_13 : decode cX12_about 13 = .ok (.iconst 3, 1) := by decide +kernel
theorem dX12_about_14 : decode cX12_about 14 = .ok (.if_icmp .le 5, 3) := by decide +kernel
theorem dX12_about_17 : decode cX12_about 17 = .ok (.iconst (-1), 1) := by decide +kernel
theorem dX12_about_18 : decode cX12_about 18 = .ok (.ireturn, 1) := by decide +kernel
theorem dX12_about_19 : decode cX12_about 19 = .ok (.iload_n 2, 1) := by decide +kernel
theorem dX12_about_20 : decode cX12_about 20 = .ok (.ifCond .ne 12, 3) := by decide +kernel
theorem dX12_about_23 : decode cX12_about 23 = .ok (.aload_n 0, 1) := by decide +kernel
theorem dX12_about_24 : decode cX12_about 24 = .ok (.getfield 106, 3) := by decide +kernel
theorem dX12_about_27 : decode cX12_about 27 = .ok (.iload_n 1, 1) := by decide +kernel
theorem dX12_about_28 : decode cX12_about 28 = .ok (.iaload, 1) := by decide +kernel
theorem dX12_about_29 : decode cX12_about 29 = .ok (.goto 37, 3) := by decide +kernel
theorem dX12_about_32 : decode cX12_about 32 = .ok (.iload_n 2, 1) := by decide +kernel
theorem dX12_about_33 : decode cX12_about 33 = .ok (.iconst 1, 1) := by decide +kernel
theorem dX12_about_34 : decode cX12_about 34 = .ok (.if_icmp .ne 12, 3) := by decide +kernel
theorem dX12_about_37 : decode cX12_about 37 = .ok (.aload_n 0, 1) := by decide +kernel
theorem dX12_about_38 : decode cX12_about 38 = .ok (.getfield 109, 3) := by decide +kernel
theorem dX12_about_41 : decode cX12_about 41 = .ok (.iload_n 1, 1) := by decide +kernel
theorem dX12_about_42 : decode cX12_about 42 = .ok (.iaload, 1) := by decide +kernel
theorem dX12_about_43 : decode cX12_about 43 = .ok (.goto 23, 3) := by decide +kernel
theorem dX12_about_46 : decode cX12_about 46 = .ok (.iload_n 2, 1) := by decide +kernel
theorem dX12_about_47 : decode cX12_about 47 = .ok (.iconst 2, 1) := by decide +kernel
theorem dX12_about_48 : decode cX12_about 48 = .ok (.if_icmp .ne 12, 3) := by decide +kernel
theorem dX12_about_51 : decode cX12_about 51 = .ok (.aload_n 0, 1) := by decide +kernel
theorem dX12_about_52 : decode cX12_about 52 = .ok (.getfield 112, 3) := by decide +kernel
theorem dX12_about_55 : decode cX12_about 55 = .ok (.iload_n 1, 1) := by decide +kernel
theorem dX12_about_56 : decode cX12_about 56 = .ok (.iaload, 1) := by decide +kernel
theorem dX12_about_57 : decode cX12_about 57 = .ok (.goto 9, 3) := by decide +kernel
theorem dX12_about_60 : decode cX12_about 60 = .ok (.aload_n 0, 1) := by decide +kernel
theorem dX12_about_61 : decode cX12_about 61 = .ok (.getfield 115, 3) := by decide +kernel
theorem dX12_about_64 : decode cX12_about 64 = .ok (.iload_n 1, 1) := by decide +kernel
theorem dX12_about_65 : decode cX12_about 65 = .ok (.iaload, 1) := by decide +kernel
theorem dX12_about_66 : decode cX12_about 66 = .ok (.ireturn, 1) := by decide +kernel
theorem dX12_days_0 : decode cX12_days 0 = .ok (.iload_n 1, 1) := by decide +kernel
theorem dX12_days_1 : decode cX12_days 1 = .ok (.iconst 1, 1) := by decide +kernel
theorem dX12_days_2 : decode cX12_days 2 = .ok (.if_icmp .lt 22, 3) := by decide +kernel
theorem dX12_days_5 : decode cX12_days 5 = .ok (.iload_n 1, 1) := by decide +kernel
theorem dX12_days_6 : decode cX12_days 6 = .ok (.sipush 4000, 3) := by decide +kernel
theorem dX12_days_9 : decode cX12_days 9 = .ok (.if_icmp .gt 15, 3) := by decide +kernel
theorem dX12_days_12 : decode cX12_days 12 = .ok (.aload_n 0, 1) := by decide +kernel
theorem dX12_days_13 : decode cX12_days 13 = .ok (.getfield 262, 3) := by decide +kernel
theorem dX12_days_16 : decode cX12_days 16 = .ok (.iload_n 1, 1) := by decide +kernel
theorem dX12_days_17 : decode cX12_days 17 = .ok (.iadd, 1) := by decide +kernel
theorem dX12_days_18 : decode cX12_days 18 = .ok (.ldc_w 266, 3) := by decide +kernel
theorem dX12_days_21 : decode cX12_days 21 = .ok (.if_icmp .le 10, 3) := by decide +kernel
theorem dX12_days_24 : decode cX12_days 24 = .ok (.aload_n 0, 1) := by decide +kernel
theorem dX12_days_25 : decode cX12_days 25 = .ok (.bipush (-6), 2) := by decide +kernel
theorem dX12_days_27 : decode cX12_days 27 = .ok (.invokevirtual 267, 3) := by decide +kernel
theorem dX12_days_30 : decode cX12_days 30 = .ok (.ireturn, 1) := by decide +kernel
theorem dX12_days_31 : decode cX12_days 31 = .ok (.aload_n 0, 1) := by decide +kernel
theorem dX12_days_32 : decode cX12_days 32 = .ok (.dup, 1) := by decide +kernel
theorem dX12_days_33 : decode cX12_days 33 = .ok (.getfield 262, 3) := by decide +kernel
theorem dX12_days_36 : decode cX12_days 36 = .ok (.iload_n 1, 1) := by decide +kernel
theorem dX12_days_37 : decode cX12_days 37 = .ok (.iadd, 1) := by decide +kernel
theorem dX12_days_38 : decode cX12_days 38 = .ok (.putfield 262, 3) := by decide +kernel
theorem dX12_days_41 : decode cX12_days 41 = .ok (.iconst 0, 1) := by decide +kernel
theorem dX12_days_42 : decode cX12_days 42 = .ok (.istore_n 2, 1) := by decide +kernel
theorem dX12_days_43 : decode cX12_days 43 = .ok (.iconst 0, 1) := by decide +kernel
theorem dX12_days_44 : decode cX12_days 44 = .ok (.istore_n 3, 1) := by decide +kernel
theorem dX12_days_45 : decode cX12_days 45 = .ok (.iload_n 3, 1) := by decide +kernel
theorem dX12_days_46 : decode cX12_days 46 = .ok (.aload_n 0, 1) := by decide +kernel
theorem dX12_days_47 : decode cX12_days 47 = .ok (.getfield 259, 3) := by decide +kernel
theorem dX12_days_50 : decode cX12_days 50 = .ok (.if_icmp .ge 108, 3) := by decide +kernel
theorem dX12_days_53 : decode cX12_days 53 = .ok (.aload_n 0, 1) := by decide +kernel
theorem dX12_days_54 : decode cX12_days 54 = .ok (.getfield 109, 3) := by decide +kernel
theorem dX12_days_57 : decode cX12_days 57 = .ok (.iload_n 3, 1) := by decide +kernel
theorem dX12_days_58 : decode cX12_days 58 = .ok (.iaload, 1) := by decide +kernel
theorem dX12_days_59 : decode cX12_days 59 = .ok (.iconst (-1), 1) := by decide +kernel
theorem dX12_days_60 : decode cX12_days 60 = .ok (.if_icmp .ne 6, 3) := by decide +kernel
theorem dX12_days_63 : decode cX12_days 63 = .ok (.goto 89, 3) := by decide +kernel
theorem dX12_days_66 : decode cX12_days 66 = .ok (.aload_n 0, 1) := by decide +kernel
theorem dX12_days_67 : decode cX12_days 67 = .ok (.aload_n 0, 1) := by decide +kernel
theorem dX12_days_68 : decode cX12_days 68 = .ok (.getfield 109, 3) := by decide +kernel
theorem dX12_days_71 : decode cX12_days 71 = .ok (.iload_n 3, 1) := by decide +kernel
theorem dX12_days_72 : decode cX12_days 72 = .ok (.iaload, 1) := by decide +kernel
theorem dX12_days_73 : decode cX12_days 73 = .ok (.aload_n 0, 1) := by decide +kernel
theorem dX12_days_74 : decode cX12_days 74 = .ok (.getfield 106, 3) := by decide +kernel
theorem dX12_days_77 : decode cX12_days 77 = .ok (.iload_n 3, 1) := by decide +kernel
theorem dX12_days_78 : decode cX12_days 78 = .ok (.iaload, 1) := by decide +kernel
theorem dX12_days_79 : decode cX12_days 79 = .ok (.invokevirtual 371, 3) := by decide +kernel
theorem dX12_days_82 : decode cX12_days 82 = .ok (.ifCond .eq 13, 3) := by decide +kernel
theorem dX12_days_85 : decode cX12_days 85 = .ok (.aload_n 0, 1) := by decide +kernel
theorem dX12_days_86 : decode cX12_days 86 = .ok (.getfield 115, 3) := by decide +kernel
theorem dX12_days_89 : decode cX12_days 89 = .ok (.iload_n 3, 1) := by decide +kernel
theorem dX12_days_90 : decode cX12_days 90 = .ok (.iconst (-1), 1) := by decide +kernel
theorem dX12_days_91 : decode cX12_days 91 = .ok (.iastore, 1) := by decide +kernel
theorem dX12_days_92 : decode cX12_days 92 = .ok (.goto 23, 3) := by decide +kernel
theorem dX12_days_95 : decode cX12_days 95 = .ok (.aload_n 0, 1) := by decide +kernel
theorem dX12_days_96 : decode cX12_days 96 = .ok (.getfield 115, 3) := by decide +kernel
theorem dX12_days_99 : decode cX12_days 99 = .ok (.iload_n 3, 1) := by decide +kernel
theorem dX12_days_100 : decode cX12_days 100 = .ok (.iaload, 1) := by decide +kernel
theorem dX12_days_101 : decode cX12_days 101 = .ok (.iconst (-1), 1) := by decide +kernel
theorem dX12_days_102 : decode cX12_days 102 = .ok (.if_icmp .ne 13, 3) := by decide +kernel
theorem dX12_days_105 : decode cX12_days 105 = .ok (.aload_n 0, 1) := by decide +kernel
theorem dX12_days_106 : decode cX12_days 106 = .ok (.getfield 115, 3) := by decide +kernel
theorem dX12_days_109 : decode cX12_days 109 = .ok (.iload_n 3, 1) := by decide +kernel
theorem dX12_days_110 : decode cX12_days 110 = .ok (.aload_n 0, 1) := by decide +kernel
theorem dX12_days_111 : decode cX12_days 111 = .ok (.getfield 262, 3) := by decide +kernel
theorem dX12_days_114 : decode cX12_days 114 = .ok (.iastore, 1) := by decide +kernel
theorem dX12_days_115 : decode cX12_days 115 = .ok (.aload_n 0, 1) := by decide +kernel
theorem dX12_days_116 : decode cX12_days 116 = .ok (.getfield 115, 3) := by decide +kernel
theorem dX12_days_119 : decode cX12_days 119 = .ok (.iload_n 3, 1) := by decide +kernel
theorem dX12_days_120 : decode cX12_days 120 = .ok (.iaload, 1) := by decide +kernel
theorem dX12_days_121 : decode cX12_days 121 = .ok (.iconst (-1), 1) := by decide +kernel
theorem dX12_days_122 : decode cX12_days 122 = .ok (.if_icmp .eq 30, 3) := by decide +kernel
theorem dX12_days_125 : decode cX12_days 125 = .ok (.aload_n 0, 1) := by decide +kernel
theorem dX12_days_126 : decode cX12_days 126 = .ok (.getfield 262, 3) := by decide +kernel
theorem dX12_days_129 : decode cX12_days 129 = .ok (.aload_n 0, 1) := by decide +kernel
theorem dX12_days_130 : decode cX12_days 130 = .ok (.getfield 115, 3) := by decide +kernel
theorem dX12_days_133 : decode cX12_days 133 = .ok (.iload_n 3, 1) := by decide +kernel
theorem dX12_days_134 : decode cX12_days 134 = .ok (.iaload, 1) := by decide +kernel
theorem dX12_days_135 : decode cX12_days 135 = .ok (.isub, 1) := by decide +kernel
theorem dX12_days_136 : decode cX12_days 136 = .ok (.aload_n 0, 1) := by decide +kernel
theorem dX12_days_137 : decode cX12_days 137 = .ok (.getfield 7, 3) := by decide +kernel
theorem dX12_days_140 : decode cX12_days 140 = .ok (.if_icmp .lt 12, 3) := by decide +kernel
theorem dX12_days_143 : decode cX12_days 143 = .ok (.aload_n 0, 1) := by decide +kernel
theorem dX12_days_144 : decode cX12_days 144 = .ok (.iload_n 3, 1) := by decide +kernel
theorem dX12_days_145 : decode cX12_days 145 = .ok (.iconst 1, 1) := by decide +kernel
theorem dX12_days_146 : decode cX12_days 146 = .ok (.invokevirtual 382, 3) := by decide +kernel
theorem dX12_days_149 : decode cX12_days 149 = .ok (.iinc 2 1, 3) := by decide +kernel
theorem dX12_days_152 : decode cX12_days 152 = .ok (.iinc 3 1, 3) := by decide +kernel
theorem dX12_days_155 : decode cX12_days 155 = .ok (.goto (-110), 3) := by decide +kernel
theorem dX12_days_158 : decode cX12_days 158 = .ok (.iconst 0, 1) := by decide +kernel
theorem dX12_days_159 : decode cX12_days 159 = .ok (.istore_n 3, 1) := by decide +kernel
theorem dX12_days_160 : decode cX12_days 160 = .ok (.iload_n 3, 1) := by decide +kernel
theorem dX12_days_161 : decode cX12_days 161 = .ok (.aload_n 0, 1) := by decide +kernel
theorem dX12_days_162 : decode cX12_days 162 = .ok (.getfield 259, 3) := by decide +kernel
theorem dX12_days_165 : decode cX12_days 165 = .ok (.if_icmp .ge 79, 3) := by decide +kernel
theorem dX12_days_168 : decode cX12_days 168 = .ok (.aload_n 0, 1) := by decide +kernel
theorem dX12_days_169 : decode cX12_days 169 = .ok (.getfield 106, 3) := by decide +kernel
theorem dX12_days_172 : decode cX12_days 172 = .ok (.iload_n 3, 1) := by decide +kernel
theorem dX12_days_173 : decode cX12_days 173 = .ok (.iaload, 1) := by decide +kernel
theorem dX12_days_174 : decode cX12_days 174 = .ok (.iconst 1, 1) := by decide +kernel
theorem dX12_days_175 : decode cX12_days 175 = .ok (.if_icmp .ne 63, 3) := by decide +kernel
theorem dX12_days_178 : decode cX12_days 178 = .ok (.aload_n 0, 1) := by decide +kernel
theorem dX12_days_179 : decode cX12_days 179 = .ok (.getfield 109, 3) := by decide +kernel
theorem dX12_days_182 : decode cX12_days 182 = .ok (.iload_n 3, 1) := by decide +kernel
theorem dX12_days_183 : decode cX12_days 183 = .ok (.iaload, 1) := by decide +kernel
theorem dX12_days_184 : decode cX12_days 184 = .ok (.iconst (-1), 1) := by decide +kernel
theorem dX12_days_185 : decode cX12_days 185 = .ok (.if_icmp .ne 6, 3) := by decide +kernel
theorem dX12_days_188 : decode cX12_days 188 = .ok (.goto 50, 3) := by decide +kernel
theorem dX12_days_191 : decode cX12_days 191 = .ok (.aload_n 0, 1) := by decide +kernel
theorem dX12_days_192 : decode cX12_days 192 = .ok (.aload_n 0, 1) := by decide +kernel
theorem dX12_days_193 : decode cX12_days 193 = .ok (.getfield 109, 3) := by decide +kernel
theorem dX12_days_196 : decode cX12_days 196 = .ok (.iload_n 3, 1) := by decide +kernel
theorem dX12_days_197 : decode cX12_days 197 = .ok (.iaload, 1) := by decide +kernel
theorem dX12_days_198 : decode cX12_days 198 = .ok (.iconst 3, 1) := by decide +kernel
theorem dX12_days_199 : decode cX12_days 199 = .ok (.invokevirtual 375, 3) := by decide +kernel
theorem dX12_days_202 : decode cX12_days 202 = .ok (.istore 4, 2) := by decide +kernel
theorem dX12_days_204 : decode cX12_days 204 = .ok (.iload 4, 2) := by decide +kernel
theorem dX12_days_206 : decode cX12_days 206 = .ok (.iconst (-1), 1) := by decide +kernel
theorem dX12_days_207 : decode cX12_days 207 = .ok (.if_icmp .eq 31, 3) := by decide +kernel
theorem dX12_days_210 : decode cX12_days 210 = .ok (.aload_n 0, 1) := by decide +kernel
theorem dX12_days_211 : decode cX12_days 211 = .ok (.getfield 262, 3) := by decide +kernel
theorem dX12_days_214 : decode cX12_days 214 = .ok (.aload_n 0, 1) := by decide +kernel
theorem dX12_days_215 : decode cX12_days 215 = .ok (.getfield 112, 3) := by decide +kernel
theorem dX12_days_218 : decode cX12_days 218 = .ok (.iload 4, 2) := by decide +kernel
theorem dX12_days_220 : decode cX12_days 220 = .ok (.iaload, 1) := by decide +kernel
theorem dX12_days_221 : decode cX12_days 221 = .ok (.isub, 1) := by decide +kernel
theorem dX12_days_222 : decode cX12_days 222 = .ok (.aload_n 0, 1) := by decide +kernel
theorem dX12_days_223 : decode cX12_days 223 = .ok (.getfield 7, 3) := by decide +kernel
theorem dX12_days_226 : decode cX12_days 226 = .ok (.if_icmp .lt 12, 3) := by decide +kernel
theorem dX12_days_229 : decode cX12_days 229 = .ok (.aload_n 0, 1) := by decide +kernel
theorem dX12_days_230 : decode cX12_days 230 = .ok (.iload_n 3, 1) := by decide +kernel
theorem dX12_days_231 : decode cX12_days 231 = .ok (.iconst 1, 1) := by decide +kernel
theorem dX12_days_232 : decode cX12_days 232 = .ok (.invokevirtual 382, 3) := by decide +kernel
theorem dX12_days_235 : decode cX12_days 235 = .ok (.iinc 2 1, 3) := by decide +kernel
theorem dX12_days_238 : decode cX12_days 238 = .ok (.iinc 3 1, 3) := by decide +kernel
theorem dX12_days_241 : decode cX12_days 241 = .ok (.goto (-81), 3) := by decide +kernel
theorem dX12_days_244 : decode cX12_days 244 = .ok (.iload_n 2, 1) := by decide +kernel
theorem dX12_days_245 : decode cX12_days 245 = .ok (.ireturn, 1) := by decide +kernel
theorem dX12_ballot_0 : decode cX12_ballot 0 = .ok (.aload_n 0, 1) := by decide +kernel
theorem dX12_ballot_1 : decode cX12_ballot 1 = .ok (.iload_n 1, 1) := by decide +kernel
theorem dX12_ballot_2 : decode cX12_ballot 2 = .ok (.invokevirtual 271, 3) := by decide +kernel
theorem dX12_ballot_5 : decode cX12_ballot 5 = .ok (.ifCond .ne 9, 3) := by decide +kernel
theorem dX12_ballot_8 : decode cX12_ballot 8 = .ok (.aload_n 0, 1) := by decide +kernel
theorem dX12_ballot_9 : decode cX12_ballot 9 = .ok (.iconst (-1), 1) := by decide +kernel
theorem dX12_ballot_10 : decode cX12_ballot 10 = .ok (.invokevirtual 267, 3) := by decide +kernel
theorem dX12_ballot_13 : decode cX12_ballot 13 = .ok (.ireturn, 1) := by decide +kernel
theorem dX12_ballot_14 : decode cX12_ballot 14 = .ok (.aload_n 0, 1) := by decide +kernel
theorem dX12_ballot_15 : decode cX12_ballot 15 = .ok (.iload_n 2, 1) := by decide +kernel
theorem dX12_ballot_16 : decode cX12_ballot 16 = .ok (.invokevirtual 300, 3) := by decide +kernel
theorem dX12_ballot_19 : decode cX12_ballot 19 = .ok (.istore_n 3, 1) := by decide +kernel
theorem dX12_ballot_20 : decode cX12_ballot 20 = .ok (.iload_n 3, 1) := by decide +kernel
theorem dX12_ballot_21 : decode cX12_ballot 21 = .ok (.ifCond .eq 9, 3) := by decide +kernel
theorem dX12_ballot_24 : decode cX12_ballot 24 = .ok (.aload_n 0, 1) := by decide +kernel
theorem dX12_ballot_25 : decode cX12_ballot 25 = .ok (.iload_n 3, 1) := by decide +kernel
theorem dX12_ballot_26 : decode cX12_ballot 26 = .ok (.invokevirtual 267, 3) := by decide +kernel
theorem dX12_ballot_29 : decode cX12_ballot 29 = .ok (.ireturn, 1) := by decide +kernel
theorem dX12_ballot_30 : decode cX12_ballot 30 = .ok (.aload_n 0, 1) := by decide +kernel
theorem dX12_ballot_31 : decode cX12_ballot 31 = .ok (.getfield 124, 3) := by decide +kernel
theorem dX12_ballot_34 : decode cX12_ballot 34 = .ok (.iload_n 1, 1) := by decide +kernel
theorem dX12_ballot_35 : decode cX12_ballot 35 = .ok (.aload_n 0, 1) := by decide +kernel
theorem dX12_ballot_36 : decode cX12_ballot 36 = .ok (.getfield 57, 3) := by decide +kernel
theorem dX12_ballot_39 : decode cX12_ballot 39 = .ok (.iload_n 2, 1) := by decide +kernel
theorem dX12_ballot_40 : decode cX12_ballot 40 = .ok (.iaload, 1) := by decide +kernel
theorem dX12_ballot_41 : decode cX12_ballot 41 = .ok (.iastore, 1) := by decide +kernel
theorem dX12_ballot_42 : decode cX12_ballot 42 = .ok (.iconst 0, 1) := by decide +kernel
theorem dX12_ballot_43 : decode cX12_ballot 43 = .ok (.istore 4, 2) := by decide +kernel
theorem dX12_ballot_45 : decode cX12_ballot 45 = .ok (.iload 4, 2) := by decide +kernel
theorem dX12_ballot_47 : decode cX12_ballot 47 = .ok (.aload_n 0, 1) := by decide +kernel
theorem dX12_ballot_48 : decode cX12_ballot 48 = .ok (.getfield 57, 3) := by decide +kernel
theorem dX12_ballot_51 : decode cX12_ballot 51 = .ok (.iload_n 2, 1) := by decide +kernel
theorem dX12_ballot_52 : decode cX12_ballot 52 = .ok (.iaload, 1) := by decide +kernel
theorem dX12_ballot_53 : decode cX12_ballot 53 = .ok (.if_icmp .ge 34, 3) := by decide +kernel
theorem dX12_ballot_56 : decode cX12_ballot 56 = .ok (.aload_n 0, 1) := by decide +kernel
theorem dX12_ballot_57 : decode cX12_ballot 57 = .ok (.getfield 121, 3) := by decide +kernel
theorem dX12_ballot_60 : decode cX12_ballot 60 = .ok (.bipush 80, 2) := by decide +kernel
theorem dX12_ballot_62 : decode cX12_ballot 62 = .ok (.iload_n 1, 1) := by decide +kernel
theorem dX12_ballot_63 : decode cX12_ballot 63 = .ok (.imul, 1) := by decide +kernel
theorem dX12_ballot_64 : decode cX12_ballot 64 = .ok (.iload 4, 2) := by decide +kernel
theorem dX12_ballot_66 : decode cX12_ballot 66 = .ok (.iadd, 1) := by decide +kernel
theorem dX12_ballot_67 : decode cX12_ballot 67 = .ok (.aload_n 0, 1) := by decide +kernel
theorem dX12_ballot_68 : decode cX12_ballot 68 = .ok (.getfield 63, 3) := by decide +kernel
theorem dX12_ballot_71 : decode cX12_ballot 71 = .ok (.bipush 80, 2) := by decide +kernel
theorem dX12_ballot_73 : decode cX12_ballot 73 = .ok (.iload_n 2, 1) := by decide +kernel
theorem dX12_ballot_74 : decode cX12_ballot 74 = .ok (.imul, 1) := by decide +kernel
theorem dX12_ballot_75 : decode cX12_ballot 75 = .ok (.iload 4, 2) := by decide +kernel
theorem dX12_ballot_77 : decode cX12_ballot 77 = .ok (.iadd, 1) := by decide +kernel
theorem dX12_ballot_78 : decode cX12_ballot 78 = .ok (.laload, 1) := by decide +kernel
theorem dX12_ballot_79 : decode cX12_ballot 79 = .ok (.l2i, 1) := by decide +kernel
theorem dX12_ballot_80 : decode cX12_ballot 80 = .ok (.iastore, 1) := by decide +kernel
theorem dX12_ballot_81 : decode cX12_ballot 81 = .ok (.iinc 4 1, 3) := by decide +kernel
theorem dX12_ballot_84 : decode cX12_ballot 84 = .ok (.goto (-39), 3) := by decide +kernel
theorem dX12_ballot_87 : decode cX12_ballot 87 = .ok (.aload_n 0, 1) := by decide +kernel
theorem dX12_ballot_88 : decode cX12_ballot 88 = .ok (.getfield 57, 3) := by decide +kernel
theorem dX12_ballot_91 : decode cX12_ballot 91 = .ok (.iload_n 2, 1) := by decide +kernel
theorem dX12_ballot_92 : decode cX12_ballot 92 = .ok (.iaload, 1) := by decide +kernel
theorem dX12_ballot_93 : decode cX12_ballot 93 = .ok (.ireturn, 1) := by decide +kernel
theorem dX12_keeps_0 : decode cX12_keeps 0 = .ok (.aload_n 0, 1) := by decide +kernel
theorem dX12_keeps_1 : decode cX12_keeps 1 = .ok (.getfield 226, 3) := by decide +kernel
theorem dX12_keeps_4 : decode cX12_keeps 4 = .ok (.iload_n 1, 1) := by decide +kernel
theorem dX12_keeps_5 : decode cX12_keeps 5 = .ok (.iload_n 2, 1) := by decide +kernel
theorem dX12_keeps_6 : decode cX12_keeps 6 = .ok (.iconst (-1), 1) := by decide +kernel
theorem dX12_keeps_7 : decode cX12_keeps 7 = .ok (.if_icmp .eq 12, 3) := by decide +kernel
theorem dX12_keeps_10 : decode cX12_keeps 10 = .ok (.aload_n 0, 1) := by decide +kernel
theorem dX12_keeps_11 : decode cX12_keeps 11 = .ok (.getfield 124, 3) := by decide +kernel
theorem dX12_keeps_14 : decode cX12_keeps 14 = .ok (.iload_n 2, 1) := by decide +kernel
theorem dX12_keeps_15 : decode cX12_keeps 15 = .ok (.iaload, 1) := by decide +kernel
theorem dX12_keeps_16 : decode cX12_keeps 16 = .ok (.ifCond .ge 7, 3) := by decide +kernel
theorem dX12_keeps_19 : decode cX12_keeps 19 = .ok (.iconst 0, 1) := by decide +kernel
theorem dX12_keeps_20 : decode cX12_keeps 20 = .ok (.goto 9, 3) := by decide +kernel
theorem dX12_keeps_23 : decode cX12_keeps 23 = .ok (.aload_n 0, 1) := by decide +kernel
theorem dX12_keeps_24 : decode cX12_keeps 24 = .ok (.getfield 124, 3) := by decide +kernel
theorem dX12_keeps_27 : decode cX12_keeps 27 = .ok (.iload_n 2, 1) := by decide +kernel
theorem dX12_keeps_28 : decode cX12_keeps 28 = .ok (.iaload, 1) := by decide +kernel
theorem dX12_keeps_29 : decode cX12_keeps 29 = .ok (.iastore, 1) := by decide +kernel
theorem dX12_keeps_30 : decode cX12_keeps 30 = .ok (.iconst 0, 1) := by decide +kernel
theorem dX12_keeps_31 : decode cX12_keeps 31 = .ok (.istore_n 3, 1) := by decide +kernel
theorem dX12_keeps_32 : decode cX12_keeps 32 = .ok (.iload_n 3, 1) := by decide +kernel
theorem dX12_keeps_33 : decode cX12_keeps 33 = .ok (.aload_n 0, 1) := by decide +kernel
theorem dX12_keeps_34 : decode cX12_keeps 34 = .ok (.getfield 226, 3) := by decide +kernel
theorem dX12_keeps_37 : decode cX12_keeps 37 = .ok (.iload_n 1, 1) := by decide +kernel
theorem dX12_keeps_38 : decode cX12_keeps 38 = .ok (.iaload, 1) := by decide +kernel
theorem dX12_keeps_39 : decode cX12_keeps 39 = .ok (.if_icmp .ge 31, 3) := by decide +kernel
theorem dX12_keeps_42 : decode cX12_keeps 42 = .ok (.aload_n 0, 1) := by decide +kernel
theorem dX12_keeps_43 : decode cX12_keeps 43 = .ok (.getfield 223, 3) := by decide +kernel
theorem dX12_keeps_46 : decode cX12_keeps 46 = .ok (.bipush 80, 2) := by decide +kernel
theorem dX12_keeps_48 : decode cX12_keeps 48 = .ok (.iload_n 1, 1) := by decide +kernel
theorem dX12_keeps_49 : decode cX12_keeps 49 = .ok (.imul, 1) := by decide +kernel
theorem dX12_keeps_50 : decode cX12_keeps 50 = .ok (.iload_n 3, 1) := by decide +kernel
theorem dX12_keeps_51 : decode cX12_keeps 51 = .ok (.iadd, 1) := by decide +kernel
theorem dX12_keeps_52 : decode cX12_keeps 52 = .ok (.aload_n 0, 1) := by decide +kernel
theorem dX12_keeps_53 : decode cX12_keeps 53 = .ok (.getfield 121, 3) := by decide +kernel
theorem dX12_keeps_56 : decode cX12_keeps 56 = .ok (.bipush 80, 2) := by decide +kernel
theorem dX12_keeps_58 : decode cX12_keeps 58 = .ok (.iload_n 2, 1) := by decide +kernel
theorem dX12_keeps_59 : decode cX12_keeps 59 = .ok (.imul, 1) := by decide +kernel
theorem dX12_keeps_60 : decode cX12_keeps 60 = .ok (.iload_n 3, 1) := by decide +kernel
theorem dX12_keeps_61 : decode cX12_keeps 61 = .ok (.iadd, 1) := by decide +kernel
theorem dX12_keeps_62 : decode cX12_keeps 62 = .ok (.iaload, 1) := by decide +kernel
theorem dX12_keeps_63 : decode cX12_keeps 63 = .ok (.iastore, 1) := by decide +kernel
theorem dX12_keeps_64 : decode cX12_keeps 64 = .ok (.iinc 3 1, 3) := by decide +kernel
theorem dX12_keeps_67 : decode cX12_keeps 67 = .ok (.goto (-35), 3) := by decide +kernel
theorem dX12_keeps_70 : decode cX12_keeps 70 = .ok (.return_, 1) := by decide +kernel
theorem dX12_choice_0 : decode cX12_choice 0 = .ok (.iconst 0, 1) := by decide +kernel
theorem dX12_choice_1 : decode cX12_choice 1 = .ok (.istore_n 3, 1) := by decide +kernel
theorem dX12_choice_2 : decode cX12_choice 2 = .ok (.iload_n 3, 1) := by decide +kernel
theorem dX12_choice_3 : decode cX12_choice 3 = .ok (.aload_n 0, 1) := by decide +kernel
theorem dX12_choice_4 : decode cX12_choice 4 = .ok (.getfield 226, 3) := by decide +kernel
theorem dX12_choice_7 : decode cX12_choice 7 = .ok (.iload_n 1, 1) := by decide +kernel
theorem dX12_choice_8 : decode cX12_choice 8 = .ok (.iaload, 1) := by decide +kernel
theorem dX12_choice_9 : decode cX12_choice 9 = .ok (.if_icmp .ge 44, 3) := by decide +kernel
theorem dX12_choice_12 : decode cX12_choice 12 = .ok (.aload_n 0, 1) := by decide +kernel
theorem dX12_choice_13 : decode cX12_choice 13 = .ok (.getfield 223, 3) := by decide +kernel
theorem dX12_choice_16 : decode cX12_choice 16 = .ok (.bipush 80, 2) := by decide +kernel
theorem dX12_choice_18 : decode cX12_choice 18 = .ok (.iload_n 1, 1) := by decide +kernel
theorem dX12_choice_19 : decode cX12_choice 19 = .ok (.imul, 1) := by decide +kernel
theorem dX12_choice_20 : decode cX12_choice 20 = .ok (.iload_n 3, 1) := by decide +kernel
theorem dX12_choice_21 : decode cX12_choice 21 = .ok (.iadd, 1) := by decide +kernel
theorem dX12_choice_22 : decode cX12_choice 22 = .ok (.iaload, 1) := by decide +kernel
theorem dX12_choice_23 : decode cX12_choice 23 = .ok (.istore 4, 2) := by decide +kernel
theorem dX12_choice_25 : decode cX12_choice 25 = .ok (.aload_n 0, 1) := by decide +kernel
theorem dX12_choice_26 : decode cX12_choice 26 = .ok (.iload 4, 2) := by decide +kernel
theorem dX12_choice_28 : decode cX12_choice 28 = .ok (.invokevirtual 271, 3) := by decide +kernel
theorem dX12_choice_31 : decode cX12_choice 31 = .ok (.ifCond .eq 16, 3) := by decide +kernel
theorem dX12_choice_34 : decode cX12_choice 34 = .ok (.iload_n 2, 1) := by decide +kernel
theorem dX12_choice_35 : decode cX12_choice 35 = .ok (.iload 4, 2) := by decide +kernel
theorem dX12_choice_37 : decode cX12_choice 37 = .ok (.ishr, 1) := by decide +kernel
theorem dX12_choice_38 : decode cX12_choice 38 = .ok (.iconst 1, 1) := by decide +kernel
theorem dX12_choice_39 : decode cX12_choice 39 = .ok (.iand, 1) := by decide +kernel
theorem dX12_choice_40 : decode cX12_choice 40 = .ok (.iconst 1, 1) := by decide +kernel
theorem dX12_choice_41 : decode cX12_choice 41 = .ok (.if_icmp .ne 6, 3) := by decide +kernel
theorem dX12_choice_44 : decode cX12_choice 44 = .ok (.iload 4, 2) := by decide +kernel
theorem dX12_choice_46 : decode cX12_choice 46 = .ok (.ireturn, 1) := by decide +kernel
theorem dX12_choice_47 : decode cX12_choice 47 = .ok (.iinc 3 1, 3) := by decide +kernel
theorem dX12_choice_50 : decode cX12_choice 50 = .ok (.goto (-48), 3) := by decide +kernel
theorem dX12_choice_53 : decode cX12_choice 53 = .ok (.iconst (-1), 1) := by decide +kernel
theorem dX12_choice_54 : decode cX12_choice 54 = .ok (.ireturn, 1) := by decide +kernel
theorem dX12_elects_0 : decode cX12_elects 0 = .ok (.iload_n 1, 1) := by decide +kernel
theorem dX12_elects_1 : decode cX12_elects 1 = .ok (.istore_n 3, 1) := by decide +kernel
theorem dX12_elects_2 : decode cX12_elects 2 = .ok (.iconst 0, 1) := by decide +kernel
theorem dX12_elects_3 : decode cX12_elects 3 = .ok (.istore 4, 2) := by decide +kernel
theorem dX12_elects_5 : decode cX12_elects 5 = .ok (.iconst 0, 1) := by decide +kernel
theorem dX12_elects_6 : decode cX12_elects 6 = .ok (.istore 5, 2) := by decide +kernel
theorem dX12_elects_8 : decode cX12_elects 8 = .ok (.iconst 0, 1) := by decide +kernel
theorem dX12_elects_9 : decode cX12_elects 9 = .ok (.istore 6, 2) := by decide +kernel
theorem dX12_elects_11 : decode cX12_elects 11 = .ok (.iconst 0, 1) := by decide +kernel
theorem dX12_elects_12 : decode cX12_elects 12 = .ok (.istore 7, 2) := by decide +kernel
theorem dX12_elects_14 : decode cX12_elects 14 = .ok (.iload 7, 2) := by decide +kernel
theorem dX12_elects_16 : decode cX12_elects 16 = .ok (.aload_n 0, 1) := by decide +kernel
theorem dX12_elects_17 : decode cX12_elects 17 = .ok (.getfield 256, 3) := by decide +kernel
theorem dX12_elects_20 : decode cX12_elects 20 = .ok (.if_icmp .ge 28, 3) := by decide +kernel
theorem dX12_elects_23 : decode cX12_elects 23 = .ok (.aload_n 0, 1) := by decide +kernel
theorem dX12_elects_24 : decode cX12_elects 24 = .ok (.getfield 235, 3) := by decide +kernel
theorem dX12_elects_27 : decode cX12_elects 27 = .ok (.iload 7, 2) := by decide +kernel
theorem dX12_elects_29 : decode cX12_elects 29 = .ok (.iconst 0, 1) := by decide +kernel
theorem dX12_elects_30 : decode cX12_elects 30 = .ok (.iastore, 1) := by decide +kernel
theorem dX12_elects_31 : decode cX12_elects 31 = .ok (.iload 5, 2) := by decide +kernel
theorem dX12_elects_33 : decode cX12_elects 33 = .ok (.iload_n 3, 1) := by decide +kernel
theorem dX12_elects_34 : decode cX12_elects 34 = .ok (.iload 7, 2) := by decide +kernel
theorem dX12_elects_36 : decode cX12_elects 36 = .ok (.ishr, 1) := by decide +kernel
theorem dX12_elects_37 : decode cX12_elects 37 = .ok (.iconst 1, 1) := by decide +kernel
theorem dX12_elects_38 : decode cX12_elects 38 = .ok (.iand, 1) := by decide +kernel
theorem dX12_elects_39 : decode cX12_elects 39 = .ok (.iadd, 1) := by decide +kernel
theorem dX12_elects_40 : decode cX12_elects 40 = .ok (.istore 5, 2) := by decide +kernel
theorem dX12_elects_42 : decode cX12_elects 42 = .ok (.iinc 7 1, 3) := by decide +kernel
theorem dX12_elects_45 : decode cX12_elects 45 = .ok (.goto (-31), 3) := by decide +kernel
theorem dX12_elects_48 : decode cX12_elects 48 = .ok (.iconst 0, 1) := by decide +kernel
theorem dX12_elects_49 : decode cX12_elects 49 = .ok (.istore 7, 2) := by decide +kernel
theorem dX12_elects_51 : decode cX12_elects 51 = .ok (.iload 7, 2) := by decide +kernel
theorem dX12_elects_53 : decode cX12_elects 53 = .ok (.aload_n 0, 1) := by decide +kernel
theorem dX12_elects_54 : decode cX12_elects 54 = .ok (.getfield 386, 3) := by decide +kernel
theorem dX12_elects_57 : decode cX12_elects 57 = .ok (.if_icmp .ge 41, 3) := by decide +kernel
theorem dX12_elects_60 : decode cX12_elects 60 = .ok (.aload_n 0, 1) := by decide +kernel
theorem dX12_elects_61 : decode cX12_elects 61 = .ok (.iload 7, 2) := by decide +kernel
theorem dX12_elects_63 : decode cX12_elects 63 = .ok (.iload_n 3, 1) := by decide +kernel
theorem dX12_elects_64 : decode cX12_elects 64 = .ok (.invokevirtual 389, 3) := by decide +kernel
theorem dX12_elects_67 : decode cX12_elects 67 = .ok (.istore 8, 2) := by decide +kernel
theorem dX12_elects_69 : decode cX12_elects 69 = .ok (.iload 8, 2) := by decide +kernel
theorem dX12_elects_71 : decode cX12_elects 71 = .ok (.iconst (-1), 1) := by decide +kernel
theorem dX12_elects_72 : decode cX12_elects 72 = .ok (.if_icmp .ne 6, 3) := by decide +kernel
theorem dX12_elects_75 : decode cX12_elects 75 = .ok (.goto 17, 3) := by decide +kernel
theorem dX12_elects_78 : decode cX12_elects 78 = .ok (.aload_n 0, 1) := by decide +kernel
theorem dX12_elects_79 : decode cX12_elects 79 = .ok (.getfield 235, 3) := by decide +kernel
theorem dX12_elects_82 : decode cX12_elects 82 = .ok (.iload 8, 2) := by decide +kernel
theorem dX12_elects_84 : decode cX12_elects 84 = .ok (.dup2, 1) := by decide +kernel
theorem dX12_elects_85 : decode cX12_elects 85 = .ok (.iaload, 1) := by decide +kernel
theorem dX12_elects_86 : decode cX12_elects 86 = .ok (.iconst 1, 1) := by decide +kernel
theorem dX12_elects_87 : decode cX12_elects 87 = .ok (.iadd, 1) := by decide +kernel
theorem dX12_elects_88 : decode cX12_elects 88 = .ok (.iastore, 1) := by decide +kernel
theorem dX12_elects_89 : decode cX12_elects 89 = .ok (.iinc 6 1, 3) := by decide +kernel
theorem dX12_elects_92 : decode cX12_elects 92 = .ok (.iinc 7 1, 3) := by decide +kernel
theorem dX12_elects_95 : decode cX12_elects 95 = .ok (.goto (-44), 3) := by decide +kernel
theorem dX12_elects_98 : decode cX12_elects 98 = .ok (.iload_n 2, 1) := by decide +kernel
theorem dX12_elects_99 : decode cX12_elects 99 = .ok (.ifCond .eq 57, 3) := by decide +kernel
theorem dX12_elects_102 : decode cX12_elects 102 = .ok (.aload_n 0, 1) := by decide +kernel
theorem dX12_elects_103 : decode cX12_elects 103 = .ok (.getfield 232, 3) := by decide +kernel
theorem dX12_elects_106 : decode cX12_elects 106 = .ok (.iload 4, 2) := by decide +kernel
theorem dX12_elects_108 : decode cX12_elects 108 = .ok (.iload_n 3, 1) := by decide +kernel
theorem dX12_elects_109 : decode cX12_elects 109 = .ok (.iastore, 1) := by decide +kernel
theorem dX12_elects_110 : decode cX12_elects 110 = .ok (.iconst 0, 1) := by decide +kernel
theorem dX12_elects_111 : decode cX12_elects 111 = .ok (.istore 7, 2) := by decide +kernel
theorem dX12_elects_113 : decode cX12_elects 113 = .ok (.iload 7, 2) := by decide +kernel
theorem dX12_elects_115 : decode cX12_elects 115 = .ok (.aload_n 0, 1) := by decide +kernel
theorem dX12_elects_116 : decode cX12_elects 116 = .ok (.getfield 256, 3) := by decide +kernel
theorem dX12_elects_119 : decode cX12_elects 119 = .ok (.if_icmp .ge 29, 3) := by decide +kernel
theorem dX12_elects_122 : decode cX12_elects 122 = .ok (.aload_n 0, 1) := by decide +kernel
theorem dX12_elects_123 : decode cX12_elects 123 = .ok (.getfield 229, 3) := by decide +kernel
theorem dX12_elects_126 : decode cX12_elects 126 = .ok (.bipush 24, 2) := by decide +kernel
theorem dX12_elects_128 : decode cX12_elects 128 = .ok (.iload 4, 2) := by decide +kernel
theorem dX12_elects_130 : decode cX12_elects 130 = .ok (.imul, 1) := by decide +kernel
theorem dX12_elects_131 : decode cX12_elects 131 = .ok (.iload 7, 2) := by decide +kernel
theorem dX12_elects_133 : decode cX12_elects 133 = .ok (.iadd, 1) := by decide +kernel
theorem dX12_elects_134 : decode cX12_elects 134 = .ok (.aload_n 0, 1) := by decide +kernel
theorem dX12_elects_135 : decode cX12_elects 135 = .ok (.getfield 235, 3) := by decide +kernel
theorem dX12_elects_138 : decode cX12_elects 138 = .ok (.iload 7, 2) := by decide +kernel
theorem dX12_elects_140 : decode cX12_elects 140 = .ok (.iaload, 1) := by decide +kernel
theorem dX12_elects_141 : decode cX12_elects 141 = .ok (.iastore, 1) := by decide +kernel
theorem dX12_elects_142 : decode cX12_elects 142 = .ok (.iinc 7 1, 3) := by decide +kernel
theorem dX12_elects_145 : decode cX12_elects 145 = .ok (.goto (-32), 3) := by decide +kernel
theorem dX12_elects_148 : decode cX12_elects 148 = .ok (.aload_n 0, 1) := by decide +kernel
theorem dX12_elects_149 : decode cX12_elects 149 = .ok (.iload 4, 2) := by decide +kernel
theorem dX12_elects_151 : decode cX12_elects 151 = .ok (.iconst 1, 1) := by decide +kernel
theorem dX12_elects_152 : decode cX12_elects 152 = .ok (.iadd, 1) := by decide +kernel
theorem dX12_elects_153 : decode cX12_elects 153 = .ok (.putfield 392, 3) := by decide +kernel
theorem dX12_elects_156 : decode cX12_elects 156 = .ok (.iconst (-1), 1) := by decide +kernel
theorem dX12_elects_157 : decode cX12_elects 157 = .ok (.istore 7, 2) := by decide +kernel
theorem dX12_elects_159 : decode cX12_elects 159 = .ok (.iconst (-1), 1) := by decide +kernel
theorem dX12_elects_160 : decode cX12_elects 160 = .ok (.istore 8, 2) := by decide +kernel
theorem dX12_elects_162 : decode cX12_elects 162 = .ok (.iconst 0, 1) := by decide +kernel
theorem dX12_elects_163 : decode cX12_elects 163 = .ok (.istore 9, 2) := by decide +kernel
theorem dX12_elects_165 : decode cX12_elects 165 = .ok (.iload 9, 2) := by decide +kernel
theorem dX12_elects_167 : decode cX12_elects 167 = .ok (.aload_n 0, 1) := by decide +kernel
theorem dX12_elects_168 : decode cX12_elects 168 = .ok (.getfield 256, 3) := by decide +kernel
theorem dX12_elects_171 : decode cX12_elects 171 = .ok (.if_icmp .ge 132, 3) := by decide +kernel
theorem dX12_elects_174 : decode cX12_elects 174 = .ok (.iload_n 3, 1) := by decide +kernel
theorem dX12_elects_175 : decode cX12_elects 175 = .ok (.iload 9, 2) := by decide +kernel
theorem dX12_elects_177 : decode cX12_elects 177 = .ok (.ishr, 1) := by decide +kernel
theorem dX12_elects_178 : decode cX12_elects 178 = .ok (.iconst 1, 1) := by decide +kernel
theorem dX12_elects_179 : decode cX12_elects 179 = .ok (.iand, 1) := by decide +kernel
theorem dX12_elects_180 : decode cX12_elects 180 = .ok (.ifCond .ne 6, 3) := by decide +kernel
theorem dX12_elects_183 : decode cX12_elects 183 = .ok (.goto 114, 3) := by decide +kernel
theorem dX12_elects_186 : decode cX12_elects 186 = .ok (.iload 5, 2) := by decide +kernel
theorem dX12_elects_188 : decode cX12_elects 188 = .ok (.iconst 1, 1) := by decide +kernel
theorem dX12_elects_189 : decode cX12_elects 189 = .ok (.if_icmp .eq 17, 3) := by decide +kernel
theorem dX12_elects_192 : decode cX12_elects 192 = .ok (.iconst 2, 1) := by decide +kernel
theorem dX12_elects_193 : decode cX12_elects 193 = .ok (.aload_n 0, 1) := by decide +kernel
theorem dX12_elects_194 : decode cX12_elects 194 = .ok (.getfield 235, 3) := by decide +kernel
theorem dX12_elects_197 : decode cX12_elects 197 = .ok (.iload 9, 2) := by decide +kernel
theorem dX12_elects_199 : decode cX12_elects 199 = .ok (.iaload, 1) := by decide +kernel
theorem dX12_elects_200 : decode cX12_elects 200 = .ok (.imul, 1) := by decide +kernel
theorem dX12_elects_201 : decode cX12_elects 201 = .ok (.iload 6, 2) := by decide +kernel
theorem dX12_elects_203 : decode cX12_elects 203 = .ok (.if_icmp .le 6, 3) := by decide +kernel
theorem dX12_elects_206 : decode cX12_elects 206 = .ok (.iload 9, 2) := by decide +kernel
theorem dX12_elects_208 : decode cX12_elects 208 = .ok (.ireturn, 1) := by decide +kernel
theorem dX12_elects_209 : decode cX12_elects 209 = .ok (.iload 7, 2) := by decide +kernel
theorem dX12_elects_211 : decode cX12_elects 211 = .ok (.iconst (-1), 1) := by decide +kernel
theorem dX12_elects_212 : decode cX12_elects 212 = .ok (.if_icmp .eq 54, 3) := by decide +kernel
theorem dX12_elects_215 : decode cX12_elects 215 = .ok (.aload_n 0, 1) := by decide +kernel
theorem dX12_elects_216 : decode cX12_elects 216 = .ok (.getfield 235, 3) := by decide +kernel
theorem dX12_elects_219 : decode cX12_elects 219 = .ok (.iload 9, 2) := by decide +kernel
theorem dX12_elects_221 : decode cX12_elects 221 = .ok (.iaload, 1) := by decide +kernel
theorem dX12_elects_222 : decode cX12_elects 222 = .ok (.aload_n 0, 1) := by decide +kernel
theorem dX12_elects_223 : decode cX12_elects 223 = .ok (.getfield 235, 3) := by decide +kernel
theorem dX12_elects_226 : decode cX12_elects 226 = .ok (.iload 7, 2) := by decide +kernel
theorem dX12_elects_228 : decode cX12_elects 228 = .ok (.iaload, 1) := by decide +kernel
theorem dX12_elects_229 : decode cX12_elects 229 = .ok (.if_icmp .lt 37, 3) := by decide +kernel
theorem dX12_elects_232 : decode cX12_elects 232 = .ok (.aload_n 0, 1) := by decide +kernel
theorem dX12_elects_233 : decode cX12_elects 233 = .ok (.getfield 235, 3) := by decide +kernel
theorem dX12_elects_236 : decode cX12_elects 236 = .ok (.iload 9, 2) := by decide +kernel
theorem dX12_elects_238 : decode cX12_elects 238 = .ok (.iaload, 1) := by decide +kernel
theorem dX12_elects_239 : decode cX12_elects 239 = .ok (.aload_n 0, 1) := by decide +kernel
theorem dX12_elects_240 : decode cX12_elects 240 = .ok (.getfield 235, 3) := by decide +kernel
theorem dX12_elects_243 : decode cX12_elects 243 = .ok (.iload 7, 2) := by decide +kernel
theorem dX12_elects_245 : decode cX12_elects 245 = .ok (.iaload, 1) := by decide +kernel
theorem dX12_elects_246 : decode cX12_elects 246 = .ok (.if_icmp .ne 24, 3) := by decide +kernel
theorem dX12_elects_249 : decode cX12_elects 249 = .ok (.aload_n 0, 1) := by decide +kernel
theorem dX12_elects_250 : decode cX12_elects 250 = .ok (.getfield 13, 3) := by decide +kernel
theorem dX12_elects_253 : decode cX12_elects 253 = .ok (.iload 9, 2) := by decide +kernel
theorem dX12_elects_255 : decode cX12_elects 255 = .ok (.iaload, 1) := by decide +kernel
theorem dX12_elects_256 : decode cX12_elects 256 = .ok (.aload_n 0, 1) := by decide +kernel
theorem dX12_elects_257 : decode cX12_elects 257 = .ok (.getfield 13, 3) := by decide +kernel
theorem dX12_elects_260 : decode cX12_elects 260 = .ok (.iload 7, 2) := by decide +kernel
theorem dX12_elects_262 : decode cX12_elects 262 = .ok (.iaload, 1) := by decide +kernel
theorem dX12_elects_263 : decode cX12_elects 263 = .ok (.if_icmp .lt 7, 3) := by decide +kernel
theorem dX12_elects_266 : decode cX12_elects 266 = .ok (.iload 9, 2) := by decide +kernel
theorem dX12_elects_268 : decode cX12_elects 268 = .ok (.istore 7, 2) := by decide +kernel
theorem dX12_elects_270 : decode cX12_elects 270 = .ok (.iload 8, 2) := by decide +kernel
theorem dX12_elects_272 : decode cX12_elects 272 = .ok (.iconst (-1), 1) := by decide +kernel
theorem dX12_elects_273 : decode cX12_elects 273 = .ok (.if_icmp .eq 20, 3) := by decide +kernel
theorem dX12_elects_276 : decode cX12_elects 276 = .ok (.aload_n 0, 1) := by decide +kernel
theorem dX12_elects_277 : decode cX12_elects 277 = .ok (.getfield 13, 3) := by decide +kernel
theorem dX12_elects_280 : decode cX12_elects 280 = .ok (.iload 9, 2) := by decide +kernel
theorem dX12_elects_282 : decode cX12_elects 282 = .ok (.iaload, 1) := by decide +kernel
theorem dX12_elects_283 : decode cX12_elects 283 = .ok (.aload_n 0, 1) := by decide +kernel
theorem dX12_elects_284 : decode cX12_elects 284 = .ok (.getfield 13, 3) := by decide +kernel
theorem dX12_elects_287 : decode cX12_elects 287 = .ok (.iload 8, 2) := by decide +kernel
theorem dX12_elects_289 : decode cX12_elects 289 = .ok (.iaload, 1) := by decide +kernel
theorem dX12_elects_290 : decode cX12_elects 290 = .ok (.if_icmp .ge 7, 3) := by decide +kernel
theorem dX12_elects_293 : decode cX12_elects 293 = .ok (.iload 9, 2) := by decide +kernel
theorem dX12_elects_295 : decode cX12_elects 295 = .ok (.istore 8, 2) := by decide +kernel
theorem dX12_elects_297 : decode cX12_elects 297 = .ok (.iinc 9 1, 3) := by decide +kernel
theorem dX12_elects_300 : decode cX12_elects 300 = .ok (.goto (-135), 3) := by decide +kernel
theorem dX12_elects_303 : decode cX12_elects 303 = .ok (.iload 5, 2) := by decide +kernel
theorem dX12_elects_305 : decode cX12_elects 305 = .ok (.iconst 2, 1) := by decide +kernel
theorem dX12_elects_306 : decode cX12_elects 306 = .ok (.if_icmp .ne 26, 3) := by decide +kernel
theorem dX12_elects_309 : decode cX12_elects 309 = .ok (.aload_n 0, 1) := by decide +kernel
theorem dX12_elects_310 : decode cX12_elects 310 = .ok (.bipush 12, 2) := by decide +kernel
theorem dX12_elects_312 : decode cX12_elects 312 = .ok (.iload_n 3, 1) := by decide +kernel
theorem dX12_elects_313 : decode cX12_elects 313 = .ok (.invokevirtual 389, 3) := by decide +kernel
theorem dX12_elects_316 : decode cX12_elects 316 = .ok (.istore 9, 2) := by decide +kernel
theorem dX12_elects_318 : decode cX12_elects 318 = .ok (.iload 9, 2) := by decide +kernel
theorem dX12_elects_320 : decode cX12_elects 320 = .ok (.iconst (-1), 1) := by decide +kernel
theorem dX12_elects_321 : decode cX12_elects 321 = .ok (.if_icmp .ne 8, 3) := by decide +kernel
theorem dX12_elects_324 : decode cX12_elects 324 = .ok (.iload 8, 2) := by decide +kernel
theorem dX12_elects_326 : decode cX12_elects 326 = .ok (.goto 5, 3) := by decide +kernel
theorem dX12_elects_329 : decode cX12_elects 329 = .ok (.iload 9, 2) := by decide +kernel
theorem dX12_elects_331 : decode cX12_elects 331 = .ok (.ireturn, 1) := by decide +kernel
