theorem dX12_elects_332 : decode cX12_elects 332 = .ok (.iload_n 3, 1) := by decide +kernel
theorem dX12_elects_333 : decode cX12_elects 333 = .ok (.iconst 1, 1) := by decide +kernel
theorem dX12_elects_334 : decode cX12_elects 334 = .ok (.iload 7, 2) := by decide +kernel
theorem dX12_elects_336 : decode cX12_elects 336 = .ok (.ishl, 1) := by decide +kernel
theorem dX12_elects_337 : decode cX12_elects 337 = .ok (.iconst (-1), 1) := by decide +kernel
theorem dX12_elects_338 : decode cX12_elects 338 = .ok (.ixor, 1) := by decide +kernel
theorem dX12_elects_339 : decode cX12_elects 339 = .ok (.iand, 1) := by decide +kernel
theorem dX12_elects_340 : decode cX12_elects 340 = .ok (.istore_n 3, 1) := by decide +kernel
theorem dX12_elects_341 : decode cX12_elects 341 = .ok (.iinc 4 1, 3) := by decide +kernel
theorem dX12_elects_344 : decode cX12_elects 344 = .ok (.goto (-339), 3) := by decide +kernel
theorem dX12_elect_0 : decode cX12_elect 0 = .ok (.aload_n 0, 1) := by decide +kernel
theorem dX12_elect_1 : decode cX12_elect 1 = .ok (.iload_n 1, 1) := by decide +kernel
theorem dX12_elect_2 : decode cX12_elect 2 = .ok (.invokevirtual 368, 3) := by decide +kernel
theorem dX12_elect_5 : decode cX12_elect 5 = .ok (.ifCond .ne 9, 3) := by decide +kernel
theorem dX12_elect_8 : decode cX12_elect 8 = .ok (.aload_n 0, 1) := by decide +kernel
theorem dX12_elect_9 : decode cX12_elect 9 = .ok (.iconst (-1), 1) := by decide +kernel
theorem dX12_elect_10 : decode cX12_elect 10 = .ok (.invokevirtual 267, 3) := by decide +kernel
theorem dX12_elect_13 : decode cX12_elect 13 = .ok (.ireturn, 1) := by decide +kernel
theorem dX12_elect_14 : decode cX12_elect 14 = .ok (.iload_n 2, 1) := by decide +kernel
theorem dX12_elect_15 : decode cX12_elect 15 = .ok (.ifCond .lt 13, 3) := by decide +kernel
theorem dX12_elect_18 : decode cX12_elect 18 = .ok (.iload_n 2, 1) := by decide +kernel
theorem dX12_elect_19 : decode cX12_elect 19 = .ok (.iconst 1, 1) := by decide +kernel
theorem dX12_elect_20 : decode cX12_elect 20 = .ok (.aload_n 0, 1) := by decide +kernel
theorem dX12_elect_21 : decode cX12_elect 21 = .ok (.getfield 256, 3) := by decide +kernel
theorem dX12_elect_24 : decode cX12_elect 24 = .ok (.ishl, 1) := by decide +kernel
theorem dX12_elect_25 : decode cX12_elect 25 = .ok (.if_icmp .lt 9, 3) := by decide +kernel
theorem dX12_elect_28 : decode cX12_elect 28 = .ok (.aload_n 0, 1) := by decide +kernel
theorem dX12_elect_29 : decode cX12_elect 29 = .ok (.iconst (-1), 1) := by decide +kernel
theorem dX12_elect_30 : decode cX12_elect 30 = .ok (.invokevirtual 267, 3) := by decide +kernel
theorem dX12_elect_33 : decode cX12_elect 33 = .ok (.ireturn, 1) := by decide +kernel
theorem dX12_elect_34 : decode cX12_elect 34 = .ok (.aload_n 0, 1) := by decide +kernel
theorem dX12_elect_35 : decode cX12_elect 35 = .ok (.getfield 109, 3) := by decide +kernel
theorem dX12_elect_38 : decode cX12_elect 38 = .ok (.iload_n 1, 1) := by decide +kernel
theorem dX12_elect_39 : decode cX12_elect 39 = .ok (.iaload, 1) := by decide +kernel
theorem dX12_elect_40 : decode cX12_elect 40 = .ok (.iconst (-1), 1) := by decide +kernel
theorem dX12_elect_41 : decode cX12_elect 41 = .ok (.if_icmp .ne 7, 3) := by decide +kernel
theorem dX12_elect_44 : decode cX12_elect 44 = .ok (.iload_n 2, 1) := by decide +kernel
theorem dX12_elect_45 : decode cX12_elect 45 = .ok (.ifCond .ne 10, 3) := by decide +kernel
theorem dX12_elect_48 : decode cX12_elect 48 = .ok (.aload_n 0, 1) := by decide +kernel
theorem dX12_elect_49 : decode cX12_elect 49 = .ok (.bipush (-6), 2) := by decide +kernel
theorem dX12_elect_51 : decode cX12_elect 51 = .ok (.invokevirtual 267, 3) := by decide +kernel
theorem dX12_elect_54 : decode cX12_elect 54 = .ok (.ireturn, 1) := by decide +kernel
theorem dX12_elect_55 : decode cX12_elect 55 = .ok (.iconst 0, 1) := by decide +kernel
theorem dX12_elect_56 : decode cX12_elect 56 = .ok (.istore_n 3, 1) := by decide +kernel
theorem dX12_elect_57 : decode cX12_elect 57 = .ok (.iload_n 3, 1) := by decide +kernel
theorem dX12_elect_58 : decode cX12_elect 58 = .ok (.aload_n 0, 1) := by decide +kernel
theorem dX12_elect_59 : decode cX12_elect 59 = .ok (.getfield 256, 3) := by decide +kernel
theorem dX12_elect_62 : decode cX12_elect 62 = .ok (.if_icmp .ge 54, 3) := by decide +kernel
theorem dX12_elect_65 : decode cX12_elect 65 = .ok (.iload_n 2, 1) := by decide +kernel
theorem dX12_elect_66 : decode cX12_elect 66 = .ok (.iload_n 3, 1) := by decide +kernel
theorem dX12_elect_67 : decode cX12_elect 67 = .ok (.ishr, 1) := by decide +kernel
theorem dX12_elect_68 : decode cX12_elect 68 = .ok (.iconst 1, 1) := by decide +kernel
theorem dX12_elect_69 : decode cX12_elect 69 = .ok (.iand, 1) := by decide +kernel
theorem dX12_elect_70 : decode cX12_elect 70 = .ok (.iconst 1, 1) := by decide +kernel
theorem dX12_elect_71 : decode cX12_elect 71 = .ok (.if_icmp .ne 39, 3) := by decide +kernel
theorem dX12_elect_74 : decode cX12_elect 74 = .ok (.aload_n 0, 1) := by decide +kernel
theorem dX12_elect_75 : decode cX12_elect 75 = .ok (.iload_n 3, 1) := by decide +kernel
theorem dX12_elect_76 : decode cX12_elect 76 = .ok (.aload_n 0, 1) := by decide +kernel
theorem dX12_elect_77 : decode cX12_elect 77 = .ok (.getfield 106, 3) := by decide +kernel
theorem dX12_elect_80 : decode cX12_elect 80 = .ok (.iload_n 1, 1) := by decide +kernel
theorem dX12_elect_81 : decode cX12_elect 81 = .ok (.iaload, 1) := by decide +kernel
theorem dX12_elect_82 : decode cX12_elect 82 = .ok (.invokevirtual 371, 3) := by decide +kernel
theorem dX12_elect_85 : decode cX12_elect 85 = .ok (.ifCond .eq 18, 3) := by decide +kernel
theorem dX12_elect_88 : decode cX12_elect 88 = .ok (.aload_n 0, 1) := by decide +kernel
theorem dX12_elect_89 : decode cX12_elect 89 = .ok (.iload_n 3, 1) := by decide +kernel
theorem dX12_elect_90 : decode cX12_elect 90 = .ok (.aload_n 0, 1) := by decide +kernel
theorem dX12_elect_91 : decode cX12_elect 91 = .ok (.getfield 106, 3) := by decide +kernel
theorem dX12_elect_94 : decode cX12_elect 94 = .ok (.iload_n 1, 1) := by decide +kernel
theorem dX12_elect_95 : decode cX12_elect 95 = .ok (.iaload, 1) := by decide +kernel
theorem dX12_elect_96 : decode cX12_elect 96 = .ok (.invokevirtual 375, 3) := by decide +kernel
theorem dX12_elect_99 : decode cX12_elect 99 = .ok (.iconst (-1), 1) := by decide +kernel
theorem dX12_elect_100 : decode cX12_elect 100 = .ok (.if_icmp .eq 10, 3) := by decide +kernel
theorem dX12_elect_103 : decode cX12_elect 103 = .ok (.aload_n 0, 1) := by decide +kernel
theorem dX12_elect_104 : decode cX12_elect 104 = .ok (.bipush (-6), 2) := by decide +kernel
theorem dX12_elect_106 : decode cX12_elect 106 = .ok (.invokevirtual 267, 3) := by decide +kernel
theorem dX12_elect_109 : decode cX12_elect 109 = .ok (.ireturn, 1) := by decide +kernel
theorem dX12_elect_110 : decode cX12_elect 110 = .ok (.iinc 3 1, 3) := by decide +kernel
theorem dX12_elect_113 : decode cX12_elect 113 = .ok (.goto (-56), 3) := by decide +kernel
theorem dX12_elect_116 : decode cX12_elect 116 = .ok (.iconst 0, 1) := by decide +kernel
theorem dX12_elect_117 : decode cX12_elect 117 = .ok (.istore_n 3, 1) := by decide +kernel
theorem dX12_elect_118 : decode cX12_elect 118 = .ok (.iconst 0, 1) := by decide +kernel
theorem dX12_elect_119 : decode cX12_elect 119 = .ok (.istore 4, 2) := by decide +kernel
theorem dX12_elect_121 : decode cX12_elect 121 = .ok (.iconst (-1), 1) := by decide +kernel
theorem dX12_elect_122 : decode cX12_elect 122 = .ok (.istore 5, 2) := by decide +kernel
theorem dX12_elect_124 : decode cX12_elect 124 = .ok (.iconst 0, 1) := by decide +kernel
theorem dX12_elect_125 : decode cX12_elect 125 = .ok (.istore 6, 2) := by decide +kernel
theorem dX12_elect_127 : decode cX12_elect 127 = .ok (.iload 6, 2) := by decide +kernel
theorem dX12_elect_129 : decode cX12_elect 129 = .ok (.aload_n 0, 1) := by decide +kernel
theorem dX12_elect_130 : decode cX12_elect 130 = .ok (.getfield 259, 3) := by decide +kernel
theorem dX12_elect_133 : decode cX12_elect 133 = .ok (.if_icmp .ge 84, 3) := by decide +kernel
theorem dX12_elect_136 : decode cX12_elect 136 = .ok (.aload_n 0, 1) := by decide +kernel
theorem dX12_elect_137 : decode cX12_elect 137 = .ok (.getfield 109, 3) := by decide +kernel
theorem dX12_elect_140 : decode cX12_elect 140 = .ok (.iload 6, 2) := by decide +kernel
theorem dX12_elect_142 : decode cX12_elect 142 = .ok (.iaload, 1) := by decide +kernel
theorem dX12_elect_143 : decode cX12_elect 143 = .ok (.iconst (-1), 1) := by decide +kernel
theorem dX12_elect_144 : decode cX12_elect 144 = .ok (.if_icmp .ne 6, 3) := by decide +kernel
theorem dX12_elect_147 : decode cX12_elect 147 = .ok (.goto 64, 3) := by decide +kernel
theorem dX12_elect_150 : decode cX12_elect 150 = .ok (.aload_n 0, 1) := by decide +kernel
theorem dX12_elect_151 : decode cX12_elect 151 = .ok (.getfield 106, 3) := by decide +kernel
theorem dX12_elect_154 : decode cX12_elect 154 = .ok (.iload 6, 2) := by decide +kernel
theorem dX12_elect_156 : decode cX12_elect 156 = .ok (.iaload, 1) := by decide +kernel
theorem dX12_elect_157 : decode cX12_elect 157 = .ok (.iconst 2, 1) := by decide +kernel
theorem dX12_elect_158 : decode cX12_elect 158 = .ok (.if_icmp .ne 18, 3) := by decide +kernel
theorem dX12_elect_161 : decode cX12_elect 161 = .ok (.iload 5, 2) := by decide +kernel
theorem dX12_elect_163 : decode cX12_elect 163 = .ok (.iconst (-1), 1) := by decide +kernel
theorem dX12_elect_164 : decode cX12_elect 164 = .ok (.if_icmp .ne 12, 3) := by decide +kernel
theorem dX12_elect_167 : decode cX12_elect 167 = .ok (.aload_n 0, 1) := by decide +kernel
theorem dX12_elect_168 : decode cX12_elect 168 = .ok (.getfield 109, 3) := by decide +kernel
theorem dX12_elect_171 : decode cX12_elect 171 = .ok (.iload 6, 2) := by decide +kernel
theorem dX12_elect_173 : decode cX12_elect 173 = .ok (.iaload, 1) := by decide +kernel
theorem dX12_elect_174 : decode cX12_elect 174 = .ok (.istore 5, 2) := by decide +kernel
theorem dX12_elect_176 : decode cX12_elect 176 = .ok (.aload_n 0, 1) := by decide +kernel
theorem dX12_elect_177 : decode cX12_elect 177 = .ok (.getfield 106, 3) := by decide +kernel
theorem dX12_elect_180 : decode cX12_elect 180 = .ok (.iload 6, 2) := by decide +kernel
theorem dX12_elect_182 : decode cX12_elect 182 = .ok (.iaload, 1) := by decide +kernel
theorem dX12_elect_183 : decode cX12_elect 183 = .ok (.iconst 1, 1) := by decide +kernel
theorem dX12_elect_184 : decode cX12_elect 184 = .ok (.if_icmp .eq 6, 3) := by decide +kernel
theorem dX12_elect_187 : decode cX12_elect 187 = .ok (.goto 24, 3) := by decide +kernel
theorem dX12_elect_190 : decode cX12_elect 190 = .ok (.iinc 3 1, 3) := by decide +kernel
theorem dX12_elect_193 : decode cX12_elect 193 = .ok (.aload_n 0, 1) := by decide +kernel
theorem dX12_elect_194 : decode cX12_elect 194 = .ok (.getfield 124, 3) := by decide +kernel
theorem dX12_elect_197 : decode cX12_elect 197 = .ok (.aload_n 0, 1) := by decide +kernel
theorem dX12_elect_198 : decode cX12_elect 198 = .ok (.getfield 109, 3) := by decide +kernel
theorem dX12_elect_201 : decode cX12_elect 201 = .ok (.iload 6, 2) := by decide +kernel
theorem dX12_elect_203 : decode cX12_elect 203 = .ok (.iaload, 1) := by decide +kernel
theorem dX12_elect_204 : decode cX12_elect 204 = .ok (.iaload, 1) := by decide +kernel
theorem dX12_elect_205 : decode cX12_elect 205 = .ok (.ifCond .lt 6, 3) := by decide +kernel
theorem dX12_elect_208 : decode cX12_elect 208 = .ok (.iinc 4 1, 3) := by decide +kernel
theorem dX12_elect_211 : decode cX12_elect 211 = .ok (.iinc 6 1, 3) := by decide +kernel
theorem dX12_elect_214 : decode cX12_elect 214 = .ok (.goto (-87), 3) := by decide +kernel
theorem dX12_elect_217 : decode cX12_elect 217 = .ok (.iload 4, 2) := by decide +kernel
theorem dX12_elect_219 : decode cX12_elect 219 = .ok (.ifCond .eq 11, 3) := by decide +kernel
theorem dX12_elect_222 : decode cX12_elect 222 = .ok (.iconst 2, 1) := by decide +kernel
theorem dX12_elect_223 : decode cX12_elect 223 = .ok (.iload 4, 2) := by decide +kernel
theorem dX12_elect_225 : decode cX12_elect 225 = .ok (.imul, 1) := by decide +kernel
theorem dX12_elect_226 : decode cX12_elect 226 = .ok (.iload_n 3, 1) := by decide +kernel
theorem dX12_elect_227 : decode cX12_elect 227 = .ok (.if_icmp .ge 10, 3) := by decide +kernel
theorem dX12_elect_230 : decode cX12_elect 230 = .ok (.aload_n 0, 1) := by decide +kernel
theorem dX12_elect_231 : decode cX12_elect 231 = .ok (.bipush (-6), 2) := by decide +kernel
theorem dX12_elect_233 : decode cX12_elect 233 = .ok (.invokevirtual 267, 3) := by decide +kernel
theorem dX12_elect_236 : decode cX12_elect 236 = .ok (.ireturn, 1) := by decide +kernel
theorem dX12_elect_237 : decode cX12_elect 237 = .ok (.aload_n 0, 1) := by decide +kernel
theorem dX12_elect_238 : decode cX12_elect 238 = .ok (.iconst 0, 1) := by decide +kernel
theorem dX12_elect_239 : decode cX12_elect 239 = .ok (.putfield 386, 3) := by decide +kernel
theorem dX12_elect_242 : decode cX12_elect 242 = .ok (.iconst 0, 1) := by decide +kernel
theorem dX12_elect_243 : decode cX12_elect 243 = .ok (.istore 6, 2) := by decide +kernel
theorem dX12_elect_245 : decode cX12_elect 245 = .ok (.iload 6, 2) := by decide +kernel
theorem dX12_elect_247 : decode cX12_elect 247 = .ok (.aload_n 0, 1) := by decide +kernel
theorem dX12_elect_248 : decode cX12_elect 248 = .ok (.getfield 259, 3) := by decide +kernel
theorem dX12_elect_251 : decode cX12_elect 251 = .ok (.if_icmp .ge 68, 3) := by decide +kernel
theorem dX12_elect_254 : decode cX12_elect 254 = .ok (.aload_n 0, 1) := by decide +kernel
theorem dX12_elect_255 : decode cX12_elect 255 = .ok (.getfield 106, 3) := by decide +kernel
theorem dX12_elect_258 : decode cX12_elect 258 = .ok (.iload 6, 2) := by decide +kernel
theorem dX12_elect_260 : decode cX12_elect 260 = .ok (.iaload, 1) := by decide +kernel
theorem dX12_elect_261 : decode cX12_elect 261 = .ok (.iconst 1, 1) := by decide +kernel
theorem dX12_elect_262 : decode cX12_elect 262 = .ok (.if_icmp .ne 51, 3) := by decide +kernel
theorem dX12_elect_265 : decode cX12_elect 265 = .ok (.aload_n 0, 1) := by decide +kernel
theorem dX12_elect_266 : decode cX12_elect 266 = .ok (.getfield 109, 3) := by decide +kernel
theorem dX12_elect_269 : decode cX12_elect 269 = .ok (.iload 6, 2) := by decide +kernel
theorem dX12_elect_271 : decode cX12_elect 271 = .ok (.iaload, 1) := by decide +kernel
theorem dX12_elect_272 : decode cX12_elect 272 = .ok (.iconst (-1), 1) := by decide +kernel
theorem dX12_elect_273 : decode cX12_elect 273 = .ok (.if_icmp .eq 40, 3) := by decide +kernel
theorem dX12_elect_276 : decode cX12_elect 276 = .ok (.aload_n 0, 1) := by decide +kernel
theorem dX12_elect_277 : decode cX12_elect 277 = .ok (.getfield 124, 3) := by decide +kernel
theorem dX12_elect_280 : decode cX12_elect 280 = .ok (.aload_n 0, 1) := by decide +kernel
theorem dX12_elect_281 : decode cX12_elect 281 = .ok (.getfield 109, 3) := by decide +kernel
theorem dX12_elect_284 : decode cX12_elect 284 = .ok (.iload 6, 2) := by decide +kernel
theorem dX12_elect_286 : decode cX12_elect 286 = .ok (.iaload, 1) := by decide +kernel
theorem dX12_elect_287 : decode cX12_elect 287 = .ok (.iaload, 1) := by decide +kernel
theorem dX12_elect_288 : decode cX12_elect 288 = .ok (.ifCond .lt 25, 3) := by decide +kernel
theorem dX12_elect_291 : decode cX12_elect 291 = .ok (.aload_n 0, 1) := by decide +kernel
theorem dX12_elect_292 : decode cX12_elect 292 = .ok (.aload_n 0, 1) := by decide +kernel
theorem dX12_elect_293 : decode cX12_elect 293 = .ok (.dup, 1) := by decide +kernel
theorem dX12_elect_294 : decode cX12_elect 294 = .ok (.getfield 386, 3) := by decide +kernel
theorem dX12_elect_297 : decode cX12_elect 297 = .ok (.dup_x1, 1) := by decide +kernel
theorem dX12_elect_298 : decode cX12_elect 298 = .ok (.iconst 1, 1) := by decide +kernel
theorem dX12_elect_299 : decode cX12_elect 299 = .ok (.iadd, 1) := by decide +kernel
theorem dX12_elect_300 : decode cX12_elect 300 = .ok (.putfield 386, 3) := by decide +kernel
theorem dX12_elect_303 : decode cX12_elect 303 = .ok (.aload_n 0, 1) := by decide +kernel
theorem dX12_elect_304 : decode cX12_elect 304 = .ok (.getfield 109, 3) := by decide +kernel
theorem dX12_elect_307 : decode cX12_elect 307 = .ok (.iload 6, 2) := by decide +kernel
theorem dX12_elect_309 : decode cX12_elect 309 = .ok (.iaload, 1) := by decide +kernel
theorem dX12_elect_310 : decode cX12_elect 310 = .ok (.invokevirtual 395, 3) := by decide +kernel
theorem dX12_elect_313 : decode cX12_elect 313 = .ok (.iinc 6 1, 3) := by decide +kernel
theorem dX12_elect_316 : decode cX12_elect 316 = .ok (.goto (-71), 3) := by decide +kernel
theorem dX12_elect_319 : decode cX12_elect 319 = .ok (.aload_n 0, 1) := by decide +kernel
theorem dX12_elect_320 : decode cX12_elect 320 = .ok (.bipush 12, 2) := by decide +kernel
theorem dX12_elect_322 : decode cX12_elect 322 = .ok (.iload 5, 2) := by decide +kernel
theorem dX12_elect_324 : decode cX12_elect 324 = .ok (.invokevirtual 395, 3) := by decide +kernel
theorem dX12_elect_327 : decode cX12_elect 327 = .ok (.aload_n 0, 1) := by decide +kernel
theorem dX12_elect_328 : decode cX12_elect 328 = .ok (.iconst 1, 1) := by decide +kernel
theorem dX12_elect_329 : decode cX12_elect 329 = .ok (.putfield 398, 3) := by decide +kernel
theorem dX12_elect_332 : decode cX12_elect 332 = .ok (.aload_n 0, 1) := by decide +kernel
theorem dX12_elect_333 : decode cX12_elect 333 = .ok (.iload_n 2, 1) := by decide +kernel
theorem dX12_elect_334 : decode cX12_elect 334 = .ok (.putfield 402, 3) := by decide +kernel
theorem dX12_elect_337 : decode cX12_elect 337 = .ok (.aload_n 0, 1) := by decide +kernel
theorem dX12_elect_338 : decode cX12_elect 338 = .ok (.iload_n 2, 1) := by decide +kernel
theorem dX12_elect_339 : decode cX12_elect 339 = .ok (.iconst 1, 1) := by decide +kernel
theorem dX12_elect_340 : decode cX12_elect 340 = .ok (.invokevirtual 405, 3) := by decide +kernel
theorem dX12_elect_343 : decode cX12_elect 343 = .ok (.istore 6, 2) := by decide +kernel
theorem dX12_elect_345 : decode cX12_elect 345 = .ok (.aload_n 0, 1) := by decide +kernel
theorem dX12_elect_346 : decode cX12_elect 346 = .ok (.iload 6, 2) := by decide +kernel
theorem dX12_elect_348 : decode cX12_elect 348 = .ok (.iload_n 1, 1) := by decide +kernel
theorem dX12_elect_349 : decode cX12_elect 349 = .ok (.invokevirtual 378, 3) := by decide +kernel
theorem dX12_elect_352 : decode cX12_elect 352 = .ok (.iload 6, 2) := by decide +kernel
theorem dX12_elect_354 : decode cX12_elect 354 = .ok (.ireturn, 1) := by decide +kernel
theorem dX12_votes_0 : decode cX12_votes 0 = .ok (.aload_n 0, 1) := by decide +kernel
theorem dX12_votes_1 : decode cX12_votes 1 = .ok (.getfield 398, 3) := by decide +kernel
theorem dX12_votes_4 : decode cX12_votes 4 = .ok (.ifCond .eq 36, 3) := by decide +kernel
theorem dX12_votes_7 : decode cX12_votes 7 = .ok (.iload_n 1, 1) := by decide +kernel
theorem dX12_votes_8 : decode cX12_votes 8 = .ok (.ifCond .lt 32, 3) := by decide +kernel
theorem dX12_votes_11 : decode cX12_votes 11 = .ok (.iload_n 1, 1) := by decide +kernel
theorem dX12_votes_12 : decode cX12_votes 12 = .ok (.aload_n 0, 1) := by decide +kernel
theorem dX12_votes_13 : decode cX12_votes 13 = .ok (.getfield 392, 3) := by decide +kernel
theorem dX12_votes_16 : decode cX12_votes 16 = .ok (.if_icmp .ge 24, 3) := by decide +kernel
theorem dX12_votes_19 : decode cX12_votes 19 = .ok (.aload_n 0, 1) := by decide +kernel
theorem dX12_votes_20 : decode cX12_votes 20 = .ok (.iload_n 2, 1) := by decide +kernel
theorem dX12_votes_21 : decode cX12_votes 21 = .ok (.invokevirtual 271, 3) := by decide +kernel
theorem dX12_votes_24 : decode cX12_votes 24 = .ok (.ifCond .eq 16, 3) := by decide +kernel
theorem dX12_votes_27 : decode cX12_votes 27 = .ok (.aload_n 0, 1) := by decide +kernel
theorem dX12_votes_28 : decode cX12_votes 28 = .ok (.getfield 232, 3) := by decide +kernel
theorem dX12_votes_31 : decode cX12_votes 31 = .ok (.iload_n 1, 1) := by decide +kernel
theorem dX12_votes_32 : decode cX12_votes 32 = .ok (.iaload, 1) := by decide +kernel
theorem dX12_votes_33 : decode cX12_votes 33 = .ok (.iload_n 2, 1) := by decide +kernel
theorem dX12_votes_34 : decode cX12_votes 34 = .ok (.ishr, 1) := by decide +kernel
theorem dX12_votes_35 : decode cX12_votes 35 = .ok (.iconst 1, 1) := by decide +kernel
theorem dX12_votes_36 : decode cX12_votes 36 = .ok (.iand, 1) := by decide +kernel
theorem dX12_votes_37 : decode cX12_votes 37 = .ok (.ifCond .ne 5, 3) := by decide +kernel
theorem dX12_votes_40 : decode cX12_votes 40 = .ok (.iconst (-1), 1) := by decide +kernel
theorem dX12_votes_41 : decode cX12_votes 41 = .ok (.ireturn, 1) := by decide +kernel
theorem dX12_votes_42 : decode cX12_votes 42 = .ok (.aload_n 0, 1) := by decide +kernel
theorem dX12_votes_43 : decode cX12_votes 43 = .ok (.getfield 229, 3) := by decide +kernel
theorem dX12_votes_46 : decode cX12_votes 46 = .ok (.bipush 24, 2) := by decide +kernel
theorem dX12_votes_48 : decode cX12_votes 48 = .ok (.iload_n 1, 1) := by decide +kernel
theorem dX12_votes_49 : decode cX12_votes 49 = .ok (.imul, 1) := by decide +kernel
theorem dX12_votes_50 : decode cX12_votes 50 = .ok (.iload_n 2, 1) := by decide +kernel
theorem dX12_votes_51 : decode cX12_votes 51 = .ok (.iadd, 1) := by decide +kernel
theorem dX12_votes_52 : decode cX12_votes 52 = .ok (.iaload, 1) := by decide +kernel
theorem dX12_votes_53 : decode cX12_votes 53 = .ok (.ireturn, 1) := by decide +kernel
theorem dX12_without_0 : decode cX12_without 0 = .ok (.aload_n 0, 1) := by decide +kernel
theorem dX12_without_1 : decode cX12_without 1 = .ok (.getfield 398, 3) := by decide +kernel
theorem dX12_without_4 : decode cX12_without 4 = .ok (.ifCond .eq 32, 3) := by decide +kernel
theorem dX12_without_7 : decode cX12_without 7 = .ok (.aload_n 0, 1) := by decide +kernel
theorem dX12_without_8 : decode cX12_without 8 = .ok (.iload_n 1, 1) := by decide +kernel
theorem dX12_without_9 : decode cX12_without 9 = .ok (.invokevirtual 271, 3) := by decide +kernel
theorem dX12_without_12 : decode cX12_without 12 = .ok (.ifCond .eq 24, 3) := by decide +kernel
theorem dX12_without_15 : decode cX12_without 15 = .ok (.aload_n 0, 1) := by decide +kernel
theorem dX12_without_16 : decode cX12_without 16 = .ok (.getfield 402, 3) := by decide +kernel
theorem dX12_without_19 : decode cX12_without 19 = .ok (.iload_n 1, 1) := by decide +kernel
theorem dX12_without_20 : decode cX12_without 20 = .ok (.ishr, 1) := by decide +kernel
theorem dX12_without_21 : decode cX12_without 21 = .ok (.iconst 1, 1) := by decide +kernel
theorem dX12_without_22 : decode cX12_without 22 = .ok (.iand, 1) := by decide +kernel
theorem dX12_without_23 : decode cX12_without 23 = .ok (.ifCond .eq 13, 3) := by decide +kernel
theorem dX12_without_26 : decode cX12_without 26 = .ok (.aload_n 0, 1) := by decide +kernel
theorem dX12_without_27 : decode cX12_without 27 = .ok (.getfield 402, 3) := by decide +kernel
theorem dX12_without_30 : decode cX12_without 30 = .ok (.iconst 1, 1) := by decide +kernel
theorem dX12_without_31 : decode cX12_without 31 = .ok (.iload_n 1, 1) := by decide +kernel
theorem dX12_without_32 : decode cX12_without 32 = .ok (.ishl, 1) := by decide +kernel
theorem dX12_without_33 : decode cX12_without 33 = .ok (.if_icmp .ne 5, 3) := by decide +kernel
theorem dX12_without_36 : decode cX12_without 36 = .ok (.iconst (-1), 1) := by decide +kernel
theorem dX12_without_37 : decode cX12_without 37 = .ok (.ireturn, 1) := by decide +kernel
theorem dX12_without_38 : decode cX12_without 38 = .ok (.aload_n 0, 1) := by decide +kernel
theorem dX12_without_39 : decode cX12_without 39 = .ok (.aload_n 0, 1) := by decide +kernel
theorem dX12_without_40 : decode cX12_without 40 = .ok (.getfield 402, 3) := by decide +kernel
theorem dX12_without_43 : decode cX12_without 43 = .ok (.iconst 1, 1) := by decide +kernel
theorem dX12_without_44 : decode cX12_without 44 = .ok (.iload_n 1, 1) := by decide +kernel
theorem dX12_without_45 : decode cX12_without 45 = .ok (.ishl, 1) := by decide +kernel
theorem dX12_without_46 : decode cX12_without 46 = .ok (.iconst (-1), 1) := by decide +kernel
theorem dX12_without_47 : decode cX12_without 47 = .ok (.ixor, 1) := by decide +kernel
theorem dX12_without_48 : decode cX12_without 48 = .ok (.iand, 1) := by decide +kernel
theorem dX12_without_49 : decode cX12_without 49 = .ok (.iconst 0, 1) := by decide +kernel
theorem dX12_without_50 : decode cX12_without 50 = .ok (.invokevirtual 405, 3) := by decide +kernel
theorem dX12_without_53 : decode cX12_without 53 = .ok (.ireturn, 1) := by decide +kernel
theorem dX12_seniors_0 : decode cX12_seniors 0 = .ok (.iconst 0, 1) := by decide +kernel
theorem dX12_seniors_1 : decode cX12_seniors 1 = .ok (.istore_n 1, 1) := by decide +kernel
theorem dX12_seniors_2 : decode cX12_seniors 2 = .ok (.iconst 0, 1) := by decide +kernel
theorem dX12_seniors_3 : decode cX12_seniors 3 = .ok (.istore_n 2, 1) := by decide +kernel
theorem dX12_seniors_4 : decode cX12_seniors 4 = .ok (.iload_n 2, 1) := by decide +kernel
theorem dX12_seniors_5 : decode cX12_seniors 5 = .ok (.aload_n 0, 1) := by decide +kernel
theorem dX12_seniors_6 : decode cX12_seniors 6 = .ok (.getfield 259, 3) := by decide +kernel
theorem dX12_seniors_9 : decode cX12_seniors 9 = .ok (.if_icmp .ge 134, 3) := by decide +kernel
theorem dX12_seniors_12 : decode cX12_seniors 12 = .ok (.aload_n 0, 1) := by decide +kernel
theorem dX12_seniors_13 : decode cX12_seniors 13 = .ok (.getfield 106, 3) := by decide +kernel
theorem dX12_seniors_16 : decode cX12_seniors 16 = .ok (.iload_n 2, 1) := by decide +kernel
theorem dX12_seniors_17 : decode cX12_seniors 17 = .ok (.iaload, 1) := by decide +kernel
theorem dX12_seniors_18 : decode cX12_seniors 18 = .ok (.iconst 1, 1) := by decide +kernel
theorem dX12_seniors_19 : decode cX12_seniors 19 = .ok (.if_icmp .ne 118, 3) := by decide +kernel
theorem dX12_seniors_22 : decode cX12_seniors 22 = .ok (.aload_n 0, 1) := by decide +kernel
theorem dX12_seniors_23 : decode cX12_seniors 23 = .ok (.getfield 109, 3) := by decide +kernel
theorem dX12_seniors_26 : decode cX12_seniors 26 = .ok (.iload_n 2, 1) := by decide +kernel
theorem dX12_seniors_27 : decode cX12_seniors 27 = .ok (.iaload, 1) := by decide +kernel
theorem dX12_seniors_28 : decode cX12_seniors 28 = .ok (.iconst (-1), 1) := by decide +kernel
theorem dX12_seniors_29 : decode cX12_seniors 29 = .ok (.if_icmp .ne 6, 3) := by decide +kernel
theorem dX12_seniors_32 : decode cX12_seniors 32 = .ok (.goto 105, 3) := by decide +kernel
theorem dX12_seniors_35 : decode cX12_seniors 35 = .ok (.iload_n 1, 1) := by decide +kernel
theorem dX12_seniors_36 : decode cX12_seniors 36 = .ok (.iinc 1 1, 3) := by decide +kernel
theorem dX12_seniors_39 : decode cX12_seniors 39 = .ok (.istore_n 3, 1) := by decide +kernel
theorem dX12_seniors_40 : decode cX12_seniors 40 = .ok (.iload_n 3, 1) := by decide +kernel
theorem dX12_seniors_41 : decode cX12_seniors 41 = .ok (.ifCond .le 89, 3) := by decide +kernel
theorem dX12_seniors_44 : decode cX12_seniors 44 = .ok (.aload_n 0, 1) := by decide +kernel
theorem dX12_seniors_45 : decode cX12_seniors 45 = .ok (.getfield 112, 3) := by decide +kernel
theorem dX12_seniors_48 : decode cX12_seniors 48 = .ok (.aload_n 0, 1) := by decide +kernel
theorem dX12_seniors_49 : decode cX12_seniors 49 = .ok (.getfield 238, 3) := by decide +kernel
theorem dX12_seniors_52 : decode cX12_seniors 52 = .ok (.iload_n 3, 1) := by decide +kernel
theorem dX12_seniors_53 : decode cX12_seniors 53 = .ok (.iconst 1, 1) := by decide +kernel
theorem dX12_seniors_54 : decode cX12_seniors 54 = .ok (.isub, 1) := by decide +kernel
theorem dX12_seniors_55 : decode cX12_seniors 55 = .ok (.iaload, 1) := by decide +kernel
theorem dX12_seniors_56 : decode cX12_seniors 56 = .ok (.iaload, 1) := by decide +kernel
theorem dX12_seniors_57 : decode cX12_seniors 57 = .ok (.aload_n 0, 1) := by decide +kernel
theorem dX12_seniors_58 : decode cX12_seniors 58 = .ok (.getfield 112, 3) := by decide +kernel
theorem dX12_seniors_61 : decode cX12_seniors 61 = .ok (.iload_n 2, 1) := by decide +kernel
theorem dX12_seniors_62 : decode cX12_seniors 62 = .ok (.iaload, 1) := by decide +kernel
theorem dX12_seniors_63 : decode cX12_seniors 63 = .ok (.if_icmp .gt 47, 3) := by decide +kernel
theorem dX12_seniors_66 : decode cX12_seniors 66 = .ok (.aload_n 0, 1) := by decide +kernel
theorem dX12_seniors_67 : decode cX12_seniors 67 = .ok (.getfield 112, 3) := by decide +kernel
theorem dX12_seniors_70 : decode cX12_seniors 70 = .ok (.aload_n 0, 1) := by decide +kernel
theorem dX12_seniors_71 : decode cX12_seniors 71 = .ok (.getfield 238, 3) := by decide +kernel
theorem dX12_seniors_74 : decode cX12_seniors 74 = .ok (.iload_n 3, 1) := by decide +kernel
theorem dX12_seniors_75 : decode cX12_seniors 75 = .ok (.iconst 1, 1) := by decide +kernel
theorem dX12_seniors_76 : decode cX12_seniors 76 = .ok (.isub, 1) := by decide +kernel
theorem dX12_seniors_77 : decode cX12_seniors 77 = .ok (.iaload, 1) := by decide +kernel
theorem dX12_seniors_78 : decode cX12_seniors 78 = .ok (.iaload, 1) := by decide +kernel
theorem dX12_seniors_79 : decode cX12_seniors 79 = .ok (.aload_n 0, 1) := by decide +kernel
theorem dX12_seniors_80 : decode cX12_seniors 80 = .ok (.getfield 112, 3) := by decide +kernel
theorem dX12_seniors_83 : decode cX12_seniors 83 = .ok (.iload_n 2, 1) := by decide +kernel
theorem dX12_seniors_84 : decode cX12_seniors 84 = .ok (.iaload, 1) := by decide +kernel
theorem dX12_seniors_85 : decode cX12_seniors 85 = .ok (.if_icmp .ne 45, 3) := by decide +kernel
theorem dX12_seniors_88 : decode cX12_seniors 88 = .ok (.aload_n 0, 1) := by decide +kernel
theorem dX12_seniors_89 : decode cX12_seniors 89 = .ok (.getfield 109, 3) := by decide +kernel
theorem dX12_seniors_92 : decode cX12_seniors 92 = .ok (.aload_n 0, 1) := by decide +kernel
theorem dX12_seniors_93 : decode cX12_seniors 93 = .ok (.getfield 238, 3) := by decide +kernel
theorem dX12_seniors_96 : decode cX12_seniors 96 = .ok (.iload_n 3, 1) := by decide +kernel
theorem dX12_seniors_97 : decode cX12_seniors 97 = .ok (.iconst 1, 1) := by decide +kernel
theorem dX12_seniors_98 : decode cX12_seniors 98 = .ok (.isub, 1) := by decide +kernel
theorem dX12_seniors_99 : decode cX12_seniors 99 = .ok (.iaload, 1) := by decide +kernel
theorem dX12_seniors_100 : decode cX12_seniors 100 = .ok (.iaload, 1) := by decide +kernel
theorem dX12_seniors_101 : decode cX12_seniors 101 = .ok (.aload_n 0, 1) := by decide +kernel
theorem dX12_seniors_102 : decode cX12_seniors 102 = .ok (.getfield 109, 3) := by decide +kernel
theorem dX12_seniors_105 : decode cX12_seniors 105 = .ok (.iload_n 2, 1) := by decide +kernel
theorem dX12_seniors_106 : decode cX12_seniors 106 = .ok (.iaload, 1) := by decide +kernel
theorem dX12_seniors_107 : decode cX12_seniors 107 = .ok (.if_icmp .le 23, 3) := by decide +kernel
theorem dX12_seniors_110 : decode cX12_seniors 110 = .ok (.aload_n 0, 1) := by decide +kernel
theorem dX12_seniors_111 : decode cX12_seniors 111 = .ok (.getfield 238, 3) := by decide +kernel
theorem dX12_seniors_114 : decode cX12_seniors 114 = .ok (.iload_n 3, 1) := by decide +kernel
theorem dX12_seniors_115 : decode cX12_seniors 115 = .ok (.aload_n 0, 1) := by decide +kernel
theorem dX12_seniors_116 : decode cX12_seniors 116 = .ok (.getfield 238, 3) := by decide +kernel
theorem dX12_seniors_119 : decode cX12_seniors 119 = .ok (.iload_n 3, 1) := by decide +kernel
theorem dX12_seniors_120 : decode cX12_seniors 120 = .ok (.iconst 1, 1) := by decide +kernel
theorem dX12_seniors_121 : decode cX12_seniors 121 = .ok (.isub, 1) := by decide +kernel
theorem dX12_seniors_122 : decode cX12_seniors 122 = .ok (.iaload, 1) := by decide +kernel
theorem dX12_seniors_123 : decode cX12_seniors 123 = .ok (.iastore, 1) := by decide +kernel
theorem dX12_seniors_124 : decode cX12_seniors 124 = .ok (.iinc 3 (-1), 3) := by decide +kernel
theorem dX12_seniors_127 : decode cX12_seniors 127 = .ok (.goto (-87), 3) := by decide +kernel
theorem dX12_seniors_130 : decode cX12_seniors 130 = .ok (.aload_n 0, 1) := by decide +kernel
theorem dX12_seniors_131 : decode cX12_seniors 131 = .ok (.getfield 238, 3) := by decide +kernel
theorem dX12_seniors_134 : decode cX12_seniors 134 = .ok (.iload_n 3, 1) := by decide +kernel
theorem dX12_seniors_135 : decode cX12_seniors 135 = .ok (.iload_n 2, 1) := by decide +kernel
theorem dX12_seniors_136 : decode cX12_seniors 136 = .ok (.iastore, 1) := by decide +kernel
theorem dX12_seniors_137 : decode cX12_seniors 137 = .ok (.iinc 2 1, 3) := by decide +kernel
theorem dX12_seniors_140 : decode cX12_seniors 140 = .ok (.goto (-136), 3) := by decide +kernel
theorem dX12_seniors_143 : decode cX12_seniors 143 = .ok (.iload_n 1, 1) := by decide +kernel
theorem dX12_seniors_144 : decode cX12_seniors 144 = .ok (.ireturn, 1) := by decide +kernel
theorem dX12_isAsked_0 : decode cX12_isAsked 0 = .ok (.aload_n 0, 1) := by decide +kernel
theorem dX12_isAsked_1 : decode cX12_isAsked 1 = .ok (.getfield 106, 3) := by decide +kernel
theorem dX12_isAsked_4 : decode cX12_isAsked 4 = .ok (.iload_n 1, 1) := by decide +kernel
theorem dX12_isAsked_5 : decode cX12_isAsked 5 = .ok (.iaload, 1) := by decide +kernel
theorem dX12_isAsked_6 : decode cX12_isAsked 6 = .ok (.iconst 3, 1) := by decide +kernel
theorem dX12_isAsked_7 : decode cX12_isAsked 7 = .ok (.if_icmp .ne 13, 3) := by decide +kernel
theorem dX12_isAsked_10 : decode cX12_isAsked 10 = .ok (.aload_n 0, 1) := by decide +kernel
theorem dX12_isAsked_11 : decode cX12_isAsked 11 = .ok (.getfield 109, 3) := by decide +kernel
theorem dX12_isAsked_14 : decode cX12_isAsked 14 = .ok (.iload_n 1, 1) := by decide +kernel
theorem dX12_isAsked_15 : decode cX12_isAsked 15 = .ok (.iaload, 1) := by decide +kernel
theorem dX12_isAsked_16 : decode cX12_isAsked 16 = .ok (.iconst (-1), 1) := by decide +kernel
theorem dX12_isAsked_17 : decode cX12_isAsked 17 = .ok (.if_icmp .eq 5, 3) := by decide +kernel
theorem dX12_isAsked_20 : decode cX12_isAsked 20 = .ok (.iconst (-1), 1) := by decide +kernel
theorem dX12_isAsked_21 : decode cX12_isAsked 21 = .ok (.ireturn, 1) := by decide +kernel
theorem dX12_isAsked_22 : decode cX12_isAsked 22 = .ok (.aload_n 0, 1) := by decide +kernel
theorem dX12_isAsked_23 : decode cX12_isAsked 23 = .ok (.invokevirtual 409, 3) := by decide +kernel
theorem dX12_isAsked_26 : decode cX12_isAsked 26 = .ok (.istore_n 2, 1) := by decide +kernel
theorem dX12_isAsked_27 : decode cX12_isAsked 27 = .ok (.iconst 0, 1) := by decide +kernel
theorem dX12_isAsked_28 : decode cX12_isAsked 28 = .ok (.istore_n 3, 1) := by decide +kernel
theorem dX12_isAsked_29 : decode cX12_isAsked 29 = .ok (.iload_n 3, 1) := by decide +kernel
theorem dX12_isAsked_30 : decode cX12_isAsked 30 = .ok (.iload_n 2, 1) := by decide +kernel
theorem dX12_isAsked_31 : decode cX12_isAsked 31 = .ok (.if_icmp .ge 60, 3) := by decide +kernel
theorem dX12_isAsked_34 : decode cX12_isAsked 34 = .ok (.aload_n 0, 1) := by decide +kernel
theorem dX12_isAsked_35 : decode cX12_isAsked 35 = .ok (.getfield 109, 3) := by decide +kernel
theorem dX12_isAsked_38 : decode cX12_isAsked 38 = .ok (.aload_n 0, 1) := by decide +kernel
theorem dX12_isAsked_39 : decode cX12_isAsked 39 = .ok (.getfield 238, 3) := by decide +kernel
theorem dX12_isAsked_42 : decode cX12_isAsked 42 = .ok (.iload_n 3, 1) := by decide +kernel
theorem dX12_isAsked_43 : decode cX12_isAsked 43 = .ok (.iaload, 1) := by decide +kernel
theorem dX12_isAsked_44 : decode cX12_isAsked 44 = .ok (.iaload, 1) := by decide +kernel
theorem dX12_isAsked_45 : decode cX12_isAsked 45 = .ok (.istore 4, 2) := by decide +kernel
theorem dX12_isAsked_47 : decode cX12_isAsked 47 = .ok (.aload_n 0, 1) := by decide +kernel
theorem dX12_isAsked_48 : decode cX12_isAsked 48 = .ok (.getfield 118, 3) := by decide +kernel
theorem dX12_isAsked_51 : decode cX12_isAsked 51 = .ok (.iload_n 1, 1) := by decide +kernel
theorem dX12_isAsked_52 : decode cX12_isAsked 52 = .ok (.iaload, 1) := by decide +kernel
theorem dX12_isAsked_53 : decode cX12_isAsked 53 = .ok (.iload 4, 2) := by decide +kernel
theorem dX12_isAsked_55 : decode cX12_isAsked 55 = .ok (.ishr, 1) := by decide +kernel
theorem dX12_isAsked_56 : decode cX12_isAsked 56 = .ok (.iconst 1, 1) := by decide +kernel
theorem dX12_isAsked_57 : decode cX12_isAsked 57 = .ok (.iand, 1) := by decide +kernel
theorem dX12_isAsked_58 : decode cX12_isAsked 58 = .ok (.ifCond .ne 27, 3) := by decide +kernel
theorem dX12_isAsked_61 : decode cX12_isAsked 61 = .ok (.aload_n 0, 1) := by decide +kernel
theorem dX12_isAsked_62 : decode cX12_isAsked 62 = .ok (.iload 4, 2) := by decide +kernel
theorem dX12_isAsked_64 : decode cX12_isAsked 64 = .ok (.iconst 3, 1) := by decide +kernel
theorem dX12_isAsked_65 : decode cX12_isAsked 65 = .ok (.invokevirtual 375, 3) := by decide +kernel
theorem dX12_isAsked_68 : decode cX12_isAsked 68 = .ok (.iconst (-1), 1) := by decide +kernel
theorem dX12_isAsked_69 : decode cX12_isAsked 69 = .ok (.if_icmp .ne 16, 3) := by decide +kernel
theorem dX12_isAsked_72 : decode cX12_isAsked 72 = .ok (.aload_n 0, 1) := by decide +kernel
theorem dX12_isAsked_73 : decode cX12_isAsked 73 = .ok (.iload 4, 2) := by decide +kernel
theorem dX12_isAsked_75 : decode cX12_isAsked 75 = .ok (.iconst 3, 1) := by decide +kernel
theorem dX12_isAsked_76 : decode cX12_isAsked 76 = .ok (.invokevirtual 371, 3) := by decide +kernel
theorem dX12_isAsked_79 : decode cX12_isAsked 79 = .ok (.ifCond .eq 6, 3) := by decide +kernel
theorem dX12_isAsked_82 : decode cX12_isAsked 82 = .ok (.iload 4, 2) := by decide +kernel
theorem dX12_isAsked_84 : decode cX12_isAsked 84 = .ok (.ireturn, 1) := by decide +kernel
theorem dX12_isAsked_85 : decode cX12_isAsked 85 = .ok (.iinc 3 1, 3) := by decide +kernel
theorem dX12_isAsked_88 : decode cX12_isAsked 88 = .ok (.goto (-59), 3) := by decide +kernel
theorem dX12_isAsked_91 : decode cX12_isAsked 91 = .ok (.iconst (-1), 1) := by decide +kernel
theorem dX12_isAsked_92 : decode cX12_isAsked 92 = .ok (.ireturn, 1) := by decide +kernel
theorem dX12_asked_0 : decode cX12_asked 0 = .ok (.aload_n 0, 1) := by decide +kernel
theorem dX12_asked_1 : decode cX12_asked 1 = .ok (.iload_n 1, 1) := by decide +kernel
theorem dX12_asked_2 : decode cX12_asked 2 = .ok (.invokevirtual 368, 3) := by decide +kernel
theorem dX12_asked_5 : decode cX12_asked 5 = .ok (.ifCond .eq 11, 3) := by decide +kernel
theorem dX12_asked_8 : decode cX12_asked 8 = .ok (.aload_n 0, 1) := by decide +kernel
theorem dX12_asked_9 : decode cX12_asked 9 = .ok (.iload_n 1, 1) := by decide +kernel
theorem dX12_asked_10 : decode cX12_asked 10 = .ok (.invokevirtual 412, 3) := by decide +kernel
theorem dX12_asked_13 : decode cX12_asked 13 = .ok (.goto 4, 3) := by decide +kernel
theorem dX12_asked_16 : decode cX12_asked 16 = .ok (.iconst (-1), 1) := by decide +kernel
theorem dX12_asked_17 : decode cX12_asked 17 = .ok (.ireturn, 1) := by decide +kernel
theorem dX12_answer_0 : decode cX12_answer 0 = .ok (.aload_n 0, 1) := by decide +kernel
theorem dX12_answer_1 : decode cX12_answer 1 = .ok (.iload_n 1, 1) := by decide +kernel
theorem dX12_answer_2 : decode cX12_answer 2 = .ok (.invokevirtual 368, 3) := by decide +kernel
theorem dX12_answer_5 : decode cX12_answer 5 = .ok (.ifCond .ne 9, 3) := by decide +kernel
theorem dX12_answer_8 : decode cX12_answer 8 = .ok (.aload_n 0, 1) := by decide +kernel
theorem dX12_answer_9 : decode cX12_answer 9 = .ok (.iconst (-1), 1) := by decide +kernel
theorem dX12_answer_10 : decode cX12_answer 10 = .ok (.invokevirtual 267, 3) := by decide +kernel
theorem dX12_answer_13 : decode cX12_answer 13 = .ok (.ireturn, 1) := by decide +kernel
theorem dX12_answer_14 : decode cX12_answer 14 = .ok (.aload_n 0, 1) := by decide +kernel
theorem dX12_answer_15 : decode cX12_answer 15 = .ok (.iload_n 1, 1) := by decide +kernel
theorem dX12_answer_16 : decode cX12_answer 16 = .ok (.invokevirtual 412, 3) := by decide +kernel
theorem dX12_answer_19 : decode cX12_answer 19 = .ok (.istore_n 3, 1) := by decide +kernel
theorem dX12_answer_20 : decode cX12_answer 20 = .ok (.iload_n 3, 1) := by decide +kernel
theorem dX12_answer_21 : decode cX12_answer 21 = .ok (.iconst (-1), 1) := by decide +kernel
theorem dX12_answer_22 : decode cX12_answer 22 = .ok (.if_icmp .ne 10, 3) := by decide +kernel
theorem dX12_answer_25 : decode cX12_answer 25 = .ok (.aload_n 0, 1) := by decide +kernel
theorem dX12_answer_26 : decode cX12_answer 26 = .ok (.bipush (-6), 2) := by decide +kernel
theorem dX12_answer_28 : decode cX12_answer 28 = .ok (.invokevirtual 267, 3) := by decide +kernel
theorem dX12_answer_31 : decode cX12_answer 31 = .ok (.ireturn, 1) := by decide +kernel
theorem dX12_answer_32 : decode cX12_answer 32 = .ok (.iload_n 2, 1) := by decide +kernel
theorem dX12_answer_33 : decode cX12_answer 33 = .ok (.ifCond .eq 12, 3) := by decide +kernel
theorem dX12_answer_36 : decode cX12_answer 36 = .ok (.aload_n 0, 1) := by decide +kernel
theorem dX12_answer_37 : decode cX12_answer 37 = .ok (.iload_n 3, 1) := by decide +kernel
theorem dX12_answer_38 : decode cX12_answer 38 = .ok (.iload_n 1, 1) := by decide +kernel
theorem dX12_answer_39 : decode cX12_answer 39 = .ok (.invokevirtual 378, 3) := by decide +kernel
theorem dX12_answer_42 : decode cX12_answer 42 = .ok (.goto 15, 3) := by decide +kernel
theorem dX12_answer_45 : decode cX12_answer 45 = .ok (.aload_n 0, 1) := by decide +kernel
theorem dX12_answer_46 : decode cX12_answer 46 = .ok (.getfield 118, 3) := by decide +kernel
theorem dX12_answer_49 : decode cX12_answer 49 = .ok (.iload_n 1, 1) := by decide +kernel
theorem dX12_answer_50 : decode cX12_answer 50 = .ok (.dup2, 1) := by decide +kernel
theorem dX12_answer_51 : decode cX12_answer 51 = .ok (.iaload, 1) := by decide +kernel
theorem dX12_answer_52 : decode cX12_answer 52 = .ok (.iconst 1, 1) := by decide +kernel
theorem dX12_answer_53 : decode cX12_answer 53 = .ok (.iload_n 3, 1) := by decide +kernel
theorem dX12_answer_54 : decode cX12_answer 54 = .ok (.ishl, 1) := by decide +kernel
theorem dX12_answer_55 : decode cX12_answer 55 = .ok (.ior, 1) := by decide +kernel
theorem dX12_answer_56 : decode cX12_answer 56 = .ok (.iastore, 1) := by decide +kernel
theorem dX12_answer_57 : decode cX12_answer 57 = .ok (.iload_n 3, 1) := by decide +kernel
theorem dX12_answer_58 : decode cX12_answer 58 = .ok (.ireturn, 1) := by decide +kernel
theorem dX12_isLease_0 : decode cX12_isLease 0 = .ok (.iload_n 0, 1) := by decide +kernel
theorem dX12_isLease_1 : decode cX12_isLease 1 = .ok (.iconst 1, 1) := by decide +kernel
theorem dX12_isLease_2 : decode cX12_isLease 2 = .ok (.if_icmp .lt 46, 3) := by decide +kernel
theorem dX12_isLease_5 : decode cX12_isLease 5 = .ok (.iload_n 0, 1) := by decide +kernel
theorem dX12_isLease_6 : decode cX12_isLease 6 = .ok (.sipush 9999, 3) := by decide +kernel
theorem dX12_isLease_9 : decode cX12_isLease 9 = .ok (.if_icmp .gt 39, 3) := by decide +kernel
theorem dX12_isLease_12 : decode cX12_isLease 12 = .ok (.iload_n 1, 1) := by decide +kernel
theorem dX12_isLease_13 : decode cX12_isLease 13 = .ok (.ifCond .lt 35, 3) := by decide +kernel
theorem dX12_isLease_16 : decode cX12_isLease 16 = .ok (.iload_n 1, 1) := by decide +kernel
theorem dX12_isLease_17 : decode cX12_isLease 17 = .ok (.sipush 999, 3) := by decide +kernel
theorem dX12_isLease_20 : decode cX12_isLease 20 = .ok (.if_icmp .gt 28, 3) := by decide +kernel
theorem dX12_isLease_23 : decode cX12_isLease 23 = .ok (.iload_n 2, 1) := by decide +kernel
theorem dX12_isLease_24 : decode cX12_isLease 24 = .ok (.ifCond .lt 24, 3) := by decide +kernel
theorem dX12_isLease_27 : decode cX12_isLease 27 = .ok (.iload_n 2, 1) := by decide +kernel
theorem dX12_isLease_28 : decode cX12_isLease 28 = .ok (.sipush 999, 3) := by decide +kernel
theorem dX12_isLease_31 : decode cX12_isLease 31 = .ok (.if_icmp .gt 17, 3) := by decide +kernel
theorem dX12_isLease_34 : decode cX12_isLease 34 = .ok (.iload_n 3, 1) := by decide +kernel
theorem dX12_isLease_35 : decode cX12_isLease 35 = .ok (.ifCond .lt 13, 3) := by decide +kernel
theorem dX12_isLease_38 : decode cX12_isLease 38 = .ok (.iload_n 3, 1) := by decide +kernel
theorem dX12_isLease_39 : decode cX12_isLease 39 = .ok (.bipush 51, 2) := by decide +kernel
theorem dX12_isLease_41 : decode cX12_isLease 41 = .ok (.if_icmp .gt 7, 3) := by decide +kernel
theorem dX12_isLease_44 : decode cX12_isLease 44 = .ok (.iconst 1, 1) := by decide +kernel
theorem dX12_isLease_45 : decode cX12_isLease 45 = .ok (.goto 4, 3) := by decide +kernel
theorem dX12_isLease_48 : decode cX12_isLease 48 = .ok (.iconst 0, 1) := by decide +kernel
theorem dX12_isLease_49 : decode cX12_isLease 49 = .ok (.ireturn, 1) := by decide +kernel
theorem dX12_lets_0 : decode cX12_lets 0 = .ok (.aload_n 0, 1) := by decide +kernel
theorem dX12_lets_1 : decode cX12_lets 1 = .ok (.getfield 136, 3) := by decide +kernel
theorem dX12_lets_4 : decode cX12_lets 4 = .ok (.aload_n 0, 1) := by decide +kernel
theorem dX12_lets_5 : decode cX12_lets 5 = .ok (.getfield 415, 3) := by decide +kernel
theorem dX12_lets_8 : decode cX12_lets 8 = .ok (.iload_n 1, 1) := by decide +kernel
theorem dX12_lets_9 : decode cX12_lets 9 = .ok (.iastore, 1) := by decide +kernel
theorem dX12_lets_10 : decode cX12_lets 10 = .ok (.aload_n 0, 1) := by decide +kernel
theorem dX12_lets_11 : decode cX12_lets 11 = .ok (.getfield 139, 3) := by decide +kernel
theorem dX12_lets_14 : decode cX12_lets 14 = .ok (.aload_n 0, 1) := by decide +kernel
theorem dX12_lets_15 : decode cX12_lets 15 = .ok (.getfield 415, 3) := by decide +kernel
theorem dX12_lets_18 : decode cX12_lets 18 = .ok (.iload_n 2, 1) := by decide +kernel
theorem dX12_lets_19 : decode cX12_lets 19 = .ok (.iastore, 1) := by decide +kernel
theorem dX12_lets_20 : decode cX12_lets 20 = .ok (.aload_n 0, 1) := by decide +kernel
theorem dX12_lets_21 : decode cX12_lets 21 = .ok (.getfield 142, 3) := by decide +kernel
theorem dX12_lets_24 : decode cX12_lets 24 = .ok (.aload_n 0, 1) := by decide +kernel
theorem dX12_lets_25 : decode cX12_lets 25 = .ok (.getfield 415, 3) := by decide +kernel
theorem dX12_lets_28 : decode cX12_lets 28 = .ok (.iload_n 3, 1) := by decide +kernel
theorem dX12_lets_29 : decode cX12_lets 29 = .ok (.iastore, 1) := by decide +kernel
theorem dX12_lets_30 : decode cX12_lets 30 = .ok (.aload_n 0, 1) := by decide +kernel
theorem dX12_lets_31 : decode cX12_lets 31 = .ok (.getfield 145, 3) := by decide +kernel
theorem dX12_lets_34 : decode cX12_lets 34 = .ok (.aload_n 0, 1) := by decide +kernel
theorem dX12_lets_35 : decode cX12_lets 35 = .ok (.getfield 415, 3) := by decide +kernel
theorem dX12_lets_38 : decode cX12_lets 38 = .ok (.iload 4, 2) := by decide +kernel
theorem dX12_lets_40 : decode cX12_lets 40 = .ok (.iastore, 1) := by decide +kernel
theorem dX12_lets_41 : decode cX12_lets 41 = .ok (.aload_n 0, 1) := by decide +kernel
theorem dX12_lets_42 : decode cX12_lets 42 = .ok (.getfield 148, 3) := by decide +kernel
theorem dX12_lets_45 : decode cX12_lets 45 = .ok (.aload_n 0, 1) := by decide +kernel
theorem dX12_lets_46 : decode cX12_lets 46 = .ok (.getfield 415, 3) := by decide +kernel
theorem dX12_lets_49 : decode cX12_lets 49 = .ok (.iload 5, 2) := by decide +kernel
theorem dX12_lets_51 : decode cX12_lets 51 = .ok (.iastore, 1) := by decide +kernel
theorem dX12_lets_52 : decode cX12_lets 52 = .ok (.aload_n 0, 1) := by decide +kernel
theorem dX12_lets_53 : decode cX12_lets 53 = .ok (.getfield 151, 3) := by decide +kernel
theorem dX12_lets_56 : decode cX12_lets 56 = .ok (.aload_n 0, 1) := by decide +kernel
theorem dX12_lets_57 : decode cX12_lets 57 = .ok (.getfield 415, 3) := by decide +kernel
theorem dX12_lets_60 : decode cX12_lets 60 = .ok (.iload 6, 2) := by decide +kernel
theorem dX12_lets_62 : decode cX12_lets 62 = .ok (.iastore, 1) := by decide +kernel
theorem dX12_lets_63 : decode cX12_lets 63 = .ok (.aload_n 0, 1) := by decide +kernel
theorem dX12_lets_64 : decode cX12_lets 64 = .ok (.getfield 154, 3) := by decide +kernel
theorem dX12_lets_67 : decode cX12_lets 67 = .ok (.aload_n 0, 1) := by decide +kernel
theorem dX12_lets_68 : decode cX12_lets 68 = .ok (.getfield 415, 3) := by decide +kernel
theorem dX12_lets_71 : decode cX12_lets 71 = .ok (.iload 7, 2) := by decide +kernel
theorem dX12_lets_73 : decode cX12_lets 73 = .ok (.iastore, 1) := by decide +kernel
theorem dX12_lets_74 : decode cX12_lets 74 = .ok (.aload_n 0, 1) := by decide +kernel
theorem dX12_lets_75 : decode cX12_lets 75 = .ok (.dup, 1) := by decide +kernel
theorem dX12_lets_76 : decode cX12_lets 76 = .ok (.getfield 415, 3) := by decide +kernel
theorem dX12_lets_79 : decode cX12_lets 79 = .ok (.dup_x1, 1) := by decide +kernel
theorem dX12_lets_80 : decode cX12_lets 80 = .ok (.iconst 1, 1) := by decide +kernel
theorem dX12_lets_81 : decode cX12_lets 81 = .ok (.iadd, 1) := by decide +kernel
theorem dX12_lets_82 : decode cX12_lets 82 = .ok (.putfield 415, 3) := by decide +kernel
theorem dX12_lets_85 : decode cX12_lets 85 = .ok (.ireturn, 1) := by decide +kernel
theorem dX12_lease_0 : decode cX12_lease 0 = .ok (.iload_n 1, 1) := by decide +kernel
theorem dX12_lease_1 : decode cX12_lease 1 = .ok (.iload_n 2, 1) := by decide +kernel
theorem dX12_lease_2 : decode cX12_lease 2 = .ok (.iload_n 3, 1) := by decide +kernel
theorem dX12_lease_3 : decode cX12_lease 3 = .ok (.iload 4, 2) := by decide +kernel
theorem dX12_lease_5 : decode cX12_lease 5 = .ok (.invokestatic 418, 3) := by decide +kernel
theorem dX12_lease_8 : decode cX12_lease 8 = .ok (.ifCond .eq 29, 3) := by decide +kernel
theorem dX12_lease_11 : decode cX12_lease 11 = .ok (.iload 5, 2) := by decide +kernel
theorem dX12_lease_13 : decode cX12_lease 13 = .ok (.iconst 1, 1) := by decide +kernel
theorem dX12_lease_14 : decode cX12_lease 14 = .ok (.if_icmp .lt 23, 3) := by decide +kernel
theorem dX12_lease_17 : decode cX12_lease 17 = .ok (.iload 5, 2) := by decide +kernel
theorem dX12_lease_19 : decode cX12_lease 19 = .ok (.bipush 40, 2) := by decide +kernel
theorem dX12_lease_21 : decode cX12_lease 21 = .ok (.if_icmp .gt 16, 3) := by decide +kernel
theorem dX12_lease_24 : decode cX12_lease 24 = .ok (.iload 6, 2) := by decide +kernel
theorem dX12_lease_26 : decode cX12_lease 26 = .ok (.ifCond .lt 11, 3) := by decide +kernel
theorem dX12_lease_29 : decode cX12_lease 29 = .ok (.iload 6, 2) := by decide +kernel
theorem dX12_lease_31 : decode cX12_lease 31 = .ok (.sipush 200, 3) := by decide +kernel
theorem dX12_lease_34 : decode cX12_lease 34 = .ok (.if_icmp .le 10, 3) := by decide +kernel
theorem dX12_lease_37 : decode cX12_lease 37 = .ok (.aload_n 0, 1) := by decide +kernel
theorem dX12_lease_38 : decode cX12_lease 38 = .ok (.bipush (-6), 2) := by decide +kernel
theorem dX12_lease_40 : decode cX12_lease 40 = .ok (.invokevirtual 267, 3) := by decide +kernel
theorem dX12_lease_43 : decode cX12_lease 43 = .ok (.ireturn, 1) := by decide +kernel
theorem dX12_lease_44 : decode cX12_lease 44 = .ok (.aload_n 0, 1) := by decide +kernel
theorem dX12_lease_45 : decode cX12_lease 45 = .ok (.getfield 415, 3) := by decide +kernel
theorem dX12_lease_48 : decode cX12_lease 48 = .ok (.bipush 8, 2) := by decide +kernel
theorem dX12_lease_50 : decode cX12_lease 50 = .ok (.if_icmp .ne 10, 3) := by decide +kernel
theorem dX12_lease_53 : decode cX12_lease 53 = .ok (.aload_n 0, 1) := by decide +kernel
theorem dX12_lease_54 : decode cX12_lease 54 = .ok (.bipush (-7), 2) := by decide +kernel
theorem dX12_lease_56 : decode cX12_lease 56 = .ok (.invokevirtual 267, 3) := by decide +kernel
theorem dX12_lease_59 : decode cX12_lease 59 = .ok (.ireturn, 1) := by decide +kernel
theorem dX12_lease_60 : decode cX12_lease 60 = .ok (.aload_n 0, 1) := by decide +kernel
theorem dX12_lease_61 : decode cX12_lease 61 = .ok (.iload_n 1, 1) := by decide +kernel
theorem dX12_lease_62 : decode cX12_lease 62 = .ok (.iload_n 2, 1) := by decide +kernel
theorem dX12_lease_63 : decode cX12_lease 63 = .ok (.iload_n 3, 1) := by decide +kernel
theorem dX12_lease_64 : decode cX12_lease 64 = .ok (.iload 4, 2) := by decide +kernel
theorem dX12_lease_66 : decode cX12_lease 66 = .ok (.iload 5, 2) := by decide +kernel
theorem dX12_lease_68 : decode cX12_lease 68 = .ok (.iload 6, 2) := by decide +kernel
theorem dX12_lease_70 : decode cX12_lease 70 = .ok (.iconst 0, 1) := by decide +kernel
theorem dX12_lease_71 : decode cX12_lease 71 = .ok (.invokevirtual 421, 3) := by decide +kernel
theorem dX12_lease_74 : decode cX12_lease 74 = .ok (.ireturn, 1) := by decide +kernel
theorem dX12_bits_0 : decode cX12_bits 0 = .ok (.iconst 0, 1) := by decide +kernel
theorem dX12_bits_1 : decode cX12_bits 1 = .ok (.istore_n 1, 1) := by decide +kernel
theorem dX12_bits_2 : decode cX12_bits 2 = .ok (.iconst 0, 1) := by decide +kernel
theorem dX12_bits_3 : decode cX12_bits 3 = .ok (.istore_n 2, 1) := by decide +kernel
theorem dX12_bits_4 : decode cX12_bits 4 = .ok (.iload_n 2, 1) := by decide +kernel
theorem dX12_bits_5 : decode cX12_bits 5 = .ok (.bipush 24, 2) := by decide +kernel
theorem dX12_bits_7 : decode cX12_bits 7 = .ok (.if_icmp .ge 17, 3) := by decide +kernel
theorem dX12_bits_10 : decode cX12_bits 10 = .ok (.iload_n 1, 1) := by decide +kernel
theorem dX12_bits_11 : decode cX12_bits 11 = .ok (.iload_n 0, 1) := by decide +kernel
theorem dX12_bits_12 : decode cX12_bits 12 = .ok (.iload_n 2, 1) := by decide +kernel
theorem dX12_bits_13 : decode cX12_bits 13 = .ok (.ishr, 1) := by decide +kernel
theorem dX12_bits_14 : decode cX12_bits 14 = .ok (.iconst 1, 1) := by decide +kernel
theorem dX12_bits_15 : decode cX12_bits 15 = .ok (.iand, 1) := by decide +kernel
theorem dX12_bits_16 : decode cX12_bits 16 = .ok (.iadd, 1) := by decide +kernel
theorem dX12_bits_17 : decode cX12_bits 17 = .ok (.istore_n 1, 1) := by decide +kernel
theorem dX12_bits_18 : decode cX12_bits 18 = .ok (.iinc 2 1, 3) := by decide +kernel
theorem dX12_bits_21 : decode cX12_bits 21 = .ok (.goto (-17), 3) := by decide +kernel
theorem dX12_bits_24 : decode cX12_bits 24 = .ok (.iload_n 1, 1) := by decide +kernel
theorem dX12_bits_25 : decode cX12_bits 25 = .ok (.ireturn, 1) := by decide +kernel
theorem dX12_lives_0 : decode cX12_lives 0 = .ok (.iload 5, 2) := by decide +kernel
theorem dX12_lives_2 : decode cX12_lives 2 = .ok (.ifCond .lt 14, 3) := by decide +kernel
theorem dX12_lives_5 : decode cX12_lives 5 = .ok (.iload 5, 2) := by decide +kernel
theorem dX12_lives_7 : decode cX12_lives 7 = .ok (.iconst 1, 1) := by decide +kernel
theorem dX12_lives_8 : decode cX12_lives 8 = .ok (.aload_n 0, 1) := by decide +kernel
theorem dX12_lives_9 : decode cX12_lives 9 = .ok (.getfield 256, 3) := by decide +kernel
theorem dX12_lives_12 : decode cX12_lives 12 = .ok (.ishl, 1) := by decide +kernel
theorem dX12_lives_13 : decode cX12_lives 13 = .ok (.if_icmp .lt 9, 3) := by decide +kernel
theorem dX12_lives_16 : decode cX12_lives 16 = .ok (.aload_n 0, 1) := by decide +kernel
theorem dX12_lives_17 : decode cX12_lives 17 = .ok (.iconst (-1), 1) := by decide +kernel
theorem dX12_lives_18 : decode cX12_lives 18 = .ok (.invokevirtual 267, 3) := by decide +kernel
theorem dX12_lives_21 : decode cX12_lives 21 = .ok (.ireturn, 1) := by decide +kernel
theorem dX12_lives_22 : decode cX12_lives 22 = .ok (.iload_n 1, 1) := by decide +kernel
theorem dX12_lives_23 : decode cX12_lives 23 = .ok (.iload_n 2, 1) := by decide +kernel
theorem dX12_lives_24 : decode cX12_lives 24 = .ok (.iload_n 3, 1) := by decide +kernel
theorem dX12_lives_25 : decode cX12_lives 25 = .ok (.iload 4, 2) := by decide +kernel
theorem dX12_lives_27 : decode cX12_lives 27 = .ok (.invokestatic 418, 3) := by decide +kernel
theorem dX12_lives_30 : decode cX12_lives 30 = .ok (.ifCond .eq 21, 3) := by decide +kernel
theorem dX12_lives_33 : decode cX12_lives 33 = .ok (.iload 5, 2) := by decide +kernel
theorem dX12_lives_35 : decode cX12_lives 35 = .ok (.invokestatic 425, 3) := by decide +kernel
theorem dX12_lives_38 : decode cX12_lives 38 = .ok (.iconst 1, 1) := by decide +kernel
theorem dX12_lives_39 : decode cX12_lives 39 = .ok (.if_icmp .lt 12, 3) := by decide +kernel
theorem dX12_lives_42 : decode cX12_lives 42 = .ok (.iload 5, 2) := by decide +kernel
theorem dX12_lives_44 : decode cX12_lives 44 = .ok (.invokestatic 425, 3) := by decide +kernel
theorem dX12_lives_47 : decode cX12_lives 47 = .ok (.iconst 3, 1) := by decide +kernel
theorem dX12_lives_48 : decode cX12_lives 48 = .ok (.if_icmp .le 10, 3) := by decide +kernel
theorem dX12_lives_51 : decode cX12_lives 51 = .ok (.aload_n 0, 1) := by decide +kernel
theorem dX12_lives_52 : decode cX12_lives 52 = .ok (.bipush (-6), 2) := by decide +kernel
theorem dX12_lives_54 : decode cX12_lives 54 = .ok (.invokevirtual 267, 3) := by decide +kernel
theorem dX12_lives_57 : decode cX12_lives 57 = .ok (.ireturn, 1) := by decide +kernel
theorem dX12_lives_58 : decode cX12_lives 58 = .ok (.aload_n 0, 1) := by decide +kernel
theorem dX12_lives_59 : decode cX12_lives 59 = .ok (.getfield 415, 3) := by decide +kernel
theorem dX12_lives_62 : decode cX12_lives 62 = .ok (.bipush 8, 2) := by decide +kernel
theorem dX12_lives_64 : decode cX12_lives 64 = .ok (.if_icmp .ne 10, 3) := by decide +kernel
theorem dX12_lives_67 : decode cX12_lives 67 = .ok (.aload_n 0, 1) := by decide +kernel
theorem dX12_lives_68 : decode cX12_lives 68 = .ok (.bipush (-7), 2) := by decide +kernel
theorem dX12_lives_70 : decode cX12_lives 70 = .ok (.invokevirtual 267, 3) := by decide +kernel
theorem dX12_lives_73 : decode cX12_lives 73 = .ok (.ireturn, 1) := by decide +kernel
theorem dX12_lives_74 : decode cX12_lives 74 = .ok (.aload_n 0, 1) := by decide +kernel
theorem dX12_lives_75 : decode cX12_lives 75 = .ok (.iload_n 1, 1) := by decide +kernel
theorem dX12_lives_76 : decode cX12_lives 76 = .ok (.iload_n 2, 1) := by decide +kernel
theorem dX12_lives_77 : decode cX12_lives 77 = .ok (.iload_n 3, 1) := by decide +kernel
theorem dX12_lives_78 : decode cX12_lives 78 = .ok (.iload 4, 2) := by decide +kernel
theorem dX12_lives_80 : decode cX12_lives 80 = .ok (.iconst 0, 1) := by decide +kernel
theorem dX12_lives_81 : decode cX12_lives 81 = .ok (.iconst 0, 1) := by decide +kernel
theorem dX12_lives_82 : decode cX12_lives 82 = .ok (.iload 5, 2) := by decide +kernel
theorem dX12_lives_84 : decode cX12_lives 84 = .ok (.invokevirtual 421, 3) := by decide +kernel
theorem dX12_lives_87 : decode cX12_lives 87 = .ok (.ireturn, 1) := by decide +kernel
theorem dX12_price_0 : decode cX12_price 0 = .ok (.iload_n 1, 1) := by decide +kernel
theorem dX12_price_1 : decode cX12_price 1 = .ok (.ifCond .lt 46, 3) := by decide +kernel
theorem dX12_price_4 : decode cX12_price 4 = .ok (.iload_n 1, 1) := by decide +kernel
theorem dX12_price_5 : decode cX12_price 5 = .ok (.sipush 200, 3) := by decide +kernel
theorem dX12_price_8 : decode cX12_price 8 = .ok (.if_icmp .gt 39, 3) := by decide +kernel
theorem dX12_price_11 : decode cX12_price 11 = .ok (.iload_n 2, 1) := by decide +kernel
theorem dX12_price_12 : decode cX12_price 12 = .ok (.ifCond .lt 35, 3) := by decide +kernel
theorem dX12_price_15 : decode cX12_price 15 = .ok (.iload_n 2, 1) := by decide +kernel
theorem dX12_price_16 : decode cX12_price 16 = .ok (.bipush 51, 2) := by decide +kernel
theorem dX12_price_18 : decode cX12_price 18 = .ok (.if_icmp .gt 29, 3) := by decide +kernel
theorem dX12_price_21 : decode cX12_price 21 = .ok (.iload_n 3, 1) := by decide +kernel
theorem dX12_price_22 : decode cX12_price 22 = .ok (.ifCond .lt 25, 3) := by decide +kernel
theorem dX12_price_25 : decode cX12_price 25 = .ok (.iload_n 3, 1) := by decide +kernel
theorem dX12_price_26 : decode cX12_price 26 = .ok (.sipush 999, 3) := by decide +kernel
theorem dX12_price_29 : decode cX12_price 29 = .ok (.if_icmp .gt 18, 3) := by decide +kernel
theorem dX12_price_32 : decode cX12_price 32 = .ok (.aload_n 0, 1) := by decide +kernel
theorem dX12_price_33 : decode cX12_price 33 = .ok (.getfield 157, 3) := by decide +kernel
theorem dX12_price_36 : decode cX12_price 36 = .ok (.bipush 52, 2) := by decide +kernel
theorem dX12_price_38 : decode cX12_price 38 = .ok (.iload_n 1, 1) := by decide +kernel
theorem dX12_price_39 : decode cX12_price 39 = .ok (.imul, 1) := by decide +kernel
theorem dX12_price_40 : decode cX12_price 40 = .ok (.iload_n 2, 1) := by decide +kernel
theorem dX12_price_41 : decode cX12_price 41 = .ok (.iadd, 1) := by decide +kernel
theorem dX12_price_42 : decode cX12_price 42 = .ok (.iaload, 1) := by decide +kernel
theorem dX12_price_43 : decode cX12_price 43 = .ok (.iconst (-1), 1) := by decide +kernel
theorem dX12_price_44 : decode cX12_price 44 = .ok (.if_icmp .eq 10, 3) := by decide +kernel
theorem dX12_price_47 : decode cX12_price 47 = .ok (.aload_n 0, 1) := by decide +kernel
theorem dX12_price_48 : decode cX12_price 48 = .ok (.bipush (-6), 2) := by decide +kernel
theorem dX12_price_50 : decode cX12_price 50 = .ok (.invokevirtual 267, 3) := by decide +kernel
theorem dX12_price_53 : decode cX12_price 53 = .ok (.ireturn, 1) := by decide +kernel
theorem dX12_price_54 : decode cX12_price 54 = .ok (.aload_n 0, 1) := by decide +kernel
theorem dX12_price_55 : decode cX12_price 55 = .ok (.getfield 428, 3) := by decide +kernel
theorem dX12_price_58 : decode cX12_price 58 = .ok (.sipush 200, 3) := by decide +kernel
theorem dX12_price_61 : decode cX12_price 61 = .ok (.if_icmp .ne 10, 3) := by decide +kernel
theorem dX12_price_64 : decode cX12_price 64 = .ok (.aload_n 0, 1) := by decide +kernel
theorem dX12_price_65 : decode cX12_price 65 = .ok (.bipush (-7), 2) := by decide +kernel
theorem dX12_price_67 : decode cX12_price 67 = .ok (.invokevirtual 267, 3) := by decide +kernel
theorem dX12_price_70 : decode cX12_price 70 = .ok (.ireturn, 1) := by decide +kernel
theorem dX12_price_71 : decode cX12_price 71 = .ok (.aload_n 0, 1) := by decide +kernel
theorem dX12_price_72 : decode cX12_price 72 = .ok (.getfield 157, 3) := by decide +kernel
theorem dX12_price_75 : decode cX12_price 75 = .ok (.bipush 52, 2) := by decide +kernel
theorem dX12_price_77 : decode cX12_price 77 = .ok (.iload_n 1, 1) := by decide +kernel
theorem dX12_price_78 : decode cX12_price 78 = .ok (.imul, 1) := by decide +kernel
theorem dX12_price_79 : decode cX12_price 79 = .ok (.iload_n 2, 1) := by decide +kernel
theorem dX12_price_80 : decode cX12_price 80 = .ok (.iadd, 1) := by decide +kernel
theorem dX12_price_81 : decode cX12_price 81 = .ok (.iload_n 3, 1) := by decide +kernel
theorem dX12_price_82 : decode cX12_price 82 = .ok (.iastore, 1) := by decide +kernel
theorem dX12_price_83 : decode cX12_price 83 = .ok (.aload_n 0, 1) := by decide +kernel
theorem dX12_price_84 : decode cX12_price 84 = .ok (.dup, 1) := by decide +kernel
theorem dX12_price_85 : decode cX12_price 85 = .ok (.getfield 428, 3) := by decide +kernel
theorem dX12_price_88 : decode cX12_price 88 = .ok (.iconst 1, 1) := by decide +kernel
theorem dX12_price_89 : decode cX12_price 89 = .ok (.iadd, 1) := by decide +kernel
theorem dX12_price_90 : decode cX12_price 90 = .ok (.dup_x1, 1) := by decide +kernel
theorem dX12_price_91 : decode cX12_price 91 = .ok (.putfield 428, 3) := by decide +kernel
theorem dX12_price_94 : decode cX12_price 94 = .ok (.ireturn, 1) := by decide +kernel
theorem dX12_endOf_0 : decode cX12_endOf 0 = .ok (.aload_n 0, 1) := by decide +kernel
theorem dX12_endOf_1 : decode cX12_endOf 1 = .ok (.getfield 154, 3) := by decide +kernel
theorem dX12_endOf_4 : decode cX12_endOf 4 = .ok (.iload_n 1, 1) := by decide +kernel
theorem dX12_endOf_5 : decode cX12_endOf 5 = .ok (.iaload, 1) := by decide +kernel
theorem dX12_endOf_6 : decode cX12_endOf 6 = .ok (.ifCond .ne 10, 3) := by decide +kernel
theorem dX12_endOf_9 : decode cX12_endOf 9 = .ok (.aload_n 0, 1) := by decide +kernel
theorem dX12_endOf_10 : decode cX12_endOf 10 = .ok (.getfield 151, 3) := by decide +kernel
theorem dX12_endOf_13 : decode cX12_endOf 13 = .ok (.iload_n 1, 1) := by decide +kernel
theorem dX12_endOf_14 : decode cX12_endOf 14 = .ok (.iaload, 1) := by decide +kernel
theorem dX12_endOf_15 : decode cX12_endOf 15 = .ok (.ireturn, 1) := by decide +kernel
theorem dX12_endOf_16 : decode cX12_endOf 16 = .ok (.ldc_w 431, 3) := by decide +kernel
theorem dX12_endOf_19 : decode cX12_endOf 19 = .ok (.istore_n 2, 1) := by decide +kernel
theorem dX12_endOf_20 : decode cX12_endOf 20 = .ok (.iconst 0, 1) := by decide +kernel
theorem dX12_endOf_21 : decode cX12_endOf 21 = .ok (.istore_n 3, 1) := by decide +kernel
theorem dX12_endOf_22 : decode cX12_endOf 22 = .ok (.iload_n 3, 1) := by decide +kernel
theorem dX12_endOf_23 : decode cX12_endOf 23 = .ok (.aload_n 0, 1) := by decide +kernel
theorem dX12_endOf_24 : decode cX12_endOf 24 = .ok (.getfield 256, 3) := by decide +kernel
theorem dX12_endOf_27 : decode cX12_endOf 27 = .ok (.if_icmp .ge 55, 3) := by decide +kernel
theorem dX12_endOf_30 : decode cX12_endOf 30 = .ok (.aload_n 0, 1) := by decide +kernel
theorem dX12_endOf_31 : decode cX12_endOf 31 = .ok (.getfield 154, 3) := by decide +kernel
theorem dX12_endOf_34 : decode cX12_endOf 34 = .ok (.iload_n 1, 1) := by decide +kernel
theorem dX12_endOf_35 : decode cX12_endOf 35 = .ok (.iaload, 1) := by decide +kernel
theorem dX12_endOf_36 : decode cX12_endOf 36 = .ok (.iload_n 3, 1) := by decide +kernel
theorem dX12_endOf_37 : decode cX12_endOf 37 = .ok (.ishr, 1) := by decide +kernel
theorem dX12_endOf_38 : decode cX12_endOf 38 = .ok (.iconst 1, 1) := by decide +kernel
theorem dX12_endOf_39 : decode cX12_endOf 39 = .ok (.iand, 1) := by decide +kernel
theorem dX12_endOf_40 : decode cX12_endOf 40 = .ok (.ifCond .ne 6, 3) := by decide +kernel
theorem dX12_endOf_43 : decode cX12_endOf 43 = .ok (.goto 33, 3) := by decide +kernel
theorem dX12_endOf_46 : decode cX12_endOf 46 = .ok (.aload_n 0, 1) := by decide +kernel
theorem dX12_endOf_47 : decode cX12_endOf 47 = .ok (.getfield 33, 3) := by decide +kernel
theorem dX12_endOf_50 : decode cX12_endOf 50 = .ok (.iload_n 3, 1) := by decide +kernel
theorem dX12_endOf_51 : decode cX12_endOf 51 = .ok (.baload, 1) := by decide +kernel
theorem dX12_endOf_52 : decode cX12_endOf 52 = .ok (.ifCond .ne 7, 3) := by decide +kernel
theorem dX12_endOf_55 : decode cX12_endOf 55 = .ok (.sipush 1000, 3) := by decide +kernel
theorem dX12_endOf_58 : decode cX12_endOf 58 = .ok (.ireturn, 1) := by decide +kernel
theorem dX12_endOf_59 : decode cX12_endOf 59 = .ok (.aload_n 0, 1) := by decide +kernel
theorem dX12_endOf_60 : decode cX12_endOf 60 = .ok (.getfield 17, 3) := by decide +kernel
theorem dX12_endOf_63 : decode cX12_endOf 63 = .ok (.iload_n 3, 1) := by decide +kernel
theorem dX12_endOf_64 : decode cX12_endOf 64 = .ok (.iaload, 1) := by decide +kernel
theorem dX12_endOf_65 : decode cX12_endOf 65 = .ok (.iload_n 2, 1) := by decide +kernel
theorem dX12_endOf_66 : decode cX12_endOf 66 = .ok (.if_icmp .le 10, 3) := by decide +kernel
theorem dX12_endOf_69 : decode cX12_endOf 69 = .ok (.aload_n 0, 1) := by decide +kernel
theorem dX12_endOf_70 : decode cX12_endOf 70 = .ok (.getfield 17, 3) := by decide +kernel
theorem dX12_endOf_73 : decode cX12_endOf 73 = .ok (.iload_n 3, 1) := by decide +kernel
theorem dX12_endOf_74 : decode cX12_endOf 74 = .ok (.iaload, 1) := by decide +kernel
theorem dX12_endOf_75 : decode cX12_endOf 75 = .ok (.istore_n 2, 1) := by decide +kernel
theorem dX12_endOf_76 : decode cX12_endOf 76 = .ok (.iinc 3 1, 3) := by decide +kernel
theorem dX12_endOf_79 : decode cX12_endOf 79 = .ok (.goto (-57), 3) := by decide +kernel
theorem dX12_endOf_82 : decode cX12_endOf 82 = .ok (.iload_n 2, 1) := by decide +kernel
theorem dX12_endOf_83 : decode cX12_endOf 83 = .ok (.sipush 365, 3) := by decide +kernel
theorem dX12_endOf_86 : decode cX12_endOf 86 = .ok (.idiv, 1) := by decide +kernel
theorem dX12_endOf_87 : decode cX12_endOf 87 = .ok (.ireturn, 1) := by decide +kernel
theorem dX12_ends__0 : decode cX12_ends_ 0 = .ok (.iload_n 1, 1) := by decide +kernel
theorem dX12_ends__1 : decode cX12_ends_ 1 = .ok (.ifCond .lt 19, 3) := by decide +kernel
theorem dX12_ends__4 : decode cX12_ends_ 4 = .ok (.iload_n 1, 1) := by decide +kernel
theorem dX12_ends__5 : decode cX12_ends_ 5 = .ok (.aload_n 0, 1) := by decide +kernel
theorem dX12_ends__6 : decode cX12_ends_ 6 = .ok (.getfield 415, 3) := by decide +kernel
theorem dX12_ends__9 : decode cX12_ends_ 9 = .ok (.if_icmp .ge 11, 3) := by decide +kernel
theorem dX12_ends__12 : decode cX12_ends_ 12 = .ok (.aload_n 0, 1) := by decide +kernel
theorem dX12_ends__13 : decode cX12_ends_ 13 = .ok (.iload_n 1, 1) := by decide +kernel
theorem dX12_ends__14 : decode cX12_ends_ 14 = .ok (.invokevirtual 432, 3) := by decide +kernel
theorem dX12_ends__17 : decode cX12_ends_ 17 = .ok (.goto 4, 3) := by decide +kernel
theorem dX12_ends__20 : decode cX12_ends_ 20 = .ok (.iconst (-1), 1) := by decide +kernel
theorem dX12_ends__21 : decode cX12_ends_ 21 = .ok (.ireturn, 1) := by decide +kernel
theorem dX12_asBefore_0 : decode cX12_asBefore 0 = .ok (.bipush 52, 2) := by decide +kernel
theorem dX12_asBefore_2 : decode cX12_asBefore 2 = .ok (.iload_n 2, 1) := by decide +kernel
theorem dX12_asBefore_3 : decode cX12_asBefore 3 = .ok (.imul, 1) := by decide +kernel
theorem dX12_asBefore_4 : decode cX12_asBefore 4 = .ok (.aload_n 0, 1) := by decide +kernel
theorem dX12_asBefore_5 : decode cX12_asBefore 5 = .ok (.getfield 145, 3) := by decide +kernel
theorem dX12_asBefore_8 : decode cX12_asBefore 8 = .ok (.iload_n 1, 1) := by decide +kernel
theorem dX12_asBefore_9 : decode cX12_asBefore 9 = .ok (.iaload, 1) := by decide +kernel
theorem dX12_asBefore_10 : decode cX12_asBefore 10 = .ok (.iadd, 1) := by decide +kernel
theorem dX12_asBefore_11 : decode cX12_asBefore 11 = .ok (.istore_n 3, 1) := by decide +kernel
theorem dX12_asBefore_12 : decode cX12_asBefore 12 = .ok (.iload_n 3, 1) := by decide +kernel
theorem dX12_asBefore_13 : decode cX12_asBefore 13 = .ok (.ifCond .lt 19, 3) := by decide +kernel
theorem dX12_asBefore_16 : decode cX12_asBefore 16 = .ok (.aload_n 0, 1) := by decide +kernel
theorem dX12_asBefore_17 : decode cX12_asBefore 17 = .ok (.getfield 157, 3) := by decide +kernel
theorem dX12_asBefore_20 : decode cX12_asBefore 20 = .ok (.iload_n 3, 1) := by decide +kernel
theorem dX12_asBefore_21 : decode cX12_asBefore 21 = .ok (.iaload, 1) := by decide +kernel
theorem dX12_asBefore_22 : decode cX12_asBefore 22 = .ok (.iconst (-1), 1) := by decide +kernel
theorem dX12_asBefore_23 : decode cX12_asBefore 23 = .ok (.if_icmp .ne 9, 3) := by decide +kernel
theorem dX12_asBefore_26 : decode cX12_asBefore 26 = .ok (.iinc 3 (-1), 3) := by decide +kernel
theorem dX12_asBefore_29 : decode cX12_asBefore 29 = .ok (.goto (-17), 3) := by decide +kernel
theorem dX12_asBefore_32 : decode cX12_asBefore 32 = .ok (.aload_n 0, 1) := by decide +kernel
theorem dX12_asBefore_33 : decode cX12_asBefore 33 = .ok (.getfield 139, 3) := by decide +kernel
theorem dX12_asBefore_36 : decode cX12_asBefore 36 = .ok (.iload_n 1, 1) := by decide +kernel
theorem dX12_asBefore_37 : decode cX12_asBefore 37 = .ok (.iaload, 1) := by decide +kernel
theorem dX12_asBefore_38 : decode cX12_asBefore 38 = .ok (.iload_n 3, 1) := by decide +kernel
theorem dX12_asBefore_39 : decode cX12_asBefore 39 = .ok (.ifCond .ge 7, 3) := by decide +kernel
theorem dX12_asBefore_42 : decode cX12_asBefore 42 = .ok (.iconst 0, 1) := by decide +kernel
theorem dX12_asBefore_43 : decode cX12_asBefore 43 = .ok (.goto 19, 3) := by decide +kernel
theorem dX12_asBefore_46 : decode cX12_asBefore 46 = .ok (.aload_n 0, 1) := by decide +kernel
theorem dX12_asBefore_47 : decode cX12_asBefore 47 = .ok (.getfield 142, 3) := by decide +kernel
theorem dX12_asBefore_50 : decode cX12_asBefore 50 = .ok (.iload_n 1, 1) := by decide +kernel
theorem dX12_asBefore_51 : decode cX12_asBefore 51 = .ok (.iaload, 1) := by decide +kernel
theorem dX12_asBefore_52 : decode cX12_asBefore 52 = .ok (.aload_n 0, 1) := by decide +kernel
theorem dX12_asBefore_53 : decode cX12_asBefore 53 = .ok (.getfield 157, 3) := by decide +kernel
theorem dX12_asBefore_56 : decode cX12_asBefore 56 = .ok (.iload_n 3, 1) := by decide +kernel
theorem dX12_asBefore_57 : decode cX12_asBefore 57 = .ok (.iaload, 1) := by decide +kernel
theorem dX12_asBefore_58 : decode cX12_asBefore 58 = .ok (.imul, 1) := by decide +kernel
theorem dX12_asBefore_59 : decode cX12_asBefore 59 = .ok (.bipush 10, 2) := by decide +kernel
theorem dX12_asBefore_61 : decode cX12_asBefore 61 = .ok (.idiv, 1) := by decide +kernel
theorem dX12_asBefore_62 : decode cX12_asBefore 62 = .ok (.iadd, 1) := by decide +kernel
theorem dX12_asBefore_63 : decode cX12_asBefore 63 = .ok (.ireturn, 1) := by decide +kernel
theorem dX12_rentOf_0 : decode cX12_rentOf 0 = .ok (.iload_n 2, 1) := by decide +kernel
theorem dX12_rentOf_1 : decode cX12_rentOf 1 = .ok (.aload_n 0, 1) := by decide +kernel
theorem dX12_rentOf_2 : decode cX12_rentOf 2 = .ok (.iload_n 1, 1) := by decide +kernel
theorem dX12_rentOf_3 : decode cX12_rentOf 3 = .ok (.invokevirtual 432, 3) := by decide +kernel
theorem dX12_rentOf_6 : decode cX12_rentOf 6 = .ok (.if_icmp .le 12, 3) := by decide +kernel
theorem dX12_rentOf_9 : decode cX12_rentOf 9 = .ok (.aload_n 0, 1) := by decide +kernel
theorem dX12_rentOf_10 : decode cX12_rentOf 10 = .ok (.getfield 136, 3) := by decide +kernel
theorem dX12_rentOf_13 : decode cX12_rentOf 13 = .ok (.iload_n 1, 1) := by decide +kernel
theorem dX12_rentOf_14 : decode cX12_rentOf 14 = .ok (.iaload, 1) := by decide +kernel
theorem dX12_rentOf_15 : decode cX12_rentOf 15 = .ok (.goto 9, 3) := by decide +kernel
theorem dX12_rentOf_18 : decode cX12_rentOf 18 = .ok (.aload_n 0, 1) := by decide +kernel
theorem dX12_rentOf_19 : decode cX12_rentOf 19 = .ok (.iload_n 1, 1) := by decide +kernel
theorem dX12_rentOf_20 : decode cX12_rentOf 20 = .ok (.iload_n 2, 1) := by decide +kernel
theorem dX12_rentOf_21 : decode cX12_rentOf 21 = .ok (.invokevirtual 435, 3) := by decide +kernel
theorem dX12_rentOf_24 : decode cX12_rentOf 24 = .ok (.ireturn, 1) := by decide +kernel
theorem dX12_rent_0 : decode cX12_rent 0 = .ok (.iload_n 1, 1) := by decide +kernel
theorem dX12_rent_1 : decode cX12_rent 1 = .ok (.ifCond .lt 31, 3) := by decide +kernel
theorem dX12_rent_4 : decode cX12_rent 4 = .ok (.iload_n 1, 1) := by decide +kernel
theorem dX12_rent_5 : decode cX12_rent 5 = .ok (.aload_n 0, 1) := by decide +kernel
theorem dX12_rent_6 : decode cX12_rent 6 = .ok (.getfield 415, 3) := by decide +kernel
theorem dX12_rent_9 : decode cX12_rent 9 = .ok (.if_icmp .ge 23, 3) := by decide +kernel
theorem dX12_rent_12 : decode cX12_rent 12 = .ok (.iload_n 2, 1) := by decide +kernel
theorem dX12_rent_13 : decode cX12_rent 13 = .ok (.ifCond .lt 19, 3) := by decide +kernel
theorem dX12_rent_16 : decode cX12_rent 16 = .ok (.iload_n 2, 1) := by decide +kernel
theorem dX12_rent_17 : decode cX12_rent 17 = .ok (.sipush 200, 3) := by decide +kernel
theorem dX12_rent_20 : decode cX12_rent 20 = .ok (.if_icmp .gt 12, 3) := by decide +kernel
theorem dX12_rent_23 : decode cX12_rent 23 = .ok (.aload_n 0, 1) := by decide +kernel
theorem dX12_rent_24 : decode cX12_rent 24 = .ok (.iload_n 1, 1) := by decide +kernel
theorem dX12_rent_25 : decode cX12_rent 25 = .ok (.iload_n 2, 1) := by decide +kernel
theorem dX12_rent_26 : decode cX12_rent 26 = .ok (.invokevirtual 438, 3) := by decide +kernel
theorem dX12_rent_29 : decode cX12_rent 29 = .ok (.goto 4, 3) := by decide +kernel
theorem dX12_rent_32 : decode cX12_rent 32 = .ok (.iconst (-1), 1) := by decide +kernel
theorem dX12_rent_33 : decode cX12_rent 33 = .ok (.ireturn, 1) := by decide +kernel
theorem dX12_table_0 : decode cX12_table 0 = .ok (.aload_n 0, 1) := by decide +kernel
theorem dX12_table_1 : decode cX12_table 1 = .ok (.iload_n 1, 1) := by decide +kernel
theorem dX12_table_2 : decode cX12_table 2 = .ok (.invokevirtual 300, 3) := by decide +kernel
theorem dX12_table_5 : decode cX12_table 5 = .ok (.istore_n 2, 1) := by decide +kernel
theorem dX12_table_6 : decode cX12_table 6 = .ok (.iload_n 2, 1) := by decide +kernel
theorem dX12_table_7 : decode cX12_table 7 = .ok (.ifCond .eq 9, 3) := by decide +kernel
theorem dX12_table_10 : decode cX12_table 10 = .ok (.aload_n 0, 1) := by decide +kernel
theorem dX12_table_11 : decode cX12_table 11 = .ok (.iload_n 2, 1) := by decide +kernel
theorem dX12_table_12 : decode cX12_table 12 = .ok (.invokevirtual 267, 3) := by decide +kernel
theorem dX12_table_15 : decode cX12_table 15 = .ok (.ireturn, 1) := by decide +kernel
theorem dX12_table_16 : decode cX12_table 16 = .ok (.iconst 0, 1) := by decide +kernel
theorem dX12_table_17 : decode cX12_table 17 = .ok (.istore_n 3, 1) := by decide +kernel
theorem dX12_table_18 : decode cX12_table 18 = .ok (.iload_n 3, 1) := by decide +kernel
theorem dX12_table_19 : decode cX12_table 19 = .ok (.aload_n 0, 1) := by decide +kernel
theorem dX12_table_20 : decode cX12_table 20 = .ok (.getfield 57, 3) := by decide +kernel
theorem dX12_table_23 : decode cX12_table 23 = .ok (.iload_n 1, 1) := by decide +kernel
theorem dX12_table_24 : decode cX12_table 24 = .ok (.iaload, 1) := by decide +kernel
theorem dX12_table_25 : decode cX12_table 25 = .ok (.if_icmp .ge 43, 3) := by decide +kernel
theorem dX12_table_28 : decode cX12_table 28 = .ok (.aload_n 0, 1) := by decide +kernel
theorem dX12_table_29 : decode cX12_table 29 = .ok (.getfield 63, 3) := by decide +kernel
theorem dX12_table_32 : decode cX12_table 32 = .ok (.bipush 80, 2) := by decide +kernel
theorem dX12_table_34 : decode cX12_table 34 = .ok (.iload_n 1, 1) := by decide +kernel
theorem dX12_table_35 : decode cX12_table 35 = .ok (.imul, 1) := by decide +kernel
theorem dX12_table_36 : decode cX12_table 36 = .ok (.iload_n 3, 1) := by decide +kernel
theorem dX12_table_37 : decode cX12_table 37 = .ok (.iadd, 1) := by decide +kernel
theorem dX12_table_38 : decode cX12_table 38 = .ok (.laload, 1) := by decide +kernel
theorem dX12_table_39 : decode cX12_table 39 = .ok (.l2i, 1) := by decide +kernel
theorem dX12_table_40 : decode cX12_table 40 = .ok (.istore 4, 2) := by decide +kernel
theorem dX12_table_42 : decode cX12_table 42 = .ok (.iload 4, 2) := by decide +kernel
theorem dX12_table_44 : decode cX12_table 44 = .ok (.ifCond .lt 11, 3) := by decide +kernel
theorem dX12_table_47 : decode cX12_table 47 = .ok (.iload 4, 2) := by decide +kernel
theorem dX12_table_49 : decode cX12_table 49 = .ok (.sipush 10000, 3) := by decide +kernel
theorem dX12_table_52 : decode cX12_table 52 = .ok (.if_icmp .le 10, 3) := by decide +kernel
theorem dX12_table_55 : decode cX12_table 55 = .ok (.aload_n 0, 1) := by decide +kernel
theorem dX12_table_56 : decode cX12_table 56 = .ok (.bipush (-6), 2) := by decide +kernel
theorem dX12_table_58 : decode cX12_table 58 = .ok (.invokevirtual 267, 3) := by decide +kernel
theorem dX12_table_61 : decode cX12_table 61 = .ok (.ireturn, 1) := by decide +kernel
theorem dX12_table_62 : decode cX12_table 62 = .ok (.iinc 3 1, 3) := by decide +kernel
theorem dX12_table_65 : decode cX12_table 65 = .ok (.goto (-47), 3) := by decide +kernel
theorem dX12_table_68 : decode cX12_table 68 = .ok (.aload_n 0, 1) := by decide +kernel
theorem dX12_table_69 : decode cX12_table 69 = .ok (.aload_n 0, 1) := by decide +kernel
theorem dX12_table_70 : decode cX12_table 70 = .ok (.getfield 57, 3) := by decide +kernel
theorem dX12_table_73 : decode cX12_table 73 = .ok (.iload_n 1, 1) := by decide +kernel
theorem dX12_table_74 : decode cX12_table 74 = .ok (.iaload, 1) := by decide +kernel
theorem dX12_table_75 : decode cX12_table 75 = .ok (.putfield 441, 3) := by decide +kernel
theorem dX12_table_78 : decode cX12_table 78 = .ok (.iconst 0, 1) := by decide +kernel
theorem dX12_table_79 : decode cX12_table 79 = .ok (.istore_n 3, 1) := by decide +kernel
theorem dX12_table_80 : decode cX12_table 80 = .ok (.iload_n 3, 1) := by decide +kernel
theorem dX12_table_81 : decode cX12_table 81 = .ok (.aload_n 0, 1) := by decide +kernel
theorem dX12_table_82 : decode cX12_table 82 = .ok (.getfield 441, 3) := by decide +kernel
theorem dX12_table_85 : decode cX12_table 85 = .ok (.if_icmp .ge 27, 3) := by decide +kernel
theorem dX12_table_88 : decode cX12_table 88 = .ok (.aload_n 0, 1) := by decide +kernel
theorem dX12_table_89 : decode cX12_table 89 = .ok (.getfield 160, 3) := by decide +kernel
theorem dX12_table_92 : decode cX12_table 92 = .ok (.iload_n 3, 1) := by decide +kernel
theorem dX12_table_93 : decode cX12_table 93 = .ok (.aload_n 0, 1) := by decide +kernel
theorem dX12_table_94 : decode cX12_table 94 = .ok (.getfield 63, 3) := by decide +kernel
theorem dX12_table_97 : decode cX12_table 97 = .ok (.bipush 80, 2) := by decide +kernel
theorem dX12_table_99 : decode cX12_table 99 = .ok (.iload_n 1, 1) := by decide +kernel
theorem dX12_table_100 : decode cX12_table 100 = .ok (.imul, 1) := by decide +kernel
theorem dX12_table_101 : decode cX12_table 101 = .ok (.iload_n 3, 1) := by decide +kernel
theorem dX12_table_102 : decode cX12_table 102 = .ok (.iadd, 1) := by decide +kernel
theorem dX12_table_103 : decode cX12_table 103 = .ok (.laload, 1) := by decide +kernel
theorem dX12_table_104 : decode cX12_table 104 = .ok (.l2i, 1) := by decide +kernel
theorem dX12_table_105 : decode cX12_table 105 = .ok (.iastore, 1) := by decide +kernel
theorem dX12_table_106 : decode cX12_table 106 = .ok (.iinc 3 1, 3) := by decide +kernel
theorem dX12_table_109 : decode cX12_table 109 = .ok (.goto (-29), 3) := by decide +kernel
theorem dX12_table_112 : decode cX12_table 112 = .ok (.aload_n 0, 1) := by decide +kernel
theorem dX12_table_113 : decode cX12_table 113 = .ok (.getfield 441, 3) := by decide +kernel
theorem dX12_table_116 : decode cX12_table 116 = .ok (.ireturn, 1) := by decide +kernel
theorem dX12_tableAt_0 : decode cX12_tableAt 0 = .ok (.aload_n 0, 1) := by decide +kernel
theorem dX12_tableAt_1 : decode cX12_tableAt 1 = .ok (.getfield 441, 3) := by decide +kernel
theorem dX12_tableAt_4 : decode cX12_tableAt 4 = .ok (.ifCond .ne 7, 3) := by decide +kernel
theorem dX12_tableAt_7 : decode cX12_tableAt 7 = .ok (.iconst 0, 1) := by decide +kernel
theorem dX12_tableAt_8 : decode cX12_tableAt 8 = .ok (.goto 26, 3) := by decide +kernel
theorem dX12_tableAt_11 : decode cX12_tableAt 11 = .ok (.aload_n 0, 1) := by decide +kernel
theorem dX12_tableAt_12 : decode cX12_tableAt 12 = .ok (.getfield 160, 3) := by decide +kernel
theorem dX12_tableAt_15 : decode cX12_tableAt 15 = .ok (.iload_n 1, 1) := by decide +kernel
theorem dX12_tableAt_16 : decode cX12_tableAt 16 = .ok (.aload_n 0, 1) := by decide +kernel
theorem dX12_tableAt_17 : decode cX12_tableAt 17 = .ok (.getfield 441, 3) := by decide +kernel
theorem dX12_tableAt_20 : decode cX12_tableAt 20 = .ok (.if_icmp .ge 7, 3) := by decide +kernel
theorem dX12_tableAt_23 : decode cX12_tableAt 23 = .ok (.iload_n 1, 1) := by decide +kernel
theorem dX12_tableAt_24 : decode cX12_tableAt 24 = .ok (.goto 9, 3) := by decide +kernel
theorem dX12_tableAt_27 : decode cX12_tableAt 27 = .ok (.aload_n 0, 1) := by decide +kernel
theorem dX12_tableAt_28 : decode cX12_tableAt 28 = .ok (.getfield 441, 3) := by decide +kernel
theorem dX12_tableAt_31 : decode cX12_tableAt 31 = .ok (.iconst 1, 1) := by decide +kernel
theorem dX12_tableAt_32 : decode cX12_tableAt 32 = .ok (.isub, 1) := by decide +kernel
theorem dX12_tableAt_33 : decode cX12_tableAt 33 = .ok (.iaload, 1) := by decide +kernel
theorem dX12_tableAt_34 : decode cX12_tableAt 34 = .ok (.ireturn, 1) := by decide +kernel
theorem dX12_fine_0 : decode cX12_fine 0 = .ok (.aload_n 0, 1) := by decide +kernel
theorem dX12_fine_1 : decode cX12_fine 1 = .ok (.getfield 136, 3) := by decide +kernel
theorem dX12_fine_4 : decode cX12_fine 4 = .ok (.iload_n 1, 1) := by decide +kernel
theorem dX12_fine_5 : decode cX12_fine 5 = .ok (.iaload, 1) := by decide +kernel
theorem dX12_fine_6 : decode cX12_fine 6 = .ok (.aload_n 0, 1) := by decide +kernel
theorem dX12_fine_7 : decode cX12_fine 7 = .ok (.aload_n 0, 1) := by decide +kernel
theorem dX12_fine_8 : decode cX12_fine 8 = .ok (.getfield 148, 3) := by decide +kernel
theorem dX12_fine_11 : decode cX12_fine 11 = .ok (.iload_n 1, 1) := by decide +kernel
theorem dX12_fine_12 : decode cX12_fine 12 = .ok (.iaload, 1) := by decide +kernel
theorem dX12_fine_13 : decode cX12_fine 13 = .ok (.invokevirtual 444, 3) := by decide +kernel
theorem dX12_fine_16 : decode cX12_fine 16 = .ok (.aload_n 0, 1) := by decide +kernel
theorem dX12_fine_17 : decode cX12_fine 17 = .ok (.iload_n 2, 1) := by decide +kernel
theorem dX12_fine_18 : decode cX12_fine 18 = .ok (.invokevirtual 444, 3) := by decide +kernel
theorem dX12_fine_21 : decode cX12_fine 21 = .ok (.isub, 1) := by decide +kernel
theorem dX12_fine_22 : decode cX12_fine 22 = .ok (.imul, 1) := by decide +kernel
theorem dX12_fine_23 : decode cX12_fine 23 = .ok (.bipush 100, 2) := by decide +kernel
theorem dX12_fine_25 : decode cX12_fine 25 = .ok (.idiv, 1) := by decide +kernel
theorem dX12_fine_26 : decode cX12_fine 26 = .ok (.istore_n 3, 1) := by decide +kernel
theorem dX12_fine_27 : decode cX12_fine 27 = .ok (.iload_n 3, 1) := by decide +kernel
theorem dX12_fine_28 : decode cX12_fine 28 = .ok (.ifCond .ge 7, 3) := by decide +kernel
theorem dX12_fine_31 : decode cX12_fine 31 = .ok (.iconst 0, 1) := by decide +kernel
theorem dX12_fine_32 : decode cX12_fine 32 = .ok (.goto 4, 3) := by decide +kernel
theorem dX12_fine_35 : decode cX12_fine 35 = .ok (.iload_n 3, 1) := by decide +kernel
theorem dX12_fine_36 : decode cX12_fine 36 = .ok (.ireturn, 1) := by decide +kernel
theorem dX12_enters_0 : decode cX12_enters 0 = .ok (.aload_n 0, 1) := by decide +kernel
theorem dX12_enters_1 : decode cX12_enters 1 = .ok (.getfield 163, 3) := by decide +kernel
theorem dX12_enters_4 : decode cX12_enters 4 = .ok (.aload_n 0, 1) := by decide +kernel
theorem dX12_enters_5 : decode cX12_enters 5 = .ok (.getfield 447, 3) := by decide +kernel
theorem dX12_enters_8 : decode cX12_enters 8 = .ok (.aload_n 0, 1) := by decide +kernel
theorem dX12_enters_9 : decode cX12_enters 9 = .ok (.invokevirtual 450, 3) := by decide +kernel
theorem dX12_enters_12 : decode cX12_enters 12 = .ok (.iastore, 1) := by decide +kernel
theorem dX12_enters_13 : decode cX12_enters 13 = .ok (.aload_n 0, 1) := by decide +kernel
theorem dX12_enters_14 : decode cX12_enters 14 = .ok (.getfield 166, 3) := by decide +kernel
theorem dX12_enters_17 : decode cX12_enters 17 = .ok (.aload_n 0, 1) := by decide +kernel
theorem dX12_enters_18 : decode cX12_enters 18 = .ok (.getfield 447, 3) := by decide +kernel
theorem dX12_enters_21 : decode cX12_enters 21 = .ok (.iload_n 1, 1) := by decide +kernel
theorem dX12_enters_22 : decode cX12_enters 22 = .ok (.iastore, 1) := by decide +kernel
theorem dX12_enters_23 : decode cX12_enters 23 = .ok (.aload_n 0, 1) := by decide +kernel
theorem dX12_enters_24 : decode cX12_enters 24 = .ok (.getfield 169, 3) := by decide +kernel
theorem dX12_enters_27 : decode cX12_enters 27 = .ok (.aload_n 0, 1) := by decide +kernel
theorem dX12_enters_28 : decode cX12_enters 28 = .ok (.dup, 1) := by decide +kernel
theorem dX12_enters_29 : decode cX12_enters 29 = .ok (.getfield 447, 3) := by decide +kernel
theorem dX12_enters_32 : decode cX12_enters 32 = .ok (.dup_x1, 1) := by decide +kernel
theorem dX12_enters_33 : decode cX12_enters 33 = .ok (.iconst 1, 1) := by decide +kernel
theorem dX12_enters_34 : decode cX12_enters 34 = .ok (.iadd, 1) := by decide +kernel
theorem dX12_enters_35 : decode cX12_enters 35 = .ok (.putfield 447, 3) := by decide +kernel
theorem dX12_enters_38 : decode cX12_enters 38 = .ok (.iload_n 2, 1) := by decide +kernel
theorem dX12_enters_39 : decode cX12_enters 39 = .ok (.iastore, 1) := by decide +kernel
theorem dX12_enters_40 : decode cX12_enters 40 = .ok (.aload_n 0, 1) := by decide +kernel
theorem dX12_enters_41 : decode cX12_enters 41 = .ok (.dup, 1) := by decide +kernel
theorem dX12_enters_42 : decode cX12_enters 42 = .ok (.getfield 453, 3) := by decide +kernel
theorem dX12_enters_45 : decode cX12_enters 45 = .ok (.iload_n 2, 1) := by decide +kernel
theorem dX12_enters_46 : decode cX12_enters 46 = .ok (.iadd, 1) := by decide +kernel
theorem dX12_enters_47 : decode cX12_enters 47 = .ok (.putfield 453, 3) := by decide +kernel
theorem dX12_enters_50 : decode cX12_enters 50 = .ok (.return_, 1) := by decide +kernel
theorem dX12_renew_0 : decode cX12_renew 0 = .ok (.iload_n 1, 1) := by decide +kernel
theorem dX12_renew_1 : decode cX12_renew 1 = .ok (.ifCond .lt 11, 3) := by decide +kernel
theorem dX12_renew_4 : decode cX12_renew 4 = .ok (.iload_n 1, 1) := by decide +kernel
theorem dX12_renew_5 : decode cX12_renew 5 = .ok (.aload_n 0, 1) := by decide +kernel
theorem dX12_renew_6 : decode cX12_renew 6 = .ok (.getfield 415, 3) := by decide +kernel
theorem dX12_renew_9 : decode cX12_renew 9 = .ok (.if_icmp .lt 9, 3) := by decide +kernel
theorem dX12_renew_12 : decode cX12_renew 12 = .ok (.aload_n 0, 1) := by decide +kernel
theorem dX12_renew_13 : decode cX12_renew 13 = .ok (.iconst (-1), 1) := by decide +kernel
theorem dX12_renew_14 : decode cX12_renew 14 = .ok (.invokevirtual 267, 3) := by decide +kernel
theorem dX12_renew_17 : decode cX12_renew 17 = .ok (.ireturn, 1) := by decide +kernel
theorem dX12_renew_18 : decode cX12_renew 18 = .ok (.aload_n 0, 1) := by decide +kernel
theorem dX12_renew_19 : decode cX12_renew 19 = .ok (.getfield 154, 3) := by decide +kernel
theorem dX12_renew_22 : decode cX12_renew 22 = .ok (.iload_n 1, 1) := by decide +kernel
theorem dX12_renew_23 : decode cX12_renew 23 = .ok (.iaload, 1) := by decide +kernel
theorem dX12_renew_24 : decode cX12_renew 24 = .ok (.ifCond .ne 16, 3) := by decide +kernel
theorem dX12_renew_27 : decode cX12_renew 27 = .ok (.aload_n 0, 1) := by decide +kernel
theorem dX12_renew_28 : decode cX12_renew 28 = .ok (.getfield 151, 3) := by decide +kernel
theorem dX12_renew_31 : decode cX12_renew 31 = .ok (.iload_n 1, 1) := by decide +kernel
theorem dX12_renew_32 : decode cX12_renew 32 = .ok (.iaload, 1) := by decide +kernel
theorem dX12_renew_33 : decode cX12_renew 33 = .ok (.aload_n 0, 1) := by decide +kernel
theorem dX12_renew_34 : decode cX12_renew 34 = .ok (.invokevirtual 450, 3) := by decide +kernel
theorem dX12_renew_37 : decode cX12_renew 37 = .ok (.if_icmp .ge 10, 3) := by decide +kernel
theorem dX12_renew_40 : decode cX12_renew 40 = .ok (.aload_n 0, 1) := by decide +kernel
theorem dX12_renew_41 : decode cX12_renew 41 = .ok (.bipush (-6), 2) := by decide +kernel
theorem dX12_renew_43 : decode cX12_renew 43 = .ok (.invokevirtual 267, 3) := by decide +kernel
theorem dX12_renew_46 : decode cX12_renew 46 = .ok (.ireturn, 1) := by decide +kernel
theorem dX12_renew_47 : decode cX12_renew 47 = .ok (.aload_n 0, 1) := by decide +kernel
theorem dX12_renew_48 : decode cX12_renew 48 = .ok (.getfield 447, 3) := by decide +kernel
theorem dX12_renew_51 : decode cX12_renew 51 = .ok (.sipush 400, 3) := by decide +kernel
theorem dX12_renew_54 : decode cX12_renew 54 = .ok (.if_icmp .ne 10, 3) := by decide +kernel
theorem dX12_renew_57 : decode cX12_renew 57 = .ok (.aload_n 0, 1) := by decide +kernel
theorem dX12_renew_58 : decode cX12_renew 58 = .ok (.bipush (-7), 2) := by decide +kernel
theorem dX12_renew_60 : decode cX12_renew 60 = .ok (.invokevirtual 267, 3) := by decide +kernel
theorem dX12_renew_63 : decode cX12_renew 63 = .ok (.ireturn, 1) := by decide +kernel
theorem dX12_renew_64 : decode cX12_renew 64 = .ok (.aload_n 0, 1) := by decide +kernel
theorem dX12_renew_65 : decode cX12_renew 65 = .ok (.iload_n 1, 1) := by decide +kernel
theorem dX12_renew_66 : decode cX12_renew 66 = .ok (.aload_n 0, 1) := by decide +kernel
theorem dX12_renew_67 : decode cX12_renew 67 = .ok (.getfield 151, 3) := by decide +kernel
theorem dX12_renew_70 : decode cX12_renew 70 = .ok (.iload_n 1, 1) := by decide +kernel
theorem dX12_renew_71 : decode cX12_renew 71 = .ok (.iaload, 1) := by decide +kernel
theorem dX12_renew_72 : decode cX12_renew 72 = .ok (.aload_n 0, 1) := by decide +kernel
theorem dX12_renew_73 : decode cX12_renew 73 = .ok (.invokevirtual 450, 3) := by decide +kernel
theorem dX12_renew_76 : decode cX12_renew 76 = .ok (.isub, 1) := by decide +kernel
theorem dX12_renew_77 : decode cX12_renew 77 = .ok (.invokevirtual 456, 3) := by decide +kernel
theorem dX12_renew_80 : decode cX12_renew 80 = .ok (.istore_n 2, 1) := by decide +kernel
theorem dX12_renew_81 : decode cX12_renew 81 = .ok (.aload_n 0, 1) := by decide +kernel
theorem dX12_renew_82 : decode cX12_renew 82 = .ok (.iconst 1, 1) := by decide +kernel
theorem dX12_renew_83 : decode cX12_renew 83 = .ok (.iload_n 2, 1) := by decide +kernel
theorem dX12_renew_84 : decode cX12_renew 84 = .ok (.invokevirtual 459, 3) := by decide +kernel
theorem dX12_renew_87 : decode cX12_renew 87 = .ok (.aload_n 0, 1) := by decide +kernel
theorem dX12_renew_88 : decode cX12_renew 88 = .ok (.getfield 151, 3) := by decide +kernel
theorem dX12_renew_91 : decode cX12_renew 91 = .ok (.iload_n 1, 1) := by decide +kernel
theorem dX12_renew_92 : decode cX12_renew 92 = .ok (.aload_n 0, 1) := by decide +kernel
theorem dX12_renew_93 : decode cX12_renew 93 = .ok (.invokevirtual 450, 3) := by decide +kernel
theorem dX12_renew_96 : decode cX12_renew 96 = .ok (.aload_n 0, 1) := by decide +kernel
theorem dX12_renew_97 : decode cX12_renew 97 = .ok (.getfield 148, 3) := by decide +kernel
theorem dX12_renew_100 : decode cX12_renew 100 = .ok (.iload_n 1, 1) := by decide +kernel
theorem dX12_renew_101 : decode cX12_renew 101 = .ok (.iaload, 1) := by decide +kernel
theorem dX12_renew_102 : decode cX12_renew 102 = .ok (.iadd, 1) := by decide +kernel
theorem dX12_renew_103 : decode cX12_renew 103 = .ok (.iastore, 1) := by decide +kernel
theorem dX12_renew_104 : decode cX12_renew 104 = .ok (.iload_n 2, 1) := by decide +kernel
theorem dX12_renew_105 : decode cX12_renew 105 = .ok (.ireturn, 1) := by decide +kernel
theorem dX12_rents_0 : decode cX12_rents 0 = .ok (.aload_n 0, 1) := by decide +kernel
theorem dX12_rents_1 : decode cX12_rents 1 = .ok (.getfield 172, 3) := by decide +kernel
theorem dX12_rents_4 : decode cX12_rents 4 = .ok (.aload_n 0, 1) := by decide +kernel
theorem dX12_rents_5 : decode cX12_rents 5 = .ok (.invokevirtual 450, 3) := by decide +kernel
theorem dX12_rents_8 : decode cX12_rents 8 = .ok (.baload, 1) := by decide +kernel
theorem dX12_rents_9 : decode cX12_rents 9 = .ok (.ifCond .eq 10, 3) := by decide +kernel
theorem dX12_rents_12 : decode cX12_rents 12 = .ok (.aload_n 0, 1) := by decide +kernel
theorem dX12_rents_13 : decode cX12_rents 13 = .ok (.bipush (-6), 2) := by decide +kernel
theorem dX12_rents_15 : decode cX12_rents 15 = .ok (.invokevirtual 267, 3) := by decide +kernel
theorem dX12_rents_18 : decode cX12_rents 18 = .ok (.ireturn, 1) := by decide +kernel
theorem dX12_rents_19 : decode cX12_rents 19 = .ok (.aload_n 0, 1) := by decide +kernel
theorem dX12_rents_20 : decode cX12_rents 20 = .ok (.getfield 447, 3) := by decide +kernel
theorem dX12_rents_23 : decode cX12_rents 23 = .ok (.sipush 400, 3) := by decide +kernel
theorem dX12_rents_26 : decode cX12_rents 26 = .ok (.if_icmp .ne 10, 3) := by decide +kernel
theorem dX12_rents_29 : decode cX12_rents 29 = .ok (.aload_n 0, 1) := by decide +kernel
theorem dX12_rents_30 : decode cX12_rents 30 = .ok (.bipush (-7), 2) := by decide +kernel
theorem dX12_rents_32 : decode cX12_rents 32 = .ok (.invokevirtual 267, 3) := by decide +kernel
theorem dX12_rents_35 : decode cX12_rents 35 = .ok (.ireturn, 1) := by decide +kernel
theorem dX12_rents_36 : decode cX12_rents 36 = .ok (.iconst 0, 1) := by decide +kernel
theorem dX12_rents_37 : decode cX12_rents 37 = .ok (.istore_n 1, 1) := by decide +kernel
theorem dX12_rents_38 : decode cX12_rents 38 = .ok (.iconst 0, 1) := by decide +kernel
theorem dX12_rents_39 : decode cX12_rents 39 = .ok (.istore_n 2, 1) := by decide +kernel
theorem dX12_rents_40 : decode cX12_rents 40 = .ok (.iload_n 2, 1) := by decide +kernel
theorem dX12_rents_41 : decode cX12_rents 41 = .ok (.aload_n 0, 1) := by decide +kernel
theorem dX12_rents_42 : decode cX12_rents 42 = .ok (.getfield 415, 3) := by decide +kernel
theorem dX12_rents_45 : decode cX12_rents 45 = .ok (.if_icmp .ge 21, 3) := by decide +kernel
theorem dX12_rents_48 : decode cX12_rents 48 = .ok (.iload_n 1, 1) := by decide +kernel
theorem dX12_rents_49 : decode cX12_rents 49 = .ok (.aload_n 0, 1) := by decide +kernel
theorem dX12_rents_50 : decode cX12_rents 50 = .ok (.iload_n 2, 1) := by decide +kernel
theorem dX12_rents_51 : decode cX12_rents 51 = .ok (.aload_n 0, 1) := by decide +kernel
theorem dX12_rents_52 : decode cX12_rents 52 = .ok (.invokevirtual 450, 3) := by decide +kernel
theorem dX12_rents_55 : decode cX12_rents 55 = .ok (.invokevirtual 438, 3) := by decide +kernel
theorem dX12_rents_58 : decode cX12_rents 58 = .ok (.iadd, 1) := by decide +kernel
theorem dX12_rents_59 : decode cX12_rents 59 = .ok (.istore_n 1, 1) := by decide +kernel
theorem dX12_rents_60 : decode cX12_rents 60 = .ok (.iinc 2 1, 3) := by decide +kernel
theorem dX12_rents_63 : decode cX12_rents 63 = .ok (.goto (-23), 3) := by decide +kernel
theorem dX12_rents_66 : decode cX12_rents 66 = .ok (.aload_n 0, 1) := by decide +kernel
theorem dX12_rents_67 : decode cX12_rents 67 = .ok (.getfield 172, 3) := by decide +kernel
theorem dX12_rents_70 : decode cX12_rents 70 = .ok (.aload_n 0, 1) := by decide +kernel
theorem dX12_rents_71 : decode cX12_rents 71 = .ok (.invokevirtual 450, 3) := by decide +kernel
theorem dX12_rents_74 : decode cX12_rents 74 = .ok (.iconst 1, 1) := by decide +kernel
theorem dX12_rents_75 : decode cX12_rents 75 = .ok (.bastore, 1) := by decide +kernel
theorem dX12_rents_76 : decode cX12_rents 76 = .ok (.aload_n 0, 1) := by decide +kernel
theorem dX12_rents_77 : decode cX12_rents 77 = .ok (.iconst 0, 1) := by decide +kernel
theorem dX12_rents_78 : decode cX12_rents 78 = .ok (.iload_n 1, 1) := by decide +kernel
theorem dX12_rents_79 : decode cX12_rents 79 = .ok (.invokevirtual 459, 3) := by decide +kernel
theorem dX12_rents_82 : decode cX12_rents 82 = .ok (.iload_n 1, 1) := by decide +kernel
theorem dX12_rents_83 : decode cX12_rents 83 = .ok (.ireturn, 1) := by decide +kernel
theorem dX12_newYear_0 : decode cX12_newYear 0 = .ok (.aload_n 0, 1) := by decide +kernel
theorem dX12_newYear_1 : decode cX12_newYear 1 = .ok (.getfield 462, 3) := by decide +kernel
theorem dX12_newYear_4 : decode cX12_newYear 4 = .ok (.aload_n 0, 1) := by decide +kernel
theorem dX12_newYear_5 : decode cX12_newYear 5 = .ok (.invokevirtual 450, 3) := by decide +kernel
theorem dX12_newYear_8 : decode cX12_newYear 8 = .ok (.if_icmp .ne 4, 3) := by decide +kernel
theorem dX12_newYear_11 : decode cX12_newYear 11 = .ok (.return_, 1) := by decide +kernel
theorem dX12_newYear_12 : decode cX12_newYear 12 = .ok (.aload_n 0, 1) := by decide +kernel
theorem dX12_newYear_13 : decode cX12_newYear 13 = .ok (.aload_n 0, 1) := by decide +kernel
theorem dX12_newYear_14 : decode cX12_newYear 14 = .ok (.invokevirtual 450, 3) := by decide +kernel
theorem dX12_newYear_17 : decode cX12_newYear 17 = .ok (.putfield 462, 3) := by decide +kernel
theorem dX12_newYear_20 : decode cX12_newYear 20 = .ok (.iconst 0, 1) := by decide +kernel
theorem dX12_newYear_21 : decode cX12_newYear 21 = .ok (.istore_n 1, 1) := by decide +kernel
theorem dX12_newYear_22 : decode cX12_newYear 22 = .ok (.iload_n 1, 1) := by decide +kernel
theorem dX12_newYear_23 : decode cX12_newYear 23 = .ok (.bipush 24, 2) := by decide +kernel
theorem dX12_newYear_25 : decode cX12_newYear 25 = .ok (.if_icmp .ge 16, 3) := by decide +kernel
theorem dX12_newYear_28 : decode cX12_newYear 28 = .ok (.aload_n 0, 1) := by decide +kernel
theorem dX12_newYear_29 : decode cX12_newYear 29 = .ok (.getfield 178, 3) := by decide +kernel
theorem dX12_newYear_32 : decode cX12_newYear 32 = .ok (.iload_n 1, 1) := by decide +kernel
theorem dX12_newYear_33 : decode cX12_newYear 33 = .ok (.iconst 0, 1) := by decide +kernel
theorem dX12_newYear_34 : decode cX12_newYear 34 = .ok (.iastore, 1) := by decide +kernel
theorem dX12_newYear_35 : decode cX12_newYear 35 = .ok (.iinc 1 1, 3) := by decide +kernel
theorem dX12_newYear_38 : decode cX12_newYear 38 = .ok (.goto (-16), 3) := by decide +kernel
theorem dX12_newYear_41 : decode cX12_newYear 41 = .ok (.return_, 1) := by decide +kernel
theorem dX12_kept_0 : decode cX12_kept 0 = .ok (.aload_n 0, 1) := by decide +kernel
theorem dX12_kept_1 : decode cX12_kept 1 = .ok (.iload_n 1, 1) := by decide +kernel
theorem dX12_kept_2 : decode cX12_kept 2 = .ok (.invokevirtual 271, 3) := by decide +kernel
theorem dX12_kept_5 : decode cX12_kept 5 = .ok (.ifCond .ne 9, 3) := by decide +kernel
theorem dX12_kept_8 : decode cX12_kept 8 = .ok (.aload_n 0, 1) := by decide +kernel
theorem dX12_kept_9 : decode cX12_kept 9 = .ok (.iconst (-1), 1) := by decide +kernel
theorem dX12_kept_10 : decode cX12_kept 10 = .ok (.invokevirtual 267, 3) := by decide +kernel
theorem dX12_kept_13 : decode cX12_kept 13 = .ok (.ireturn, 1) := by decide +kernel
theorem dX12_kept_14 : decode cX12_kept 14 = .ok (.iload_n 2, 1) := by decide +kernel
theorem dX12_kept_15 : decode cX12_kept 15 = .ok (.ifCond .lt 10, 3) := by decide +kernel
theorem dX12_kept_18 : decode cX12_kept 18 = .ok (.iload_n 2, 1) := by decide +kernel
theorem dX12_kept_19 : decode cX12_kept 19 = .ok (.sipush 365, 3) := by decide +kernel
theorem dX12_kept_22 : decode cX12_kept 22 = .ok (.if_icmp .le 10, 3) := by decide +kernel
theorem dX12_kept_25 : decode cX12_kept 25 = .ok (.aload_n 0, 1) := by decide +kernel
theorem dX12_kept_26 : decode cX12_kept 26 = .ok (.bipush (-6), 2) := by decide +kernel
theorem dX12_kept_28 : decode cX12_kept 28 = .ok (.invokevirtual 267, 3) := by decide +kernel
theorem dX12_kept_31 : decode cX12_kept 31 = .ok (.ireturn, 1) := by decide +kernel
theorem dX12_kept_32 : decode cX12_kept 32 = .ok (.aload_n 0, 1) := by decide +kernel
theorem dX12_kept_33 : decode cX12_kept 33 = .ok (.invokevirtual 465, 3) := by decide +kernel
theorem dX12_kept_36 : decode cX12_kept 36 = .ok (.aload_n 0, 1) := by decide +kernel
theorem dX12_kept_37 : decode cX12_kept 37 = .ok (.getfield 178, 3) := by decide +kernel
theorem dX12_kept_40 : decode cX12_kept 40 = .ok (.iload_n 1, 1) := by decide +kernel
theorem dX12_kept_41 : decode cX12_kept 41 = .ok (.iaload, 1) := by decide +kernel
theorem dX12_kept_42 : decode cX12_kept 42 = .ok (.istore_n 3, 1) := by decide +kernel
theorem dX12_kept_43 : decode cX12_kept 43 = .ok (.aload_n 0, 1) := by decide +kernel
theorem dX12_kept_44 : decode cX12_kept 44 = .ok (.getfield 178, 3) := by decide +kernel
theorem dX12_kept_47 : decode cX12_kept 47 = .ok (.iload_n 1, 1) := by decide +kernel
theorem dX12_kept_48 : decode cX12_kept 48 = .ok (.iload_n 2, 1) := by decide +kernel
theorem dX12_kept_49 : decode cX12_kept 49 = .ok (.iastore, 1) := by decide +kernel
theorem dX12_kept_50 : decode cX12_kept 50 = .ok (.iload_n 3, 1) := by decide +kernel
theorem dX12_kept_51 : decode cX12_kept 51 = .ok (.ireturn, 1) := by decide +kernel
theorem dX12_dividend_0 : decode cX12_dividend 0 = .ok (.iload_n 1, 1) := by decide +kernel
theorem dX12_dividend_1 : decode cX12_dividend 1 = .ok (.ifCond .lt 23, 3) := by decide +kernel
theorem dX12_dividend_4 : decode cX12_dividend 4 = .ok (.iload_n 1, 1) := by decide +kernel
theorem dX12_dividend_5 : decode cX12_dividend 5 = .ok (.aload_n 0, 1) := by decide +kernel
theorem dX12_dividend_6 : decode cX12_dividend 6 = .ok (.getfield 453, 3) := by decide +kernel
theorem dX12_dividend_9 : decode cX12_dividend 9 = .ok (.if_icmp .gt 15, 3) := by decide +kernel
theorem dX12_dividend_12 : decode cX12_dividend 12 = .ok (.aload_n 0, 1) := by decide +kernel
theorem dX12_dividend_13 : decode cX12_dividend 13 = .ok (.getfield 175, 3) := by decide +kernel
theorem dX12_dividend_16 : decode cX12_dividend 16 = .ok (.aload_n 0, 1) := by decide +kernel
theorem dX12_dividend_17 : decode cX12_dividend 17 = .ok (.invokevirtual 450, 3) := by decide +kernel
theorem dX12_dividend_20 : decode cX12_dividend 20 = .ok (.baload, 1) := by decide +kernel
theorem dX12_dividend_21 : decode cX12_dividend 21 = .ok (.ifCond .eq 10, 3) := by decide +kernel
theorem dX12_dividend_24 : decode cX12_dividend 24 = .ok (.aload_n 0, 1) := by decide +kernel
theorem dX12_dividend_25 : decode cX12_dividend 25 = .ok (.bipush (-6), 2) := by decide +kernel
theorem dX12_dividend_27 : decode cX12_dividend 27 = .ok (.invokevirtual 267, 3) := by decide +kernel
theorem dX12_dividend_30 : decode cX12_dividend 30 = .ok (.ireturn, 1) := by decide +kernel
theorem dX12_dividend_31 : decode cX12_dividend 31 = .ok (.aload_n 0, 1) := by decide +kernel
theorem dX12_dividend_32 : decode cX12_dividend 32 = .ok (.getfield 447, 3) := by decide +kernel
theorem dX12_dividend_35 : decode cX12_dividend 35 = .ok (.sipush 400, 3) := by decide +kernel
theorem dX12_dividend_38 : decode cX12_dividend 38 = .ok (.if_icmp .ne 10, 3) := by decide +kernel
theorem dX12_dividend_41 : decode cX12_dividend 41 = .ok (.aload_n 0, 1) := by decide +kernel
theorem dX12_dividend_42 : decode cX12_dividend 42 = .ok (.bipush (-7), 2) := by decide +kernel
theorem dX12_dividend_44 : decode cX12_dividend 44 = .ok (.invokevirtual 267, 3) := by decide +kernel
theorem dX12_dividend_47 : decode cX12_dividend 47 = .ok (.ireturn, 1) := by decide +kernel
theorem dX12_dividend_48 : decode cX12_dividend 48 = .ok (.aload_n 0, 1) := by decide +kernel
theorem dX12_dividend_49 : decode cX12_dividend 49 = .ok (.invokevirtual 465, 3) := by decide +kernel
theorem dX12_dividend_52 : decode cX12_dividend 52 = .ok (.iconst 0, 1) := by decide +kernel
theorem dX12_dividend_53 : decode cX12_dividend 53 = .ok (.istore_n 2, 1) := by decide +kernel
theorem dX12_dividend_54 : decode cX12_dividend 54 = .ok (.iconst 0, 1) := by decide +kernel
theorem dX12_dividend_55 : decode cX12_dividend 55 = .ok (.istore_n 3, 1) := by decide +kernel
theorem dX12_dividend_56 : decode cX12_dividend 56 = .ok (.iload_n 3, 1) := by decide +kernel
theorem dX12_dividend_57 : decode cX12_dividend 57 = .ok (.aload_n 0, 1) := by decide +kernel
theorem dX12_dividend_58 : decode cX12_dividend 58 = .ok (.getfield 259, 3) := by decide +kernel
theorem dX12_dividend_61 : decode cX12_dividend 61 = .ok (.if_icmp .ge 43, 3) := by decide +kernel
theorem dX12_dividend_64 : decode cX12_dividend 64 = .ok (.aload_n 0, 1) := by decide +kernel
theorem dX12_dividend_65 : decode cX12_dividend 65 = .ok (.getfield 106, 3) := by decide +kernel
theorem dX12_dividend_68 : decode cX12_dividend 68 = .ok (.iload_n 3, 1) := by decide +kernel
theorem dX12_dividend_69 : decode cX12_dividend 69 = .ok (.iaload, 1) := by decide +kernel
theorem dX12_dividend_70 : decode cX12_dividend 70 = .ok (.iconst 1, 1) := by decide +kernel
theorem dX12_dividend_71 : decode cX12_dividend 71 = .ok (.if_icmp .ne 27, 3) := by decide +kernel
theorem dX12_dividend_74 : decode cX12_dividend 74 = .ok (.aload_n 0, 1) := by decide +kernel
theorem dX12_dividend_75 : decode cX12_dividend 75 = .ok (.getfield 109, 3) := by decide +kernel
theorem dX12_dividend_78 : decode cX12_dividend 78 = .ok (.iload_n 3, 1) := by decide +kernel
theorem dX12_dividend_79 : decode cX12_dividend 79 = .ok (.iaload, 1) := by decide +kernel
theorem dX12_dividend_80 : decode cX12_dividend 80 = .ok (.iconst (-1), 1) := by decide +kernel
theorem dX12_dividend_81 : decode cX12_dividend 81 = .ok (.if_icmp .eq 17, 3) := by decide +kernel
theorem dX12_dividend_84 : decode cX12_dividend 84 = .ok (.iload_n 2, 1) := by decide +kernel
theorem dX12_dividend_85 : decode cX12_dividend 85 = .ok (.aload_n 0, 1) := by decide +kernel
theorem dX12_dividend_86 : decode cX12_dividend 86 = .ok (.getfield 178, 3) := by decide +kernel
theorem dX12_dividend_89 : decode cX12_dividend 89 = .ok (.aload_n 0, 1) := by decide +kernel
theorem dX12_dividend_90 : decode cX12_dividend 90 = .ok (.getfield 109, 3) := by decide +kernel
theorem dX12_dividend_93 : decode cX12_dividend 93 = .ok (.iload_n 3, 1) := by decide +kernel
theorem dX12_dividend_94 : decode cX12_dividend 94 = .ok (.iaload, 1) := by decide +kernel
theorem dX12_dividend_95 : decode cX12_dividend 95 = .ok (.iaload, 1) := by decide +kernel
theorem dX12_dividend_96 : decode cX12_dividend 96 = .ok (.iadd, 1) := by decide +kernel
theorem dX12_dividend_97 : decode cX12_dividend 97 = .ok (.istore_n 2, 1) := by decide +kernel
theorem dX12_dividend_98 : decode cX12_dividend 98 = .ok (.iinc 3 1, 3) := by decide +kernel
theorem dX12_dividend_101 : decode cX12_dividend 101 = .ok (.goto (-45), 3) := by decide +kernel
theorem dX12_dividend_104 : decode cX12_dividend 104 = .ok (.iconst 0, 1) := by decide +kernel
theorem dX12_dividend_105 : decode cX12_dividend 105 = .ok (.istore_n 3, 1) := by decide +kernel
theorem dX12_dividend_106 : decode cX12_dividend 106 = .ok (.iconst 0, 1) := by decide +kernel
theorem dX12_dividend_107 : decode cX12_dividend 107 = .ok (.istore 4, 2) := by decide +kernel
theorem dX12_dividend_109 : decode cX12_dividend 109 = .ok (.iload 4, 2) := by decide +kernel
theorem dX12_dividend_111 : decode cX12_dividend 111 = .ok (.aload_n 0, 1) := by decide +kernel
theorem dX12_dividend_112 : decode cX12_dividend 112 = .ok (.getfield 259, 3) := by decide +kernel
theorem dX12_dividend_115 : decode cX12_dividend 115 = .ok (.if_icmp .ge 82, 3) := by decide +kernel
theorem dX12_dividend_118 : decode cX12_dividend 118 = .ok (.iload_n 2, 1) := by decide +kernel
theorem dX12_dividend_119 : decode cX12_dividend 119 = .ok (.ifCond .le 78, 3) := by decide +kernel
theorem dX12_dividend_122 : decode cX12_dividend 122 = .ok (.aload_n 0, 1) := by decide +kernel
theorem dX12_dividend_123 : decode cX12_dividend 123 = .ok (.getfield 106, 3) := by decide +kernel
theorem dX12_dividend_126 : decode cX12_dividend 126 = .ok (.iload 4, 2) := by decide +kernel
theorem dX12_dividend_128 : decode cX12_dividend 128 = .ok (.iaload, 1) := by decide +kernel
theorem dX12_dividend_129 : decode cX12_dividend 129 = .ok (.iconst 1, 1) := by decide +kernel
theorem dX12_dividend_130 : decode cX12_dividend 130 = .ok (.if_icmp .ne 61, 3) := by decide +kernel
theorem dX12_dividend_133 : decode cX12_dividend 133 = .ok (.aload_n 0, 1) := by decide +kernel
theorem dX12_dividend_134 : decode cX12_dividend 134 = .ok (.getfield 109, 3) := by decide +kernel
theorem dX12_dividend_137 : decode cX12_dividend 137 = .ok (.iload 4, 2) := by decide +kernel
theorem dX12_dividend_139 : decode cX12_dividend 139 = .ok (.iaload, 1) := by decide +kernel
theorem dX12_dividend_140 : decode cX12_dividend 140 = .ok (.iconst (-1), 1) := by decide +kernel
theorem dX12_dividend_141 : decode cX12_dividend 141 = .ok (.if_icmp .ne 6, 3) := by decide +kernel
theorem dX12_dividend_144 : decode cX12_dividend 144 = .ok (.goto 47, 3) := by decide +kernel
theorem dX12_dividend_147 : decode cX12_dividend 147 = .ok (.iload_n 1, 1) := by decide +kernel
theorem dX12_dividend_148 : decode cX12_dividend 148 = .ok (.i2l, 1) := by decide +kernel
theorem dX12_dividend_149 : decode cX12_dividend 149 = .ok (.aload_n 0, 1) := by decide +kernel
theorem dX12_dividend_150 : decode cX12_dividend 150 = .ok (.getfield 178, 3) := by decide +kernel
theorem dX12_dividend_153 : decode cX12_dividend 153 = .ok (.aload_n 0, 1) := by decide +kernel
theorem dX12_dividend_154 : decode cX12_dividend 154 = .ok (.getfield 109, 3) := by decide +kernel
theorem dX12_dividend_157 : decode cX12_dividend 157 = .ok (.iload 4, 2) := by decide +kernel
theorem dX12_dividend_159 : decode cX12_dividend 159 = .ok (.iaload, 1) := by decide +kernel
theorem dX12_dividend_160 : decode cX12_dividend 160 = .ok (.iaload, 1) := by decide +kernel
theorem dX12_dividend_161 : decode cX12_dividend 161 = .ok (.i2l, 1) := by decide +kernel
theorem dX12_dividend_162 : decode cX12_dividend 162 = .ok (.lmul, 1) := by decide +kernel
theorem dX12_dividend_163 : decode cX12_dividend 163 = .ok (.iload_n 2, 1) := by decide +kernel
theorem dX12_dividend_164 : decode cX12_dividend 164 = .ok (.i2l, 1) := by decide +kernel
theorem dX12_dividend_165 : decode cX12_dividend 165 = .ok (.ldiv, 1) := by decide +kernel
theorem dX12_dividend_166 : decode cX12_dividend 166 = .ok (.l2i, 1) := by decide +kernel
theorem dX12_dividend_167 : decode cX12_dividend 167 = .ok (.istore 5, 2) := by decide +kernel
theorem dX12_dividend_169 : decode cX12_dividend 169 = .ok (.aload_n 0, 1) := by decide +kernel
theorem dX12_dividend_170 : decode cX12_dividend 170 = .ok (.getfield 181, 3) := by decide +kernel
theorem dX12_dividend_173 : decode cX12_dividend 173 = .ok (.aload_n 0, 1) := by decide +kernel
theorem dX12_dividend_174 : decode cX12_dividend 174 = .ok (.getfield 109, 3) := by decide +kernel
theorem dX12_dividend_177 : decode cX12_dividend 177 = .ok (.iload 4, 2) := by decide +kernel
theorem dX12_dividend_179 : decode cX12_dividend 179 = .ok (.iaload, 1) := by decide +kernel
theorem dX12_dividend_180 : decode cX12_dividend 180 = .ok (.dup2, 1) := by decide +kernel
theorem dX12_dividend_181 : decode cX12_dividend 181 = .ok (.iaload, 1) := by decide +kernel
theorem dX12_dividend_182 : decode cX12_dividend 182 = .ok (.iload 5, 2) := by decide +kernel
theorem dX12_dividend_184 : decode cX12_dividend 184 = .ok (.iadd, 1) := by decide +kernel
theorem dX12_dividend_185 : decode cX12_dividend 185 = .ok (.iastore, 1) := by decide +kernel
theorem dX12_dividend_186 : decode cX12_dividend 186 = .ok (.iload_n 3, 1) := by decide +kernel
theorem dX12_dividend_187 : decode cX12_dividend 187 = .ok (.iload 5, 2) := by decide +kernel
theorem dX12_dividend_189 : decode cX12_dividend 189 = .ok (.iadd, 1) := by decide +kernel
theorem dX12_dividend_190 : decode cX12_dividend 190 = .ok (.istore_n 3, 1) := by decide +kernel
theorem dX12_dividend_191 : decode cX12_dividend 191 = .ok (.iinc 4 1, 3) := by decide +kernel
theorem dX12_dividend_194 : decode cX12_dividend 194 = .ok (.goto (-85), 3) := by decide +kernel
theorem dX12_dividend_197 : decode cX12_dividend 197 = .ok (.aload_n 0, 1) := by decide +kernel
theorem dX12_dividend_198 : decode cX12_dividend 198 = .ok (.getfield 175, 3) := by decide +kernel
theorem dX12_dividend_201 : decode cX12_dividend 201 = .ok (.aload_n 0, 1) := by decide +kernel
theorem dX12_dividend_202 : decode cX12_dividend 202 = .ok (.invokevirtual 450, 3) := by decide +kernel
theorem dX12_dividend_205 : decode cX12_dividend 205 = .ok (.iconst 1, 1) := by decide +kernel
theorem dX12_dividend_206 : decode cX12_dividend 206 = .ok (.bastore, 1) := by decide +kernel
theorem dX12_dividend_207 : decode cX12_dividend 207 = .ok (.aload_n 0, 1) := by decide +kernel
theorem dX12_dividend_208 : decode cX12_dividend 208 = .ok (.iconst 2, 1) := by decide +kernel
theorem dX12_dividend_209 : decode cX12_dividend 209 = .ok (.iload_n 3, 1) := by decide +kernel
theorem dX12_dividend_210 : decode cX12_dividend 210 = .ok (.ineg, 1) := by decide +kernel
theorem dX12_dividend_211 : decode cX12_dividend 211 = .ok (.invokevirtual 459, 3) := by decide +kernel
theorem dX12_dividend_214 : decode cX12_dividend 214 = .ok (.iload_n 3, 1) := by decide +kernel
theorem dX12_dividend_215 : decode cX12_dividend 215 = .ok (.ireturn, 1) := by decide +kernel
theorem dX12_got_0 : decode cX12_got 0 = .ok (.aload_n 0, 1) := by decide +kernel
theorem dX12_got_1 : decode cX12_got 1 = .ok (.iload_n 1, 1) := by decide +kernel
theorem dX12_got_2 : decode cX12_got 2 = .ok (.invokevirtual 271, 3) := by decide +kernel
theorem dX12_got_5 : decode cX12_got 5 = .ok (.ifCond .eq 12, 3) := by decide +kernel
theorem dX12_got_8 : decode cX12_got 8 = .ok (.aload_n 0, 1) := by decide +kernel
theorem dX12_got_9 : decode cX12_got 9 = .ok (.getfield 181, 3) := by decide +kernel
theorem dX12_got_12 : decode cX12_got 12 = .ok (.iload_n 1, 1) := by decide +kernel
theorem dX12_got_13 : decode cX12_got 13 = .ok (.iaload, 1) := by decide +kernel
theorem dX12_got_14 : decode cX12_got 14 = .ok (.goto 4, 3) := by decide +kernel
theorem dX12_got_17 : decode cX12_got 17 = .ok (.iconst (-1), 1) := by decide +kernel
theorem dX12_got_18 : decode cX12_got 18 = .ok (.ireturn, 1) := by decide +kernel
theorem dX12_other_0 : decode cX12_other 0 = .ok (.iload_n 1, 1) := by decide +kernel
theorem dX12_other_1 : decode cX12_other 1 = .ok (.ldc_w 468, 3) := by decide +kernel
theorem dX12_other_4 : decode cX12_other 4 = .ok (.if_icmp .lt 19, 3) := by decide +kernel
theorem dX12_other_7 : decode cX12_other 7 = .ok (.iload_n 1, 1) := by decide +kernel
theorem dX12_other_8 : decode cX12_other 8 = .ok (.ldc_w 469, 3) := by decide +kernel
theorem dX12_other_11 : decode cX12_other 11 = .ok (.if_icmp .gt 12, 3) := by decide +kernel
theorem dX12_other_14 : decode cX12_other 14 = .ok (.aload_n 0, 1) := by decide +kernel
theorem dX12_other_15 : decode cX12_other 15 = .ok (.getfield 453, 3) := by decide +kernel
theorem dX12_other_18 : decode cX12_other 18 = .ok (.iload_n 1, 1) := by decide +kernel
theorem dX12_other_19 : decode cX12_other 19 = .ok (.iadd, 1) := by decide +kernel
theorem dX12_other_20 : decode cX12_other 20 = .ok (.ifCond .ge 10, 3) := by decide +kernel
theorem dX12_other_23 : decode cX12_other 23 = .ok (.aload_n 0, 1) := by decide +kernel
theorem dX12_other_24 : decode cX12_other 24 = .ok (.bipush (-6), 2) := by decide +kernel
theorem dX12_other_26 : decode cX12_other 26 = .ok (.invokevirtual 267, 3) := by decide +kernel
theorem dX12_other_29 : decode cX12_other 29 = .ok (.ireturn, 1) := by decide +kernel
theorem dX12_other_30 : decode cX12_other 30 = .ok (.aload_n 0, 1) := by decide +kernel
theorem dX12_other_31 : decode cX12_other 31 = .ok (.getfield 447, 3) := by decide +kernel
theorem dX12_other_34 : decode cX12_other 34 = .ok (.sipush 400, 3) := by decide +kernel
theorem dX12_other_37 : decode cX12_other 37 = .ok (.if_icmp .ne 10, 3) := by decide +kernel
theorem dX12_other_40 : decode cX12_other 40 = .ok (.aload_n 0, 1) := by decide +kernel
theorem dX12_other_41 : decode cX12_other 41 = .ok (.bipush (-7), 2) := by decide +kernel
theorem dX12_other_43 : decode cX12_other 43 = .ok (.invokevirtual 267, 3) := by decide +kernel
theorem dX12_other_46 : decode cX12_other 46 = .ok (.ireturn, 1) := by decide +kernel
theorem dX12_other_47 : decode cX12_other 47 = .ok (.aload_n 0, 1) := by decide +kernel
theorem dX12_other_48 : decode cX12_other 48 = .ok (.iconst 3, 1) := by decide +kernel
theorem dX12_other_49 : decode cX12_other 49 = .ok (.iload_n 1, 1) := by decide +kernel
theorem dX12_other_50 : decode cX12_other 50 = .ok (.invokevirtual 459, 3) := by decide +kernel
theorem dX12_other_53 : decode cX12_other 53 = .ok (.aload_n 0, 1) := by decide +kernel
theorem dX12_other_54 : decode cX12_other 54 = .ok (.getfield 453, 3) := by decide +kernel
theorem dX12_other_57 : decode cX12_other 57 = .ok (.ireturn, 1) := by decide +kernel
theorem dX12_head_0 : decode cX12_head 0 = .ok (.iload_n 1, 1) := by decide +kernel
theorem dX12_head_1 : decode cX12_head 1 = .ok (.ifCond .lt 8, 3) := by decide +kernel
theorem dX12_head_4 : decode cX12_head 4 = .ok (.iload_n 1, 1) := by decide +kernel
theorem dX12_head_5 : decode cX12_head 5 = .ok (.iconst 3, 1) := by decide +kernel
theorem dX12_head_6 : decode cX12_head 6 = .ok (.if_icmp .le 7, 3) := by decide +kernel
theorem dX12_head_9 : decode cX12_head 9 = .ok (.ldc_w 470, 3) := by decide +kernel
theorem dX12_head_12 : decode cX12_head 12 = .ok (.ireturn, 1) := by decide +kernel
theorem dX12_head_13 : decode cX12_head 13 = .ok (.iconst 0, 1) := by decide +kernel
theorem dX12_head_14 : decode cX12_head 14 = .ok (.istore_n 3, 1) := by decide +kernel
theorem dX12_head_15 : decode cX12_head 15 = .ok (.iconst 0, 1) := by decide +kernel
theorem dX12_head_16 : decode cX12_head 16 = .ok (.istore 4, 2) := by decide +kernel
theorem dX12_head_18 : decode cX12_head 18 = .ok (.iload 4, 2) := by decide +kernel
theorem dX12_head_20 : decode cX12_head 20 = .ok (.aload_n 0, 1) := by decide +kernel
theorem dX12_head_21 : decode cX12_head 21 = .ok (.getfield 447, 3) := by decide +kernel
theorem dX12_head_24 : decode cX12_head 24 = .ok (.if_icmp .ge 41, 3) := by decide +kernel
theorem dX12_head_27 : decode cX12_head 27 = .ok (.aload_n 0, 1) := by decide +kernel
theorem dX12_head_28 : decode cX12_head 28 = .ok (.getfield 166, 3) := by decide +kernel
theorem dX12_head_31 : decode cX12_head 31 = .ok (.iload 4, 2) := by decide +kernel
theorem dX12_head_33 : decode cX12_head 33 = .ok (.iaload, 1) := by decide +kernel
theorem dX12_head_34 : decode cX12_head 34 = .ok (.iload_n 1, 1) := by decide +kernel
theorem dX12_head_35 : decode cX12_head 35 = .ok (.if_icmp .ne 24, 3) := by decide +kernel
theorem dX12_head_38 : decode cX12_head 38 = .ok (.aload_n 0, 1) := by decide +kernel
theorem dX12_head_39 : decode cX12_head 39 = .ok (.getfield 163, 3) := by decide +kernel
theorem dX12_head_42 : decode cX12_head 42 = .ok (.iload 4, 2) := by decide +kernel
theorem dX12_head_44 : decode cX12_head 44 = .ok (.iaload, 1) := by decide +kernel
theorem dX12_head_45 : decode cX12_head 45 = .ok (.iload_n 2, 1) := by decide +kernel
theorem dX12_head_46 : decode cX12_head 46 = .ok (.if_icmp .ne 13, 3) := by decide +kernel
theorem dX12_head_49 : decode cX12_head 49 = .ok (.iload_n 3, 1) := by decide +kernel
theorem dX12_head_50 : decode cX12_head 50 = .ok (.aload_n 0, 1) := by decide +kernel
theorem dX12_head_51 : decode cX12_head 51 = .ok (.getfield 169, 3) := by decide +kernel
theorem dX12_head_54 : decode cX12_head 54 = .ok (.iload 4, 2) := by decide +kernel
theorem dX12_head_56 : decode cX12_head 56 = .ok (.iaload, 1) := by decide +kernel
theorem dX12_head_57 : decode cX12_head 57 = .ok (.iadd, 1) := by decide +kernel
theorem dX12_head_58 : decode cX12_head 58 = .ok (.istore_n 3, 1) := by decide +kernel
theorem dX12_head_59 : decode cX12_head 59 = .ok (.iinc 4 1, 3) := by decide +kernel
theorem dX12_head_62 : decode cX12_head 62 = .ok (.goto (-44), 3) := by decide +kernel
theorem dX12_head_65 : decode cX12_head 65 = .ok (.iload_n 3, 1) := by decide +kernel
theorem dX12_head_66 : decode cX12_head 66 = .ok (.ireturn, 1) := by decide +kernel
theorem dX12_audit_0 : decode cX12_audit 0 = .ok (.iload_n 1, 1) := by decide +kernel
theorem dX12_audit_1 : decode cX12_audit 1 = .ok (.aload_n 0, 1) := by decide +kernel
theorem dX12_audit_2 : decode cX12_audit 2 = .ok (.getfield 453, 3) := by decide +kernel
theorem dX12_audit_5 : decode cX12_audit 5 = .ok (.isub, 1) := by decide +kernel
theorem dX12_audit_6 : decode cX12_audit 6 = .ok (.ireturn, 1) := by decide +kernel
theorem dX12_roof_0 : decode cX12_roof 0 = .ok (.iload_n 1, 1) := by decide +kernel
theorem dX12_roof_1 : decode cX12_roof 1 = .ok (.iconst 1, 1) := by decide +kernel
theorem dX12_roof_2 : decode cX12_roof 2 = .ok (.if_icmp .lt 21, 3) := by decide +kernel
theorem dX12_roof_5 : decode cX12_roof 5 = .ok (.iload_n 1, 1) := by decide +kernel
theorem dX12_roof_6 : decode cX12_roof 6 = .ok (.ldc_w 469, 3) := by decide +kernel
theorem dX12_roof_9 : decode cX12_roof 9 = .ok (.if_icmp .gt 14, 3) := by decide +kernel
theorem dX12_roof_12 : decode cX12_roof 12 = .ok (.iload_n 2, 1) := by decide +kernel
theorem dX12_roof_13 : decode cX12_roof 13 = .ok (.ifCond .lt 10, 3) := by decide +kernel
theorem dX12_roof_16 : decode cX12_roof 16 = .ok (.iload_n 2, 1) := by decide +kernel
theorem dX12_roof_17 : decode cX12_roof 17 = .ok (.sipush 9999, 3) := by decide +kernel
theorem dX12_roof_20 : decode cX12_roof 20 = .ok (.if_icmp .le 10, 3) := by decide +kernel
theorem dX12_roof_23 : decode cX12_roof 23 = .ok (.aload_n 0, 1) := by decide +kernel
theorem dX12_roof_24 : decode cX12_roof 24 = .ok (.bipush (-6), 2) := by decide +kernel
theorem dX12_roof_26 : decode cX12_roof 26 = .ok (.invokevirtual 267, 3) := by decide +kernel
theorem dX12_roof_29 : decode cX12_roof 29 = .ok (.ireturn, 1) := by decide +kernel
theorem dX12_roof_30 : decode cX12_roof 30 = .ok (.aload_n 0, 1) := by decide +kernel
theorem dX12_roof_31 : decode cX12_roof 31 = .ok (.getfield 471, 3) := by decide +kernel
theorem dX12_roof_34 : decode cX12_roof 34 = .ok (.iconst 2, 1) := by decide +kernel
theorem dX12_roof_35 : decode cX12_roof 35 = .ok (.if_icmp .ne 10, 3) := by decide +kernel
theorem dX12_roof_38 : decode cX12_roof 38 = .ok (.aload_n 0, 1) := by decide +kernel
theorem dX12_roof_39 : decode cX12_roof 39 = .ok (.bipush (-7), 2) := by decide +kernel
theorem dX12_roof_41 : decode cX12_roof 41 = .ok (.invokevirtual 267, 3) := by decide +kernel
theorem dX12_roof_44 : decode cX12_roof 44 = .ok (.ireturn, 1) := by decide +kernel
theorem dX12_roof_45 : decode cX12_roof 45 = .ok (.aload_n 0, 1) := by decide +kernel
theorem dX12_roof_46 : decode cX12_roof 46 = .ok (.getfield 184, 3) := by decide +kernel
theorem dX12_roof_49 : decode cX12_roof 49 = .ok (.aload_n 0, 1) := by decide +kernel
theorem dX12_roof_50 : decode cX12_roof 50 = .ok (.getfield 471, 3) := by decide +kernel
theorem dX12_roof_53 : decode cX12_roof 53 = .ok (.iload_n 1, 1) := by decide +kernel
theorem dX12_roof_54 : decode cX12_roof 54 = .ok (.iastore, 1) := by decide +kernel
theorem dX12_roof_55 : decode cX12_roof 55 = .ok (.aload_n 0, 1) := by decide +kernel
theorem dX12_roof_56 : decode cX12_roof 56 = .ok (.getfield 187, 3) := by decide +kernel
theorem dX12_roof_59 : decode cX12_roof 59 = .ok (.aload_n 0, 1) := by decide +kernel
theorem dX12_roof_60 : decode cX12_roof 60 = .ok (.getfield 471, 3) := by decide +kernel
theorem dX12_roof_63 : decode cX12_roof 63 = .ok (.iload_n 2, 1) := by decide +kernel
theorem dX12_roof_64 : decode cX12_roof 64 = .ok (.iastore, 1) := by decide +kernel
theorem dX12_roof_65 : decode cX12_roof 65 = .ok (.aload_n 0, 1) := by decide +kernel
theorem dX12_roof_66 : decode cX12_roof 66 = .ok (.dup, 1) := by decide +kernel
theorem dX12_roof_67 : decode cX12_roof 67 = .ok (.getfield 471, 3) := by decide +kernel
theorem dX12_roof_70 : decode cX12_roof 70 = .ok (.dup_x1, 1) := by decide +kernel
theorem dX12_roof_71 : decode cX12_roof 71 = .ok (.iconst 1, 1) := by decide +kernel
theorem dX12_roof_72 : decode cX12_roof 72 = .ok (.iadd, 1) := by decide +kernel
theorem dX12_roof_73 : decode cX12_roof 73 = .ok (.putfield 471, 3) := by decide +kernel
theorem dX12_roof_76 : decode cX12_roof 76 = .ok (.ireturn, 1) := by decide +kernel
theorem dX12_endsIn_0 : decode cX12_endsIn 0 = .ok (.aload_n 0, 1) := by decide +kernel
theorem dX12_endsIn_1 : decode cX12_endsIn 1 = .ok (.getfield 154, 3) := by decide +kernel
theorem dX12_endsIn_4 : decode cX12_endsIn 4 = .ok (.iload_n 1, 1) := by decide +kernel
theorem dX12_endsIn_5 : decode cX12_endsIn 5 = .ok (.iaload, 1) := by decide +kernel
theorem dX12_endsIn_6 : decode cX12_endsIn 6 = .ok (.ifCond .ne 35, 3) := by decide +kernel
theorem dX12_endsIn_9 : decode cX12_endsIn 9 = .ok (.aload_n 0, 1) := by decide +kernel
theorem dX12_endsIn_10 : decode cX12_endsIn 10 = .ok (.getfield 151, 3) := by decide +kernel
theorem dX12_endsIn_13 : decode cX12_endsIn 13 = .ok (.iload_n 1, 1) := by decide +kernel
theorem dX12_endsIn_14 : decode cX12_endsIn 14 = .ok (.iaload, 1) := by decide +kernel
theorem dX12_endsIn_15 : decode cX12_endsIn 15 = .ok (.aload_n 0, 1) := by decide +kernel
theorem dX12_endsIn_16 : decode cX12_endsIn 16 = .ok (.invokevirtual 450, 3) := by decide +kernel
theorem dX12_endsIn_19 : decode cX12_endsIn 19 = .ok (.if_icmp .lt 22, 3) := by decide +kernel
theorem dX12_endsIn_22 : decode cX12_endsIn 22 = .ok (.aload_n 0, 1) := by decide +kernel
theorem dX12_endsIn_23 : decode cX12_endsIn 23 = .ok (.getfield 151, 3) := by decide +kernel
theorem dX12_endsIn_26 : decode cX12_endsIn 26 = .ok (.iload_n 1, 1) := by decide +kernel
theorem dX12_endsIn_27 : decode cX12_endsIn 27 = .ok (.iaload, 1) := by decide +kernel
theorem dX12_endsIn_28 : decode cX12_endsIn 28 = .ok (.aload_n 0, 1) := by decide +kernel
theorem dX12_endsIn_29 : decode cX12_endsIn 29 = .ok (.invokevirtual 450, 3) := by decide +kernel
theorem dX12_endsIn_32 : decode cX12_endsIn 32 = .ok (.iload_n 2, 1) := by decide +kernel
theorem dX12_endsIn_33 : decode cX12_endsIn 33 = .ok (.iadd, 1) := by decide +kernel
theorem dX12_endsIn_34 : decode cX12_endsIn 34 = .ok (.if_icmp .ge 7, 3) := by decide +kernel
theorem dX12_endsIn_37 : decode cX12_endsIn 37 = .ok (.iconst 1, 1) := by decide +kernel
theorem dX12_endsIn_38 : decode cX12_endsIn 38 = .ok (.goto 4, 3) := by decide +kernel
theorem dX12_endsIn_41 : decode cX12_endsIn 41 = .ok (.iconst 0, 1) := by decide +kernel
theorem dX12_endsIn_42 : decode cX12_endsIn 42 = .ok (.ireturn, 1) := by decide +kernel
theorem dX12_holds__0 : decode cX12_holds_ 0 = .ok (.aload_n 0, 1) := by decide +kernel
theorem dX12_holds__1 : decode cX12_holds_ 1 = .ok (.getfield 453, 3) := by decide +kernel
theorem dX12_holds__4 : decode cX12_holds_ 4 = .ok (.i2l, 1) := by decide +kernel
theorem dX12_holds__5 : decode cX12_holds_ 5 = .ok (.lstore 5, 2) := by decide +kernel
theorem dX12_holds__7 : decode cX12_holds_ 7 = .ok (.iconst 0, 1) := by decide +kernel
theorem dX12_holds__8 : decode cX12_holds_ 8 = .ok (.istore 7, 2) := by decide +kernel
theorem dX12_holds__10 : decode cX12_holds_ 10 = .ok (.iload 7, 2) := by decide +kernel
theorem dX12_holds__12 : decode cX12_holds_ 12 = .ok (.iload_n 2, 1) := by decide +kernel
theorem dX12_holds__13 : decode cX12_holds_ 13 = .ok (.if_icmp .ge 211, 3) := by decide +kernel
theorem dX12_holds__16 : decode cX12_holds_ 16 = .ok (.aload_n 0, 1) := by decide +kernel
theorem dX12_holds__17 : decode cX12_holds_ 17 = .ok (.invokevirtual 450, 3) := by decide +kernel
theorem dX12_holds__20 : decode cX12_holds_ 20 = .ok (.iload 7, 2) := by decide +kernel
theorem dX12_holds__22 : decode cX12_holds_ 22 = .ok (.iadd, 1) := by decide +kernel
theorem dX12_holds__23 : decode cX12_holds_ 23 = .ok (.istore 8, 2) := by decide +kernel
theorem dX12_holds__25 : decode cX12_holds_ 25 = .ok (.iconst 0, 1) := by decide +kernel
theorem dX12_holds__26 : decode cX12_holds_ 26 = .ok (.istore 9, 2) := by decide +kernel
theorem dX12_holds__28 : decode cX12_holds_ 28 = .ok (.iload 9, 2) := by decide +kernel
theorem dX12_holds__30 : decode cX12_holds_ 30 = .ok (.aload_n 0, 1) := by decide +kernel
theorem dX12_holds__31 : decode cX12_holds_ 31 = .ok (.getfield 415, 3) := by decide +kernel
theorem dX12_holds__34 : decode cX12_holds_ 34 = .ok (.if_icmp .ge 117, 3) := by decide +kernel
theorem dX12_holds__37 : decode cX12_holds_ 37 = .ok (.iload_n 1, 1) := by decide +kernel
theorem dX12_holds__38 : decode cX12_holds_ 38 = .ok (.iload 9, 2) := by decide +kernel
theorem dX12_holds__40 : decode cX12_holds_ 40 = .ok (.ishr, 1) := by decide +kernel
theorem dX12_holds__41 : decode cX12_holds_ 41 = .ok (.iconst 1, 1) := by decide +kernel
theorem dX12_holds__42 : decode cX12_holds_ 42 = .ok (.iand, 1) := by decide +kernel
theorem dX12_holds__43 : decode cX12_holds_ 43 = .ok (.iconst 1, 1) := by decide +kernel
theorem dX12_holds__44 : decode cX12_holds_ 44 = .ok (.if_icmp .ne 19, 3) := by decide +kernel
theorem dX12_holds__47 : decode cX12_holds_ 47 = .ok (.iload 8, 2) := by decide +kernel
theorem dX12_holds__49 : decode cX12_holds_ 49 = .ok (.aload_n 0, 1) := by decide +kernel
theorem dX12_holds__50 : decode cX12_holds_ 50 = .ok (.getfield 151, 3) := by decide +kernel
theorem dX12_holds__53 : decode cX12_holds_ 53 = .ok (.iload 9, 2) := by decide +kernel
theorem dX12_holds__55 : decode cX12_holds_ 55 = .ok (.iaload, 1) := by decide +kernel
theorem dX12_holds__56 : decode cX12_holds_ 56 = .ok (.if_icmp .lt 7, 3) := by decide +kernel
theorem dX12_holds__59 : decode cX12_holds_ 59 = .ok (.iconst 1, 1) := by decide +kernel
theorem dX12_holds__60 : decode cX12_holds_ 60 = .ok (.goto 4, 3) := by decide +kernel
theorem dX12_holds__63 : decode cX12_holds_ 63 = .ok (.iconst 0, 1) := by decide +kernel
theorem dX12_holds__64 : decode cX12_holds_ 64 = .ok (.istore 10, 2) := by decide +kernel
theorem dX12_holds__66 : decode cX12_holds_ 66 = .ok (.iload 10, 2) := by decide +kernel
theorem dX12_holds__68 : decode cX12_holds_ 68 = .ok (.ifCond .eq 28, 3) := by decide +kernel
theorem dX12_holds__71 : decode cX12_holds_ 71 = .ok (.iload 8, 2) := by decide +kernel
theorem dX12_holds__73 : decode cX12_holds_ 73 = .ok (.aload_n 0, 1) := by decide +kernel
theorem dX12_holds__74 : decode cX12_holds_ 74 = .ok (.getfield 151, 3) := by decide +kernel
theorem dX12_holds__77 : decode cX12_holds_ 77 = .ok (.iload 9, 2) := by decide +kernel
theorem dX12_holds__79 : decode cX12_holds_ 79 = .ok (.iaload, 1) := by decide +kernel
theorem dX12_holds__80 : decode cX12_holds_ 80 = .ok (.if_icmp .ne 16, 3) := by decide +kernel
theorem dX12_holds__83 : decode cX12_holds_ 83 = .ok (.lload 5, 2) := by decide +kernel
theorem dX12_holds__85 : decode cX12_holds_ 85 = .ok (.aload_n 0, 1) := by decide +kernel
theorem dX12_holds__86 : decode cX12_holds_ 86 = .ok (.iload 9, 2) := by decide +kernel
theorem dX12_holds__88 : decode cX12_holds_ 88 = .ok (.iconst 0, 1) := by decide +kernel
theorem dX12_holds__89 : decode cX12_holds_ 89 = .ok (.invokevirtual 456, 3) := by decide +kernel
theorem dX12_holds__92 : decode cX12_holds_ 92 = .ok (.i2l, 1) := by decide +kernel
theorem dX12_holds__93 : decode cX12_holds_ 93 = .ok (.ladd, 1) := by decide +kernel
theorem dX12_holds__94 : decode cX12_holds_ 94 = .ok (.lstore 5, 2) := by decide +kernel
theorem dX12_holds__96 : decode cX12_holds_ 96 = .ok (.iload 7, 2) := by decide +kernel
theorem dX12_holds__98 : decode cX12_holds_ 98 = .ok (.ifCond .ne 16, 3) := by decide +kernel
theorem dX12_holds__101 : decode cX12_holds_ 101 = .ok (.aload_n 0, 1) := by decide +kernel
theorem dX12_holds__102 : decode cX12_holds_ 102 = .ok (.getfield 172, 3) := by decide +kernel
theorem dX12_holds__105 : decode cX12_holds_ 105 = .ok (.iload 8, 2) := by decide +kernel
theorem dX12_holds__107 : decode cX12_holds_ 107 = .ok (.baload, 1) := by decide +kernel
theorem dX12_holds__108 : decode cX12_holds_ 108 = .ok (.ifCond .eq 6, 3) := by decide +kernel
theorem dX12_holds__111 : decode cX12_holds_ 111 = .ok (.goto 34, 3) := by decide +kernel
theorem dX12_holds__114 : decode cX12_holds_ 114 = .ok (.lload 5, 2) := by decide +kernel
theorem dX12_holds__116 : decode cX12_holds_ 116 = .ok (.iload 10, 2) := by decide +kernel
theorem dX12_holds__118 : decode cX12_holds_ 118 = .ok (.ifCond .eq 15, 3) := by decide +kernel
theorem dX12_holds__121 : decode cX12_holds_ 121 = .ok (.aload_n 0, 1) := by decide +kernel
theorem dX12_holds__122 : decode cX12_holds_ 122 = .ok (.iload 9, 2) := by decide +kernel
theorem dX12_holds__124 : decode cX12_holds_ 124 = .ok (.iload 8, 2) := by decide +kernel
theorem dX12_holds__126 : decode cX12_holds_ 126 = .ok (.invokevirtual 435, 3) := by decide +kernel
theorem dX12_holds__129 : decode cX12_holds_ 129 = .ok (.i2l, 1) := by decide +kernel
theorem dX12_holds__130 : decode cX12_holds_ 130 = .ok (.goto 12, 3) := by decide +kernel
theorem dX12_holds__133 : decode cX12_holds_ 133 = .ok (.aload_n 0, 1) := by decide +kernel
theorem dX12_holds__134 : decode cX12_holds_ 134 = .ok (.iload 9, 2) := by decide +kernel
theorem dX12_holds__136 : decode cX12_holds_ 136 = .ok (.iload 8, 2) := by decide +kernel
theorem dX12_holds__138 : decode cX12_holds_ 138 = .ok (.invokevirtual 438, 3) := by decide +kernel
theorem dX12_holds__141 : decode cX12_holds_ 141 = .ok (.i2l, 1) := by decide +kernel
theorem dX12_holds__142 : decode cX12_holds_ 142 = .ok (.ladd, 1) := by decide +kernel
