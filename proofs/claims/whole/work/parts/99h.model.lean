/-! CONSTRUCTORS: model -/
theorem dX12_init_0 : decode cX12_init 0 = .ok (.aload_n 0, 1) := by decide +kernel
theorem dX12_init_1 : decode cX12_init 1 = .ok (.invokespecial 1, 3) := by decide +kernel
theorem dX12_init_4 : decode cX12_init 4 = .ok (.aload_n 0, 1) := by decide +kernel
theorem dX12_init_5 : decode cX12_init 5 = .ok (.sipush 365, 3) := by decide +kernel
theorem dX12_init_8 : decode cX12_init 8 = .ok (.putfield 7, 3) := by decide +kernel
theorem dX12_init_11 : decode cX12_init 11 = .ok (.aload_n 0, 1) := by decide +kernel
theorem dX12_init_12 : decode cX12_init 12 = .ok (.bipush 24, 2) := by decide +kernel
theorem dX12_init_14 : decode cX12_init 14 = .ok (.newarray .int, 2) := by decide +kernel
theorem dX12_init_16 : decode cX12_init 16 = .ok (.putfield 13, 3) := by decide +kernel
theorem dX12_init_19 : decode cX12_init 19 = .ok (.aload_n 0, 1) := by decide +kernel
theorem dX12_init_20 : decode cX12_init 20 = .ok (.bipush 24, 2) := by decide +kernel
theorem dX12_init_22 : decode cX12_init 22 = .ok (.newarray .int, 2) := by decide +kernel
theorem dX12_init_24 : decode cX12_init 24 = .ok (.putfield 17, 3) := by decide +kernel
theorem dX12_init_27 : decode cX12_init 27 = .ok (.aload_n 0, 1) := by decide +kernel
theorem dX12_init_28 : decode cX12_init 28 = .ok (.bipush 24, 2) := by decide +kernel
theorem dX12_init_30 : decode cX12_init 30 = .ok (.newarray .int, 2) := by decide +kernel
theorem dX12_init_32 : decode cX12_init 32 = .ok (.putfield 20, 3) := by decide +kernel
theorem dX12_init_35 : decode cX12_init 35 = .ok (.aload_n 0, 1) := by decide +kernel
theorem dX12_init_36 : decode cX12_init 36 = .ok (.bipush 48, 2) := by decide +kernel
theorem dX12_init_38 : decode cX12_init 38 = .ok (.newarray .int, 2) := by decide +kernel
theorem dX12_init_40 : decode cX12_init 40 = .ok (.putfield 23, 3) := by decide +kernel
theorem dX12_init_43 : decode cX12_init 43 = .ok (.aload_n 0, 1) := by decide +kernel
theorem dX12_init_44 : decode cX12_init 44 = .ok (.bipush 48, 2) := by decide +kernel
theorem dX12_init_46 : decode cX12_init 46 = .ok (.newarray .int, 2) := by decide +kernel
theorem dX12_init_48 : decode cX12_init 48 = .ok (.putfield 26, 3) := by decide +kernel
theorem dX12_init_51 : decode cX12_init 51 = .ok (.aload_n 0, 1) := by decide +kernel
theorem dX12_init_52 : decode cX12_init 52 = .ok (.bipush 24, 2) := by decide +kernel
theorem dX12_init_54 : decode cX12_init 54 = .ok (.newarray .boolean, 2) := by decide +kernel
theorem dX12_init_56 : decode cX12_init 56 = .ok (.putfield 29, 3) := by decide +kernel
theorem dX12_init_59 : decode cX12_init 59 = .ok (.aload_n 0, 1) := by decide +kernel
theorem dX12_init_60 : decode cX12_init 60 = .ok (.bipush 24, 2) := by decide +kernel
theorem dX12_init_62 : decode cX12_init 62 = .ok (.newarray .boolean, 2) := by decide +kernel
theorem dX12_init_64 : decode cX12_init 64 = .ok (.putfield 33, 3) := by decide +kernel
theorem dX12_init_67 : decode cX12_init 67 = .ok (.aload_n 0, 1) := by decide +kernel
theorem dX12_init_68 : decode cX12_init 68 = .ok (.sipush 400, 3) := by decide +kernel
theorem dX12_init_71 : decode cX12_init 71 = .ok (.newarray .int, 2) := by decide +kernel
theorem dX12_init_73 : decode cX12_init 73 = .ok (.putfield 36, 3) := by decide +kernel
theorem dX12_init_76 : decode cX12_init 76 = .ok (.aload_n 0, 1) := by decide +kernel
theorem dX12_init_77 : decode cX12_init 77 = .ok (.sipush 400, 3) := by decide +kernel
theorem dX12_init_80 : decode cX12_init 80 = .ok (.newarray .int, 2) := by decide +kernel
theorem dX12_init_82 : decode cX12_init 82 = .ok (.putfield 39, 3) := by decide +kernel
theorem dX12_init_85 : decode cX12_init 85 = .ok (.aload_n 0, 1) := by decide +kernel
theorem dX12_init_86 : decode cX12_init 86 = .ok (.sipush 400, 3) := by decide +kernel
theorem dX12_init_89 : decode cX12_init 89 = .ok (.newarray .int, 2) := by decide +kernel
theorem dX12_init_91 : decode cX12_init 91 = .ok (.putfield 42, 3) := by decide +kernel
theorem dX12_init_94 : decode cX12_init 94 = .ok (.aload_n 0, 1) := by decide +kernel
theorem dX12_init_95 : decode cX12_init 95 = .ok (.sipush 400, 3) := by decide +kernel
theorem dX12_init_98 : decode cX12_init 98 = .ok (.newarray .int, 2) := by decide +kernel
theorem dX12_init_100 : decode cX12_init 100 = .ok (.putfield 45, 3) := by decide +kernel
theorem dX12_init_103 : decode cX12_init 103 = .ok (.aload_n 0, 1) := by decide +kernel
theorem dX12_init_104 : decode cX12_init 104 = .ok (.sipush 400, 3) := by decide +kernel
theorem dX12_init_107 : decode cX12_init 107 = .ok (.newarray .int, 2) := by decide +kernel
theorem dX12_init_109 : decode cX12_init 109 = .ok (.putfield 48, 3) := by decide +kernel
theorem dX12_init_112 : decode cX12_init 112 = .ok (.aload_n 0, 1) := by decide +kernel
theorem dX12_init_113 : decode cX12_init 113 = .ok (.bipush 10, 2) := by decide +kernel
theorem dX12_init_115 : decode cX12_init 115 = .ok (.newarray .int, 2) := by decide +kernel
theorem dX12_init_117 : decode cX12_init 117 = .ok (.putfield 51, 3) := by decide +kernel
theorem dX12_init_120 : decode cX12_init 120 = .ok (.aload_n 0, 1) := by decide +kernel
theorem dX12_init_121 : decode cX12_init 121 = .ok (.bipush 10, 2) := by decide +kernel
theorem dX12_init_123 : decode cX12_init 123 = .ok (.newarray .int, 2) := by decide +kernel
theorem dX12_init_125 : decode cX12_init 125 = .ok (.putfield 54, 3) := by decide +kernel
theorem dX12_init_128 : decode cX12_init 128 = .ok (.aload_n 0, 1) := by decide +kernel
theorem dX12_init_129 : decode cX12_init 129 = .ok (.bipush 10, 2) := by decide +kernel
theorem dX12_init_131 : decode cX12_init 131 = .ok (.newarray .int, 2) := by decide +kernel
theorem dX12_init_133 : decode cX12_init 133 = .ok (.putfield 57, 3) := by decide +kernel
theorem dX12_init_136 : decode cX12_init 136 = .ok (.aload_n 0, 1) := by decide +kernel
theorem dX12_init_137 : decode cX12_init 137 = .ok (.bipush 10, 2) := by decide +kernel
theorem dX12_init_139 : decode cX12_init 139 = .ok (.newarray .int, 2) := by decide +kernel
theorem dX12_init_141 : decode cX12_init 141 = .ok (.putfield 60, 3) := by decide +kernel
theorem dX12_init_144 : decode cX12_init 144 = .ok (.aload_n 0, 1) := by decide +kernel
theorem dX12_init_145 : decode cX12_init 145 = .ok (.sipush 800, 3) := by decide +kernel
theorem dX12_init_148 : decode cX12_init 148 = .ok (.newarray .long, 2) := by decide +kernel
theorem dX12_init_150 : decode cX12_init 150 = .ok (.putfield 63, 3) := by decide +kernel
theorem dX12_init_153 : decode cX12_init 153 = .ok (.aload_n 0, 1) := by decide +kernel
theorem dX12_init_154 : decode cX12_init 154 = .ok (.bipush 80, 2) := by decide +kernel
theorem dX12_init_156 : decode cX12_init 156 = .ok (.newarray .long, 2) := by decide +kernel
theorem dX12_init_158 : decode cX12_init 158 = .ok (.putfield 67, 3) := by decide +kernel
theorem dX12_init_161 : decode cX12_init 161 = .ok (.aload_n 0, 1) := by decide +kernel
theorem dX12_init_162 : decode cX12_init 162 = .ok (.sipush 320, 3) := by decide +kernel
theorem dX12_init_165 : decode cX12_init 165 = .ok (.newarray .int, 2) := by decide +kernel
theorem dX12_init_167 : decode cX12_init 167 = .ok (.putfield 70, 3) := by decide +kernel
theorem dX12_init_170 : decode cX12_init 170 = .ok (.aload_n 0, 1) := by decide +kernel
theorem dX12_init_171 : decode cX12_init 171 = .ok (.iconst 4, 1) := by decide +kernel
theorem dX12_init_172 : decode cX12_init 172 = .ok (.newarray .int, 2) := by decide +kernel
theorem dX12_init_174 : decode cX12_init 174 = .ok (.putfield 73, 3) := by decide +kernel
theorem dX12_init_177 : decode cX12_init 177 = .ok (.aload_n 0, 1) := by decide +kernel
theorem dX12_init_178 : decode cX12_init 178 = .ok (.bipush 12, 2) := by decide +kernel
theorem dX12_init_180 : decode cX12_init 180 = .ok (.newarray .int, 2) := by decide +kernel
theorem dX12_init_182 : decode cX12_init 182 = .ok (.putfield 76, 3) := by decide +kernel
theorem dX12_init_185 : decode cX12_init 185 = .ok (.aload_n 0, 1) := by decide +kernel
theorem dX12_init_186 : decode cX12_init 186 = .ok (.bipush 12, 2) := by decide +kernel
theorem dX12_init_188 : decode cX12_init 188 = .ok (.newarray .int, 2) := by decide +kernel
theorem dX12_init_190 : decode cX12_init 190 = .ok (.putfield 79, 3) := by decide +kernel
theorem dX12_init_193 : decode cX12_init 193 = .ok (.aload_n 0, 1) := by decide +kernel
theorem dX12_init_194 : decode cX12_init 194 = .ok (.bipush 12, 2) := by decide +kernel
theorem dX12_init_196 : decode cX12_init 196 = .ok (.newarray .int, 2) := by decide +kernel
theorem dX12_init_198 : decode cX12_init 198 = .ok (.putfield 82, 3) := by decide +kernel
theorem dX12_init_201 : decode cX12_init 201 = .ok (.aload_n 0, 1) := by decide +kernel
theorem dX12_init_202 : decode cX12_init 202 = .ok (.bipush 12, 2) := by decide +kernel
theorem dX12_init_204 : decode cX12_init 204 = .ok (.newarray .int, 2) := by decide +kernel
theorem dX12_init_206 : decode cX12_init 206 = .ok (.putfield 85, 3) := by decide +kernel
theorem dX12_init_209 : decode cX12_init 209 = .ok (.aload_n 0, 1) := by decide +kernel
theorem dX12_init_210 : decode cX12_init 210 = .ok (.bipush 12, 2) := by decide +kernel
theorem dX12_init_212 : decode cX12_init 212 = .ok (.newarray .int, 2) := by decide +kernel
theorem dX12_init_214 : decode cX12_init 214 = .ok (.putfield 88, 3) := by decide +kernel
theorem dX12_init_217 : decode cX12_init 217 = .ok (.aload_n 0, 1) := by decide +kernel
theorem dX12_init_218 : decode cX12_init 218 = .ok (.sipush 960, 3) := by decide +kernel
theorem dX12_init_221 : decode cX12_init 221 = .ok (.newarray .int, 2) := by decide +kernel
theorem dX12_init_223 : decode cX12_init 223 = .ok (.putfield 91, 3) := by decide +kernel
theorem dX12_init_226 : decode cX12_init 226 = .ok (.aload_n 0, 1) := by decide +kernel
theorem dX12_init_227 : decode cX12_init 227 = .ok (.sipush 960, 3) := by decide +kernel
theorem dX12_init_230 : decode cX12_init 230 = .ok (.newarray .int, 2) := by decide +kernel
theorem dX12_init_232 : decode cX12_init 232 = .ok (.putfield 94, 3) := by decide +kernel
theorem dX12_init_235 : decode cX12_init 235 = .ok (.aload_n 0, 1) := by decide +kernel
theorem dX12_init_236 : decode cX12_init 236 = .ok (.bipush 12, 2) := by decide +kernel
theorem dX12_init_238 : decode cX12_init 238 = .ok (.newarray .boolean, 2) := by decide +kernel
theorem dX12_init_240 : decode cX12_init 240 = .ok (.putfield 97, 3) := by decide +kernel
theorem dX12_init_243 : decode cX12_init 243 = .ok (.aload_n 0, 1) := by decide +kernel
theorem dX12_init_244 : decode cX12_init 244 = .ok (.sipush 300, 3) := by decide +kernel
theorem dX12_init_247 : decode cX12_init 247 = .ok (.newarray .int, 2) := by decide +kernel
theorem dX12_init_249 : decode cX12_init 249 = .ok (.putfield 100, 3) := by decide +kernel
theorem dX12_init_252 : decode cX12_init 252 = .ok (.aload_n 0, 1) := by decide +kernel
theorem dX12_init_253 : decode cX12_init 253 = .ok (.sipush 300, 3) := by decide +kernel
theorem dX12_init_256 : decode cX12_init 256 = .ok (.newarray .int, 2) := by decide +kernel
theorem dX12_init_258 : decode cX12_init 258 = .ok (.putfield 103, 3) := by decide +kernel
theorem dX12_init_261 : decode cX12_init 261 = .ok (.aload_n 0, 1) := by decide +kernel
theorem dX12_init_262 : decode cX12_init 262 = .ok (.bipush 12, 2) := by decide +kernel
theorem dX12_init_264 : decode cX12_init 264 = .ok (.newarray .int, 2) := by decide +kernel
theorem dX12_init_266 : decode cX12_init 266 = .ok (.putfield 106, 3) := by decide +kernel
theorem dX12_init_269 : decode cX12_init 269 = .ok (.aload_n 0, 1) := by decide +kernel
theorem dX12_init_270 : decode cX12_init 270 = .ok (.bipush 12, 2) := by decide +kernel
theorem dX12_init_272 : decode cX12_init 272 = .ok (.newarray .int, 2) := by decide +kernel
theorem dX12_init_274 : decode cX12_init 274 = .ok (.putfield 109, 3) := by decide +kernel
theorem dX12_init_277 : decode cX12_init 277 = .ok (.aload_n 0, 1) := by decide +kernel
theorem dX12_init_278 : decode cX12_init 278 = .ok (.bipush 12, 2) := by decide +kernel
theorem dX12_init_280 : decode cX12_init 280 = .ok (.newarray .int, 2) := by decide +kernel
theorem dX12_init_282 : decode cX12_init 282 = .ok (.putfield 112, 3) := by decide +kernel
theorem dX12_init_285 : decode cX12_init 285 = .ok (.aload_n 0, 1) := by decide +kernel
theorem dX12_init_286 : decode cX12_init 286 = .ok (.bipush 12, 2) := by decide +kernel
theorem dX12_init_288 : decode cX12_init 288 = .ok (.newarray .int, 2) := by decide +kernel
theorem dX12_init_290 : decode cX12_init 290 = .ok (.putfield 115, 3) := by decide +kernel
theorem dX12_init_293 : decode cX12_init 293 = .ok (.aload_n 0, 1) := by decide +kernel
theorem dX12_init_294 : decode cX12_init 294 = .ok (.bipush 12, 2) := by decide +kernel
theorem dX12_init_296 : decode cX12_init 296 = .ok (.newarray .int, 2) := by decide +kernel
theorem dX12_init_298 : decode cX12_init 298 = .ok (.putfield 118, 3) := by decide +kernel
theorem dX12_init_301 : decode cX12_init 301 = .ok (.aload_n 0, 1) := by decide +kernel
theorem dX12_init_302 : decode cX12_init 302 = .ok (.sipush 1920, 3) := by decide +kernel
theorem dX12_init_305 : decode cX12_init 305 = .ok (.newarray .int, 2) := by decide +kernel
theorem dX12_init_307 : decode cX12_init 307 = .ok (.putfield 121, 3) := by decide +kernel
theorem dX12_init_310 : decode cX12_init 310 = .ok (.aload_n 0, 1) := by decide +kernel
theorem dX12_init_311 : decode cX12_init 311 = .ok (.bipush 24, 2) := by decide +kernel
theorem dX12_init_313 : decode cX12_init 313 = .ok (.newarray .int, 2) := by decide +kernel
theorem dX12_init_315 : decode cX12_init 315 = .ok (.putfield 124, 3) := by decide +kernel
theorem dX12_init_318 : decode cX12_init 318 = .ok (.aload_n 0, 1) := by decide +kernel
theorem dX12_init_319 : decode cX12_init 319 = .ok (.sipush 1920, 3) := by decide +kernel
theorem dX12_init_322 : decode cX12_init 322 = .ok (.newarray .int, 2) := by decide +kernel
theorem dX12_init_324 : decode cX12_init 324 = .ok (.putfield 127, 3) := by decide +kernel
theorem dX12_init_327 : decode cX12_init 327 = .ok (.aload_n 0, 1) := by decide +kernel
theorem dX12_init_328 : decode cX12_init 328 = .ok (.bipush 24, 2) := by decide +kernel
theorem dX12_init_330 : decode cX12_init 330 = .ok (.newarray .int, 2) := by decide +kernel
theorem dX12_init_332 : decode cX12_init 332 = .ok (.putfield 130, 3) := by decide +kernel
theorem dX12_init_335 : decode cX12_init 335 = .ok (.aload_n 0, 1) := by decide +kernel
theorem dX12_init_336 : decode cX12_init 336 = .ok (.bipush 24, 2) := by decide +kernel
theorem dX12_init_338 : decode cX12_init 338 = .ok (.newarray .int, 2) := by decide +kernel
theorem dX12_init_340 : decode cX12_init 340 = .ok (.putfield 133, 3) := by decide +kernel
theorem dX12_init_343 : decode cX12_init 343 = .ok (.aload_n 0, 1) := by decide +kernel
theorem dX12_init_344 : decode cX12_init 344 = .ok (.bipush 8, 2) := by decide +kernel
theorem dX12_init_346 : decode cX12_init 346 = .ok (.newarray .int, 2) := by decide +kernel
theorem dX12_init_348 : decode cX12_init 348 = .ok (.putfield 136, 3) := by decide +kernel
theorem dX12_init_351 : decode cX12_init 351 = .ok (.aload_n 0, 1) := by decide +kernel
theorem dX12_init_352 : decode cX12_init 352 = .ok (.bipush 8, 2) := by decide +kernel
theorem dX12_init_354 : decode cX12_init 354 = .ok (.newarray .int, 2) := by decide +kernel
theorem dX12_init_356 : decode cX12_init 356 = .ok (.putfield 139, 3) := by decide +kernel
theorem dX12_init_359 : decode cX12_init 359 = .ok (.aload_n 0, 1) := by decide +kernel
theorem dX12_init_360 : decode cX12_init 360 = .ok (.bipush 8, 2) := by decide +kernel
theorem dX12_init_362 : decode cX12_init 362 = .ok (.newarray .int, 2) := by decide +kernel
theorem dX12_init_364 : decode cX12_init 364 = .ok (.putfield 142, 3) := by decide +kernel
theorem dX12_init_367 : decode cX12_init 367 = .ok (.aload_n 0, 1) := by decide +kernel
theorem dX12_init_368 : decode cX12_init 368 = .ok (.bipush 8, 2) := by decide +kernel
theorem dX12_init_370 : decode cX12_init 370 = .ok (.newarray .int, 2) := by decide +kernel
theorem dX12_init_372 : decode cX12_init 372 = .ok (.putfield 145, 3) := by decide +kernel
theorem dX12_init_375 : decode cX12_init 375 = .ok (.aload_n 0, 1) := by decide +kernel
theorem dX12_init_376 : decode cX12_init 376 = .ok (.bipush 8, 2) := by decide +kernel
theorem dX12_init_378 : decode cX12_init 378 = .ok (.newarray .int, 2) := by decide +kernel
theorem dX12_init_380 : decode cX12_init 380 = .ok (.putfield 148, 3) := by decide +kernel
theorem dX12_init_383 : decode cX12_init 383 = .ok (.aload_n 0, 1) := by decide +kernel
theorem dX12_init_384 : decode cX12_init 384 = .ok (.bipush 8, 2) := by decide +kernel
theorem dX12_init_386 : decode cX12_init 386 = .ok (.newarray .int, 2) := by decide +kernel
theorem dX12_init_388 : decode cX12_init 388 = .ok (.putfield 151, 3) := by decide +kernel
theorem dX12_init_391 : decode cX12_init 391 = .ok (.aload_n 0, 1) := by decide +kernel
theorem dX12_init_392 : decode cX12_init 392 = .ok (.bipush 8, 2) := by decide +kernel
theorem dX12_init_394 : decode cX12_init 394 = .ok (.newarray .int, 2) := by decide +kernel
theorem dX12_init_396 : decode cX12_init 396 = .ok (.putfield 154, 3) := by decide +kernel
theorem dX12_init_399 : decode cX12_init 399 = .ok (.aload_n 0, 1) := by decide +kernel
theorem dX12_init_400 : decode cX12_init 400 = .ok (.sipush 10452, 3) := by decide +kernel
theorem dX12_init_403 : decode cX12_init 403 = .ok (.newarray .int, 2) := by decide +kernel
theorem dX12_init_405 : decode cX12_init 405 = .ok (.putfield 157, 3) := by decide +kernel
theorem dX12_init_408 : decode cX12_init 408 = .ok (.aload_n 0, 1) := by decide +kernel
theorem dX12_init_409 : decode cX12_init 409 = .ok (.bipush 80, 2) := by decide +kernel
theorem dX12_init_411 : decode cX12_init 411 = .ok (.newarray .int, 2) := by decide +kernel
theorem dX12_init_413 : decode cX12_init 413 = .ok (.putfield 160, 3) := by decide +kernel
theorem dX12_init_416 : decode cX12_init 416 = .ok (.aload_n 0, 1) := by decide +kernel
theorem dX12_init_417 : decode cX12_init 417 = .ok (.sipush 400, 3) := by decide +kernel
theorem dX12_init_420 : decode cX12_init 420 = .ok (.newarray .int, 2) := by decide +kernel
theorem dX12_init_422 : decode cX12_init 422 = .ok (.putfield 163, 3) := by decide +kernel
theorem dX12_init_425 : decode cX12_init 425 = .ok (.aload_n 0, 1) := by decide +kernel
theorem dX12_init_426 : decode cX12_init 426 = .ok (.sipush 400, 3) := by decide +kernel
theorem dX12_init_429 : decode cX12_init 429 = .ok (.newarray .int, 2) := by decide +kernel
theorem dX12_init_431 : decode cX12_init 431 = .ok (.putfield 166, 3) := by decide +kernel
theorem dX12_init_434 : decode cX12_init 434 = .ok (.aload_n 0, 1) := by decide +kernel
theorem dX12_init_435 : decode cX12_init 435 = .ok (.sipush 400, 3) := by decide +kernel
theorem dX12_init_438 : decode cX12_init 438 = .ok (.newarray .int, 2) := by decide +kernel
theorem dX12_init_440 : decode cX12_init 440 = .ok (.putfield 169, 3) := by decide +kernel
theorem dX12_init_443 : decode cX12_init 443 = .ok (.aload_n 0, 1) := by decide +kernel
theorem dX12_init_444 : decode cX12_init 444 = .ok (.bipush 120, 2) := by decide +kernel
theorem dX12_init_446 : decode cX12_init 446 = .ok (.newarray .boolean, 2) := by decide +kernel
theorem dX12_init_448 : decode cX12_init 448 = .ok (.putfield 172, 3) := by decide +kernel
theorem dX12_init_451 : decode cX12_init 451 = .ok (.aload_n 0, 1) := by decide +kernel
theorem dX12_init_452 : decode cX12_init 452 = .ok (.bipush 120, 2) := by decide +kernel
theorem dX12_init_454 : decode cX12_init 454 = .ok (.newarray .boolean, 2) := by decide +kernel
theorem dX12_init_456 : decode cX12_init 456 = .ok (.putfield 175, 3) := by decide +kernel
theorem dX12_init_459 : decode cX12_init 459 = .ok (.aload_n 0, 1) := by decide +kernel
theorem dX12_init_460 : decode cX12_init 460 = .ok (.bipush 24, 2) := by decide +kernel
theorem dX12_init_462 : decode cX12_init 462 = .ok (.newarray .int, 2) := by decide +kernel
theorem dX12_init_464 : decode cX12_init 464 = .ok (.putfield 178, 3) := by decide +kernel
theorem dX12_init_467 : decode cX12_init 467 = .ok (.aload_n 0, 1) := by decide +kernel
theorem dX12_init_468 : decode cX12_init 468 = .ok (.bipush 24, 2) := by decide +kernel
theorem dX12_init_470 : decode cX12_init 470 = .ok (.newarray .int, 2) := by decide +kernel
theorem dX12_init_472 : decode cX12_init 472 = .ok (.putfield 181, 3) := by decide +kernel
theorem dX12_init_475 : decode cX12_init 475 = .ok (.aload_n 0, 1) := by decide +kernel
theorem dX12_init_476 : decode cX12_init 476 = .ok (.iconst 2, 1) := by decide +kernel
theorem dX12_init_477 : decode cX12_init 477 = .ok (.newarray .int, 2) := by decide +kernel
theorem dX12_init_479 : decode cX12_init 479 = .ok (.putfield 184, 3) := by decide +kernel
theorem dX12_init_482 : decode cX12_init 482 = .ok (.aload_n 0, 1) := by decide +kernel
theorem dX12_init_483 : decode cX12_init 483 = .ok (.iconst 2, 1) := by decide +kernel
theorem dX12_init_484 : decode cX12_init 484 = .ok (.newarray .int, 2) := by decide +kernel
theorem dX12_init_486 : decode cX12_init 486 = .ok (.putfield 187, 3) := by decide +kernel
theorem dX12_init_489 : decode cX12_init 489 = .ok (.aload_n 0, 1) := by decide +kernel
theorem dX12_init_490 : decode cX12_init 490 = .ok (.bipush 8, 2) := by decide +kernel
theorem dX12_init_492 : decode cX12_init 492 = .ok (.newarray .int, 2) := by decide +kernel
theorem dX12_init_494 : decode cX12_init 494 = .ok (.putfield 190, 3) := by decide +kernel
theorem dX12_init_497 : decode cX12_init 497 = .ok (.aload_n 0, 1) := by decide +kernel
theorem dX12_init_498 : decode cX12_init 498 = .ok (.bipush 24, 2) := by decide +kernel
theorem dX12_init_500 : decode cX12_init 500 = .ok (.newarray .int, 2) := by decide +kernel
theorem dX12_init_502 : decode cX12_init 502 = .ok (.putfield 193, 3) := by decide +kernel
theorem dX12_init_505 : decode cX12_init 505 = .ok (.aload_n 0, 1) := by decide +kernel
theorem dX12_init_506 : decode cX12_init 506 = .ok (.bipush 24, 2) := by decide +kernel
theorem dX12_init_508 : decode cX12_init 508 = .ok (.newarray .int, 2) := by decide +kernel
theorem dX12_init_510 : decode cX12_init 510 = .ok (.putfield 196, 3) := by decide +kernel
theorem dX12_init_513 : decode cX12_init 513 = .ok (.aload_n 0, 1) := by decide +kernel
theorem dX12_init_514 : decode cX12_init 514 = .ok (.bipush 24, 2) := by decide +kernel
theorem dX12_init_516 : decode cX12_init 516 = .ok (.newarray .int, 2) := by decide +kernel
theorem dX12_init_518 : decode cX12_init 518 = .ok (.putfield 199, 3) := by decide +kernel
theorem dX12_init_521 : decode cX12_init 521 = .ok (.aload_n 0, 1) := by decide +kernel
theorem dX12_init_522 : decode cX12_init 522 = .ok (.iconst 4, 1) := by decide +kernel
theorem dX12_init_523 : decode cX12_init 523 = .ok (.newarray .boolean, 2) := by decide +kernel
theorem dX12_init_525 : decode cX12_init 525 = .ok (.putfield 202, 3) := by decide +kernel
theorem dX12_init_528 : decode cX12_init 528 = .ok (.aload_n 0, 1) := by decide +kernel
theorem dX12_init_529 : decode cX12_init 529 = .ok (.bipush 110, 2) := by decide +kernel
theorem dX12_init_531 : decode cX12_init 531 = .ok (.newarray .int, 2) := by decide +kernel
theorem dX12_init_533 : decode cX12_init 533 = .ok (.putfield 205, 3) := by decide +kernel
theorem dX12_init_536 : decode cX12_init 536 = .ok (.aload_n 0, 1) := by decide +kernel
theorem dX12_init_537 : decode cX12_init 537 = .ok (.bipush 110, 2) := by decide +kernel
theorem dX12_init_539 : decode cX12_init 539 = .ok (.newarray .int, 2) := by decide +kernel
theorem dX12_init_541 : decode cX12_init 541 = .ok (.putfield 208, 3) := by decide +kernel
theorem dX12_init_544 : decode cX12_init 544 = .ok (.aload_n 0, 1) := by decide +kernel
theorem dX12_init_545 : decode cX12_init 545 = .ok (.bipush 110, 2) := by decide +kernel
theorem dX12_init_547 : decode cX12_init 547 = .ok (.newarray .int, 2) := by decide +kernel
theorem dX12_init_549 : decode cX12_init 549 = .ok (.putfield 211, 3) := by decide +kernel
theorem dX12_init_552 : decode cX12_init 552 = .ok (.aload_n 0, 1) := by decide +kernel
theorem dX12_init_553 : decode cX12_init 553 = .ok (.sipush 500, 3) := by decide +kernel
theorem dX12_init_556 : decode cX12_init 556 = .ok (.newarray .int, 2) := by decide +kernel
theorem dX12_init_558 : decode cX12_init 558 = .ok (.putfield 214, 3) := by decide +kernel
theorem dX12_init_561 : decode cX12_init 561 = .ok (.aload_n 0, 1) := by decide +kernel
theorem dX12_init_562 : decode cX12_init 562 = .ok (.sipush 300, 3) := by decide +kernel
theorem dX12_init_565 : decode cX12_init 565 = .ok (.newarray .int, 2) := by decide +kernel
theorem dX12_init_567 : decode cX12_init 567 = .ok (.putfield 217, 3) := by decide +kernel
theorem dX12_init_570 : decode cX12_init 570 = .ok (.aload_n 0, 1) := by decide +kernel
theorem dX12_init_571 : decode cX12_init 571 = .ok (.bipush 110, 2) := by decide +kernel
theorem dX12_init_573 : decode cX12_init 573 = .ok (.newarray .int, 2) := by decide +kernel
theorem dX12_init_575 : decode cX12_init 575 = .ok (.putfield 220, 3) := by decide +kernel
theorem dX12_init_578 : decode cX12_init 578 = .ok (.aload_n 0, 1) := by decide +kernel
theorem dX12_init_579 : decode cX12_init 579 = .ok (.sipush 1040, 3) := by decide +kernel
theorem dX12_init_582 : decode cX12_init 582 = .ok (.newarray .int, 2) := by decide +kernel
theorem dX12_init_584 : decode cX12_init 584 = .ok (.putfield 223, 3) := by decide +kernel
theorem dX12_init_587 : decode cX12_init 587 = .ok (.aload_n 0, 1) := by decide +kernel
theorem dX12_init_588 : decode cX12_init 588 = .ok (.bipush 13, 2) := by decide +kernel
theorem dX12_init_590 : decode cX12_init 590 = .ok (.newarray .int, 2) := by decide +kernel
theorem dX12_init_592 : decode cX12_init 592 = .ok (.putfield 226, 3) := by decide +kernel
theorem dX12_init_595 : decode cX12_init 595 = .ok (.aload_n 0, 1) := by decide +kernel
theorem dX12_init_596 : decode cX12_init 596 = .ok (.sipush 576, 3) := by decide +kernel
theorem dX12_init_599 : decode cX12_init 599 = .ok (.newarray .int, 2) := by decide +kernel
theorem dX12_init_601 : decode cX12_init 601 = .ok (.putfield 229, 3) := by decide +kernel
theorem dX12_init_604 : decode cX12_init 604 = .ok (.aload_n 0, 1) := by decide +kernel
theorem dX12_init_605 : decode cX12_init 605 = .ok (.bipush 24, 2) := by decide +kernel
theorem dX12_init_607 : decode cX12_init 607 = .ok (.newarray .int, 2) := by decide +kernel
theorem dX12_init_609 : decode cX12_init 609 = .ok (.putfield 232, 3) := by decide +kernel
theorem dX12_init_612 : decode cX12_init 612 = .ok (.aload_n 0, 1) := by decide +kernel
theorem dX12_init_613 : decode cX12_init 613 = .ok (.bipush 24, 2) := by decide +kernel
theorem dX12_init_615 : decode cX12_init 615 = .ok (.newarray .int, 2) := by decide +kernel
theorem dX12_init_617 : decode cX12_init 617 = .ok (.putfield 235, 3) := by decide +kernel
theorem dX12_init_620 : decode cX12_init 620 = .ok (.aload_n 0, 1) := by decide +kernel
theorem dX12_init_621 : decode cX12_init 621 = .ok (.bipush 12, 2) := by decide +kernel
theorem dX12_init_623 : decode cX12_init 623 = .ok (.newarray .int, 2) := by decide +kernel
theorem dX12_init_625 : decode cX12_init 625 = .ok (.putfield 238, 3) := by decide +kernel
theorem dX12_init_628 : decode cX12_init 628 = .ok (.aload_n 0, 1) := by decide +kernel
theorem dX12_init_629 : decode cX12_init 629 = .ok (.iconst 2, 1) := by decide +kernel
theorem dX12_init_630 : decode cX12_init 630 = .ok (.newarray .int, 2) := by decide +kernel
theorem dX12_init_632 : decode cX12_init 632 = .ok (.putfield 241, 3) := by decide +kernel
theorem dX12_init_635 : decode cX12_init 635 = .ok (.aload_n 0, 1) := by decide +kernel
theorem dX12_init_636 : decode cX12_init 636 = .ok (.iconst 2, 1) := by decide +kernel
theorem dX12_init_637 : decode cX12_init 637 = .ok (.newarray .int, 2) := by decide +kernel
theorem dX12_init_639 : decode cX12_init 639 = .ok (.putfield 244, 3) := by decide +kernel
theorem dX12_init_642 : decode cX12_init 642 = .ok (.aload_n 0, 1) := by decide +kernel
theorem dX12_init_643 : decode cX12_init 643 = .ok (.bipush 24, 2) := by decide +kernel
theorem dX12_init_645 : decode cX12_init 645 = .ok (.newarray .int, 2) := by decide +kernel
theorem dX12_init_647 : decode cX12_init 647 = .ok (.putfield 247, 3) := by decide +kernel
theorem dX12_init_650 : decode cX12_init 650 = .ok (.aload_n 0, 1) := by decide +kernel
theorem dX12_init_651 : decode cX12_init 651 = .ok (.bipush 24, 2) := by decide +kernel
theorem dX12_init_653 : decode cX12_init 653 = .ok (.newarray .int, 2) := by decide +kernel
theorem dX12_init_655 : decode cX12_init 655 = .ok (.putfield 250, 3) := by decide +kernel
theorem dX12_init_658 : decode cX12_init 658 = .ok (.aload_n 0, 1) := by decide +kernel
theorem dX12_init_659 : decode cX12_init 659 = .ok (.bipush 24, 2) := by decide +kernel
theorem dX12_init_661 : decode cX12_init 661 = .ok (.newarray .boolean, 2) := by decide +kernel
theorem dX12_init_663 : decode cX12_init 663 = .ok (.putfield 253, 3) := by decide +kernel
theorem dX12_init_666 : decode cX12_init 666 = .ok (.iconst 0, 1) := by decide +kernel
theorem dX12_init_667 : decode cX12_init 667 = .ok (.istore_n 1, 1) := by decide +kernel
theorem dX12_init_668 : decode cX12_init 668 = .ok (.iload_n 1, 1) := by decide +kernel
theorem dX12_init_669 : decode cX12_init 669 = .ok (.iconst 4, 1) := by decide +kernel
theorem dX12_init_670 : decode cX12_init 670 = .ok (.if_icmp .ge 27, 3) := by decide +kernel
theorem dX12_init_673 : decode cX12_init 673 = .ok (.aload_n 0, 1) := by decide +kernel
theorem dX12_init_674 : decode cX12_init 674 = .ok (.getfield 70, 3) := by decide +kernel
theorem dX12_init_677 : decode cX12_init 677 = .ok (.bipush 80, 2) := by decide +kernel
theorem dX12_init_679 : decode cX12_init 679 = .ok (.iload_n 1, 1) := by decide +kernel
theorem dX12_init_680 : decode cX12_init 680 = .ok (.imul, 1) := by decide +kernel
theorem dX12_init_681 : decode cX12_init 681 = .ok (.bipush 119, 2) := by decide +kernel
theorem dX12_init_683 : decode cX12_init 683 = .ok (.iastore, 1) := by decide +kernel
theorem dX12_init_684 : decode cX12_init 684 = .ok (.aload_n 0, 1) := by decide +kernel
theorem dX12_init_685 : decode cX12_init 685 = .ok (.getfield 73, 3) := by decide +kernel
theorem dX12_init_688 : decode cX12_init 688 = .ok (.iload_n 1, 1) := by decide +kernel
theorem dX12_init_689 : decode cX12_init 689 = .ok (.iconst 1, 1) := by decide +kernel
theorem dX12_init_690 : decode cX12_init 690 = .ok (.iastore, 1) := by decide +kernel
theorem dX12_init_691 : decode cX12_init 691 = .ok (.iinc 1 1, 3) := by decide +kernel
theorem dX12_init_694 : decode cX12_init 694 = .ok (.goto (-26), 3) := by decide +kernel
theorem dX12_init_697 : decode cX12_init 697 = .ok (.iconst 0, 1) := by decide +kernel
theorem dX12_init_698 : decode cX12_init 698 = .ok (.istore_n 1, 1) := by decide +kernel
theorem dX12_init_699 : decode cX12_init 699 = .ok (.iload_n 1, 1) := by decide +kernel
theorem dX12_init_700 : decode cX12_init 700 = .ok (.bipush 48, 2) := by decide +kernel
theorem dX12_init_702 : decode cX12_init 702 = .ok (.if_icmp .ge 16, 3) := by decide +kernel
theorem dX12_init_705 : decode cX12_init 705 = .ok (.aload_n 0, 1) := by decide +kernel
theorem dX12_init_706 : decode cX12_init 706 = .ok (.getfield 23, 3) := by decide +kernel
theorem dX12_init_709 : decode cX12_init 709 = .ok (.iload_n 1, 1) := by decide +kernel
theorem dX12_init_710 : decode cX12_init 710 = .ok (.iconst (-1), 1) := by decide +kernel
theorem dX12_init_711 : decode cX12_init 711 = .ok (.iastore, 1) := by decide +kernel
theorem dX12_init_712 : decode cX12_init 712 = .ok (.iinc 1 1, 3) := by decide +kernel
theorem dX12_init_715 : decode cX12_init 715 = .ok (.goto (-16), 3) := by decide +kernel
theorem dX12_init_718 : decode cX12_init 718 = .ok (.iconst 0, 1) := by decide +kernel
theorem dX12_init_719 : decode cX12_init 719 = .ok (.istore_n 1, 1) := by decide +kernel
theorem dX12_init_720 : decode cX12_init 720 = .ok (.iload_n 1, 1) := by decide +kernel
theorem dX12_init_721 : decode cX12_init 721 = .ok (.bipush 24, 2) := by decide +kernel
theorem dX12_init_723 : decode cX12_init 723 = .ok (.if_icmp .ge 23, 3) := by decide +kernel
theorem dX12_init_726 : decode cX12_init 726 = .ok (.aload_n 0, 1) := by decide +kernel
theorem dX12_init_727 : decode cX12_init 727 = .ok (.getfield 124, 3) := by decide +kernel
theorem dX12_init_730 : decode cX12_init 730 = .ok (.iload_n 1, 1) := by decide +kernel
theorem dX12_init_731 : decode cX12_init 731 = .ok (.iconst (-1), 1) := by decide +kernel
theorem dX12_init_732 : decode cX12_init 732 = .ok (.iastore, 1) := by decide +kernel
theorem dX12_init_733 : decode cX12_init 733 = .ok (.aload_n 0, 1) := by decide +kernel
theorem dX12_init_734 : decode cX12_init 734 = .ok (.getfield 133, 3) := by decide +kernel
theorem dX12_init_737 : decode cX12_init 737 = .ok (.iload_n 1, 1) := by decide +kernel
theorem dX12_init_738 : decode cX12_init 738 = .ok (.iconst (-1), 1) := by decide +kernel
theorem dX12_init_739 : decode cX12_init 739 = .ok (.iastore, 1) := by decide +kernel
theorem dX12_init_740 : decode cX12_init 740 = .ok (.iinc 1 1, 3) := by decide +kernel
theorem dX12_init_743 : decode cX12_init 743 = .ok (.goto (-23), 3) := by decide +kernel
theorem dX12_init_746 : decode cX12_init 746 = .ok (.iconst 0, 1) := by decide +kernel
theorem dX12_init_747 : decode cX12_init 747 = .ok (.istore_n 1, 1) := by decide +kernel
theorem dX12_init_748 : decode cX12_init 748 = .ok (.iload_n 1, 1) := by decide +kernel
theorem dX12_init_749 : decode cX12_init 749 = .ok (.sipush 10452, 3) := by decide +kernel
theorem dX12_init_752 : decode cX12_init 752 = .ok (.if_icmp .ge 16, 3) := by decide +kernel
theorem dX12_init_755 : decode cX12_init 755 = .ok (.aload_n 0, 1) := by decide +kernel
theorem dX12_init_756 : decode cX12_init 756 = .ok (.getfield 157, 3) := by decide +kernel
theorem dX12_init_759 : decode cX12_init 759 = .ok (.iload_n 1, 1) := by decide +kernel
theorem dX12_init_760 : decode cX12_init 760 = .ok (.iconst (-1), 1) := by decide +kernel
theorem dX12_init_761 : decode cX12_init 761 = .ok (.iastore, 1) := by decide +kernel
theorem dX12_init_762 : decode cX12_init 762 = .ok (.iinc 1 1, 3) := by decide +kernel
theorem dX12_init_765 : decode cX12_init 765 = .ok (.goto (-17), 3) := by decide +kernel
theorem dX12_init_768 : decode cX12_init 768 = .ok (.return_, 1) := by decide +kernel
set_option maxHeartbeats 4000000 in
set_option maxRecDepth 100000 in
theorem zi_X12_98 {G : zG} (hinj : zInj G) : zMi G MX12_init 80 25193 98 12 (fun _ => []) [178, 177, 176, 175, 174, 173, 172, 171, 170, 169, 168, 167, 166, 165, 164, 163, 162, 161, 160, 159, 158, 157, 156, 155, 154, 153, 152, 151, 150, 149, 148, 147, 146, 145, 144, 143, 142, 141, 140, 139, 138, 137, 136, 135, 134, 133, 132, 131, 130, 129, 128, 127, 126, 125, 124, 123, 122, 121, 120, 119, 118, 117, 116, 115, 114, 113, 112, 111, 110, 109, 108, 107, 106, 105, 104, 103, 102, 101, 100, 99] zSt0 := by
  refine zi_of (idx0 := 1) hinj rfl (by decide) rfl (fun _ => (Nat.le_of_ble_eq_true rfl)) dX12_init_0 dX12_init_1 (zin_6 (List.mem_of_getElem? (i := 103) (by decide +kernel))) (zin_1 (List.mem_of_getElem? (i := 24) (by decide +kernel))) (zin_1 (List.mem_of_getElem? (i := 25) rfl)) ⟨by decide, by decide⟩ ?_
  intro α p e s m args below meth c A lsr C hnw hin hA w hl
  have hx := C.1
  have hb := C.2.1
  have w : zWq G A s.heap s.heap [] (zbw G α (zrz [102, 117, 118, 135, 138, 146]) 98 12 (zsh 98).2.2 [] (fun _ => []) []) := w
  have hl : lv_has lsr 2 [(0, .ref (α 98))] := hl
  obtain ⟨h0, e0⟩ : ∃ h, α 98 = h := ⟨_, rfl⟩
  rw [e0] at hl
  refine lv_aload_n hx hb dX12_init_4 rfl (lv_at hl 0 rfl) ?_
  refine lv_sipush (v := Int32.ofInt (365)) hx hb dX12_init_5 (by decide) ?_
  refine zb_put (kf := 11) (x := 365) C w e0 fpRX12_7 (by decide +kernel) dX12_init_8 (fun H1 locs1 w => ?_)
  refine lv_aload_n hx hb dX12_init_11 rfl (lv_at hl 0 rfl) ?_
  refine lv_bipush (v := Int32.ofInt (24)) hx hb dX12_init_12 (by decide) ?_
  refine zb_arr (t0 := 0) (j := 99) (N := 24) (kf := 13) (a0 := (24, .inl (fun _ => 0))) (ty := .int) C hin hA w e0 rfl rfl zarrI (fun U cA cB h1 h2 => Option.some.inj (h1.symm.trans h2)) (fun _ => rfl) (fun α' => zcl_z0 (by decide +kernel) (by simp [zrz, zSt0])) (by decide) (by decide +kernel) (by decide +kernel) (by decide +kernel) (by decide +kernel) (by decide) (fun _ => rfl) flRX12_13 (q := (RX12, TX12, 109)) rfl rfl rfl (ty2 := .array .int) (by decide +kernel) (fun _ => rfl) (fun _ => rfl) (by decide +kernel) (Nat.le_of_ble_eq_true rfl) (Nat.le_of_ble_eq_true rfl) dX12_init_14 dX12_init_16 (fun α1 H1 locs1 hα1 w e0 => ?_)
  refine lv_aload_n hx hb dX12_init_19 rfl (lv_at hl 0 rfl) ?_
  refine lv_bipush (v := Int32.ofInt (24)) hx hb dX12_init_20 (by decide) ?_
  refine zb_arr (t0 := 0) (j := 100) (N := 24) (kf := 14) (a0 := (24, .inl (fun _ => 0))) (ty := .int) C hin hA w e0 rfl rfl zarrI (fun U cA cB h1 h2 => Option.some.inj (h1.symm.trans h2)) (fun _ => rfl) (fun α' => zcl_z0 (by decide +kernel) (by simp [zrz, zSt0])) (by decide) (by decide +kernel) (by decide +kernel) (by decide +kernel) (by decide +kernel) (by decide) (fun _ => rfl) flRX12_17 (q := (RX12, TX12, 109)) rfl rfl rfl (ty2 := .array .int) (by decide +kernel) (fun _ => rfl) (fun _ => rfl) (by decide +kernel) (Nat.le_of_ble_eq_true rfl) (Nat.le_of_ble_eq_true rfl) dX12_init_22 dX12_init_24 (fun α2 H1 locs1 hα2 w e0 => ?_)
  refine lv_aload_n hx hb dX12_init_27 rfl (lv_at hl 0 rfl) ?_
  refine lv_bipush (v := Int32.ofInt (24)) hx hb dX12_init_28 (by decide) ?_
  refine zb_arr (t0 := 0) (j := 101) (N := 24) (kf := 15) (a0 := (24, .inl (fun _ => 0))) (ty := .int) C hin hA w e0 rfl rfl zarrI (fun U cA cB h1 h2 => Option.some.inj (h1.symm.trans h2)) (fun _ => rfl) (fun α' => zcl_z0 (by decide +kernel) (by simp [zrz, zSt0])) (by decide) (by decide +kernel) (by decide +kernel) (by decide +kernel) (by decide +kernel) (by decide) (fun _ => rfl) flRX12_20 (q := (RX12, TX12, 109)) rfl rfl rfl (ty2 := .array .int) (by decide +kernel) (fun _ => rfl) (fun _ => rfl) (by decide +kernel) (Nat.le_of_ble_eq_true rfl) (Nat.le_of_ble_eq_true rfl) dX12_init_30 dX12_init_32 (fun α3 H1 locs1 hα3 w e0 => ?_)
  refine lv_aload_n hx hb dX12_init_35 rfl (lv_at hl 0 rfl) ?_
  refine lv_bipush (v := Int32.ofInt (48)) hx hb dX12_init_36 (by decide) ?_
  refine zb_arr (t0 := 0) (j := 102) (N := 48) (kf := 16) (a0 := (48, .inl (fun _ => 0))) (ty := .int) C hin hA w e0 rfl rfl zarrI (fun U cA cB h1 h2 => Option.some.inj (h1.symm.trans h2)) (fun _ => rfl) (fun α' => zcl_z0 (by decide +kernel) (by simp [zrz, zSt0])) (by decide) (by decide +kernel) (by decide +kernel) (by decide +kernel) (by decide +kernel) (by decide) (fun _ => rfl) flRX12_23 (q := (RX12, TX12, 109)) rfl rfl rfl (ty2 := .array .int) (by decide +kernel) (fun _ => rfl) (fun _ => rfl) (by decide +kernel) (Nat.le_of_ble_eq_true rfl) (Nat.le_of_ble_eq_true rfl) dX12_init_38 dX12_init_40 (fun α4 H1 locs1 hα4 w e0 => ?_)
  refine lv_aload_n hx hb dX12_init_43 rfl (lv_at hl 0 rfl) ?_
  refine lv_bipush (v := Int32.ofInt (48)) hx hb dX12_init_44 (by decide) ?_
  refine zb_arr (t0 := 0) (j := 103) (N := 48) (kf := 17) (a0 := (48, .inl (fun _ => 0))) (ty := .int) C hin hA w e0 rfl rfl zarrI (fun U cA cB h1 h2 => Option.some.inj (h1.symm.trans h2)) (fun _ => rfl) (fun α' => zcl_z0 (by decide +kernel) (by simp [zrz, zSt0])) (by decide) (by decide +kernel) (by decide +kernel) (by decide +kernel) (by decide +kernel) (by decide) (fun _ => rfl) flRX12_26 (q := (RX12, TX12, 109)) rfl rfl rfl (ty2 := .array .int) (by decide +kernel) (fun _ => rfl) (fun _ => rfl) (by decide +kernel) (Nat.le_of_ble_eq_true rfl) (Nat.le_of_ble_eq_true rfl) dX12_init_46 dX12_init_48 (fun α5 H1 locs1 hα5 w e0 => ?_)
  refine lv_aload_n hx hb dX12_init_51 rfl (lv_at hl 0 rfl) ?_
  refine lv_bipush (v := Int32.ofInt (24)) hx hb dX12_init_52 (by decide) ?_
  refine zb_arr (t0 := 1) (j := 104) (N := 24) (kf := 18) (a0 := (24, .inl (fun _ => 0))) (ty := .boolean) C hin hA w e0 rfl rfl zarrZ (fun U cA cB h1 h2 => Option.some.inj (h1.symm.trans h2)) (fun _ => rfl) (fun α' => zcl_z1 (by decide +kernel) (by simp [zrz, zSt0])) (by decide) (by decide +kernel) (by decide +kernel) (by decide +kernel) (by decide +kernel) (by decide) (fun _ => rfl) flRX12_29 (q := (RX12, TX12, 109)) rfl rfl rfl (ty2 := .array .boolean) (by decide +kernel) (fun _ => rfl) (fun _ => rfl) (by decide +kernel) (Nat.le_of_ble_eq_true rfl) (Nat.le_of_ble_eq_true rfl) dX12_init_54 dX12_init_56 (fun α6 H1 locs1 hα6 w e0 => ?_)
  refine lv_aload_n hx hb dX12_init_59 rfl (lv_at hl 0 rfl) ?_
  refine lv_bipush (v := Int32.ofInt (24)) hx hb dX12_init_60 (by decide) ?_
  refine zb_arr (t0 := 1) (j := 105) (N := 24) (kf := 19) (a0 := (24, .inl (fun _ => 0))) (ty := .boolean) C hin hA w e0 rfl rfl zarrZ (fun U cA cB h1 h2 => Option.some.inj (h1.symm.trans h2)) (fun _ => rfl) (fun α' => zcl_z1 (by decide +kernel) (by simp [zrz, zSt0])) (by decide) (by decide +kernel) (by decide +kernel) (by decide +kernel) (by decide +kernel) (by decide) (fun _ => rfl) flRX12_33 (q := (RX12, TX12, 109)) rfl rfl rfl (ty2 := .array .boolean) (by decide +kernel) (fun _ => rfl) (fun _ => rfl) (by decide +kernel) (Nat.le_of_ble_eq_true rfl) (Nat.le_of_ble_eq_true rfl) dX12_init_62 dX12_init_64 (fun α7 H1 locs1 hα7 w e0 => ?_)
  refine lv_aload_n hx hb dX12_init_67 rfl (lv_at hl 0 rfl) ?_
  refine lv_sipush (v := Int32.ofInt (400)) hx hb dX12_init_68 (by decide) ?_
  refine zb_arr (t0 := 0) (j := 106) (N := 400) (kf := 20) (a0 := (400, .inl (fun _ => 0))) (ty := .int) C hin hA w e0 rfl rfl zarrI (fun U cA cB h1 h2 => Option.some.inj (h1.symm.trans h2)) (fun _ => rfl) (fun α' => zcl_z0 (by decide +kernel) (by simp [zrz, zSt0])) (by decide) (by decide +kernel) (by decide +kernel) (by decide +kernel) (by decide +kernel) (by decide) (fun _ => rfl) flRX12_36 (q := (RX12, TX12, 109)) rfl rfl rfl (ty2 := .array .int) (by decide +kernel) (fun _ => rfl) (fun _ => rfl) (by decide +kernel) (Nat.le_of_ble_eq_true rfl) (Nat.le_of_ble_eq_true rfl) dX12_init_71 dX12_init_73 (fun α8 H1 locs1 hα8 w e0 => ?_)
  refine lv_aload_n hx hb dX12_init_76 rfl (lv_at hl 0 rfl) ?_
  refine lv_sipush (v := Int32.ofInt (400)) hx hb dX12_init_77 (by decide) ?_
  refine zb_arr (t0 := 0) (j := 107) (N := 400) (kf := 21) (a0 := (400, .inl (fun _ => 0))) (ty := .int) C hin hA w e0 rfl rfl zarrI (fun U cA cB h1 h2 => Option.some.inj (h1.symm.trans h2)) (fun _ => rfl) (fun α' => zcl_z0 (by decide +kernel) (by simp [zrz, zSt0])) (by decide) (by decide +kernel) (by decide +kernel) (by decide +kernel) (by decide +kernel) (by decide) (fun _ => rfl) flRX12_39 (q := (RX12, TX12, 109)) rfl rfl rfl (ty2 := .array .int) (by decide +kernel) (fun _ => rfl) (fun _ => rfl) (by decide +kernel) (Nat.le_of_ble_eq_true rfl) (Nat.le_of_ble_eq_true rfl) dX12_init_80 dX12_init_82 (fun α9 H1 locs1 hα9 w e0 => ?_)
  refine lv_aload_n hx hb dX12_init_85 rfl (lv_at hl 0 rfl) ?_
  refine lv_sipush (v := Int32.ofInt (400)) hx hb dX12_init_86 (by decide) ?_
  refine zb_arr (t0 := 0) (j := 108) (N := 400) (kf := 22) (a0 := (400, .inl (fun _ => 0))) (ty := .int) C hin hA w e0 rfl rfl zarrI (fun U cA cB h1 h2 => Option.some.inj (h1.symm.trans h2)) (fun _ => rfl) (fun α' => zcl_z0 (by decide +kernel) (by simp [zrz, zSt0])) (by decide) (by decide +kernel) (by decide +kernel) (by decide +kernel) (by decide +kernel) (by decide) (fun _ => rfl) flRX12_42 (q := (RX12, TX12, 109)) rfl rfl rfl (ty2 := .array .int) (by decide +kernel) (fun _ => rfl) (fun _ => rfl) (by decide +kernel) (Nat.le_of_ble_eq_true rfl) (Nat.le_of_ble_eq_true rfl) dX12_init_89 dX12_init_91 (fun α10 H1 locs1 hα10 w e0 => ?_)
  refine lv_aload_n hx hb dX12_init_94 rfl (lv_at hl 0 rfl) ?_
  refine lv_sipush (v := Int32.ofInt (400)) hx hb dX12_init_95 (by decide) ?_
  refine zb_arr (t0 := 0) (j := 109) (N := 400) (kf := 23) (a0 := (400, .inl (fun _ => 0))) (ty := .int) C hin hA w e0 rfl rfl zarrI (fun U cA cB h1 h2 => Option.some.inj (h1.symm.trans h2)) (fun _ => rfl) (fun α' => zcl_z0 (by decide +kernel) (by simp [zrz, zSt0])) (by decide) (by decide +kernel) (by decide +kernel) (by decide +kernel) (by decide +kernel) (by decide) (fun _ => rfl) flRX12_45 (q := (RX12, TX12, 109)) rfl rfl rfl (ty2 := .array .int) (by decide +kernel) (fun _ => rfl) (fun _ => rfl) (by decide +kernel) (Nat.le_of_ble_eq_true rfl) (Nat.le_of_ble_eq_true rfl) dX12_init_98 dX12_init_100 (fun α11 H1 locs1 hα11 w e0 => ?_)
  refine lv_aload_n hx hb dX12_init_103 rfl (lv_at hl 0 rfl) ?_
  refine lv_sipush (v := Int32.ofInt (400)) hx hb dX12_init_104 (by decide) ?_
  refine zb_arr (t0 := 0) (j := 110) (N := 400) (kf := 24) (a0 := (400, .inl (fun _ => 0))) (ty := .int) C hin hA w e0 rfl rfl zarrI (fun U cA cB h1 h2 => Option.some.inj (h1.symm.trans h2)) (fun _ => rfl) (fun α' => zcl_z0 (by decide +kernel) (by simp [zrz, zSt0])) (by decide) (by decide +kernel) (by decide +kernel) (by decide +kernel) (by decide +kernel) (by decide) (fun _ => rfl) flRX12_48 (q := (RX12, TX12, 109)) rfl rfl rfl (ty2 := .array .int) (by decide +kernel) (fun _ => rfl) (fun _ => rfl) (by decide +kernel) (Nat.le_of_ble_eq_true rfl) (Nat.le_of_ble_eq_true rfl) dX12_init_107 dX12_init_109 (fun α12 H1 locs1 hα12 w e0 => ?_)
  refine lv_aload_n hx hb dX12_init_112 rfl (lv_at hl 0 rfl) ?_
  refine lv_bipush (v := Int32.ofInt (10)) hx hb dX12_init_113 (by decide) ?_
  refine zb_arr (t0 := 0) (j := 111) (N := 10) (kf := 25) (a0 := (10, .inl (fun _ => 0))) (ty := .int) C hin hA w e0 rfl rfl zarrI (fun U cA cB h1 h2 => Option.some.inj (h1.symm.trans h2)) (fun _ => rfl) (fun α' => zcl_z0 (by decide +kernel) (by simp [zrz, zSt0])) (by decide) (by decide +kernel) (by decide +kernel) (by decide +kernel) (by decide +kernel) (by decide) (fun _ => rfl) flRX12_51 (q := (RX12, TX12, 109)) rfl rfl rfl (ty2 := .array .int) (by decide +kernel) (fun _ => rfl) (fun _ => rfl) (by decide +kernel) (Nat.le_of_ble_eq_true rfl) (Nat.le_of_ble_eq_true rfl) dX12_init_115 dX12_init_117 (fun α13 H1 locs1 hα13 w e0 => ?_)
  refine lv_aload_n hx hb dX12_init_120 rfl (lv_at hl 0 rfl) ?_
  refine lv_bipush (v := Int32.ofInt (10)) hx hb dX12_init_121 (by decide) ?_
  refine zb_arr (t0 := 0) (j := 112) (N := 10) (kf := 26) (a0 := (10, .inl (fun _ => 0))) (ty := .int) C hin hA w e0 rfl rfl zarrI (fun U cA cB h1 h2 => Option.some.inj (h1.symm.trans h2)) (fun _ => rfl) (fun α' => zcl_z0 (by decide +kernel) (by simp [zrz, zSt0])) (by decide) (by decide +kernel) (by decide +kernel) (by decide +kernel) (by decide +kernel) (by decide) (fun _ => rfl) flRX12_54 (q := (RX12, TX12, 109)) rfl rfl rfl (ty2 := .array .int) (by decide +kernel) (fun _ => rfl) (fun _ => rfl) (by decide +kernel) (Nat.le_of_ble_eq_true rfl) (Nat.le_of_ble_eq_true rfl) dX12_init_123 dX12_init_125 (fun α14 H1 locs1 hα14 w e0 => ?_)
  refine lv_aload_n hx hb dX12_init_128 rfl (lv_at hl 0 rfl) ?_
  refine lv_bipush (v := Int32.ofInt (10)) hx hb dX12_init_129 (by decide) ?_
  refine zb_arr (t0 := 0) (j := 113) (N := 10) (kf := 27) (a0 := (10, .inl (fun _ => 0))) (ty := .int) C hin hA w e0 rfl rfl zarrI (fun U cA cB h1 h2 => Option.some.inj (h1.symm.trans h2)) (fun _ => rfl) (fun α' => zcl_z0 (by decide +kernel) (by simp [zrz, zSt0])) (by decide) (by decide +kernel) (by decide +kernel) (by decide +kernel) (by decide +kernel) (by decide) (fun _ => rfl) flRX12_57 (q := (RX12, TX12, 109)) rfl rfl rfl (ty2 := .array .int) (by decide +kernel) (fun _ => rfl) (fun _ => rfl) (by decide +kernel) (Nat.le_of_ble_eq_true rfl) (Nat.le_of_ble_eq_true rfl) dX12_init_131 dX12_init_133 (fun α15 H1 locs1 hα15 w e0 => ?_)
  refine lv_aload_n hx hb dX12_init_136 rfl (lv_at hl 0 rfl) ?_
  refine lv_bipush (v := Int32.ofInt (10)) hx hb dX12_init_137 (by decide) ?_
  refine zb_arr (t0 := 0) (j := 114) (N := 10) (kf := 28) (a0 := (10, .inl (fun _ => 0))) (ty := .int) C hin hA w e0 rfl rfl zarrI (fun U cA cB h1 h2 => Option.some.inj (h1.symm.trans h2)) (fun _ => rfl) (fun α' => zcl_z0 (by decide +kernel) (by simp [zrz, zSt0])) (by decide) (by decide +kernel) (by decide +kernel) (by decide +kernel) (by decide +kernel) (by decide) (fun _ => rfl) flRX12_60 (q := (RX12, TX12, 109)) rfl rfl rfl (ty2 := .array .int) (by decide +kernel) (fun _ => rfl) (fun _ => rfl) (by decide +kernel) (Nat.le_of_ble_eq_true rfl) (Nat.le_of_ble_eq_true rfl) dX12_init_139 dX12_init_141 (fun α16 H1 locs1 hα16 w e0 => ?_)
  refine lv_aload_n hx hb dX12_init_144 rfl (lv_at hl 0 rfl) ?_
  refine lv_sipush (v := Int32.ofInt (800)) hx hb dX12_init_145 (by decide) ?_
  refine zb_arr (t0 := 2) (j := 115) (N := 800) (kf := 29) (a0 := (800, .inr (.inl (fun _ => 0)))) (ty := .long) C hin hA w e0 rfl rfl zarrJ (fun U cA cB h1 h2 => Option.some.inj (h1.symm.trans h2)) (fun _ => rfl) (fun α' => zcl_z2 (by decide +kernel) (by simp [zrz, zSt0])) (by decide) (by decide +kernel) (by decide +kernel) (by decide +kernel) (by decide +kernel) (by decide) (fun _ => rfl) flRX12_63 (q := (RX12, TX12, 109)) rfl rfl rfl (ty2 := .array .long) (by decide +kernel) (fun _ => rfl) (fun _ => rfl) (by decide +kernel) (Nat.le_of_ble_eq_true rfl) (Nat.le_of_ble_eq_true rfl) dX12_init_148 dX12_init_150 (fun α17 H1 locs1 hα17 w e0 => ?_)
  refine lv_aload_n hx hb dX12_init_153 rfl (lv_at hl 0 rfl) ?_
  refine lv_bipush (v := Int32.ofInt (80)) hx hb dX12_init_154 (by decide) ?_
  refine zb_arr (t0 := 2) (j := 116) (N := 80) (kf := 30) (a0 := (80, .inr (.inl (fun _ => 0)))) (ty := .long) C hin hA w e0 rfl rfl zarrJ (fun U cA cB h1 h2 => Option.some.inj (h1.symm.trans h2)) (fun _ => rfl) (fun α' => zcl_z2 (by decide +kernel) (by simp [zrz, zSt0])) (by decide) (by decide +kernel) (by decide +kernel) (by decide +kernel) (by decide +kernel) (by decide) (fun _ => rfl) flRX12_67 (q := (RX12, TX12, 109)) rfl rfl rfl (ty2 := .array .long) (by decide +kernel) (fun _ => rfl) (fun _ => rfl) (by decide +kernel) (Nat.le_of_ble_eq_true rfl) (Nat.le_of_ble_eq_true rfl) dX12_init_156 dX12_init_158 (fun α18 H1 locs1 hα18 w e0 => ?_)
  refine lv_aload_n hx hb dX12_init_161 rfl (lv_at hl 0 rfl) ?_
  refine lv_sipush (v := Int32.ofInt (320)) hx hb dX12_init_162 (by decide) ?_
  refine zb_arr (t0 := 0) (j := 117) (N := 320) (kf := 31) (a0 := (320, .inl (fun _ => 0))) (ty := .int) C hin hA w e0 rfl rfl zarrI (fun U cA cB h1 h2 => Option.some.inj (h1.symm.trans h2)) (fun _ => rfl) (fun α' => zcl_z0 (by decide +kernel) (by simp [zrz, zSt0])) (by decide) (by decide +kernel) (by decide +kernel) (by decide +kernel) (by decide +kernel) (by decide) (fun _ => rfl) flRX12_70 (q := (RX12, TX12, 109)) rfl rfl rfl (ty2 := .array .int) (by decide +kernel) (fun _ => rfl) (fun _ => rfl) (by decide +kernel) (Nat.le_of_ble_eq_true rfl) (Nat.le_of_ble_eq_true rfl) dX12_init_165 dX12_init_167 (fun α19 H1 locs1 hα19 w e0 => ?_)
  refine lv_aload_n hx hb dX12_init_170 rfl (lv_at hl 0 rfl) ?_
  refine lv_iconst (v := Int32.ofInt (4)) hx hb dX12_init_171 (by decide) ?_
  refine zb_arr (t0 := 0) (j := 118) (N := 4) (kf := 32) (a0 := (4, .inl (fun _ => 0))) (ty := .int) C hin hA w e0 rfl rfl zarrI (fun U cA cB h1 h2 => Option.some.inj (h1.symm.trans h2)) (fun _ => rfl) (fun α' => zcl_z0 (by decide +kernel) (by simp [zrz, zSt0])) (by decide) (by decide +kernel) (by decide +kernel) (by decide +kernel) (by decide +kernel) (by decide) (fun _ => rfl) flRX12_73 (q := (RX12, TX12, 109)) rfl rfl rfl (ty2 := .array .int) (by decide +kernel) (fun _ => rfl) (fun _ => rfl) (by decide +kernel) (Nat.le_of_ble_eq_true rfl) (Nat.le_of_ble_eq_true rfl) dX12_init_172 dX12_init_174 (fun α20 H1 locs1 hα20 w e0 => ?_)
  refine lv_aload_n hx hb dX12_init_177 rfl (lv_at hl 0 rfl) ?_
  refine lv_bipush (v := Int32.ofInt (12)) hx hb dX12_init_178 (by decide) ?_
  refine zb_arr (t0 := 0) (j := 119) (N := 12) (kf := 33) (a0 := (12, .inl (fun _ => 0))) (ty := .int) C hin hA w e0 rfl rfl zarrI (fun U cA cB h1 h2 => Option.some.inj (h1.symm.trans h2)) (fun _ => rfl) (fun α' => zcl_z0 (by decide +kernel) (by simp [zrz, zSt0])) (by decide) (by decide +kernel) (by decide +kernel) (by decide +kernel) (by decide +kernel) (by decide) (fun _ => rfl) flRX12_76 (q := (RX12, TX12, 109)) rfl rfl rfl (ty2 := .array .int) (by decide +kernel) (fun _ => rfl) (fun _ => rfl) (by decide +kernel) (Nat.le_of_ble_eq_true rfl) (Nat.le_of_ble_eq_true rfl) dX12_init_180 dX12_init_182 (fun α21 H1 locs1 hα21 w e0 => ?_)
  refine lv_aload_n hx hb dX12_init_185 rfl (lv_at hl 0 rfl) ?_
  refine lv_bipush (v := Int32.ofInt (12)) hx hb dX12_init_186 (by decide) ?_
  refine zb_arr (t0 := 0) (j := 120) (N := 12) (kf := 34) (a0 := (12, .inl (fun _ => 0))) (ty := .int) C hin hA w e0 rfl rfl zarrI (fun U cA cB h1 h2 => Option.some.inj (h1.symm.trans h2)) (fun _ => rfl) (fun α' => zcl_z0 (by decide +kernel) (by simp [zrz, zSt0])) (by decide) (by decide +kernel) (by decide +kernel) (by decide +kernel) (by decide +kernel) (by decide) (fun _ => rfl) flRX12_79 (q := (RX12, TX12, 109)) rfl rfl rfl (ty2 := .array .int) (by decide +kernel) (fun _ => rfl) (fun _ => rfl) (by decide +kernel) (Nat.le_of_ble_eq_true rfl) (Nat.le_of_ble_eq_true rfl) dX12_init_188 dX12_init_190 (fun α22 H1 locs1 hα22 w e0 => ?_)
  refine lv_aload_n hx hb dX12_init_193 rfl (lv_at hl 0 rfl) ?_
  refine lv_bipush (v := Int32.ofInt (12)) hx hb dX12_init_194 (by decide) ?_
  refine zb_arr (t0 := 0) (j := 121) (N := 12) (kf := 35) (a0 := (12, .inl (fun _ => 0))) (ty := .int) C hin hA w e0 rfl rfl zarrI (fun U cA cB h1 h2 => Option.some.inj (h1.symm.trans h2)) (fun _ => rfl) (fun α' => zcl_z0 (by decide +kernel) (by simp [zrz, zSt0])) (by decide) (by decide +kernel) (by decide +kernel) (by decide +kernel) (by decide +kernel) (by decide) (fun _ => rfl) flRX12_82 (q := (RX12, TX12, 109)) rfl rfl rfl (ty2 := .array .int) (by decide +kernel) (fun _ => rfl) (fun _ => rfl) (by decide +kernel) (Nat.le_of_ble_eq_true rfl) (Nat.le_of_ble_eq_true rfl) dX12_init_196 dX12_init_198 (fun α23 H1 locs1 hα23 w e0 => ?_)
  refine lv_aload_n hx hb dX12_init_201 rfl (lv_at hl 0 rfl) ?_
  refine lv_bipush (v := Int32.ofInt (12)) hx hb dX12_init_202 (by decide) ?_
  refine zb_arr (t0 := 0) (j := 122) (N := 12) (kf := 36) (a0 := (12, .inl (fun _ => 0))) (ty := .int) C hin hA w e0 rfl rfl zarrI (fun U cA cB h1 h2 => Option.some.inj (h1.symm.trans h2)) (fun _ => rfl) (fun α' => zcl_z0 (by decide +kernel) (by simp [zrz, zSt0])) (by decide) (by decide +kernel) (by decide +kernel) (by decide +kernel) (by decide +kernel) (by decide) (fun _ => rfl) flRX12_85 (q := (RX12, TX12, 109)) rfl rfl rfl (ty2 := .array .int) (by decide +kernel) (fun _ => rfl) (fun _ => rfl) (by decide +kernel) (Nat.le_of_ble_eq_true rfl) (Nat.le_of_ble_eq_true rfl) dX12_init_204 dX12_init_206 (fun α24 H1 locs1 hα24 w e0 => ?_)
  refine lv_aload_n hx hb dX12_init_209 rfl (lv_at hl 0 rfl) ?_
  refine lv_bipush (v := Int32.ofInt (12)) hx hb dX12_init_210 (by decide) ?_
  refine zb_arr (t0 := 0) (j := 123) (N := 12) (kf := 37) (a0 := (12, .inl (fun _ => 0))) (ty := .int) C hin hA w e0 rfl rfl zarrI (fun U cA cB h1 h2 => Option.some.inj (h1.symm.trans h2)) (fun _ => rfl) (fun α' => zcl_z0 (by decide +kernel) (by simp [zrz, zSt0])) (by decide) (by decide +kernel) (by decide +kernel) (by decide +kernel) (by decide +kernel) (by decide) (fun _ => rfl) flRX12_88 (q := (RX12, TX12, 109)) rfl rfl rfl (ty2 := .array .int) (by decide +kernel) (fun _ => rfl) (fun _ => rfl) (by decide +kernel) (Nat.le_of_ble_eq_true rfl) (Nat.le_of_ble_eq_true rfl) dX12_init_212 dX12_init_214 (fun α25 H1 locs1 hα25 w e0 => ?_)
  refine lv_aload_n hx hb dX12_init_217 rfl (lv_at hl 0 rfl) ?_
  refine lv_sipush (v := Int32.ofInt (960)) hx hb dX12_init_218 (by decide) ?_
  refine zb_arr (t0 := 0) (j := 124) (N := 960) (kf := 38) (a0 := (960, .inl (fun _ => 0))) (ty := .int) C hin hA w e0 rfl rfl zarrI (fun U cA cB h1 h2 => Option.some.inj (h1.symm.trans h2)) (fun _ => rfl) (fun α' => zcl_z0 (by decide +kernel) (by simp [zrz, zSt0])) (by decide) (by decide +kernel) (by decide +kernel) (by decide +kernel) (by decide +kernel) (by decide) (fun _ => rfl) flRX12_91 (q := (RX12, TX12, 109)) rfl rfl rfl (ty2 := .array .int) (by decide +kernel) (fun _ => rfl) (fun _ => rfl) (by decide +kernel) (Nat.le_of_ble_eq_true rfl) (Nat.le_of_ble_eq_true rfl) dX12_init_221 dX12_init_223 (fun α26 H1 locs1 hα26 w e0 => ?_)
  refine lv_aload_n hx hb dX12_init_226 rfl (lv_at hl 0 rfl) ?_
  refine lv_sipush (v := Int32.ofInt (960)) hx hb dX12_init_227 (by decide) ?_
  refine zb_arr (t0 := 0) (j := 125) (N := 960) (kf := 39) (a0 := (960, .inl (fun _ => 0))) (ty := .int) C hin hA w e0 rfl rfl zarrI (fun U cA cB h1 h2 => Option.some.inj (h1.symm.trans h2)) (fun _ => rfl) (fun α' => zcl_z0 (by decide +kernel) (by simp [zrz, zSt0])) (by decide) (by decide +kernel) (by decide +kernel) (by decide +kernel) (by decide +kernel) (by decide) (fun _ => rfl) flRX12_94 (q := (RX12, TX12, 109)) rfl rfl rfl (ty2 := .array .int) (by decide +kernel) (fun _ => rfl) (fun _ => rfl) (by decide +kernel) (Nat.le_of_ble_eq_true rfl) (Nat.le_of_ble_eq_true rfl) dX12_init_230 dX12_init_232 (fun α27 H1 locs1 hα27 w e0 => ?_)
  refine lv_aload_n hx hb dX12_init_235 rfl (lv_at hl 0 rfl) ?_
  refine lv_bipush (v := Int32.ofInt (12)) hx hb dX12_init_236 (by decide) ?_
  refine zb_arr (t0 := 1) (j := 126) (N := 12) (kf := 40) (a0 := (12, .inl (fun _ => 0))) (ty := .boolean) C hin hA w e0 rfl rfl zarrZ (fun U cA cB h1 h2 => Option.some.inj (h1.symm.trans h2)) (fun _ => rfl) (fun α' => zcl_z1 (by decide +kernel) (by simp [zrz, zSt0])) (by decide) (by decide +kernel) (by decide +kernel) (by decide +kernel) (by decide +kernel) (by decide) (fun _ => rfl) flRX12_97 (q := (RX12, TX12, 109)) rfl rfl rfl (ty2 := .array .boolean) (by decide +kernel) (fun _ => rfl) (fun _ => rfl) (by decide +kernel) (Nat.le_of_ble_eq_true rfl) (Nat.le_of_ble_eq_true rfl) dX12_init_238 dX12_init_240 (fun α28 H1 locs1 hα28 w e0 => ?_)
  refine lv_aload_n hx hb dX12_init_243 rfl (lv_at hl 0 rfl) ?_
  refine lv_sipush (v := Int32.ofInt (300)) hx hb dX12_init_244 (by decide) ?_
  refine zb_arr (t0 := 0) (j := 127) (N := 300) (kf := 41) (a0 := (300, .inl (fun _ => 0))) (ty := .int) C hin hA w e0 rfl rfl zarrI (fun U cA cB h1 h2 => Option.some.inj (h1.symm.trans h2)) (fun _ => rfl) (fun α' => zcl_z0 (by decide +kernel) (by simp [zrz, zSt0])) (by decide) (by decide +kernel) (by decide +kernel) (by decide +kernel) (by decide +kernel) (by decide) (fun _ => rfl) flRX12_100 (q := (RX12, TX12, 109)) rfl rfl rfl (ty2 := .array .int) (by decide +kernel) (fun _ => rfl) (fun _ => rfl) (by decide +kernel) (Nat.le_of_ble_eq_true rfl) (Nat.le_of_ble_eq_true rfl) dX12_init_247 dX12_init_249 (fun α29 H1 locs1 hα29 w e0 => ?_)
  refine lv_aload_n hx hb dX12_init_252 rfl (lv_at hl 0 rfl) ?_
  refine lv_sipush (v := Int32.ofInt (300)) hx hb dX12_init_253 (by decide) ?_
  refine zb_arr (t0 := 0) (j := 128) (N := 300) (kf := 42) (a0 := (300, .inl (fun _ => 0))) (ty := .int) C hin hA w e0 rfl rfl zarrI (fun U cA cB h1 h2 => Option.some.inj (h1.symm.trans h2)) (fun _ => rfl) (fun α' => zcl_z0 (by decide +kernel) (by simp [zrz, zSt0])) (by decide) (by decide +kernel) (by decide +kernel) (by decide +kernel) (by decide +kernel) (by decide) (fun _ => rfl) flRX12_103 (q := (RX12, TX12, 109)) rfl rfl rfl (ty2 := .array .int) (by decide +kernel) (fun _ => rfl) (fun _ => rfl) (by decide +kernel) (Nat.le_of_ble_eq_true rfl) (Nat.le_of_ble_eq_true rfl) dX12_init_256 dX12_init_258 (fun α30 H1 locs1 hα30 w e0 => ?_)
  refine lv_aload_n hx hb dX12_init_261 rfl (lv_at hl 0 rfl) ?_
  refine lv_bipush (v := Int32.ofInt (12)) hx hb dX12_init_262 (by decide) ?_
  refine zb_arr (t0 := 0) (j := 129) (N := 12) (kf := 44) (a0 := (12, .inl (fun _ => 0))) (ty := .int) C hin hA w e0 rfl rfl zarrI (fun U cA cB h1 h2 => Option.some.inj (h1.symm.trans h2)) (fun _ => rfl) (fun α' => zcl_z0 (by decide +kernel) (by simp [zrz, zSt0])) (by decide) (by decide +kernel) (by decide +kernel) (by decide +kernel) (by decide +kernel) (by decide) (fun _ => rfl) flRX12_106 (q := (RX12, TX12, 109)) rfl rfl rfl (ty2 := .array .int) (by decide +kernel) (fun _ => rfl) (fun _ => rfl) (by decide +kernel) (Nat.le_of_ble_eq_true rfl) (Nat.le_of_ble_eq_true rfl) dX12_init_264 dX12_init_266 (fun α31 H1 locs1 hα31 w e0 => ?_)
  refine lv_aload_n hx hb dX12_init_269 rfl (lv_at hl 0 rfl) ?_
  refine lv_bipush (v := Int32.ofInt (12)) hx hb dX12_init_270 (by decide) ?_
  refine zb_arr (t0 := 0) (j := 130) (N := 12) (kf := 45) (a0 := (12, .inl (fun _ => 0))) (ty := .int) C hin hA w e0 rfl rfl zarrI (fun U cA cB h1 h2 => Option.some.inj (h1.symm.trans h2)) (fun _ => rfl) (fun α' => zcl_z0 (by decide +kernel) (by simp [zrz, zSt0])) (by decide) (by decide +kernel) (by decide +kernel) (by decide +kernel) (by decide +kernel) (by decide) (fun _ => rfl) flRX12_109 (q := (RX12, TX12, 109)) rfl rfl rfl (ty2 := .array .int) (by decide +kernel) (fun _ => rfl) (fun _ => rfl) (by decide +kernel) (Nat.le_of_ble_eq_true rfl) (Nat.le_of_ble_eq_true rfl) dX12_init_272 dX12_init_274 (fun α32 H1 locs1 hα32 w e0 => ?_)
  refine lv_aload_n hx hb dX12_init_277 rfl (lv_at hl 0 rfl) ?_
  refine lv_bipush (v := Int32.ofInt (12)) hx hb dX12_init_278 (by decide) ?_
  refine zb_arr (t0 := 0) (j := 131) (N := 12) (kf := 46) (a0 := (12, .inl (fun _ => 0))) (ty := .int) C hin hA w e0 rfl rfl zarrI (fun U cA cB h1 h2 => Option.some.inj (h1.symm.trans h2)) (fun _ => rfl) (fun α' => zcl_z0 (by decide +kernel) (by simp [zrz, zSt0])) (by decide) (by decide +kernel) (by decide +kernel) (by decide +kernel) (by decide +kernel) (by decide) (fun _ => rfl) flRX12_112 (q := (RX12, TX12, 109)) rfl rfl rfl (ty2 := .array .int) (by decide +kernel) (fun _ => rfl) (fun _ => rfl) (by decide +kernel) (Nat.le_of_ble_eq_true rfl) (Nat.le_of_ble_eq_true rfl) dX12_init_280 dX12_init_282 (fun α33 H1 locs1 hα33 w e0 => ?_)
  refine lv_aload_n hx hb dX12_init_285 rfl (lv_at hl 0 rfl) ?_
  refine lv_bipush (v := Int32.ofInt (12)) hx hb dX12_init_286 (by decide) ?_
  refine zb_arr (t0 := 0) (j := 132) (N := 12) (kf := 47) (a0 := (12, .inl (fun _ => 0))) (ty := .int) C hin hA w e0 rfl rfl zarrI (fun U cA cB h1 h2 => Option.some.inj (h1.symm.trans h2)) (fun _ => rfl) (fun α' => zcl_z0 (by decide +kernel) (by simp [zrz, zSt0])) (by decide) (by decide +kernel) (by decide +kernel) (by decide +kernel) (by decide +kernel) (by decide) (fun _ => rfl) flRX12_115 (q := (RX12, TX12, 109)) rfl rfl rfl (ty2 := .array .int) (by decide +kernel) (fun _ => rfl) (fun _ => rfl) (by decide +kernel) (Nat.le_of_ble_eq_true rfl) (Nat.le_of_ble_eq_true rfl) dX12_init_288 dX12_init_290 (fun α34 H1 locs1 hα34 w e0 => ?_)
  refine lv_aload_n hx hb dX12_init_293 rfl (lv_at hl 0 rfl) ?_
  refine lv_bipush (v := Int32.ofInt (12)) hx hb dX12_init_294 (by decide) ?_
  refine zb_arr (t0 := 0) (j := 133) (N := 12) (kf := 48) (a0 := (12, .inl (fun _ => 0))) (ty := .int) C hin hA w e0 rfl rfl zarrI (fun U cA cB h1 h2 => Option.some.inj (h1.symm.trans h2)) (fun _ => rfl) (fun α' => zcl_z0 (by decide +kernel) (by simp [zrz, zSt0])) (by decide) (by decide +kernel) (by decide +kernel) (by decide +kernel) (by decide +kernel) (by decide) (fun _ => rfl) flRX12_118 (q := (RX12, TX12, 109)) rfl rfl rfl (ty2 := .array .int) (by decide +kernel) (fun _ => rfl) (fun _ => rfl) (by decide +kernel) (Nat.le_of_ble_eq_true rfl) (Nat.le_of_ble_eq_true rfl) dX12_init_296 dX12_init_298 (fun α35 H1 locs1 hα35 w e0 => ?_)
  refine lv_aload_n hx hb dX12_init_301 rfl (lv_at hl 0 rfl) ?_
  refine lv_sipush (v := Int32.ofInt (1920)) hx hb dX12_init_302 (by decide) ?_
  refine zb_arr (t0 := 0) (j := 134) (N := 1920) (kf := 49) (a0 := (1920, .inl (fun _ => 0))) (ty := .int) C hin hA w e0 rfl rfl zarrI (fun U cA cB h1 h2 => Option.some.inj (h1.symm.trans h2)) (fun _ => rfl) (fun α' => zcl_z0 (by decide +kernel) (by simp [zrz, zSt0])) (by decide) (by decide +kernel) (by decide +kernel) (by decide +kernel) (by decide +kernel) (by decide) (fun _ => rfl) flRX12_121 (q := (RX12, TX12, 109)) rfl rfl rfl (ty2 := .array .int) (by decide +kernel) (fun _ => rfl) (fun _ => rfl) (by decide +kernel) (Nat.le_of_ble_eq_true rfl) (Nat.le_of_ble_eq_true rfl) dX12_init_305 dX12_init_307 (fun α36 H1 locs1 hα36 w e0 => ?_)
  refine lv_aload_n hx hb dX12_init_310 rfl (lv_at hl 0 rfl) ?_
  refine lv_bipush (v := Int32.ofInt (24)) hx hb dX12_init_311 (by decide) ?_
  refine zb_arr (t0 := 0) (j := 135) (N := 24) (kf := 50) (a0 := (24, .inl (fun _ => 0))) (ty := .int) C hin hA w e0 rfl rfl zarrI (fun U cA cB h1 h2 => Option.some.inj (h1.symm.trans h2)) (fun _ => rfl) (fun α' => zcl_z0 (by decide +kernel) (by simp [zrz, zSt0])) (by decide) (by decide +kernel) (by decide +kernel) (by decide +kernel) (by decide +kernel) (by decide) (fun _ => rfl) flRX12_124 (q := (RX12, TX12, 109)) rfl rfl rfl (ty2 := .array .int) (by decide +kernel) (fun _ => rfl) (fun _ => rfl) (by decide +kernel) (Nat.le_of_ble_eq_true rfl) (Nat.le_of_ble_eq_true rfl) dX12_init_313 dX12_init_315 (fun α37 H1 locs1 hα37 w e0 => ?_)
  refine lv_aload_n hx hb dX12_init_318 rfl (lv_at hl 0 rfl) ?_
  refine lv_sipush (v := Int32.ofInt (1920)) hx hb dX12_init_319 (by decide) ?_
  refine zb_arr (t0 := 0) (j := 136) (N := 1920) (kf := 51) (a0 := (1920, .inl (fun _ => 0))) (ty := .int) C hin hA w e0 rfl rfl zarrI (fun U cA cB h1 h2 => Option.some.inj (h1.symm.trans h2)) (fun _ => rfl) (fun α' => zcl_z0 (by decide +kernel) (by simp [zrz, zSt0])) (by decide) (by decide +kernel) (by decide +kernel) (by decide +kernel) (by decide +kernel) (by decide) (fun _ => rfl) flRX12_127 (q := (RX12, TX12, 109)) rfl rfl rfl (ty2 := .array .int) (by decide +kernel) (fun _ => rfl) (fun _ => rfl) (by decide +kernel) (Nat.le_of_ble_eq_true rfl) (Nat.le_of_ble_eq_true rfl) dX12_init_322 dX12_init_324 (fun α38 H1 locs1 hα38 w e0 => ?_)
  refine lv_aload_n hx hb dX12_init_327 rfl (lv_at hl 0 rfl) ?_
  refine lv_bipush (v := Int32.ofInt (24)) hx hb dX12_init_328 (by decide) ?_
  refine zb_arr (t0 := 0) (j := 137) (N := 24) (kf := 52) (a0 := (24, .inl (fun _ => 0))) (ty := .int) C hin hA w e0 rfl rfl zarrI (fun U cA cB h1 h2 => Option.some.inj (h1.symm.trans h2)) (fun _ => rfl) (fun α' => zcl_z0 (by decide +kernel) (by simp [zrz, zSt0])) (by decide) (by decide +kernel) (by decide +kernel) (by decide +kernel) (by decide +kernel) (by decide) (fun _ => rfl) flRX12_130 (q := (RX12, TX12, 109)) rfl rfl rfl (ty2 := .array .int) (by decide +kernel) (fun _ => rfl) (fun _ => rfl) (by decide +kernel) (Nat.le_of_ble_eq_true rfl) (Nat.le_of_ble_eq_true rfl) dX12_init_330 dX12_init_332 (fun α39 H1 locs1 hα39 w e0 => ?_)
  refine lv_aload_n hx hb dX12_init_335 rfl (lv_at hl 0 rfl) ?_
  refine lv_bipush (v := Int32.ofInt (24)) hx hb dX12_init_336 (by decide) ?_
  refine zb_arr (t0 := 0) (j := 138) (N := 24) (kf := 53) (a0 := (24, .inl (fun _ => 0))) (ty := .int) C hin hA w e0 rfl rfl zarrI (fun U cA cB h1 h2 => Option.some.inj (h1.symm.trans h2)) (fun _ => rfl) (fun α' => zcl_z0 (by decide +kernel) (by simp [zrz, zSt0])) (by decide) (by decide +kernel) (by decide +kernel) (by decide +kernel) (by decide +kernel) (by decide) (fun _ => rfl) flRX12_133 (q := (RX12, TX12, 109)) rfl rfl rfl (ty2 := .array .int) (by decide +kernel) (fun _ => rfl) (fun _ => rfl) (by decide +kernel) (Nat.le_of_ble_eq_true rfl) (Nat.le_of_ble_eq_true rfl) dX12_init_338 dX12_init_340 (fun α40 H1 locs1 hα40 w e0 => ?_)
  refine lv_aload_n hx hb dX12_init_343 rfl (lv_at hl 0 rfl) ?_
  refine lv_bipush (v := Int32.ofInt (8)) hx hb dX12_init_344 (by decide) ?_
  refine zb_arr (t0 := 0) (j := 139) (N := 8) (kf := 54) (a0 := (8, .inl (fun _ => 0))) (ty := .int) C hin hA w e0 rfl rfl zarrI (fun U cA cB h1 h2 => Option.some.inj (h1.symm.trans h2)) (fun _ => rfl) (fun α' => zcl_z0 (by decide +kernel) (by simp [zrz, zSt0])) (by decide) (by decide +kernel) (by decide +kernel) (by decide +kernel) (by decide +kernel) (by decide) (fun _ => rfl) flRX12_136 (q := (RX12, TX12, 109)) rfl rfl rfl (ty2 := .array .int) (by decide +kernel) (fun _ => rfl) (fun _ => rfl) (by decide +kernel) (Nat.le_of_ble_eq_true rfl) (Nat.le_of_ble_eq_true rfl) dX12_init_346 dX12_init_348 (fun α41 H1 locs1 hα41 w e0 => ?_)
  refine lv_aload_n hx hb dX12_init_351 rfl (lv_at hl 0 rfl) ?_
  refine lv_bipush (v := Int32.ofInt (8)) hx hb dX12_init_352 (by decide) ?_
  refine zb_arr (t0 := 0) (j := 140) (N := 8) (kf := 55) (a0 := (8, .inl (fun _ => 0))) (ty := .int) C hin hA w e0 rfl rfl zarrI (fun U cA cB h1 h2 => Option.some.inj (h1.symm.trans h2)) (fun _ => rfl) (fun α' => zcl_z0 (by decide +kernel) (by simp [zrz, zSt0])) (by decide) (by decide +kernel) (by decide +kernel) (by decide +kernel) (by decide +kernel) (by decide) (fun _ => rfl) flRX12_139 (q := (RX12, TX12, 109)) rfl rfl rfl (ty2 := .array .int) (by decide +kernel) (fun _ => rfl) (fun _ => rfl) (by decide +kernel) (Nat.le_of_ble_eq_true rfl) (Nat.le_of_ble_eq_true rfl) dX12_init_354 dX12_init_356 (fun α42 H1 locs1 hα42 w e0 => ?_)
  refine lv_aload_n hx hb dX12_init_359 rfl (lv_at hl 0 rfl) ?_
  refine lv_bipush (v := Int32.ofInt (8)) hx hb dX12_init_360 (by decide) ?_
  refine zb_arr (t0 := 0) (j := 141) (N := 8) (kf := 56) (a0 := (8, .inl (fun _ => 0))) (ty := .int) C hin hA w e0 rfl rfl zarrI (fun U cA cB h1 h2 => Option.some.inj (h1.symm.trans h2)) (fun _ => rfl) (fun α' => zcl_z0 (by decide +kernel) (by simp [zrz, zSt0])) (by decide) (by decide +kernel) (by decide +kernel) (by decide +kernel) (by decide +kernel) (by decide) (fun _ => rfl) flRX12_142 (q := (RX12, TX12, 109)) rfl rfl rfl (ty2 := .array .int) (by decide +kernel) (fun _ => rfl) (fun _ => rfl) (by decide +kernel) (Nat.le_of_ble_eq_true rfl) (Nat.le_of_ble_eq_true rfl) dX12_init_362 dX12_init_364 (fun α43 H1 locs1 hα43 w e0 => ?_)
  refine lv_aload_n hx hb dX12_init_367 rfl (lv_at hl 0 rfl) ?_
  refine lv_bipush (v := Int32.ofInt (8)) hx hb dX12_init_368 (by decide) ?_
  refine zb_arr (t0 := 0) (j := 142) (N := 8) (kf := 57) (a0 := (8, .inl (fun _ => 0))) (ty := .int) C hin hA w e0 rfl rfl zarrI (fun U cA cB h1 h2 => Option.some.inj (h1.symm.trans h2)) (fun _ => rfl) (fun α' => zcl_z0 (by decide +kernel) (by simp [zrz, zSt0])) (by decide) (by decide +kernel) (by decide +kernel) (by decide +kernel) (by decide +kernel) (by decide) (fun _ => rfl) flRX12_145 (q := (RX12, TX12, 109)) rfl rfl rfl (ty2 := .array .int) (by decide +kernel) (fun _ => rfl) (fun _ => rfl) (by decide +kernel) (Nat.le_of_ble_eq_true rfl) (Nat.le_of_ble_eq_true rfl) dX12_init_370 dX12_init_372 (fun α44 H1 locs1 hα44 w e0 => ?_)
  refine lv_aload_n hx hb dX12_init_375 rfl (lv_at hl 0 rfl) ?_
  refine lv_bipush (v := Int32.ofInt (8)) hx hb dX12_init_376 (by decide) ?_
  refine zb_arr (t0 := 0) (j := 143) (N := 8) (kf := 58) (a0 := (8, .inl (fun _ => 0))) (ty := .int) C hin hA w e0 rfl rfl zarrI (fun U cA cB h1 h2 => Option.some.inj (h1.symm.trans h2)) (fun _ => rfl) (fun α' => zcl_z0 (by decide +kernel) (by simp [zrz, zSt0])) (by decide) (by decide +kernel) (by decide +kernel) (by decide +kernel) (by decide +kernel) (by decide) (fun _ => rfl) flRX12_148 (q := (RX12, TX12, 109)) rfl rfl rfl (ty2 := .array .int) (by decide +kernel) (fun _ => rfl) (fun _ => rfl) (by decide +kernel) (Nat.le_of_ble_eq_true rfl) (Nat.le_of_ble_eq_true rfl) dX12_init_378 dX12_init_380 (fun α45 H1 locs1 hα45 w e0 => ?_)
  refine lv_aload_n hx hb dX12_init_383 rfl (lv_at hl 0 rfl) ?_
  refine lv_bipush (v := Int32.ofInt (8)) hx hb dX12_init_384 (by decide) ?_
  refine zb_arr (t0 := 0) (j := 144) (N := 8) (kf := 59) (a0 := (8, .inl (fun _ => 0))) (ty := .int) C hin hA w e0 rfl rfl zarrI (fun U cA cB h1 h2 => Option.some.inj (h1.symm.trans h2)) (fun _ => rfl) (fun α' => zcl_z0 (by decide +kernel) (by simp [zrz, zSt0])) (by decide) (by decide +kernel) (by decide +kernel) (by decide +kernel) (by decide +kernel) (by decide) (fun _ => rfl) flRX12_151 (q := (RX12, TX12, 109)) rfl rfl rfl (ty2 := .array .int) (by decide +kernel) (fun _ => rfl) (fun _ => rfl) (by decide +kernel) (Nat.le_of_ble_eq_true rfl) (Nat.le_of_ble_eq_true rfl) dX12_init_386 dX12_init_388 (fun α46 H1 locs1 hα46 w e0 => ?_)
  refine lv_aload_n hx hb dX12_init_391 rfl (lv_at hl 0 rfl) ?_
  refine lv_bipush (v := Int32.ofInt (8)) hx hb dX12_init_392 (by decide) ?_
  refine zb_arr (t0 := 0) (j := 145) (N := 8) (kf := 60) (a0 := (8, .inl (fun _ => 0))) (ty := .int) C hin hA w e0 rfl rfl zarrI (fun U cA cB h1 h2 => Option.some.inj (h1.symm.trans h2)) (fun _ => rfl) (fun α' => zcl_z0 (by decide +kernel) (by simp [zrz, zSt0])) (by decide) (by decide +kernel) (by decide +kernel) (by decide +kernel) (by decide +kernel) (by decide) (fun _ => rfl) flRX12_154 (q := (RX12, TX12, 109)) rfl rfl rfl (ty2 := .array .int) (by decide +kernel) (fun _ => rfl) (fun _ => rfl) (by decide +kernel) (Nat.le_of_ble_eq_true rfl) (Nat.le_of_ble_eq_true rfl) dX12_init_394 dX12_init_396 (fun α47 H1 locs1 hα47 w e0 => ?_)
  refine lv_aload_n hx hb dX12_init_399 rfl (lv_at hl 0 rfl) ?_
  refine lv_sipush (v := Int32.ofInt (10452)) hx hb dX12_init_400 (by decide) ?_
  refine zb_arr (t0 := 0) (j := 146) (N := 10452) (kf := 61) (a0 := (10452, .inl (fun _ => 0))) (ty := .int) C hin hA w e0 rfl rfl zarrI (fun U cA cB h1 h2 => Option.some.inj (h1.symm.trans h2)) (fun _ => rfl) (fun α' => zcl_z0 (by decide +kernel) (by simp [zrz, zSt0])) (by decide) (by decide +kernel) (by decide +kernel) (by decide +kernel) (by decide +kernel) (by decide) (fun _ => rfl) flRX12_157 (q := (RX12, TX12, 109)) rfl rfl rfl (ty2 := .array .int) (by decide +kernel) (fun _ => rfl) (fun _ => rfl) (by decide +kernel) (Nat.le_of_ble_eq_true rfl) (Nat.le_of_ble_eq_true rfl) dX12_init_403 dX12_init_405 (fun α48 H1 locs1 hα48 w e0 => ?_)
  refine lv_aload_n hx hb dX12_init_408 rfl (lv_at hl 0 rfl) ?_
  refine lv_bipush (v := Int32.ofInt (80)) hx hb dX12_init_409 (by decide) ?_
  refine zb_arr (t0 := 0) (j := 147) (N := 80) (kf := 62) (a0 := (80, .inl (fun _ => 0))) (ty := .int) C hin hA w e0 rfl rfl zarrI (fun U cA cB h1 h2 => Option.some.inj (h1.symm.trans h2)) (fun _ => rfl) (fun α' => zcl_z0 (by decide +kernel) (by simp [zrz, zSt0])) (by decide) (by decide +kernel) (by decide +kernel) (by decide +kernel) (by decide +kernel) (by decide) (fun _ => rfl) flRX12_160 (q := (RX12, TX12, 109)) rfl rfl rfl (ty2 := .array .int) (by decide +kernel) (fun _ => rfl) (fun _ => rfl) (by decide +kernel) (Nat.le_of_ble_eq_true rfl) (Nat.le_of_ble_eq_true rfl) dX12_init_411 dX12_init_413 (fun α49 H1 locs1 hα49 w e0 => ?_)
  refine lv_aload_n hx hb dX12_init_416 rfl (lv_at hl 0 rfl) ?_
  refine lv_sipush (v := Int32.ofInt (400)) hx hb dX12_init_417 (by decide) ?_
  refine zb_arr (t0 := 0) (j := 148) (N := 400) (kf := 64) (a0 := (400, .inl (fun _ => 0))) (ty := .int) C hin hA w e0 rfl rfl zarrI (fun U cA cB h1 h2 => Option.some.inj (h1.symm.trans h2)) (fun _ => rfl) (fun α' => zcl_z0 (by decide +kernel) (by simp [zrz, zSt0])) (by decide) (by decide +kernel) (by decide +kernel) (by decide +kernel) (by decide +kernel) (by decide) (fun _ => rfl) flRX12_163 (q := (RX12, TX12, 109)) rfl rfl rfl (ty2 := .array .int) (by decide +kernel) (fun _ => rfl) (fun _ => rfl) (by decide +kernel) (Nat.le_of_ble_eq_true rfl) (Nat.le_of_ble_eq_true rfl) dX12_init_420 dX12_init_422 (fun α50 H1 locs1 hα50 w e0 => ?_)
  refine lv_aload_n hx hb dX12_init_425 rfl (lv_at hl 0 rfl) ?_
  refine lv_sipush (v := Int32.ofInt (400)) hx hb dX12_init_426 (by decide) ?_
  refine zb_arr (t0 := 0) (j := 149) (N := 400) (kf := 65) (a0 := (400, .inl (fun _ => 0))) (ty := .int) C hin hA w e0 rfl rfl zarrI (fun U cA cB h1 h2 => Option.some.inj (h1.symm.trans h2)) (fun _ => rfl) (fun α' => zcl_z0 (by decide +kernel) (by simp [zrz, zSt0])) (by decide) (by decide +kernel) (by decide +kernel) (by decide +kernel) (by decide +kernel) (by decide) (fun _ => rfl) flRX12_166 (q := (RX12, TX12, 109)) rfl rfl rfl (ty2 := .array .int) (by decide +kernel) (fun _ => rfl) (fun _ => rfl) (by decide +kernel) (Nat.le_of_ble_eq_true rfl) (Nat.le_of_ble_eq_true rfl) dX12_init_429 dX12_init_431 (fun α51 H1 locs1 hα51 w e0 => ?_)
  refine lv_aload_n hx hb dX12_init_434 rfl (lv_at hl 0 rfl) ?_
  refine lv_sipush (v := Int32.ofInt (400)) hx hb dX12_init_435 (by decide) ?_
  refine zb_arr (t0 := 0) (j := 150) (N := 400) (kf := 66) (a0 := (400, .inl (fun _ => 0))) (ty := .int) C hin hA w e0 rfl rfl zarrI (fun U cA cB h1 h2 => Option.some.inj (h1.symm.trans h2)) (fun _ => rfl) (fun α' => zcl_z0 (by decide +kernel) (by simp [zrz, zSt0])) (by decide) (by decide +kernel) (by decide +kernel) (by decide +kernel) (by decide +kernel) (by decide) (fun _ => rfl) flRX12_169 (q := (RX12, TX12, 109)) rfl rfl rfl (ty2 := .array .int) (by decide +kernel) (fun _ => rfl) (fun _ => rfl) (by decide +kernel) (Nat.le_of_ble_eq_true rfl) (Nat.le_of_ble_eq_true rfl) dX12_init_438 dX12_init_440 (fun α52 H1 locs1 hα52 w e0 => ?_)
  refine lv_aload_n hx hb dX12_init_443 rfl (lv_at hl 0 rfl) ?_
  refine lv_bipush (v := Int32.ofInt (120)) hx hb dX12_init_444 (by decide) ?_
  refine zb_arr (t0 := 1) (j := 151) (N := 120) (kf := 67) (a0 := (120, .inl (fun _ => 0))) (ty := .boolean) C hin hA w e0 rfl rfl zarrZ (fun U cA cB h1 h2 => Option.some.inj (h1.symm.trans h2)) (fun _ => rfl) (fun α' => zcl_z1 (by decide +kernel) (by simp [zrz, zSt0])) (by decide) (by decide +kernel) (by decide +kernel) (by decide +kernel) (by decide +kernel) (by decide) (fun _ => rfl) flRX12_172 (q := (RX12, TX12, 109)) rfl rfl rfl (ty2 := .array .boolean) (by decide +kernel) (fun _ => rfl) (fun _ => rfl) (by decide +kernel) (Nat.le_of_ble_eq_true rfl) (Nat.le_of_ble_eq_true rfl) dX12_init_446 dX12_init_448 (fun α53 H1 locs1 hα53 w e0 => ?_)
  refine lv_aload_n hx hb dX12_init_451 rfl (lv_at hl 0 rfl) ?_
  refine lv_bipush (v := Int32.ofInt (120)) hx hb dX12_init_452 (by decide) ?_
  refine zb_arr (t0 := 1) (j := 152) (N := 120) (kf := 68) (a0 := (120, .inl (fun _ => 0))) (ty := .boolean) C hin hA w e0 rfl rfl zarrZ (fun U cA cB h1 h2 => Option.some.inj (h1.symm.trans h2)) (fun _ => rfl) (fun α' => zcl_z1 (by decide +kernel) (by simp [zrz, zSt0])) (by decide) (by decide +kernel) (by decide +kernel) (by decide +kernel) (by decide +kernel) (by decide) (fun _ => rfl) flRX12_175 (q := (RX12, TX12, 109)) rfl rfl rfl (ty2 := .array .boolean) (by decide +kernel) (fun _ => rfl) (fun _ => rfl) (by decide +kernel) (Nat.le_of_ble_eq_true rfl) (Nat.le_of_ble_eq_true rfl) dX12_init_454 dX12_init_456 (fun α54 H1 locs1 hα54 w e0 => ?_)
  refine lv_aload_n hx hb dX12_init_459 rfl (lv_at hl 0 rfl) ?_
  refine lv_bipush (v := Int32.ofInt (24)) hx hb dX12_init_460 (by decide) ?_
  refine zb_arr (t0 := 0) (j := 153) (N := 24) (kf := 69) (a0 := (24, .inl (fun _ => 0))) (ty := .int) C hin hA w e0 rfl rfl zarrI (fun U cA cB h1 h2 => Option.some.inj (h1.symm.trans h2)) (fun _ => rfl) (fun α' => zcl_z0 (by decide +kernel) (by simp [zrz, zSt0])) (by decide) (by decide +kernel) (by decide +kernel) (by decide +kernel) (by decide +kernel) (by decide) (fun _ => rfl) flRX12_178 (q := (RX12, TX12, 109)) rfl rfl rfl (ty2 := .array .int) (by decide +kernel) (fun _ => rfl) (fun _ => rfl) (by decide +kernel) (Nat.le_of_ble_eq_true rfl) (Nat.le_of_ble_eq_true rfl) dX12_init_462 dX12_init_464 (fun α55 H1 locs1 hα55 w e0 => ?_)
  refine lv_aload_n hx hb dX12_init_467 rfl (lv_at hl 0 rfl) ?_
  refine lv_bipush (v := Int32.ofInt (24)) hx hb dX12_init_468 (by decide) ?_
  refine zb_arr (t0 := 0) (j := 154) (N := 24) (kf := 70) (a0 := (24, .inl (fun _ => 0))) (ty := .int) C hin hA w e0 rfl rfl zarrI (fun U cA cB h1 h2 => Option.some.inj (h1.symm.trans h2)) (fun _ => rfl) (fun α' => zcl_z0 (by decide +kernel) (by simp [zrz, zSt0])) (by decide) (by decide +kernel) (by decide +kernel) (by decide +kernel) (by decide +kernel) (by decide) (fun _ => rfl) flRX12_181 (q := (RX12, TX12, 109)) rfl rfl rfl (ty2 := .array .int) (by decide +kernel) (fun _ => rfl) (fun _ => rfl) (by decide +kernel) (Nat.le_of_ble_eq_true rfl) (Nat.le_of_ble_eq_true rfl) dX12_init_470 dX12_init_472 (fun α56 H1 locs1 hα56 w e0 => ?_)
  refine lv_aload_n hx hb dX12_init_475 rfl (lv_at hl 0 rfl) ?_
  refine lv_iconst (v := Int32.ofInt (2)) hx hb dX12_init_476 (by decide) ?_
  refine zb_arr (t0 := 0) (j := 155) (N := 2) (kf := 71) (a0 := (2, .inl (fun _ => 0))) (ty := .int) C hin hA w e0 rfl rfl zarrI (fun U cA cB h1 h2 => Option.some.inj (h1.symm.trans h2)) (fun _ => rfl) (fun α' => zcl_z0 (by decide +kernel) (by simp [zrz, zSt0])) (by decide) (by decide +kernel) (by decide +kernel) (by decide +kernel) (by decide +kernel) (by decide) (fun _ => rfl) flRX12_184 (q := (RX12, TX12, 109)) rfl rfl rfl (ty2 := .array .int) (by decide +kernel) (fun _ => rfl) (fun _ => rfl) (by decide +kernel) (Nat.le_of_ble_eq_true rfl) (Nat.le_of_ble_eq_true rfl) dX12_init_477 dX12_init_479 (fun α57 H1 locs1 hα57 w e0 => ?_)
  refine lv_aload_n hx hb dX12_init_482 rfl (lv_at hl 0 rfl) ?_
  refine lv_iconst (v := Int32.ofInt (2)) hx hb dX12_init_483 (by decide) ?_
  refine zb_arr (t0 := 0) (j := 156) (N := 2) (kf := 72) (a0 := (2, .inl (fun _ => 0))) (ty := .int) C hin hA w e0 rfl rfl zarrI (fun U cA cB h1 h2 => Option.some.inj (h1.symm.trans h2)) (fun _ => rfl) (fun α' => zcl_z0 (by decide +kernel) (by simp [zrz, zSt0])) (by decide) (by decide +kernel) (by decide +kernel) (by decide +kernel) (by decide +kernel) (by decide) (fun _ => rfl) flRX12_187 (q := (RX12, TX12, 109)) rfl rfl rfl (ty2 := .array .int) (by decide +kernel) (fun _ => rfl) (fun _ => rfl) (by decide +kernel) (Nat.le_of_ble_eq_true rfl) (Nat.le_of_ble_eq_true rfl) dX12_init_484 dX12_init_486 (fun α58 H1 locs1 hα58 w e0 => ?_)
  refine lv_aload_n hx hb dX12_init_489 rfl (lv_at hl 0 rfl) ?_
  refine lv_bipush (v := Int32.ofInt (8)) hx hb dX12_init_490 (by decide) ?_
  refine zb_arr (t0 := 0) (j := 157) (N := 8) (kf := 73) (a0 := (8, .inl (fun _ => 0))) (ty := .int) C hin hA w e0 rfl rfl zarrI (fun U cA cB h1 h2 => Option.some.inj (h1.symm.trans h2)) (fun _ => rfl) (fun α' => zcl_z0 (by decide +kernel) (by simp [zrz, zSt0])) (by decide) (by decide +kernel) (by decide +kernel) (by decide +kernel) (by decide +kernel) (by decide) (fun _ => rfl) flRX12_190 (q := (RX12, TX12, 109)) rfl rfl rfl (ty2 := .array .int) (by decide +kernel) (fun _ => rfl) (fun _ => rfl) (by decide +kernel) (Nat.le_of_ble_eq_true rfl) (Nat.le_of_ble_eq_true rfl) dX12_init_492 dX12_init_494 (fun α59 H1 locs1 hα59 w e0 => ?_)
  refine lv_aload_n hx hb dX12_init_497 rfl (lv_at hl 0 rfl) ?_
  refine lv_bipush (v := Int32.ofInt (24)) hx hb dX12_init_498 (by decide) ?_
  refine zb_arr (t0 := 0) (j := 158) (N := 24) (kf := 74) (a0 := (24, .inl (fun _ => 0))) (ty := .int) C hin hA w e0 rfl rfl zarrI (fun U cA cB h1 h2 => Option.some.inj (h1.symm.trans h2)) (fun _ => rfl) (fun α' => zcl_z0 (by decide +kernel) (by simp [zrz, zSt0])) (by decide) (by decide +kernel) (by decide +kernel) (by decide +kernel) (by decide +kernel) (by decide) (fun _ => rfl) flRX12_193 (q := (RX12, TX12, 109)) rfl rfl rfl (ty2 := .array .int) (by decide +kernel) (fun _ => rfl) (fun _ => rfl) (by decide +kernel) (Nat.le_of_ble_eq_true rfl) (Nat.le_of_ble_eq_true rfl) dX12_init_500 dX12_init_502 (fun α60 H1 locs1 hα60 w e0 => ?_)
  refine lv_aload_n hx hb dX12_init_505 rfl (lv_at hl 0 rfl) ?_
  refine lv_bipush (v := Int32.ofInt (24)) hx hb dX12_init_506 (by decide) ?_
  refine zb_arr (t0 := 0) (j := 159) (N := 24) (kf := 75) (a0 := (24, .inl (fun _ => 0))) (ty := .int) C hin hA w e0 rfl rfl zarrI (fun U cA cB h1 h2 => Option.some.inj (h1.symm.trans h2)) (fun _ => rfl) (fun α' => zcl_z0 (by decide +kernel) (by simp [zrz, zSt0])) (by decide) (by decide +kernel) (by decide +kernel) (by decide +kernel) (by decide +kernel) (by decide) (fun _ => rfl) flRX12_196 (q := (RX12, TX12, 109)) rfl rfl rfl (ty2 := .array .int) (by decide +kernel) (fun _ => rfl) (fun _ => rfl) (by decide +kernel) (Nat.le_of_ble_eq_true rfl) (Nat.le_of_ble_eq_true rfl) dX12_init_508 dX12_init_510 (fun α61 H1 locs1 hα61 w e0 => ?_)
  refine lv_aload_n hx hb dX12_init_513 rfl (lv_at hl 0 rfl) ?_
  refine lv_bipush (v := Int32.ofInt (24)) hx hb dX12_init_514 (by decide) ?_
  refine zb_arr (t0 := 0) (j := 160) (N := 24) (kf := 76) (a0 := (24, .inl (fun _ => 0))) (ty := .int) C hin hA w e0 rfl rfl zarrI (fun U cA cB h1 h2 => Option.some.inj (h1.symm.trans h2)) (fun _ => rfl) (fun α' => zcl_z0 (by decide +kernel) (by simp [zrz, zSt0])) (by decide) (by decide +kernel) (by decide +kernel) (by decide +kernel) (by decide +kernel) (by decide) (fun _ => rfl) flRX12_199 (q := (RX12, TX12, 109)) rfl rfl rfl (ty2 := .array .int) (by decide +kernel) (fun _ => rfl) (fun _ => rfl) (by decide +kernel) (Nat.le_of_ble_eq_true rfl) (Nat.le_of_ble_eq_true rfl) dX12_init_516 dX12_init_518 (fun α62 H1 locs1 hα62 w e0 => ?_)
  refine lv_aload_n hx hb dX12_init_521 rfl (lv_at hl 0 rfl) ?_
  refine lv_iconst (v := Int32.ofInt (4)) hx hb dX12_init_522 (by decide) ?_
  refine zb_arr (t0 := 1) (j := 161) (N := 4) (kf := 77) (a0 := (4, .inl (fun _ => 0))) (ty := .boolean) C hin hA w e0 rfl rfl zarrZ (fun U cA cB h1 h2 => Option.some.inj (h1.symm.trans h2)) (fun _ => rfl) (fun α' => zcl_z1 (by decide +kernel) (by simp [zrz, zSt0])) (by decide) (by decide +kernel) (by decide +kernel) (by decide +kernel) (by decide +kernel) (by decide) (fun _ => rfl) flRX12_202 (q := (RX12, TX12, 109)) rfl rfl rfl (ty2 := .array .boolean) (by decide +kernel) (fun _ => rfl) (fun _ => rfl) (by decide +kernel) (Nat.le_of_ble_eq_true rfl) (Nat.le_of_ble_eq_true rfl) dX12_init_523 dX12_init_525 (fun α63 H1 locs1 hα63 w e0 => ?_)
  refine lv_aload_n hx hb dX12_init_528 rfl (lv_at hl 0 rfl) ?_
  refine lv_bipush (v := Int32.ofInt (110)) hx hb dX12_init_529 (by decide) ?_
  refine zb_arr (t0 := 0) (j := 162) (N := 110) (kf := 78) (a0 := (110, .inl (fun _ => 0))) (ty := .int) C hin hA w e0 rfl rfl zarrI (fun U cA cB h1 h2 => Option.some.inj (h1.symm.trans h2)) (fun _ => rfl) (fun α' => zcl_z0 (by decide +kernel) (by simp [zrz, zSt0])) (by decide) (by decide +kernel) (by decide +kernel) (by decide +kernel) (by decide +kernel) (by decide) (fun _ => rfl) flRX12_205 (q := (RX12, TX12, 109)) rfl rfl rfl (ty2 := .array .int) (by decide +kernel) (fun _ => rfl) (fun _ => rfl) (by decide +kernel) (Nat.le_of_ble_eq_true rfl) (Nat.le_of_ble_eq_true rfl) dX12_init_531 dX12_init_533 (fun α64 H1 locs1 hα64 w e0 => ?_)
  refine lv_aload_n hx hb dX12_init_536 rfl (lv_at hl 0 rfl) ?_
  refine lv_bipush (v := Int32.ofInt (110)) hx hb dX12_init_537 (by decide) ?_
  refine zb_arr (t0 := 0) (j := 163) (N := 110) (kf := 79) (a0 := (110, .inl (fun _ => 0))) (ty := .int) C hin hA w e0 rfl rfl zarrI (fun U cA cB h1 h2 => Option.some.inj (h1.symm.trans h2)) (fun _ => rfl) (fun α' => zcl_z0 (by decide +kernel) (by simp [zrz, zSt0])) (by decide) (by decide +kernel) (by decide +kernel) (by decide +kernel) (by decide +kernel) (by decide) (fun _ => rfl) flRX12_208 (q := (RX12, TX12, 109)) rfl rfl rfl (ty2 := .array .int) (by decide +kernel) (fun _ => rfl) (fun _ => rfl) (by decide +kernel) (Nat.le_of_ble_eq_true rfl) (Nat.le_of_ble_eq_true rfl) dX12_init_539 dX12_init_541 (fun α65 H1 locs1 hα65 w e0 => ?_)
  refine lv_aload_n hx hb dX12_init_544 rfl (lv_at hl 0 rfl) ?_
  refine lv_bipush (v := Int32.ofInt (110)) hx hb dX12_init_545 (by decide) ?_
  refine zb_arr (t0 := 0) (j := 164) (N := 110) (kf := 80) (a0 := (110, .inl (fun _ => 0))) (ty := .int) C hin hA w e0 rfl rfl zarrI (fun U cA cB h1 h2 => Option.some.inj (h1.symm.trans h2)) (fun _ => rfl) (fun α' => zcl_z0 (by decide +kernel) (by simp [zrz, zSt0])) (by decide) (by decide +kernel) (by decide +kernel) (by decide +kernel) (by decide +kernel) (by decide) (fun _ => rfl) flRX12_211 (q := (RX12, TX12, 109)) rfl rfl rfl (ty2 := .array .int) (by decide +kernel) (fun _ => rfl) (fun _ => rfl) (by decide +kernel) (Nat.le_of_ble_eq_true rfl) (Nat.le_of_ble_eq_true rfl) dX12_init_547 dX12_init_549 (fun α66 H1 locs1 hα66 w e0 => ?_)
  refine lv_aload_n hx hb dX12_init_552 rfl (lv_at hl 0 rfl) ?_
  refine lv_sipush (v := Int32.ofInt (500)) hx hb dX12_init_553 (by decide) ?_
  refine zb_arr (t0 := 0) (j := 165) (N := 500) (kf := 81) (a0 := (500, .inl (fun _ => 0))) (ty := .int) C hin hA w e0 rfl rfl zarrI (fun U cA cB h1 h2 => Option.some.inj (h1.symm.trans h2)) (fun _ => rfl) (fun α' => zcl_z0 (by decide +kernel) (by simp [zrz, zSt0])) (by decide) (by decide +kernel) (by decide +kernel) (by decide +kernel) (by decide +kernel) (by decide) (fun _ => rfl) flRX12_214 (q := (RX12, TX12, 109)) rfl rfl rfl (ty2 := .array .int) (by decide +kernel) (fun _ => rfl) (fun _ => rfl) (by decide +kernel) (Nat.le_of_ble_eq_true rfl) (Nat.le_of_ble_eq_true rfl) dX12_init_556 dX12_init_558 (fun α67 H1 locs1 hα67 w e0 => ?_)
  refine lv_aload_n hx hb dX12_init_561 rfl (lv_at hl 0 rfl) ?_
  refine lv_sipush (v := Int32.ofInt (300)) hx hb dX12_init_562 (by decide) ?_
  refine zb_arr (t0 := 0) (j := 166) (N := 300) (kf := 82) (a0 := (300, .inl (fun _ => 0))) (ty := .int) C hin hA w e0 rfl rfl zarrI (fun U cA cB h1 h2 => Option.some.inj (h1.symm.trans h2)) (fun _ => rfl) (fun α' => zcl_z0 (by decide +kernel) (by simp [zrz, zSt0])) (by decide) (by decide +kernel) (by decide +kernel) (by decide +kernel) (by decide +kernel) (by decide) (fun _ => rfl) flRX12_217 (q := (RX12, TX12, 109)) rfl rfl rfl (ty2 := .array .int) (by decide +kernel) (fun _ => rfl) (fun _ => rfl) (by decide +kernel) (Nat.le_of_ble_eq_true rfl) (Nat.le_of_ble_eq_true rfl) dX12_init_565 dX12_init_567 (fun α68 H1 locs1 hα68 w e0 => ?_)
  refine lv_aload_n hx hb dX12_init_570 rfl (lv_at hl 0 rfl) ?_
  refine lv_bipush (v := Int32.ofInt (110)) hx hb dX12_init_571 (by decide) ?_
  refine zb_arr (t0 := 0) (j := 167) (N := 110) (kf := 83) (a0 := (110, .inl (fun _ => 0))) (ty := .int) C hin hA w e0 rfl rfl zarrI (fun U cA cB h1 h2 => Option.some.inj (h1.symm.trans h2)) (fun _ => rfl) (fun α' => zcl_z0 (by decide +kernel) (by simp [zrz, zSt0])) (by decide) (by decide +kernel) (by decide +kernel) (by decide +kernel) (by decide +kernel) (by decide) (fun _ => rfl) flRX12_220 (q := (RX12, TX12, 109)) rfl rfl rfl (ty2 := .array .int) (by decide +kernel) (fun _ => rfl) (fun _ => rfl) (by decide +kernel) (Nat.le_of_ble_eq_true rfl) (Nat.le_of_ble_eq_true rfl) dX12_init_573 dX12_init_575 (fun α69 H1 locs1 hα69 w e0 => ?_)
  refine lv_aload_n hx hb dX12_init_578 rfl (lv_at hl 0 rfl) ?_
  refine lv_sipush (v := Int32.ofInt (1040)) hx hb dX12_init_579 (by decide) ?_
  refine zb_arr (t0 := 0) (j := 168) (N := 1040) (kf := 93) (a0 := (1040, .inl (fun _ => 0))) (ty := .int) C hin hA w e0 rfl rfl zarrI (fun U cA cB h1 h2 => Option.some.inj (h1.symm.trans h2)) (fun _ => rfl) (fun α' => zcl_z0 (by decide +kernel) (by simp [zrz, zSt0])) (by decide) (by decide +kernel) (by decide +kernel) (by decide +kernel) (by decide +kernel) (by decide) (fun _ => rfl) flRX12_223 (q := (RX12, TX12, 109)) rfl rfl rfl (ty2 := .array .int) (by decide +kernel) (fun _ => rfl) (fun _ => rfl) (by decide +kernel) (Nat.le_of_ble_eq_true rfl) (Nat.le_of_ble_eq_true rfl) dX12_init_582 dX12_init_584 (fun α70 H1 locs1 hα70 w e0 => ?_)
  refine lv_aload_n hx hb dX12_init_587 rfl (lv_at hl 0 rfl) ?_
  refine lv_bipush (v := Int32.ofInt (13)) hx hb dX12_init_588 (by decide) ?_
  refine zb_arr (t0 := 0) (j := 169) (N := 13) (kf := 94) (a0 := (13, .inl (fun _ => 0))) (ty := .int) C hin hA w e0 rfl rfl zarrI (fun U cA cB h1 h2 => Option.some.inj (h1.symm.trans h2)) (fun _ => rfl) (fun α' => zcl_z0 (by decide +kernel) (by simp [zrz, zSt0])) (by decide) (by decide +kernel) (by decide +kernel) (by decide +kernel) (by decide +kernel) (by decide) (fun _ => rfl) flRX12_226 (q := (RX12, TX12, 109)) rfl rfl rfl (ty2 := .array .int) (by decide +kernel) (fun _ => rfl) (fun _ => rfl) (by decide +kernel) (Nat.le_of_ble_eq_true rfl) (Nat.le_of_ble_eq_true rfl) dX12_init_590 dX12_init_592 (fun α71 H1 locs1 hα71 w e0 => ?_)
  refine lv_aload_n hx hb dX12_init_595 rfl (lv_at hl 0 rfl) ?_
  refine lv_sipush (v := Int32.ofInt (576)) hx hb dX12_init_596 (by decide) ?_
  refine zb_arr (t0 := 0) (j := 170) (N := 576) (kf := 95) (a0 := (576, .inl (fun _ => 0))) (ty := .int) C hin hA w e0 rfl rfl zarrI (fun U cA cB h1 h2 => Option.some.inj (h1.symm.trans h2)) (fun _ => rfl) (fun α' => zcl_z0 (by decide +kernel) (by simp [zrz, zSt0])) (by decide) (by decide +kernel) (by decide +kernel) (by decide +kernel) (by decide +kernel) (by decide) (fun _ => rfl) flRX12_229 (q := (RX12, TX12, 109)) rfl rfl rfl (ty2 := .array .int) (by decide +kernel) (fun _ => rfl) (fun _ => rfl) (by decide +kernel) (Nat.le_of_ble_eq_true rfl) (Nat.le_of_ble_eq_true rfl) dX12_init_599 dX12_init_601 (fun α72 H1 locs1 hα72 w e0 => ?_)
  refine lv_aload_n hx hb dX12_init_604 rfl (lv_at hl 0 rfl) ?_
  refine lv_bipush (v := Int32.ofInt (24)) hx hb dX12_init_605 (by decide) ?_
  refine zb_arr (t0 := 0) (j := 171) (N := 24) (kf := 96) (a0 := (24, .inl (fun _ => 0))) (ty := .int) C hin hA w e0 rfl rfl zarrI (fun U cA cB h1 h2 => Option.some.inj (h1.symm.trans h2)) (fun _ => rfl) (fun α' => zcl_z0 (by decide +kernel) (by simp [zrz, zSt0])) (by decide) (by decide +kernel) (by decide +kernel) (by decide +kernel) (by decide +kernel) (by decide) (fun _ => rfl) flRX12_232 (q := (RX12, TX12, 109)) rfl rfl rfl (ty2 := .array .int) (by decide +kernel) (fun _ => rfl) (fun _ => rfl) (by decide +kernel) (Nat.le_of_ble_eq_true rfl) (Nat.le_of_ble_eq_true rfl) dX12_init_607 dX12_init_609 (fun α73 H1 locs1 hα73 w e0 => ?_)
  refine lv_aload_n hx hb dX12_init_612 rfl (lv_at hl 0 rfl) ?_
  refine lv_bipush (v := Int32.ofInt (24)) hx hb dX12_init_613 (by decide) ?_
  refine zb_arr (t0 := 0) (j := 172) (N := 24) (kf := 97) (a0 := (24, .inl (fun _ => 0))) (ty := .int) C hin hA w e0 rfl rfl zarrI (fun U cA cB h1 h2 => Option.some.inj (h1.symm.trans h2)) (fun _ => rfl) (fun α' => zcl_z0 (by decide +kernel) (by simp [zrz, zSt0])) (by decide) (by decide +kernel) (by decide +kernel) (by decide +kernel) (by decide +kernel) (by decide) (fun _ => rfl) flRX12_235 (q := (RX12, TX12, 109)) rfl rfl rfl (ty2 := .array .int) (by decide +kernel) (fun _ => rfl) (fun _ => rfl) (by decide +kernel) (Nat.le_of_ble_eq_true rfl) (Nat.le_of_ble_eq_true rfl) dX12_init_615 dX12_init_617 (fun α74 H1 locs1 hα74 w e0 => ?_)
  refine lv_aload_n hx hb dX12_init_620 rfl (lv_at hl 0 rfl) ?_
  refine lv_bipush (v := Int32.ofInt (12)) hx hb dX12_init_621 (by decide) ?_
  refine zb_arr (t0 := 0) (j := 173) (N := 12) (kf := 98) (a0 := (12, .inl (fun _ => 0))) (ty := .int) C hin hA w e0 rfl rfl zarrI (fun U cA cB h1 h2 => Option.some.inj (h1.symm.trans h2)) (fun _ => rfl) (fun α' => zcl_z0 (by decide +kernel) (by simp [zrz, zSt0])) (by decide) (by decide +kernel) (by decide +kernel) (by decide +kernel) (by decide +kernel) (by decide) (fun _ => rfl) flRX12_238 (q := (RX12, TX12, 109)) rfl rfl rfl (ty2 := .array .int) (by decide +kernel) (fun _ => rfl) (fun _ => rfl) (by decide +kernel) (Nat.le_of_ble_eq_true rfl) (Nat.le_of_ble_eq_true rfl) dX12_init_623 dX12_init_625 (fun α75 H1 locs1 hα75 w e0 => ?_)
  refine lv_aload_n hx hb dX12_init_628 rfl (lv_at hl 0 rfl) ?_
  refine lv_iconst (v := Int32.ofInt (2)) hx hb dX12_init_629 (by decide) ?_
  refine zb_arr (t0 := 0) (j := 174) (N := 2) (kf := 102) (a0 := (2, .inl (fun _ => 0))) (ty := .int) C hin hA w e0 rfl rfl zarrI (fun U cA cB h1 h2 => Option.some.inj (h1.symm.trans h2)) (fun _ => rfl) (fun α' => zcl_z0 (by decide +kernel) (by simp [zrz, zSt0])) (by decide) (by decide +kernel) (by decide +kernel) (by decide +kernel) (by decide +kernel) (by decide) (fun _ => rfl) flRX12_241 (q := (RX12, TX12, 109)) rfl rfl rfl (ty2 := .array .int) (by decide +kernel) (fun _ => rfl) (fun _ => rfl) (by decide +kernel) (Nat.le_of_ble_eq_true rfl) (Nat.le_of_ble_eq_true rfl) dX12_init_630 dX12_init_632 (fun α76 H1 locs1 hα76 w e0 => ?_)
  refine lv_aload_n hx hb dX12_init_635 rfl (lv_at hl 0 rfl) ?_
  refine lv_iconst (v := Int32.ofInt (2)) hx hb dX12_init_636 (by decide) ?_
  refine zb_arr (t0 := 0) (j := 175) (N := 2) (kf := 103) (a0 := (2, .inl (fun _ => 0))) (ty := .int) C hin hA w e0 rfl rfl zarrI (fun U cA cB h1 h2 => Option.some.inj (h1.symm.trans h2)) (fun _ => rfl) (fun α' => zcl_z0 (by decide +kernel) (by simp [zrz, zSt0])) (by decide) (by decide +kernel) (by decide +kernel) (by decide +kernel) (by decide +kernel) (by decide) (fun _ => rfl) flRX12_244 (q := (RX12, TX12, 109)) rfl rfl rfl (ty2 := .array .int) (by decide +kernel) (fun _ => rfl) (fun _ => rfl) (by decide +kernel) (Nat.le_of_ble_eq_true rfl) (Nat.le_of_ble_eq_true rfl) dX12_init_637 dX12_init_639 (fun α77 H1 locs1 hα77 w e0 => ?_)
  refine lv_aload_n hx hb dX12_init_642 rfl (lv_at hl 0 rfl) ?_
  refine lv_bipush (v := Int32.ofInt (24)) hx hb dX12_init_643 (by decide) ?_
  refine zb_arr (t0 := 0) (j := 176) (N := 24) (kf := 106) (a0 := (24, .inl (fun _ => 0))) (ty := .int) C hin hA w e0 rfl rfl zarrI (fun U cA cB h1 h2 => Option.some.inj (h1.symm.trans h2)) (fun _ => rfl) (fun α' => zcl_z0 (by decide +kernel) (by simp [zrz, zSt0])) (by decide) (by decide +kernel) (by decide +kernel) (by decide +kernel) (by decide +kernel) (by decide) (fun _ => rfl) flRX12_247 (q := (RX12, TX12, 109)) rfl rfl rfl (ty2 := .array .int) (by decide +kernel) (fun _ => rfl) (fun _ => rfl) (by decide +kernel) (Nat.le_of_ble_eq_true rfl) (Nat.le_of_ble_eq_true rfl) dX12_init_645 dX12_init_647 (fun α78 H1 locs1 hα78 w e0 => ?_)
  refine lv_aload_n hx hb dX12_init_650 rfl (lv_at hl 0 rfl) ?_
  refine lv_bipush (v := Int32.ofInt (24)) hx hb dX12_init_651 (by decide) ?_
  refine zb_arr (t0 := 0) (j := 177) (N := 24) (kf := 107) (a0 := (24, .inl (fun _ => 0))) (ty := .int) C hin hA w e0 rfl rfl zarrI (fun U cA cB h1 h2 => Option.some.inj (h1.symm.trans h2)) (fun _ => rfl) (fun α' => zcl_z0 (by decide +kernel) (by simp [zrz, zSt0])) (by decide) (by decide +kernel) (by decide +kernel) (by decide +kernel) (by decide +kernel) (by decide) (fun _ => rfl) flRX12_250 (q := (RX12, TX12, 109)) rfl rfl rfl (ty2 := .array .int) (by decide +kernel) (fun _ => rfl) (fun _ => rfl) (by decide +kernel) (Nat.le_of_ble_eq_true rfl) (Nat.le_of_ble_eq_true rfl) dX12_init_653 dX12_init_655 (fun α79 H1 locs1 hα79 w e0 => ?_)
  refine lv_aload_n hx hb dX12_init_658 rfl (lv_at hl 0 rfl) ?_
  refine lv_bipush (v := Int32.ofInt (24)) hx hb dX12_init_659 (by decide) ?_
  refine zb_arr (t0 := 1) (j := 178) (N := 24) (kf := 108) (a0 := (24, .inl (fun _ => 0))) (ty := .boolean) C hin hA w e0 rfl rfl zarrZ (fun U cA cB h1 h2 => Option.some.inj (h1.symm.trans h2)) (fun _ => rfl) (fun α' => zcl_z1 (by decide +kernel) (by simp [zrz, zSt0])) (by decide) (by decide +kernel) (by decide +kernel) (by decide +kernel) (by decide +kernel) (by decide) (fun _ => rfl) flRX12_253 (q := (RX12, TX12, 109)) rfl rfl rfl (ty2 := .array .boolean) (by decide +kernel) (fun _ => rfl) (fun _ => rfl) (by decide +kernel) (Nat.le_of_ble_eq_true rfl) (Nat.le_of_ble_eq_true rfl) dX12_init_661 dX12_init_663 (fun α80 H1 locs1 hα80 w e0 => ?_)
  have hrow : ∀ i ∈ ([178, 177, 176, 175, 174, 173, 172, 171, 170, 169, 168, 167, 166, 165, 164, 163, 162, 161, 160, 159, 158, 157, 156, 155, 154, 153, 152, 151, 150, 149, 148, 147, 146, 145, 144, 143, 142, 141, 140, 139, 138, 137, 136, 135, 134, 133, 132, 131, 130, 129, 128, 127, 126, 125, 124, 123, 122, 121, 120, 119, 118, 117, 116, 115, 114, 113, 112, 111, 110, 109, 108, 107, 106, 105, 104, 103, 102, 101, 100, 99] : List Nat), (zfl (zfl (zfl (zfl (zup (zup (zup (zup (zup (zup (zup (zup (zrz [102, 117, 118, 135, 138, 146]) 117 0 119) 118 0 1) 117 80 119) 118 1 1) 117 160 119) 118 2 1) 117 240 119) 118 3 1) 102 48 (-1)) 135 24 (-1)) 138 24 (-1)) 146 10452 (-1)) i = zSt0 i := by
    intro i hi
    simp only [List.mem_cons, List.not_mem_nil, or_false] at hi
    rcases hi with rfl | rfl | rfl | rfl | rfl | rfl | rfl | rfl | rfl | rfl | rfl | rfl | rfl | rfl | rfl | rfl | rfl | rfl | rfl | rfl | rfl | rfl | rfl | rfl | rfl | rfl | rfl | rfl | rfl | rfl | rfl | rfl | rfl | rfl | rfl | rfl | rfl | rfl | rfl | rfl | rfl | rfl | rfl | rfl | rfl | rfl | rfl | rfl | rfl | rfl | rfl | rfl | rfl | rfl | rfl | rfl | rfl | rfl | rfl | rfl | rfl | rfl | rfl | rfl | rfl | rfl | rfl | rfl | rfl | rfl | rfl | rfl | rfl | rfl | rfl | rfl | rfl | rfl | rfl | rfl <;> (funext j; simp [zfl, zup, zrz, zSt0, zrw0] <;> (try (intros; omega)))
  have loop4 : ∀ (n i : Nat) (lsr : Array Slot) (H : Heap) (locs : List Loc), 10452 - i = n → i ≤ 10452 → lv_has lsr 2 [(1, .int (Int32.ofInt i)), (0, .ref h0)] → zWq G A s.heap H locs (zbw G α80 (zfl (zfl (zfl (zfl (zup (zup (zup (zup (zup (zup (zup (zup (zrz [102, 117, 118, 135, 138, 146]) 117 0 119) 118 0 1) 117 80 119) 118 1 1) 117 160 119) 118 2 1) 117 240 119) 118 3 1) 102 48 (-1)) 135 24 (-1)) 138 24 (-1)) 146 (i : Int) (-1)) 98 12 (zsh 98).2.2 [(108, .inl 178), (107, .inl 177), (106, .inl 176), (103, .inl 175), (102, .inl 174), (98, .inl 173), (97, .inl 172), (96, .inl 171), (95, .inl 170), (94, .inl 169), (93, .inl 168), (83, .inl 167), (82, .inl 166), (81, .inl 165), (80, .inl 164), (79, .inl 163), (78, .inl 162), (77, .inl 161), (76, .inl 160), (75, .inl 159), (74, .inl 158), (73, .inl 157), (72, .inl 156), (71, .inl 155), (70, .inl 154), (69, .inl 153), (68, .inl 152), (67, .inl 151), (66, .inl 150), (65, .inl 149), (64, .inl 148), (62, .inl 147), (61, .inl 146), (60, .inl 145), (59, .inl 144), (58, .inl 143), (57, .inl 142), (56, .inl 141), (55, .inl 140), (54, .inl 139), (53, .inl 138), (52, .inl 137), (51, .inl 136), (50, .inl 135), (49, .inl 134), (48, .inl 133), (47, .inl 132), (46, .inl 131), (45, .inl 130), (44, .inl 129), (42, .inl 128), (41, .inl 127), (40, .inl 126), (39, .inl 125), (38, .inl 124), (37, .inl 123), (36, .inl 122), (35, .inl 121), (34, .inl 120), (33, .inl 119), (32, .inl 118), (31, .inl 117), (30, .inl 116), (29, .inl 115), (28, .inl 114), (27, .inl 113), (26, .inl 112), (25, .inl 111), (24, .inl 110), (23, .inl 109), (22, .inl 108), (21, .inl 107), (20, .inl 106), (19, .inl 105), (18, .inl 104), (17, .inl 103), (16, .inl 102), (15, .inl 101), (14, .inl 100), (13, .inl 99), (11, .inr (365))] (fun _ => []) [178, 177, 176, 175, 174, 173, 172, 171, 170, 169, 168, 167, 166, 165, 164, 163, 162, 161, 160, 159, 158, 157, 156, 155, 154, 153, 152, 151, 150, 149, 148, 147, 146, 145, 144, 143, 142, 141, 140, 139, 138, 137, 136, 135, 134, 133, 132, 131, 130, 129, 128, 127, 126, 125, 124, 123, 122, 121, 120, 119, 118, 117, 116, 115, 114, 113, 112, 111, 110, 109, 108, 107, 106, 105, 104, 103, 102, 101, 100, 99]) → W p (zGL G) e (zRm MX12_init 80 25193) s m args below meth c H locs (0 + 1 + 1 + 1 + 1 + 1 + 1 + 1 + 1 + 1 + 1 + 1 + 1 + 1 + 1 + 1 + 1 + 1 + 1 + 1 + 1 + 1 + 1 + 1 + 1 + 1 + 1 + 1 + 1 + 1 + 1 + 1 + 1 + 1 + 1 + 1 + 1 + 1 + 1 + 1 + 1 + 1 + 1 + 1 + 1 + 1 + 1 + 1 + 1 + 1 + 1 + 1 + 1 + 1 + 1 + 1 + 1 + 1 + 1 + 1 + 1 + 1 + 1 + 1 + 1 + 1 + 1 + 1 + 1 + 1 + 1 + 1 + 1 + 1 + 1 + 1 + 1 + 1 + 1 + 1 + 1) (0 + 24 + 24 + 24 + 48 + 48 + 24 + 24 + 400 + 400 + 400 + 400 + 400 + 10 + 10 + 10 + 10 + 800 + 80 + 320 + 4 + 12 + 12 + 12 + 12 + 12 + 960 + 960 + 12 + 300 + 300 + 12 + 12 + 12 + 12 + 12 + 1920 + 24 + 1920 + 24 + 24 + 8 + 8 + 8 + 8 + 8 + 8 + 8 + 10452 + 80 + 400 + 400 + 400 + 120 + 120 + 24 + 24 + 2 + 2 + 8 + 24 + 24 + 24 + 4 + 110 + 110 + 110 + 500 + 300 + 110 + 1040 + 13 + 576 + 24 + 24 + 12 + 2 + 2 + 24 + 24 + 24) (MQ below (zIQ G α 98 [178, 177, 176, 175, 174, 173, 172, 171, 170, 169, 168, 167, 166, 165, 164, 163, 162, 161, 160, 159, 158, 157, 156, 155, 154, 153, 152, 151, 150, 149, 148, 147, 146, 145, 144, 143, 142, 141, 140, 139, 138, 137, 136, 135, 134, 133, 132, 131, 130, 129, 128, 127, 126, 125, 124, 123, 122, 121, 120, 119, 118, 117, 116, 115, 114, 113, 112, 111, 110, 109, 108, 107, 106, 105, 104, 103, 102, 101, 100, 99] zSt0 A) args s 80 25193 A) (F0 m 748 lsr []) := by
    intro n
    induction n with
    | zero =>
      intro i lsr H locs hm hi hl w
      have ei : i = 10452 := by omega
      subst ei
      refine lv_iload_n hx hb dX12_init_748 rfl (lv_at hl 0 rfl) ?_
      refine lv_sipush (v := Int32.ofInt 10452) hx hb dX12_init_749 (by decide) ?_
      refine lv_icmp_ge (tgt := 768) hx hb dX12_init_752 (by decide) (fun _ => ?_) (fun hc => absurd (by decide) hc)
      exact zi_end (own := [178, 177, 176, 175, 174, 173, 172, 171, 170, 169, 168, 167, 166, 165, 164, 163, 162, 161, 160, 159, 158, 157, 156, 155, 154, 153, 152, 151, 150, 149, 148, 147, 146, 145, 144, 143, 142, 141, 140, 139, 138, 137, 136, 135, 134, 133, 132, 131, 130, 129, 128, 127, 126, 125, 124, 123, 122, 121, 120, 119, 118, 117, 116, 115, 114, 113, 112, 111, 110, 109, 108, 107, 106, 105, 104, 103, 102, 101, 100, 99]) C rfl w (by decide +kernel) (by decide +kernel) hrow (fun i hi => by rw [hα80 i (fun z => hi (by rw [z]; decide)), hα79 i (fun z => hi (by rw [z]; decide)), hα78 i (fun z => hi (by rw [z]; decide)), hα77 i (fun z => hi (by rw [z]; decide)), hα76 i (fun z => hi (by rw [z]; decide)), hα75 i (fun z => hi (by rw [z]; decide)), hα74 i (fun z => hi (by rw [z]; decide)), hα73 i (fun z => hi (by rw [z]; decide)), hα72 i (fun z => hi (by rw [z]; decide)), hα71 i (fun z => hi (by rw [z]; decide)), hα70 i (fun z => hi (by rw [z]; decide)), hα69 i (fun z => hi (by rw [z]; decide)), hα68 i (fun z => hi (by rw [z]; decide)), hα67 i (fun z => hi (by rw [z]; decide)), hα66 i (fun z => hi (by rw [z]; decide)), hα65 i (fun z => hi (by rw [z]; decide)), hα64 i (fun z => hi (by rw [z]; decide)), hα63 i (fun z => hi (by rw [z]; decide)), hα62 i (fun z => hi (by rw [z]; decide)), hα61 i (fun z => hi (by rw [z]; decide)), hα60 i (fun z => hi (by rw [z]; decide)), hα59 i (fun z => hi (by rw [z]; decide)), hα58 i (fun z => hi (by rw [z]; decide)), hα57 i (fun z => hi (by rw [z]; decide)), hα56 i (fun z => hi (by rw [z]; decide)), hα55 i (fun z => hi (by rw [z]; decide)), hα54 i (fun z => hi (by rw [z]; decide)), hα53 i (fun z => hi (by rw [z]; decide)), hα52 i (fun z => hi (by rw [z]; decide)), hα51 i (fun z => hi (by rw [z]; decide)), hα50 i (fun z => hi (by rw [z]; decide)), hα49 i (fun z => hi (by rw [z]; decide)), hα48 i (fun z => hi (by rw [z]; decide)), hα47 i (fun z => hi (by rw [z]; decide)), hα46 i (fun z => hi (by rw [z]; decide)), hα45 i (fun z => hi (by rw [z]; decide)), hα44 i (fun z => hi (by rw [z]; decide)), hα43 i (fun z => hi (by rw [z]; decide)), hα42 i (fun z => hi (by rw [z]; decide)), hα41 i (fun z => hi (by rw [z]; decide)), hα40 i (fun z => hi (by rw [z]; decide)), hα39 i (fun z => hi (by rw [z]; decide)), hα38 i (fun z => hi (by rw [z]; decide)), hα37 i (fun z => hi (by rw [z]; decide)), hα36 i (fun z => hi (by rw [z]; decide)), hα35 i (fun z => hi (by rw [z]; decide)), hα34 i (fun z => hi (by rw [z]; decide)), hα33 i (fun z => hi (by rw [z]; decide)), hα32 i (fun z => hi (by rw [z]; decide)), hα31 i (fun z => hi (by rw [z]; decide)), hα30 i (fun z => hi (by rw [z]; decide)), hα29 i (fun z => hi (by rw [z]; decide)), hα28 i (fun z => hi (by rw [z]; decide)), hα27 i (fun z => hi (by rw [z]; decide)), hα26 i (fun z => hi (by rw [z]; decide)), hα25 i (fun z => hi (by rw [z]; decide)), hα24 i (fun z => hi (by rw [z]; decide)), hα23 i (fun z => hi (by rw [z]; decide)), hα22 i (fun z => hi (by rw [z]; decide)), hα21 i (fun z => hi (by rw [z]; decide)), hα20 i (fun z => hi (by rw [z]; decide)), hα19 i (fun z => hi (by rw [z]; decide)), hα18 i (fun z => hi (by rw [z]; decide)), hα17 i (fun z => hi (by rw [z]; decide)), hα16 i (fun z => hi (by rw [z]; decide)), hα15 i (fun z => hi (by rw [z]; decide)), hα14 i (fun z => hi (by rw [z]; decide)), hα13 i (fun z => hi (by rw [z]; decide)), hα12 i (fun z => hi (by rw [z]; decide)), hα11 i (fun z => hi (by rw [z]; decide)), hα10 i (fun z => hi (by rw [z]; decide)), hα9 i (fun z => hi (by rw [z]; decide)), hα8 i (fun z => hi (by rw [z]; decide)), hα7 i (fun z => hi (by rw [z]; decide)), hα6 i (fun z => hi (by rw [z]; decide)), hα5 i (fun z => hi (by rw [z]; decide)), hα4 i (fun z => hi (by rw [z]; decide)), hα3 i (fun z => hi (by rw [z]; decide)), hα2 i (fun z => hi (by rw [z]; decide)), hα1 i (fun z => hi (by rw [z]; decide))]) ⟨(Nat.le_of_ble_eq_true rfl), (Nat.le_of_ble_eq_true rfl)⟩ dX12_init_768
    | succ n ih =>
      intro i lsr H locs hm hi hl w
      refine lv_iload_n hx hb dX12_init_748 rfl (lv_at hl 0 rfl) ?_
      refine lv_sipush (v := Int32.ofInt 10452) hx hb dX12_init_749 (by decide) ?_
      refine lv_icmp_ge (tgt := 768) hx hb dX12_init_752 (by decide) (fun hc => ?_) (fun _ => ?_)
      · have := (zI_le (x := 10452) (y := (i : Int)) (by unfold zIn; omega) (by unfold zIn; omega)).mp hc
        omega
      · skip
        refine lv_aload_n hx hb dX12_init_755 rfl (lv_at hl 1 rfl) ?_
        refine zb_get (kf := 61) (v := .inl 146) C w List.mem_cons_self e0 flRX12_157 (by decide +kernel) rfl dX12_init_756 ?_
        refine lv_iload_n hx hb dX12_init_759 rfl (lv_at hl 0 rfl) ?_
        refine lv_iconst (v := Int32.ofInt (-1)) hx hb dX12_init_760 (by decide) ?_
        refine zb_iast (j := 146) (N := 10452) (i := (i : Int)) (x := -1) C w (by decide +kernel) (by decide) (by decide) (by unfold zIn; omega) (by omega) (by omega) dX12_init_761 (fun H1 locs1 w => ?_)
        rw [zfl_s (by omega)] at w
        refine lv_iinc (v := Int32.ofInt ((i + 1 : Nat) : Int)) (lv' := [(1, .int (Int32.ofInt ((i + 1 : Nat) : Int))), (0, .ref h0)]) hx hb dX12_init_762 hl (k := 0) rfl (by rw [← Int32.ofInt_add]; rfl) (by decide) rfl (fun lsr hl => ?_)
        refine lv_goto (tgt := 748) hx hb dX12_init_765 (by decide) ?_
        exact ih (i + 1) lsr H1 locs1 (by omega) (by omega) hl w
  have loop3 : ∀ (n i : Nat) (lsr : Array Slot) (H : Heap) (locs : List Loc), 24 - i = n → i ≤ 24 → lv_has lsr 2 [(1, .int (Int32.ofInt i)), (0, .ref h0)] → zWq G A s.heap H locs (zbw G α80 (zfl (zfl (zfl (zup (zup (zup (zup (zup (zup (zup (zup (zrz [102, 117, 118, 135, 138, 146]) 117 0 119) 118 0 1) 117 80 119) 118 1 1) 117 160 119) 118 2 1) 117 240 119) 118 3 1) 102 48 (-1)) 135 (i : Int) (-1)) 138 (i : Int) (-1)) 98 12 (zsh 98).2.2 [(108, .inl 178), (107, .inl 177), (106, .inl 176), (103, .inl 175), (102, .inl 174), (98, .inl 173), (97, .inl 172), (96, .inl 171), (95, .inl 170), (94, .inl 169), (93, .inl 168), (83, .inl 167), (82, .inl 166), (81, .inl 165), (80, .inl 164), (79, .inl 163), (78, .inl 162), (77, .inl 161), (76, .inl 160), (75, .inl 159), (74, .inl 158), (73, .inl 157), (72, .inl 156), (71, .inl 155), (70, .inl 154), (69, .inl 153), (68, .inl 152), (67, .inl 151), (66, .inl 150), (65, .inl 149), (64, .inl 148), (62, .inl 147), (61, .inl 146), (60, .inl 145), (59, .inl 144), (58, .inl 143), (57, .inl 142), (56, .inl 141), (55, .inl 140), (54, .inl 139), (53, .inl 138), (52, .inl 137), (51, .inl 136), (50, .inl 135), (49, .inl 134), (48, .inl 133), (47, .inl 132), (46, .inl 131), (45, .inl 130), (44, .inl 129), (42, .inl 128), (41, .inl 127), (40, .inl 126), (39, .inl 125), (38, .inl 124), (37, .inl 123), (36, .inl 122), (35, .inl 121), (34, .inl 120), (33, .inl 119), (32, .inl 118), (31, .inl 117), (30, .inl 116), (29, .inl 115), (28, .inl 114), (27, .inl 113), (26, .inl 112), (25, .inl 111), (24, .inl 110), (23, .inl 109), (22, .inl 108), (21, .inl 107), (20, .inl 106), (19, .inl 105), (18, .inl 104), (17, .inl 103), (16, .inl 102), (15, .inl 101), (14, .inl 100), (13, .inl 99), (11, .inr (365))] (fun _ => []) [178, 177, 176, 175, 174, 173, 172, 171, 170, 169, 168, 167, 166, 165, 164, 163, 162, 161, 160, 159, 158, 157, 156, 155, 154, 153, 152, 151, 150, 149, 148, 147, 146, 145, 144, 143, 142, 141, 140, 139, 138, 137, 136, 135, 134, 133, 132, 131, 130, 129, 128, 127, 126, 125, 124, 123, 122, 121, 120, 119, 118, 117, 116, 115, 114, 113, 112, 111, 110, 109, 108, 107, 106, 105, 104, 103, 102, 101, 100, 99]) → W p (zGL G) e (zRm MX12_init 80 25193) s m args below meth c H locs (0 + 1 + 1 + 1 + 1 + 1 + 1 + 1 + 1 + 1 + 1 + 1 + 1 + 1 + 1 + 1 + 1 + 1 + 1 + 1 + 1 + 1 + 1 + 1 + 1 + 1 + 1 + 1 + 1 + 1 + 1 + 1 + 1 + 1 + 1 + 1 + 1 + 1 + 1 + 1 + 1 + 1 + 1 + 1 + 1 + 1 + 1 + 1 + 1 + 1 + 1 + 1 + 1 + 1 + 1 + 1 + 1 + 1 + 1 + 1 + 1 + 1 + 1 + 1 + 1 + 1 + 1 + 1 + 1 + 1 + 1 + 1 + 1 + 1 + 1 + 1 + 1 + 1 + 1 + 1 + 1) (0 + 24 + 24 + 24 + 48 + 48 + 24 + 24 + 400 + 400 + 400 + 400 + 400 + 10 + 10 + 10 + 10 + 800 + 80 + 320 + 4 + 12 + 12 + 12 + 12 + 12 + 960 + 960 + 12 + 300 + 300 + 12 + 12 + 12 + 12 + 12 + 1920 + 24 + 1920 + 24 + 24 + 8 + 8 + 8 + 8 + 8 + 8 + 8 + 10452 + 80 + 400 + 400 + 400 + 120 + 120 + 24 + 24 + 2 + 2 + 8 + 24 + 24 + 24 + 4 + 110 + 110 + 110 + 500 + 300 + 110 + 1040 + 13 + 576 + 24 + 24 + 12 + 2 + 2 + 24 + 24 + 24) (MQ below (zIQ G α 98 [178, 177, 176, 175, 174, 173, 172, 171, 170, 169, 168, 167, 166, 165, 164, 163, 162, 161, 160, 159, 158, 157, 156, 155, 154, 153, 152, 151, 150, 149, 148, 147, 146, 145, 144, 143, 142, 141, 140, 139, 138, 137, 136, 135, 134, 133, 132, 131, 130, 129, 128, 127, 126, 125, 124, 123, 122, 121, 120, 119, 118, 117, 116, 115, 114, 113, 112, 111, 110, 109, 108, 107, 106, 105, 104, 103, 102, 101, 100, 99] zSt0 A) args s 80 25193 A) (F0 m 720 lsr []) := by
    intro n
    induction n with
    | zero =>
      intro i lsr H locs hm hi hl w
      have ei : i = 24 := by omega
      subst ei
      refine lv_iload_n hx hb dX12_init_720 rfl (lv_at hl 0 rfl) ?_
      refine lv_bipush (v := Int32.ofInt 24) hx hb dX12_init_721 (by decide) ?_
      refine lv_icmp_ge (tgt := 746) hx hb dX12_init_723 (by decide) (fun _ => ?_) (fun hc => absurd (by decide) hc)
      refine lv_iconst (v := Int32.ofInt ((0 : Nat) : Int)) hx hb dX12_init_746 (by decide) ?_
      refine lv_istore_n (lv' := [(1, .int (Int32.ofInt ((0 : Nat) : Int))), (0, .ref h0)]) hx hb dX12_init_747 rfl hl (by decide) rfl (fun lsr hl => ?_)
      exact loop4 _ 0 lsr H locs rfl (by decide) hl (by rw [show ((0 : Nat) : Int) = 0 from rfl, zfl_0]; exact w)
    | succ n ih =>
      intro i lsr H locs hm hi hl w
      refine lv_iload_n hx hb dX12_init_720 rfl (lv_at hl 0 rfl) ?_
      refine lv_bipush (v := Int32.ofInt 24) hx hb dX12_init_721 (by decide) ?_
      refine lv_icmp_ge (tgt := 746) hx hb dX12_init_723 (by decide) (fun hc => ?_) (fun _ => ?_)
      · have := (zI_le (x := 24) (y := (i : Int)) (by unfold zIn; omega) (by unfold zIn; omega)).mp hc
        omega
      · skip
        refine lv_aload_n hx hb dX12_init_726 rfl (lv_at hl 1 rfl) ?_
        refine zb_get (kf := 50) (v := .inl 135) C w List.mem_cons_self e0 flRX12_124 (by decide +kernel) rfl dX12_init_727 ?_
        refine lv_iload_n hx hb dX12_init_730 rfl (lv_at hl 0 rfl) ?_
        refine lv_iconst (v := Int32.ofInt (-1)) hx hb dX12_init_731 (by decide) ?_
        refine zb_iast (j := 135) (N := 24) (i := (i : Int)) (x := -1) C w (by decide +kernel) (by decide) (by decide) (by unfold zIn; omega) (by omega) (by omega) dX12_init_732 (fun H1 locs1 w => ?_)
        refine lv_aload_n hx hb dX12_init_733 rfl (lv_at hl 1 rfl) ?_
        refine zb_get (kf := 53) (v := .inl 138) C w List.mem_cons_self e0 flRX12_133 (by decide +kernel) rfl dX12_init_734 ?_
        refine lv_iload_n hx hb dX12_init_737 rfl (lv_at hl 0 rfl) ?_
        refine lv_iconst (v := Int32.ofInt (-1)) hx hb dX12_init_738 (by decide) ?_
        refine zb_iast (j := 138) (N := 24) (i := (i : Int)) (x := -1) C w (by decide +kernel) (by decide) (by decide) (by unfold zIn; omega) (by omega) (by omega) dX12_init_739 (fun H1 locs1 w => ?_)
        rw [zup_zfl (by decide), zfl_s (by omega), zfl_s (by omega)] at w
        refine lv_iinc (v := Int32.ofInt ((i + 1 : Nat) : Int)) (lv' := [(1, .int (Int32.ofInt ((i + 1 : Nat) : Int))), (0, .ref h0)]) hx hb dX12_init_740 hl (k := 0) rfl (by rw [← Int32.ofInt_add]; rfl) (by decide) rfl (fun lsr hl => ?_)
        refine lv_goto (tgt := 720) hx hb dX12_init_743 (by decide) ?_
        exact ih (i + 1) lsr H1 locs1 (by omega) (by omega) hl w
  have loop2 : ∀ (n i : Nat) (lsr : Array Slot) (H : Heap) (locs : List Loc), 48 - i = n → i ≤ 48 → lv_has lsr 2 [(1, .int (Int32.ofInt i)), (0, .ref h0)] → zWq G A s.heap H locs (zbw G α80 (zfl (zup (zup (zup (zup (zup (zup (zup (zup (zrz [102, 117, 118, 135, 138, 146]) 117 0 119) 118 0 1) 117 80 119) 118 1 1) 117 160 119) 118 2 1) 117 240 119) 118 3 1) 102 (i : Int) (-1)) 98 12 (zsh 98).2.2 [(108, .inl 178), (107, .inl 177), (106, .inl 176), (103, .inl 175), (102, .inl 174), (98, .inl 173), (97, .inl 172), (96, .inl 171), (95, .inl 170), (94, .inl 169), (93, .inl 168), (83, .inl 167), (82, .inl 166), (81, .inl 165), (80, .inl 164), (79, .inl 163), (78, .inl 162), (77, .inl 161), (76, .inl 160), (75, .inl 159), (74, .inl 158), (73, .inl 157), (72, .inl 156), (71, .inl 155), (70, .inl 154), (69, .inl 153), (68, .inl 152), (67, .inl 151), (66, .inl 150), (65, .inl 149), (64, .inl 148), (62, .inl 147), (61, .inl 146), (60, .inl 145), (59, .inl 144), (58, .inl 143), (57, .inl 142), (56, .inl 141), (55, .inl 140), (54, .inl 139), (53, .inl 138), (52, .inl 137), (51, .inl 136), (50, .inl 135), (49, .inl 134), (48, .inl 133), (47, .inl 132), (46, .inl 131), (45, .inl 130), (44, .inl 129), (42, .inl 128), (41, .inl 127), (40, .inl 126), (39, .inl 125), (38, .inl 124), (37, .inl 123), (36, .inl 122), (35, .inl 121), (34, .inl 120), (33, .inl 119), (32, .inl 118), (31, .inl 117), (30, .inl 116), (29, .inl 115), (28, .inl 114), (27, .inl 113), (26, .inl 112), (25, .inl 111), (24, .inl 110), (23, .inl 109), (22, .inl 108), (21, .inl 107), (20, .inl 106), (19, .inl 105), (18, .inl 104), (17, .inl 103), (16, .inl 102), (15, .inl 101), (14, .inl 100), (13, .inl 99), (11, .inr (365))] (fun _ => []) [178, 177, 176, 175, 174, 173, 172, 171, 170, 169, 168, 167, 166, 165, 164, 163, 162, 161, 160, 159, 158, 157, 156, 155, 154, 153, 152, 151, 150, 149, 148, 147, 146, 145, 144, 143, 142, 141, 140, 139, 138, 137, 136, 135, 134, 133, 132, 131, 130, 129, 128, 127, 126, 125, 124, 123, 122, 121, 120, 119, 118, 117, 116, 115, 114, 113, 112, 111, 110, 109, 108, 107, 106, 105, 104, 103, 102, 101, 100, 99]) → W p (zGL G) e (zRm MX12_init 80 25193) s m args below meth c H locs (0 + 1 + 1 + 1 + 1 + 1 + 1 + 1 + 1 + 1 + 1 + 1 + 1 + 1 + 1 + 1 + 1 + 1 + 1 + 1 + 1 + 1 + 1 + 1 + 1 + 1 + 1 + 1 + 1 + 1 + 1 + 1 + 1 + 1 + 1 + 1 + 1 + 1 + 1 + 1 + 1 + 1 + 1 + 1 + 1 + 1 + 1 + 1 + 1 + 1 + 1 + 1 + 1 + 1 + 1 + 1 + 1 + 1 + 1 + 1 + 1 + 1 + 1 + 1 + 1 + 1 + 1 + 1 + 1 + 1 + 1 + 1 + 1 + 1 + 1 + 1 + 1 + 1 + 1 + 1 + 1) (0 + 24 + 24 + 24 + 48 + 48 + 24 + 24 + 400 + 400 + 400 + 400 + 400 + 10 + 10 + 10 + 10 + 800 + 80 + 320 + 4 + 12 + 12 + 12 + 12 + 12 + 960 + 960 + 12 + 300 + 300 + 12 + 12 + 12 + 12 + 12 + 1920 + 24 + 1920 + 24 + 24 + 8 + 8 + 8 + 8 + 8 + 8 + 8 + 10452 + 80 + 400 + 400 + 400 + 120 + 120 + 24 + 24 + 2 + 2 + 8 + 24 + 24 + 24 + 4 + 110 + 110 + 110 + 500 + 300 + 110 + 1040 + 13 + 576 + 24 + 24 + 12 + 2 + 2 + 24 + 24 + 24) (MQ below (zIQ G α 98 [178, 177, 176, 175, 174, 173, 172, 171, 170, 169, 168, 167, 166, 165, 164, 163, 162, 161, 160, 159, 158, 157, 156, 155, 154, 153, 152, 151, 150, 149, 148, 147, 146, 145, 144, 143, 142, 141, 140, 139, 138, 137, 136, 135, 134, 133, 132, 131, 130, 129, 128, 127, 126, 125, 124, 123, 122, 121, 120, 119, 118, 117, 116, 115, 114, 113, 112, 111, 110, 109, 108, 107, 106, 105, 104, 103, 102, 101, 100, 99] zSt0 A) args s 80 25193 A) (F0 m 699 lsr []) := by
    intro n
    induction n with
    | zero =>
      intro i lsr H locs hm hi hl w
      have ei : i = 48 := by omega
      subst ei
      refine lv_iload_n hx hb dX12_init_699 rfl (lv_at hl 0 rfl) ?_
      refine lv_bipush (v := Int32.ofInt 48) hx hb dX12_init_700 (by decide) ?_
      refine lv_icmp_ge (tgt := 718) hx hb dX12_init_702 (by decide) (fun _ => ?_) (fun hc => absurd (by decide) hc)
      refine lv_iconst (v := Int32.ofInt ((0 : Nat) : Int)) hx hb dX12_init_718 (by decide) ?_
      refine lv_istore_n (lv' := [(1, .int (Int32.ofInt ((0 : Nat) : Int))), (0, .ref h0)]) hx hb dX12_init_719 rfl hl (by decide) rfl (fun lsr hl => ?_)
      exact loop3 _ 0 lsr H locs rfl (by decide) hl (by rw [show ((0 : Nat) : Int) = 0 from rfl, zfl_0, zfl_0]; exact w)
    | succ n ih =>
      intro i lsr H locs hm hi hl w
      refine lv_iload_n hx hb dX12_init_699 rfl (lv_at hl 0 rfl) ?_
      refine lv_bipush (v := Int32.ofInt 48) hx hb dX12_init_700 (by decide) ?_
      refine lv_icmp_ge (tgt := 718) hx hb dX12_init_702 (by decide) (fun hc => ?_) (fun _ => ?_)
      · have := (zI_le (x := 48) (y := (i : Int)) (by unfold zIn; omega) (by unfold zIn; omega)).mp hc
        omega
      · skip
        refine lv_aload_n hx hb dX12_init_705 rfl (lv_at hl 1 rfl) ?_
        refine zb_get (kf := 16) (v := .inl 102) C w List.mem_cons_self e0 flRX12_23 (by decide +kernel) rfl dX12_init_706 ?_
        refine lv_iload_n hx hb dX12_init_709 rfl (lv_at hl 0 rfl) ?_
        refine lv_iconst (v := Int32.ofInt (-1)) hx hb dX12_init_710 (by decide) ?_
        refine zb_iast (j := 102) (N := 48) (i := (i : Int)) (x := -1) C w (by decide +kernel) (by decide) (by decide) (by unfold zIn; omega) (by omega) (by omega) dX12_init_711 (fun H1 locs1 w => ?_)
        rw [zfl_s (by omega)] at w
        refine lv_iinc (v := Int32.ofInt ((i + 1 : Nat) : Int)) (lv' := [(1, .int (Int32.ofInt ((i + 1 : Nat) : Int))), (0, .ref h0)]) hx hb dX12_init_712 hl (k := 0) rfl (by rw [← Int32.ofInt_add]; rfl) (by decide) rfl (fun lsr hl => ?_)
        refine lv_goto (tgt := 699) hx hb dX12_init_715 (by decide) ?_
        exact ih (i + 1) lsr H1 locs1 (by omega) (by omega) hl w
  refine lv_iconst (v := Int32.ofInt 0) hx hb dX12_init_666 (by decide) ?_
  refine lv_istore_n (lv' := [(1, .int (Int32.ofInt 0)), (0, .ref h0)]) hx hb dX12_init_667 rfl hl (by decide) rfl (fun lsr hl => ?_)
  refine lv_iload_n hx hb dX12_init_668 rfl (lv_at hl 0 rfl) ?_
  refine lv_iconst (v := Int32.ofInt 4) hx hb dX12_init_669 (by decide) ?_
  refine lv_icmp_ge (tgt := 697) hx hb dX12_init_670 (by decide) (fun hc => absurd hc (by decide)) (fun _ => ?_)
  refine lv_aload_n hx hb dX12_init_673 rfl (lv_at hl 1 rfl) ?_
  refine zb_get (kf := 31) (v := .inl 117) C w List.mem_cons_self e0 flRX12_70 (by decide +kernel) rfl dX12_init_674 ?_
  refine lv_bipush (v := Int32.ofInt 80) hx hb dX12_init_677 (by decide) ?_
  refine lv_iload_n hx hb dX12_init_679 rfl (lv_at hl 0 rfl) ?_
  refine lv_imul hx hb dX12_init_680 ?_
  rw [show Int32.ofInt 80 * Int32.ofInt 0 = Int32.ofInt 0 from by decide]
  refine lv_bipush (v := Int32.ofInt 119) hx hb dX12_init_681 (by decide) ?_
  refine zb_iast (j := 117) (N := 320) (i := 0) (x := 119) C w (by decide +kernel) (by decide) (by decide) (by unfold zIn; omega) (by omega) (by omega) dX12_init_683 (fun H1 locs1 w => ?_)
  refine lv_aload_n hx hb dX12_init_684 rfl (lv_at hl 1 rfl) ?_
  refine zb_get (kf := 32) (v := .inl 118) C w List.mem_cons_self e0 flRX12_73 (by decide +kernel) rfl dX12_init_685 ?_
  refine lv_iload_n hx hb dX12_init_688 rfl (lv_at hl 0 rfl) ?_
  refine lv_iconst (v := Int32.ofInt 1) hx hb dX12_init_689 (by decide) ?_
  refine zb_iast (j := 118) (N := 4) (i := 0) (x := 1) C w (by decide +kernel) (by decide) (by decide) (by unfold zIn; omega) (by omega) (by omega) dX12_init_690 (fun H1 locs1 w => ?_)
  refine lv_iinc (v := Int32.ofInt 1) (lv' := [(1, .int (Int32.ofInt 1)), (0, .ref h0)]) hx hb dX12_init_691 hl (k := 0) rfl (by decide) (by decide) rfl (fun lsr hl => ?_)
  refine lv_goto (tgt := 668) hx hb dX12_init_694 (by decide) ?_
  refine lv_iload_n hx hb dX12_init_668 rfl (lv_at hl 0 rfl) ?_
  refine lv_iconst (v := Int32.ofInt 4) hx hb dX12_init_669 (by decide) ?_
  refine lv_icmp_ge (tgt := 697) hx hb dX12_init_670 (by decide) (fun hc => absurd hc (by decide)) (fun _ => ?_)
  refine lv_aload_n hx hb dX12_init_673 rfl (lv_at hl 1 rfl) ?_
  refine zb_get (kf := 31) (v := .inl 117) C w List.mem_cons_self e0 flRX12_70 (by decide +kernel) rfl dX12_init_674 ?_
  refine lv_bipush (v := Int32.ofInt 80) hx hb dX12_init_677 (by decide) ?_
  refine lv_iload_n hx hb dX12_init_679 rfl (lv_at hl 0 rfl) ?_
  refine lv_imul hx hb dX12_init_680 ?_
  rw [show Int32.ofInt 80 * Int32.ofInt 1 = Int32.ofInt 80 from by decide]
  refine lv_bipush (v := Int32.ofInt 119) hx hb dX12_init_681 (by decide) ?_
  refine zb_iast (j := 117) (N := 320) (i := 80) (x := 119) C w (by decide +kernel) (by decide) (by decide) (by unfold zIn; omega) (by omega) (by omega) dX12_init_683 (fun H1 locs1 w => ?_)
  refine lv_aload_n hx hb dX12_init_684 rfl (lv_at hl 1 rfl) ?_
  refine zb_get (kf := 32) (v := .inl 118) C w List.mem_cons_self e0 flRX12_73 (by decide +kernel) rfl dX12_init_685 ?_
  refine lv_iload_n hx hb dX12_init_688 rfl (lv_at hl 0 rfl) ?_
  refine lv_iconst (v := Int32.ofInt 1) hx hb dX12_init_689 (by decide) ?_
  refine zb_iast (j := 118) (N := 4) (i := 1) (x := 1) C w (by decide +kernel) (by decide) (by decide) (by unfold zIn; omega) (by omega) (by omega) dX12_init_690 (fun H1 locs1 w => ?_)
  refine lv_iinc (v := Int32.ofInt 2) (lv' := [(1, .int (Int32.ofInt 2)), (0, .ref h0)]) hx hb dX12_init_691 hl (k := 0) rfl (by decide) (by decide) rfl (fun lsr hl => ?_)
  refine lv_goto (tgt := 668) hx hb dX12_init_694 (by decide) ?_
  refine lv_iload_n hx hb dX12_init_668 rfl (lv_at hl 0 rfl) ?_
  refine lv_iconst (v := Int32.ofInt 4) hx hb dX12_init_669 (by decide) ?_
  refine lv_icmp_ge (tgt := 697) hx hb dX12_init_670 (by decide) (fun hc => absurd hc (by decide)) (fun _ => ?_)
  refine lv_aload_n hx hb dX12_init_673 rfl (lv_at hl 1 rfl) ?_
  refine zb_get (kf := 31) (v := .inl 117) C w List.mem_cons_self e0 flRX12_70 (by decide +kernel) rfl dX12_init_674 ?_
  refine lv_bipush (v := Int32.ofInt 80) hx hb dX12_init_677 (by decide) ?_
  refine lv_iload_n hx hb dX12_init_679 rfl (lv_at hl 0 rfl) ?_
  refine lv_imul hx hb dX12_init_680 ?_
  rw [show Int32.ofInt 80 * Int32.ofInt 2 = Int32.ofInt 160 from by decide]
  refine lv_bipush (v := Int32.ofInt 119) hx hb dX12_init_681 (by decide) ?_
  refine zb_iast (j := 117) (N := 320) (i := 160) (x := 119) C w (by decide +kernel) (by decide) (by decide) (by unfold zIn; omega) (by omega) (by omega) dX12_init_683 (fun H1 locs1 w => ?_)
  refine lv_aload_n hx hb dX12_init_684 rfl (lv_at hl 1 rfl) ?_
  refine zb_get (kf := 32) (v := .inl 118) C w List.mem_cons_self e0 flRX12_73 (by decide +kernel) rfl dX12_init_685 ?_
  refine lv_iload_n hx hb dX12_init_688 rfl (lv_at hl 0 rfl) ?_
  refine lv_iconst (v := Int32.ofInt 1) hx hb dX12_init_689 (by decide) ?_
  refine zb_iast (j := 118) (N := 4) (i := 2) (x := 1) C w (by decide +kernel) (by decide) (by decide) (by unfold zIn; omega) (by omega) (by omega) dX12_init_690 (fun H1 locs1 w => ?_)
  refine lv_iinc (v := Int32.ofInt 3) (lv' := [(1, .int (Int32.ofInt 3)), (0, .ref h0)]) hx hb dX12_init_691 hl (k := 0) rfl (by decide) (by decide) rfl (fun lsr hl => ?_)
  refine lv_goto (tgt := 668) hx hb dX12_init_694 (by decide) ?_
  refine lv_iload_n hx hb dX12_init_668 rfl (lv_at hl 0 rfl) ?_
  refine lv_iconst (v := Int32.ofInt 4) hx hb dX12_init_669 (by decide) ?_
  refine lv_icmp_ge (tgt := 697) hx hb dX12_init_670 (by decide) (fun hc => absurd hc (by decide)) (fun _ => ?_)
  refine lv_aload_n hx hb dX12_init_673 rfl (lv_at hl 1 rfl) ?_
  refine zb_get (kf := 31) (v := .inl 117) C w List.mem_cons_self e0 flRX12_70 (by decide +kernel) rfl dX12_init_674 ?_
  refine lv_bipush (v := Int32.ofInt 80) hx hb dX12_init_677 (by decide) ?_
  refine lv_iload_n hx hb dX12_init_679 rfl (lv_at hl 0 rfl) ?_
  refine lv_imul hx hb dX12_init_680 ?_
  rw [show Int32.ofInt 80 * Int32.ofInt 3 = Int32.ofInt 240 from by decide]
  refine lv_bipush (v := Int32.ofInt 119) hx hb dX12_init_681 (by decide) ?_
  refine zb_iast (j := 117) (N := 320) (i := 240) (x := 119) C w (by decide +kernel) (by decide) (by decide) (by unfold zIn; omega) (by omega) (by omega) dX12_init_683 (fun H1 locs1 w => ?_)
  refine lv_aload_n hx hb dX12_init_684 rfl (lv_at hl 1 rfl) ?_
  refine zb_get (kf := 32) (v := .inl 118) C w List.mem_cons_self e0 flRX12_73 (by decide +kernel) rfl dX12_init_685 ?_
  refine lv_iload_n hx hb dX12_init_688 rfl (lv_at hl 0 rfl) ?_
  refine lv_iconst (v := Int32.ofInt 1) hx hb dX12_init_689 (by decide) ?_
  refine zb_iast (j := 118) (N := 4) (i := 3) (x := 1) C w (by decide +kernel) (by decide) (by decide) (by unfold zIn; omega) (by omega) (by omega) dX12_init_690 (fun H1 locs1 w => ?_)
  refine lv_iinc (v := Int32.ofInt 4) (lv' := [(1, .int (Int32.ofInt 4)), (0, .ref h0)]) hx hb dX12_init_691 hl (k := 0) rfl (by decide) (by decide) rfl (fun lsr hl => ?_)
  refine lv_goto (tgt := 668) hx hb dX12_init_694 (by decide) ?_
  refine lv_iload_n hx hb dX12_init_668 rfl (lv_at hl 0 rfl) ?_
  refine lv_iconst (v := Int32.ofInt 4) hx hb dX12_init_669 (by decide) ?_
  refine lv_icmp_ge (tgt := 697) hx hb dX12_init_670 (by decide) (fun _ => ?_) (fun hc => absurd (by decide) hc)
  refine lv_iconst (v := Int32.ofInt ((0 : Nat) : Int)) hx hb dX12_init_697 (by decide) ?_
  refine lv_istore_n (lv' := [(1, .int (Int32.ofInt ((0 : Nat) : Int))), (0, .ref h0)]) hx hb dX12_init_698 rfl hl (by decide) rfl (fun lsr hl => ?_)
  exact loop2 _ 0 lsr H1 locs1 rfl (by decide) hl (by rw [show ((0 : Nat) : Int) = 0 from rfl, zfl_0]; exact w)
