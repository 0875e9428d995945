theorem dX8_init_0 : decode cX8_init 0 = .ok (.aload_n 0, 1) := by decide +kernel
theorem dX8_init_1 : decode cX8_init 1 = .ok (.invokespecial 1, 3) := by decide +kernel
theorem dX8_init_4 : decode cX8_init 4 = .ok (.aload_n 0, 1) := by decide +kernel
theorem dX8_init_5 : decode cX8_init 5 = .ok (.sipush 4000, 3) := by decide +kernel
theorem dX8_init_8 : decode cX8_init 8 = .ok (.newarray .byte, 2) := by decide +kernel
theorem dX8_init_10 : decode cX8_init 10 = .ok (.putfield 7, 3) := by decide +kernel
theorem dX8_init_13 : decode cX8_init 13 = .ok (.aload_n 0, 1) := by decide +kernel
theorem dX8_init_14 : decode cX8_init 14 = .ok (.bipush 14, 2) := by decide +kernel
theorem dX8_init_16 : decode cX8_init 16 = .ok (.newarray .long, 2) := by decide +kernel
theorem dX8_init_18 : decode cX8_init 18 = .ok (.dup, 1) := by decide +kernel
theorem dX8_init_19 : decode cX8_init 19 = .ok (.iconst 0, 1) := by decide +kernel
theorem dX8_init_20 : decode cX8_init 20 = .ok (.ldc2_w 13, 3) := by decide +kernel
theorem dX8_init_23 : decode cX8_init 23 = .ok (.lastore, 1) := by decide +kernel
theorem dX8_init_24 : decode cX8_init 24 = .ok (.dup, 1) := by decide +kernel
theorem dX8_init_25 : decode cX8_init 25 = .ok (.iconst 1, 1) := by decide +kernel
theorem dX8_init_26 : decode cX8_init 26 = .ok (.ldc2_w 15, 3) := by decide +kernel
theorem dX8_init_29 : decode cX8_init 29 = .ok (.lastore, 1) := by decide +kernel
theorem dX8_init_30 : decode cX8_init 30 = .ok (.dup, 1) := by decide +kernel
theorem dX8_init_31 : decode cX8_init 31 = .ok (.iconst 2, 1) := by decide +kernel
theorem dX8_init_32 : decode cX8_init 32 = .ok (.ldc2_w 17, 3) := by decide +kernel
theorem dX8_init_35 : decode cX8_init 35 = .ok (.lastore, 1) := by decide +kernel
theorem dX8_init_36 : decode cX8_init 36 = .ok (.dup, 1) := by decide +kernel
theorem dX8_init_37 : decode cX8_init 37 = .ok (.iconst 3, 1) := by decide +kernel
theorem dX8_init_38 : decode cX8_init 38 = .ok (.ldc2_w 19, 3) := by decide +kernel
theorem dX8_init_41 : decode cX8_init 41 = .ok (.lastore, 1) := by decide +kernel
theorem dX8_init_42 : decode cX8_init 42 = .ok (.dup, 1) := by decide +kernel
theorem dX8_init_43 : decode cX8_init 43 = .ok (.iconst 4, 1) := by decide +kernel
theorem dX8_init_44 : decode cX8_init 44 = .ok (.ldc2_w 21, 3) := by decide +kernel
theorem dX8_init_47 : decode cX8_init 47 = .ok (.lastore, 1) := by decide +kernel
theorem dX8_init_48 : decode cX8_init 48 = .ok (.dup, 1) := by decide +kernel
theorem dX8_init_49 : decode cX8_init 49 = .ok (.iconst 5, 1) := by decide +kernel
theorem dX8_init_50 : decode cX8_init 50 = .ok (.ldc2_w 23, 3) := by decide +kernel
theorem dX8_init_53 : decode cX8_init 53 = .ok (.lastore, 1) := by decide +kernel
theorem dX8_init_54 : decode cX8_init 54 = .ok (.dup, 1) := by decide +kernel
theorem dX8_init_55 : decode cX8_init 55 = .ok (.bipush 6, 2) := by decide +kernel
theorem dX8_init_57 : decode cX8_init 57 = .ok (.ldc2_w 25, 3) := by decide +kernel
theorem dX8_init_60 : decode cX8_init 60 = .ok (.lastore, 1) := by decide +kernel
theorem dX8_init_61 : decode cX8_init 61 = .ok (.dup, 1) := by decide +kernel
theorem dX8_init_62 : decode cX8_init 62 = .ok (.bipush 7, 2) := by decide +kernel
theorem dX8_init_64 : decode cX8_init 64 = .ok (.ldc2_w 27, 3) := by decide +kernel
theorem dX8_init_67 : decode cX8_init 67 = .ok (.lastore, 1) := by decide +kernel
theorem dX8_init_68 : decode cX8_init 68 = .ok (.dup, 1) := by decide +kernel
theorem dX8_init_69 : decode cX8_init 69 = .ok (.bipush 8, 2) := by decide +kernel
theorem dX8_init_71 : decode cX8_init 71 = .ok (.ldc2_w 29, 3) := by decide +kernel
theorem dX8_init_74 : decode cX8_init 74 = .ok (.lastore, 1) := by decide +kernel
theorem dX8_init_75 : decode cX8_init 75 = .ok (.dup, 1) := by decide +kernel
theorem dX8_init_76 : decode cX8_init 76 = .ok (.bipush 9, 2) := by decide +kernel
theorem dX8_init_78 : decode cX8_init 78 = .ok (.ldc2_w 31, 3) := by decide +kernel
theorem dX8_init_81 : decode cX8_init 81 = .ok (.lastore, 1) := by decide +kernel
theorem dX8_init_82 : decode cX8_init 82 = .ok (.dup, 1) := by decide +kernel
theorem dX8_init_83 : decode cX8_init 83 = .ok (.bipush 10, 2) := by decide +kernel
theorem dX8_init_85 : decode cX8_init 85 = .ok (.ldc2_w 33, 3) := by decide +kernel
theorem dX8_init_88 : decode cX8_init 88 = .ok (.lastore, 1) := by decide +kernel
theorem dX8_init_89 : decode cX8_init 89 = .ok (.dup, 1) := by decide +kernel
theorem dX8_init_90 : decode cX8_init 90 = .ok (.bipush 11, 2) := by decide +kernel
theorem dX8_init_92 : decode cX8_init 92 = .ok (.ldc2_w 35, 3) := by decide +kernel
theorem dX8_init_95 : decode cX8_init 95 = .ok (.lastore, 1) := by decide +kernel
theorem dX8_init_96 : decode cX8_init 96 = .ok (.dup, 1) := by decide +kernel
theorem dX8_init_97 : decode cX8_init 97 = .ok (.bipush 12, 2) := by decide +kernel
theorem dX8_init_99 : decode cX8_init 99 = .ok (.ldc2_w 37, 3) := by decide +kernel
theorem dX8_init_102 : decode cX8_init 102 = .ok (.lastore, 1) := by decide +kernel
theorem dX8_init_103 : decode cX8_init 103 = .ok (.dup, 1) := by decide +kernel
theorem dX8_init_104 : decode cX8_init 104 = .ok (.bipush 13, 2) := by decide +kernel
theorem dX8_init_106 : decode cX8_init 106 = .ok (.ldc2_w 39, 3) := by decide +kernel
theorem dX8_init_109 : decode cX8_init 109 = .ok (.lastore, 1) := by decide +kernel
theorem dX8_init_110 : decode cX8_init 110 = .ok (.putfield 41, 3) := by decide +kernel
theorem dX8_init_113 : decode cX8_init 113 = .ok (.aload_n 0, 1) := by decide +kernel
theorem dX8_init_114 : decode cX8_init 114 = .ok (.iconst 2, 1) := by decide +kernel
theorem dX8_init_115 : decode cX8_init 115 = .ok (.newarray .int, 2) := by decide +kernel
theorem dX8_init_117 : decode cX8_init 117 = .ok (.putfield 45, 3) := by decide +kernel
theorem dX8_init_120 : decode cX8_init 120 = .ok (.aload_n 0, 1) := by decide +kernel
theorem dX8_init_121 : decode cX8_init 121 = .ok (.iconst 2, 1) := by decide +kernel
theorem dX8_init_122 : decode cX8_init 122 = .ok (.newarray .int, 2) := by decide +kernel
theorem dX8_init_124 : decode cX8_init 124 = .ok (.putfield 49, 3) := by decide +kernel
theorem dX8_init_127 : decode cX8_init 127 = .ok (.aload_n 0, 1) := by decide +kernel
theorem dX8_init_128 : decode cX8_init 128 = .ok (.iconst 2, 1) := by decide +kernel
theorem dX8_init_129 : decode cX8_init 129 = .ok (.newarray .int, 2) := by decide +kernel
theorem dX8_init_131 : decode cX8_init 131 = .ok (.putfield 52, 3) := by decide +kernel
theorem dX8_init_134 : decode cX8_init 134 = .ok (.aload_n 0, 1) := by decide +kernel
theorem dX8_init_135 : decode cX8_init 135 = .ok (.iconst 2, 1) := by decide +kernel
theorem dX8_init_136 : decode cX8_init 136 = .ok (.newarray .int, 2) := by decide +kernel
theorem dX8_init_138 : decode cX8_init 138 = .ok (.putfield 55, 3) := by decide +kernel
theorem dX8_init_141 : decode cX8_init 141 = .ok (.aload_n 0, 1) := by decide +kernel
theorem dX8_init_142 : decode cX8_init 142 = .ok (.sipush 1402, 3) := by decide +kernel
theorem dX8_init_145 : decode cX8_init 145 = .ok (.newarray .long, 2) := by decide +kernel
theorem dX8_init_147 : decode cX8_init 147 = .ok (.putfield 58, 3) := by decide +kernel
theorem dX8_init_150 : decode cX8_init 150 = .ok (.aload_n 0, 1) := by decide +kernel
theorem dX8_init_151 : decode cX8_init 151 = .ok (.bipush 48, 2) := by decide +kernel
theorem dX8_init_153 : decode cX8_init 153 = .ok (.newarray .long, 2) := by decide +kernel
theorem dX8_init_155 : decode cX8_init 155 = .ok (.putfield 61, 3) := by decide +kernel
theorem dX8_init_158 : decode cX8_init 158 = .ok (.aload_n 0, 1) := by decide +kernel
theorem dX8_init_159 : decode cX8_init 159 = .ok (.bipush 48, 2) := by decide +kernel
theorem dX8_init_161 : decode cX8_init 161 = .ok (.newarray .int, 2) := by decide +kernel
theorem dX8_init_163 : decode cX8_init 163 = .ok (.putfield 64, 3) := by decide +kernel
theorem dX8_init_166 : decode cX8_init 166 = .ok (.aload_n 0, 1) := by decide +kernel
theorem dX8_init_167 : decode cX8_init 167 = .ok (.bipush 48, 2) := by decide +kernel
theorem dX8_init_169 : decode cX8_init 169 = .ok (.newarray .int, 2) := by decide +kernel
theorem dX8_init_171 : decode cX8_init 171 = .ok (.putfield 67, 3) := by decide +kernel
theorem dX8_init_174 : decode cX8_init 174 = .ok (.aload_n 0, 1) := by decide +kernel
theorem dX8_init_175 : decode cX8_init 175 = .ok (.bipush 48, 2) := by decide +kernel
theorem dX8_init_177 : decode cX8_init 177 = .ok (.newarray .int, 2) := by decide +kernel
theorem dX8_init_179 : decode cX8_init 179 = .ok (.putfield 70, 3) := by decide +kernel
theorem dX8_init_182 : decode cX8_init 182 = .ok (.aload_n 0, 1) := by decide +kernel
theorem dX8_init_183 : decode cX8_init 183 = .ok (.bipush 48, 2) := by decide +kernel
theorem dX8_init_185 : decode cX8_init 185 = .ok (.newarray .int, 2) := by decide +kernel
theorem dX8_init_187 : decode cX8_init 187 = .ok (.putfield 73, 3) := by decide +kernel
theorem dX8_init_190 : decode cX8_init 190 = .ok (.aload_n 0, 1) := by decide +kernel
theorem dX8_init_191 : decode cX8_init 191 = .ok (.bipush 48, 2) := by decide +kernel
theorem dX8_init_193 : decode cX8_init 193 = .ok (.newarray .int, 2) := by decide +kernel
theorem dX8_init_195 : decode cX8_init 195 = .ok (.putfield 76, 3) := by decide +kernel
theorem dX8_init_198 : decode cX8_init 198 = .ok (.aload_n 0, 1) := by decide +kernel
theorem dX8_init_199 : decode cX8_init 199 = .ok (.bipush 96, 2) := by decide +kernel
theorem dX8_init_201 : decode cX8_init 201 = .ok (.newarray .long, 2) := by decide +kernel
theorem dX8_init_203 : decode cX8_init 203 = .ok (.putfield 79, 3) := by decide +kernel
theorem dX8_init_206 : decode cX8_init 206 = .ok (.aload_n 0, 1) := by decide +kernel
theorem dX8_init_207 : decode cX8_init 207 = .ok (.bipush 96, 2) := by decide +kernel
theorem dX8_init_209 : decode cX8_init 209 = .ok (.newarray .int, 2) := by decide +kernel
theorem dX8_init_211 : decode cX8_init 211 = .ok (.putfield 82, 3) := by decide +kernel
theorem dX8_init_214 : decode cX8_init 214 = .ok (.aload_n 0, 1) := by decide +kernel
theorem dX8_init_215 : decode cX8_init 215 = .ok (.bipush 48, 2) := by decide +kernel
theorem dX8_init_217 : decode cX8_init 217 = .ok (.newarray .int, 2) := by decide +kernel
theorem dX8_init_219 : decode cX8_init 219 = .ok (.putfield 85, 3) := by decide +kernel
theorem dX8_init_222 : decode cX8_init 222 = .ok (.aload_n 0, 1) := by decide +kernel
theorem dX8_init_223 : decode cX8_init 223 = .ok (.sipush 240, 3) := by decide +kernel
theorem dX8_init_226 : decode cX8_init 226 = .ok (.newarray .int, 2) := by decide +kernel
theorem dX8_init_228 : decode cX8_init 228 = .ok (.putfield 88, 3) := by decide +kernel
theorem dX8_init_231 : decode cX8_init 231 = .ok (.aload_n 0, 1) := by decide +kernel
theorem dX8_init_232 : decode cX8_init 232 = .ok (.sipush 480, 3) := by decide +kernel
theorem dX8_init_235 : decode cX8_init 235 = .ok (.newarray .int, 2) := by decide +kernel
theorem dX8_init_237 : decode cX8_init 237 = .ok (.putfield 91, 3) := by decide +kernel
theorem dX8_init_240 : decode cX8_init 240 = .ok (.aload_n 0, 1) := by decide +kernel
theorem dX8_init_241 : decode cX8_init 241 = .ok (.bipush 48, 2) := by decide +kernel
theorem dX8_init_243 : decode cX8_init 243 = .ok (.newarray .int, 2) := by decide +kernel
theorem dX8_init_245 : decode cX8_init 245 = .ok (.putfield 94, 3) := by decide +kernel
theorem dX8_init_248 : decode cX8_init 248 = .ok (.aload_n 0, 1) := by decide +kernel
theorem dX8_init_249 : decode cX8_init 249 = .ok (.bipush 48, 2) := by decide +kernel
theorem dX8_init_251 : decode cX8_init 251 = .ok (.newarray .int, 2) := by decide +kernel
theorem dX8_init_253 : decode cX8_init 253 = .ok (.putfield 97, 3) := by decide +kernel
theorem dX8_init_256 : decode cX8_init 256 = .ok (.aload_n 0, 1) := by decide +kernel
theorem dX8_init_257 : decode cX8_init 257 = .ok (.sipush 1152, 3) := by decide +kernel
theorem dX8_init_260 : decode cX8_init 260 = .ok (.newarray .int, 2) := by decide +kernel
theorem dX8_init_262 : decode cX8_init 262 = .ok (.putfield 100, 3) := by decide +kernel
theorem dX8_init_265 : decode cX8_init 265 = .ok (.aload_n 0, 1) := by decide +kernel
theorem dX8_init_266 : decode cX8_init 266 = .ok (.sipush 1152, 3) := by decide +kernel
theorem dX8_init_269 : decode cX8_init 269 = .ok (.newarray .boolean, 2) := by decide +kernel
theorem dX8_init_271 : decode cX8_init 271 = .ok (.putfield 103, 3) := by decide +kernel
theorem dX8_init_274 : decode cX8_init 274 = .ok (.aload_n 0, 1) := by decide +kernel
theorem dX8_init_275 : decode cX8_init 275 = .ok (.sipush 2304, 3) := by decide +kernel
theorem dX8_init_278 : decode cX8_init 278 = .ok (.newarray .int, 2) := by decide +kernel
theorem dX8_init_280 : decode cX8_init 280 = .ok (.putfield 107, 3) := by decide +kernel
theorem dX8_init_283 : decode cX8_init 283 = .ok (.aload_n 0, 1) := by decide +kernel
theorem dX8_init_284 : decode cX8_init 284 = .ok (.bipush 48, 2) := by decide +kernel
theorem dX8_init_286 : decode cX8_init 286 = .ok (.newarray .int, 2) := by decide +kernel
theorem dX8_init_288 : decode cX8_init 288 = .ok (.putfield 110, 3) := by decide +kernel
theorem dX8_init_291 : decode cX8_init 291 = .ok (.aload_n 0, 1) := by decide +kernel
theorem dX8_init_292 : decode cX8_init 292 = .ok (.bipush 48, 2) := by decide +kernel
theorem dX8_init_294 : decode cX8_init 294 = .ok (.newarray .int, 2) := by decide +kernel
theorem dX8_init_296 : decode cX8_init 296 = .ok (.putfield 113, 3) := by decide +kernel
theorem dX8_init_299 : decode cX8_init 299 = .ok (.aload_n 0, 1) := by decide +kernel
theorem dX8_init_300 : decode cX8_init 300 = .ok (.bipush 48, 2) := by decide +kernel
theorem dX8_init_302 : decode cX8_init 302 = .ok (.newarray .int, 2) := by decide +kernel
theorem dX8_init_304 : decode cX8_init 304 = .ok (.putfield 116, 3) := by decide +kernel
theorem dX8_init_307 : decode cX8_init 307 = .ok (.aload_n 0, 1) := by decide +kernel
theorem dX8_init_308 : decode cX8_init 308 = .ok (.bipush 48, 2) := by decide +kernel
theorem dX8_init_310 : decode cX8_init 310 = .ok (.newarray .int, 2) := by decide +kernel
theorem dX8_init_312 : decode cX8_init 312 = .ok (.putfield 119, 3) := by decide +kernel
theorem dX8_init_315 : decode cX8_init 315 = .ok (.aload_n 0, 1) := by decide +kernel
theorem dX8_init_316 : decode cX8_init 316 = .ok (.sipush 240, 3) := by decide +kernel
theorem dX8_init_319 : decode cX8_init 319 = .ok (.newarray .int, 2) := by decide +kernel
theorem dX8_init_321 : decode cX8_init 321 = .ok (.putfield 122, 3) := by decide +kernel
theorem dX8_init_324 : decode cX8_init 324 = .ok (.aload_n 0, 1) := by decide +kernel
theorem dX8_init_325 : decode cX8_init 325 = .ok (.sipush 240, 3) := by decide +kernel
theorem dX8_init_328 : decode cX8_init 328 = .ok (.newarray .long, 2) := by decide +kernel
theorem dX8_init_330 : decode cX8_init 330 = .ok (.putfield 125, 3) := by decide +kernel
theorem dX8_init_333 : decode cX8_init 333 = .ok (.aload_n 0, 1) := by decide +kernel
theorem dX8_init_334 : decode cX8_init 334 = .ok (.sipush 240, 3) := by decide +kernel
theorem dX8_init_337 : decode cX8_init 337 = .ok (.newarray .int, 2) := by decide +kernel
theorem dX8_init_339 : decode cX8_init 339 = .ok (.putfield 128, 3) := by decide +kernel
theorem dX8_init_342 : decode cX8_init 342 = .ok (.aload_n 0, 1) := by decide +kernel
theorem dX8_init_343 : decode cX8_init 343 = .ok (.sipush 240, 3) := by decide +kernel
theorem dX8_init_346 : decode cX8_init 346 = .ok (.newarray .int, 2) := by decide +kernel
theorem dX8_init_348 : decode cX8_init 348 = .ok (.putfield 131, 3) := by decide +kernel
theorem dX8_init_351 : decode cX8_init 351 = .ok (.aload_n 0, 1) := by decide +kernel
theorem dX8_init_352 : decode cX8_init 352 = .ok (.sipush 240, 3) := by decide +kernel
theorem dX8_init_355 : decode cX8_init 355 = .ok (.newarray .int, 2) := by decide +kernel
theorem dX8_init_357 : decode cX8_init 357 = .ok (.putfield 134, 3) := by decide +kernel
theorem dX8_init_360 : decode cX8_init 360 = .ok (.aload_n 0, 1) := by decide +kernel
theorem dX8_init_361 : decode cX8_init 361 = .ok (.sipush 720, 3) := by decide +kernel
theorem dX8_init_364 : decode cX8_init 364 = .ok (.newarray .int, 2) := by decide +kernel
theorem dX8_init_366 : decode cX8_init 366 = .ok (.putfield 137, 3) := by decide +kernel
theorem dX8_init_369 : decode cX8_init 369 = .ok (.aload_n 0, 1) := by decide +kernel
theorem dX8_init_370 : decode cX8_init 370 = .ok (.sipush 28800, 3) := by decide +kernel
theorem dX8_init_373 : decode cX8_init 373 = .ok (.newarray .boolean, 2) := by decide +kernel
theorem dX8_init_375 : decode cX8_init 375 = .ok (.putfield 140, 3) := by decide +kernel
theorem dX8_init_378 : decode cX8_init 378 = .ok (.aload_n 0, 1) := by decide +kernel
theorem dX8_init_379 : decode cX8_init 379 = .ok (.sipush 14400, 3) := by decide +kernel
theorem dX8_init_382 : decode cX8_init 382 = .ok (.newarray .int, 2) := by decide +kernel
theorem dX8_init_384 : decode cX8_init 384 = .ok (.putfield 143, 3) := by decide +kernel
theorem dX8_init_387 : decode cX8_init 387 = .ok (.aload_n 0, 1) := by decide +kernel
theorem dX8_init_388 : decode cX8_init 388 = .ok (.sipush 14400, 3) := by decide +kernel
theorem dX8_init_391 : decode cX8_init 391 = .ok (.newarray .int, 2) := by decide +kernel
theorem dX8_init_393 : decode cX8_init 393 = .ok (.putfield 146, 3) := by decide +kernel
theorem dX8_init_396 : decode cX8_init 396 = .ok (.aload_n 0, 1) := by decide +kernel
theorem dX8_init_397 : decode cX8_init 397 = .ok (.bipush 24, 2) := by decide +kernel
theorem dX8_init_399 : decode cX8_init 399 = .ok (.newarray .int, 2) := by decide +kernel
theorem dX8_init_401 : decode cX8_init 401 = .ok (.putfield 149, 3) := by decide +kernel
theorem dX8_init_404 : decode cX8_init 404 = .ok (.aload_n 0, 1) := by decide +kernel
theorem dX8_init_405 : decode cX8_init 405 = .ok (.bipush 24, 2) := by decide +kernel
theorem dX8_init_407 : decode cX8_init 407 = .ok (.newarray .int, 2) := by decide +kernel
theorem dX8_init_409 : decode cX8_init 409 = .ok (.putfield 152, 3) := by decide +kernel
theorem dX8_init_412 : decode cX8_init 412 = .ok (.aload_n 0, 1) := by decide +kernel
theorem dX8_init_413 : decode cX8_init 413 = .ok (.bipush 24, 2) := by decide +kernel
theorem dX8_init_415 : decode cX8_init 415 = .ok (.newarray .int, 2) := by decide +kernel
theorem dX8_init_417 : decode cX8_init 417 = .ok (.putfield 155, 3) := by decide +kernel
theorem dX8_init_420 : decode cX8_init 420 = .ok (.aload_n 0, 1) := by decide +kernel
theorem dX8_init_421 : decode cX8_init 421 = .ok (.sipush 576, 3) := by decide +kernel
theorem dX8_init_424 : decode cX8_init 424 = .ok (.newarray .boolean, 2) := by decide +kernel
theorem dX8_init_426 : decode cX8_init 426 = .ok (.putfield 158, 3) := by decide +kernel
theorem dX8_init_429 : decode cX8_init 429 = .ok (.return_, 1) := by decide +kernel
theorem dX8_in_0 : decode cX8_in 0 = .ok (.iload_n 0, 1) := by decide +kernel
theorem dX8_in_1 : decode cX8_in 1 = .ok (.iload_n 1, 1) := by decide +kernel
theorem dX8_in_2 : decode cX8_in 2 = .ok (.if_icmp .lt 12, 3) := by decide +kernel
theorem dX8_in_5 : decode cX8_in 5 = .ok (.iload_n 0, 1) := by decide +kernel
theorem dX8_in_6 : decode cX8_in 6 = .ok (.iload_n 2, 1) := by decide +kernel
theorem dX8_in_7 : decode cX8_in 7 = .ok (.if_icmp .gt 7, 3) := by decide +kernel
theorem dX8_in_10 : decode cX8_in 10 = .ok (.iconst 1, 1) := by decide +kernel
theorem dX8_in_11 : decode cX8_in 11 = .ok (.goto 4, 3) := by decide +kernel
theorem dX8_in_14 : decode cX8_in 14 = .ok (.iconst 0, 1) := by decide +kernel
theorem dX8_in_15 : decode cX8_in 15 = .ok (.ireturn, 1) := by decide +kernel
theorem dX8_feed_0 : decode cX8_feed 0 = .ok (.aload_n 0, 1) := by decide +kernel
theorem dX8_feed_1 : decode cX8_feed 1 = .ok (.getfield 161, 3) := by decide +kernel
theorem dX8_feed_4 : decode cX8_feed 4 = .ok (.bipush 20, 2) := by decide +kernel
theorem dX8_feed_6 : decode cX8_feed 6 = .ok (.iadd, 1) := by decide +kernel
theorem dX8_feed_7 : decode cX8_feed 7 = .ok (.sipush 4000, 3) := by decide +kernel
theorem dX8_feed_10 : decode cX8_feed 10 = .ok (.if_icmp .le 6, 3) := by decide +kernel
theorem dX8_feed_13 : decode cX8_feed 13 = .ok (.bipush (-14), 2) := by decide +kernel
theorem dX8_feed_15 : decode cX8_feed 15 = .ok (.ireturn, 1) := by decide +kernel
theorem dX8_feed_16 : decode cX8_feed 16 = .ok (.bipush 24, 2) := by decide +kernel
theorem dX8_feed_18 : decode cX8_feed 18 = .ok (.istore 6, 2) := by decide +kernel
theorem dX8_feed_20 : decode cX8_feed 20 = .ok (.iload 6, 2) := by decide +kernel
theorem dX8_feed_22 : decode cX8_feed 22 = .ok (.ifCond .lt 96, 3) := by decide +kernel
theorem dX8_feed_25 : decode cX8_feed 25 = .ok (.aload_n 0, 1) := by decide +kernel
theorem dX8_feed_26 : decode cX8_feed 26 = .ok (.getfield 161, 3) := by decide +kernel
theorem dX8_feed_29 : decode cX8_feed 29 = .ok (.iconst 3, 1) := by decide +kernel
theorem dX8_feed_30 : decode cX8_feed 30 = .ok (.iadd, 1) := by decide +kernel
theorem dX8_feed_31 : decode cX8_feed 31 = .ok (.iload 6, 2) := by decide +kernel
theorem dX8_feed_33 : decode cX8_feed 33 = .ok (.bipush 8, 2) := by decide +kernel
theorem dX8_feed_35 : decode cX8_feed 35 = .ok (.idiv, 1) := by decide +kernel
theorem dX8_feed_36 : decode cX8_feed 36 = .ok (.isub, 1) := by decide +kernel
theorem dX8_feed_37 : decode cX8_feed 37 = .ok (.istore 7, 2) := by decide +kernel
theorem dX8_feed_39 : decode cX8_feed 39 = .ok (.aload_n 0, 1) := by decide +kernel
theorem dX8_feed_40 : decode cX8_feed 40 = .ok (.getfield 7, 3) := by decide +kernel
theorem dX8_feed_43 : decode cX8_feed 43 = .ok (.iload 7, 2) := by decide +kernel
theorem dX8_feed_45 : decode cX8_feed 45 = .ok (.iload_n 1, 1) := by decide +kernel
theorem dX8_feed_46 : decode cX8_feed 46 = .ok (.iload 6, 2) := by decide +kernel
theorem dX8_feed_48 : decode cX8_feed 48 = .ok (.ishr, 1) := by decide +kernel
theorem dX8_feed_49 : decode cX8_feed 49 = .ok (.i2b, 1) := by decide +kernel
theorem dX8_feed_50 : decode cX8_feed 50 = .ok (.bastore, 1) := by decide +kernel
theorem dX8_feed_51 : decode cX8_feed 51 = .ok (.aload_n 0, 1) := by decide +kernel
theorem dX8_feed_52 : decode cX8_feed 52 = .ok (.getfield 7, 3) := by decide +kernel
theorem dX8_feed_55 : decode cX8_feed 55 = .ok (.iload 7, 2) := by decide +kernel
theorem dX8_feed_57 : decode cX8_feed 57 = .ok (.iconst 4, 1) := by decide +kernel
theorem dX8_feed_58 : decode cX8_feed 58 = .ok (.iadd, 1) := by decide +kernel
theorem dX8_feed_59 : decode cX8_feed 59 = .ok (.iload_n 2, 1) := by decide +kernel
theorem dX8_feed_60 : decode cX8_feed 60 = .ok (.iload 6, 2) := by decide +kernel
theorem dX8_feed_62 : decode cX8_feed 62 = .ok (.ishr, 1) := by decide +kernel
theorem dX8_feed_63 : decode cX8_feed 63 = .ok (.i2b, 1) := by decide +kernel
theorem dX8_feed_64 : decode cX8_feed 64 = .ok (.bastore, 1) := by decide +kernel
theorem dX8_feed_65 : decode cX8_feed 65 = .ok (.aload_n 0, 1) := by decide +kernel
theorem dX8_feed_66 : decode cX8_feed 66 = .ok (.getfield 7, 3) := by decide +kernel
theorem dX8_feed_69 : decode cX8_feed 69 = .ok (.iload 7, 2) := by decide +kernel
theorem dX8_feed_71 : decode cX8_feed 71 = .ok (.bipush 8, 2) := by decide +kernel
theorem dX8_feed_73 : decode cX8_feed 73 = .ok (.iadd, 1) := by decide +kernel
theorem dX8_feed_74 : decode cX8_feed 74 = .ok (.iload_n 3, 1) := by decide +kernel
theorem dX8_feed_75 : decode cX8_feed 75 = .ok (.iload 6, 2) := by decide +kernel
theorem dX8_feed_77 : decode cX8_feed 77 = .ok (.ishr, 1) := by decide +kernel
theorem dX8_feed_78 : decode cX8_feed 78 = .ok (.i2b, 1) := by decide +kernel
theorem dX8_feed_79 : decode cX8_feed 79 = .ok (.bastore, 1) := by decide +kernel
theorem dX8_feed_80 : decode cX8_feed 80 = .ok (.aload_n 0, 1) := by decide +kernel
theorem dX8_feed_81 : decode cX8_feed 81 = .ok (.getfield 7, 3) := by decide +kernel
theorem dX8_feed_84 : decode cX8_feed 84 = .ok (.iload 7, 2) := by decide +kernel
theorem dX8_feed_86 : decode cX8_feed 86 = .ok (.bipush 12, 2) := by decide +kernel
theorem dX8_feed_88 : decode cX8_feed 88 = .ok (.iadd, 1) := by decide +kernel
theorem dX8_feed_89 : decode cX8_feed 89 = .ok (.iload 4, 2) := by decide +kernel
theorem dX8_feed_91 : decode cX8_feed 91 = .ok (.iload 6, 2) := by decide +kernel
theorem dX8_feed_93 : decode cX8_feed 93 = .ok (.ishr, 1) := by decide +kernel
theorem dX8_feed_94 : decode cX8_feed 94 = .ok (.i2b, 1) := by decide +kernel
theorem dX8_feed_95 : decode cX8_feed 95 = .ok (.bastore, 1) := by decide +kernel
theorem dX8_feed_96 : decode cX8_feed 96 = .ok (.aload_n 0, 1) := by decide +kernel
theorem dX8_feed_97 : decode cX8_feed 97 = .ok (.getfield 7, 3) := by decide +kernel
theorem dX8_feed_100 : decode cX8_feed 100 = .ok (.iload 7, 2) := by decide +kernel
theorem dX8_feed_102 : decode cX8_feed 102 = .ok (.bipush 16, 2) := by decide +kernel
theorem dX8_feed_104 : decode cX8_feed 104 = .ok (.iadd, 1) := by decide +kernel
theorem dX8_feed_105 : decode cX8_feed 105 = .ok (.iload 5, 2) := by decide +kernel
theorem dX8_feed_107 : decode cX8_feed 107 = .ok (.iload 6, 2) := by decide +kernel
theorem dX8_feed_109 : decode cX8_feed 109 = .ok (.ishr, 1) := by decide +kernel
theorem dX8_feed_110 : decode cX8_feed 110 = .ok (.i2b, 1) := by decide +kernel
theorem dX8_feed_111 : decode cX8_feed 111 = .ok (.bastore, 1) := by decide +kernel
theorem dX8_feed_112 : decode cX8_feed 112 = .ok (.iinc 6 (-8), 3) := by decide +kernel
theorem dX8_feed_115 : decode cX8_feed 115 = .ok (.goto (-95), 3) := by decide +kernel
theorem dX8_feed_118 : decode cX8_feed 118 = .ok (.aload_n 0, 1) := by decide +kernel
theorem dX8_feed_119 : decode cX8_feed 119 = .ok (.dup, 1) := by decide +kernel
theorem dX8_feed_120 : decode cX8_feed 120 = .ok (.getfield 161, 3) := by decide +kernel
theorem dX8_feed_123 : decode cX8_feed 123 = .ok (.bipush 20, 2) := by decide +kernel
theorem dX8_feed_125 : decode cX8_feed 125 = .ok (.iadd, 1) := by decide +kernel
theorem dX8_feed_126 : decode cX8_feed 126 = .ok (.putfield 161, 3) := by decide +kernel
theorem dX8_feed_129 : decode cX8_feed 129 = .ok (.aload_n 0, 1) := by decide +kernel
theorem dX8_feed_130 : decode cX8_feed 130 = .ok (.getfield 161, 3) := by decide +kernel
theorem dX8_feed_133 : decode cX8_feed 133 = .ok (.ireturn, 1) := by decide +kernel
theorem dX8_trim_0 : decode cX8_trim 0 = .ok (.iload_n 1, 1) := by decide +kernel
theorem dX8_trim_1 : decode cX8_trim 1 = .ok (.iconst 0, 1) := by decide +kernel
theorem dX8_trim_2 : decode cX8_trim 2 = .ok (.aload_n 0, 1) := by decide +kernel
theorem dX8_trim_3 : decode cX8_trim 3 = .ok (.getfield 161, 3) := by decide +kernel
theorem dX8_trim_6 : decode cX8_trim 6 = .ok (.invokestatic 165, 3) := by decide +kernel
theorem dX8_trim_9 : decode cX8_trim 9 = .ok (.ifCond .ne 6, 3) := by decide +kernel
theorem dX8_trim_12 : decode cX8_trim 12 = .ok (.bipush (-12), 2) := by decide +kernel
theorem dX8_trim_14 : decode cX8_trim 14 = .ok (.ireturn, 1) := by decide +kernel
theorem dX8_trim_15 : decode cX8_trim 15 = .ok (.aload_n 0, 1) := by decide +kernel
theorem dX8_trim_16 : decode cX8_trim 16 = .ok (.iload_n 1, 1) := by decide +kernel
theorem dX8_trim_17 : decode cX8_trim 17 = .ok (.putfield 161, 3) := by decide +kernel
theorem dX8_trim_20 : decode cX8_trim 20 = .ok (.iload_n 1, 1) := by decide +kernel
theorem dX8_trim_21 : decode cX8_trim 21 = .ok (.ireturn, 1) := by decide +kernel
theorem dX8_isLetter_0 : decode cX8_isLetter 0 = .ok (.iload_n 1, 1) := by decide +kernel
theorem dX8_isLetter_1 : decode cX8_isLetter 1 = .ok (.aload_n 0, 1) := by decide +kernel
theorem dX8_isLetter_2 : decode cX8_isLetter 2 = .ok (.getfield 161, 3) := by decide +kernel
theorem dX8_isLetter_5 : decode cX8_isLetter 5 = .ok (.if_icmp .ge 51, 3) := by decide +kernel
theorem dX8_isLetter_8 : decode cX8_isLetter 8 = .ok (.aload_n 0, 1) := by decide +kernel
theorem dX8_isLetter_9 : decode cX8_isLetter 9 = .ok (.getfield 7, 3) := by decide +kernel
theorem dX8_isLetter_12 : decode cX8_isLetter 12 = .ok (.iload_n 1, 1) := by decide +kernel
theorem dX8_isLetter_13 : decode cX8_isLetter 13 = .ok (.baload, 1) := by decide +kernel
theorem dX8_isLetter_14 : decode cX8_isLetter 14 = .ok (.bipush 97, 2) := by decide +kernel
theorem dX8_isLetter_16 : decode cX8_isLetter 16 = .ok (.if_icmp .lt 14, 3) := by decide +kernel
theorem dX8_isLetter_19 : decode cX8_isLetter 19 = .ok (.aload_n 0, 1) := by decide +kernel
theorem dX8_isLetter_20 : decode cX8_isLetter 20 = .ok (.getfield 7, 3) := by decide +kernel
theorem dX8_isLetter_23 : decode cX8_isLetter 23 = .ok (.iload_n 1, 1) := by decide +kernel
theorem dX8_isLetter_24 : decode cX8_isLetter 24 = .ok (.baload, 1) := by decide +kernel
theorem dX8_isLetter_25 : decode cX8_isLetter 25 = .ok (.bipush 122, 2) := by decide +kernel
theorem dX8_isLetter_27 : decode cX8_isLetter 27 = .ok (.if_icmp .le 25, 3) := by decide +kernel
theorem dX8_isLetter_30 : decode cX8_isLetter 30 = .ok (.aload_n 0, 1) := by decide +kernel
theorem dX8_isLetter_31 : decode cX8_isLetter 31 = .ok (.getfield 7, 3) := by decide +kernel
theorem dX8_isLetter_34 : decode cX8_isLetter 34 = .ok (.iload_n 1, 1) := by decide +kernel
theorem dX8_isLetter_35 : decode cX8_isLetter 35 = .ok (.baload, 1) := by decide +kernel
theorem dX8_isLetter_36 : decode cX8_isLetter 36 = .ok (.bipush 65, 2) := by decide +kernel
theorem dX8_isLetter_38 : decode cX8_isLetter 38 = .ok (.if_icmp .lt 18, 3) := by decide +kernel
theorem dX8_isLetter_41 : decode cX8_isLetter 41 = .ok (.aload_n 0, 1) := by decide +kernel
theorem dX8_isLetter_42 : decode cX8_isLetter 42 = .ok (.getfield 7, 3) := by decide +kernel
theorem dX8_isLetter_45 : decode cX8_isLetter 45 = .ok (.iload_n 1, 1) := by decide +kernel
theorem dX8_isLetter_46 : decode cX8_isLetter 46 = .ok (.baload, 1) := by decide +kernel
theorem dX8_isLetter_47 : decode cX8_isLetter 47 = .ok (.bipush 90, 2) := by decide +kernel
theorem dX8_isLetter_49 : decode cX8_isLetter 49 = .ok (.if_icmp .gt 7, 3) := by decide +kernel
theorem dX8_isLetter_52 : decode cX8_isLetter 52 = .ok (.iconst 1, 1) := by decide +kernel
theorem dX8_isLetter_53 : decode cX8_isLetter 53 = .ok (.goto 4, 3) := by decide +kernel
theorem dX8_isLetter_56 : decode cX8_isLetter 56 = .ok (.iconst 0, 1) := by decide +kernel
theorem dX8_isLetter_57 : decode cX8_isLetter 57 = .ok (.ireturn, 1) := by decide +kernel
theorem dX8_isFigure_0 : decode cX8_isFigure 0 = .ok (.iload_n 1, 1) := by decide +kernel
theorem dX8_isFigure_1 : decode cX8_isFigure 1 = .ok (.aload_n 0, 1) := by decide +kernel
theorem dX8_isFigure_2 : decode cX8_isFigure 2 = .ok (.getfield 161, 3) := by decide +kernel
theorem dX8_isFigure_5 : decode cX8_isFigure 5 = .ok (.if_icmp .ge 29, 3) := by decide +kernel
theorem dX8_isFigure_8 : decode cX8_isFigure 8 = .ok (.aload_n 0, 1) := by decide +kernel
theorem dX8_isFigure_9 : decode cX8_isFigure 9 = .ok (.getfield 7, 3) := by decide +kernel
theorem dX8_isFigure_12 : decode cX8_isFigure 12 = .ok (.iload_n 1, 1) := by decide +kernel
theorem dX8_isFigure_13 : decode cX8_isFigure 13 = .ok (.baload, 1) := by decide +kernel
theorem dX8_isFigure_14 : decode cX8_isFigure 14 = .ok (.bipush 48, 2) := by decide +kernel
theorem dX8_isFigure_16 : decode cX8_isFigure 16 = .ok (.if_icmp .lt 18, 3) := by decide +kernel
theorem dX8_isFigure_19 : decode cX8_isFigure 19 = .ok (.aload_n 0, 1) := by decide +kernel
theorem dX8_isFigure_20 : decode cX8_isFigure 20 = .ok (.getfield 7, 3) := by decide +kernel
theorem dX8_isFigure_23 : decode cX8_isFigure 23 = .ok (.iload_n 1, 1) := by decide +kernel
theorem dX8_isFigure_24 : decode cX8_isFigure 24 = .ok (.baload, 1) := by decide +kernel
theorem dX8_isFigure_25 : decode cX8_isFigure 25 = .ok (.bipush 57, 2) := by decide +kernel
theorem dX8_isFigure_27 : decode cX8_isFigure 27 = .ok (.if_icmp .gt 7, 3) := by decide +kernel
theorem dX8_isFigure_30 : decode cX8_isFigure 30 = .ok (.iconst 1, 1) := by decide +kernel
theorem dX8_isFigure_31 : decode cX8_isFigure 31 = .ok (.goto 4, 3) := by decide +kernel
theorem dX8_isFigure_34 : decode cX8_isFigure 34 = .ok (.iconst 0, 1) := by decide +kernel
theorem dX8_isFigure_35 : decode cX8_isFigure 35 = .ok (.ireturn, 1) := by decide +kernel
theorem dX8_next_0 : decode cX8_next 0 = .ok (.aload_n 0, 1) := by decide +kernel
theorem dX8_next_1 : decode cX8_next 1 = .ok (.getfield 169, 3) := by decide +kernel
theorem dX8_next_4 : decode cX8_next 4 = .ok (.aload_n 0, 1) := by decide +kernel
theorem dX8_next_5 : decode cX8_next 5 = .ok (.getfield 161, 3) := by decide +kernel
theorem dX8_next_8 : decode cX8_next 8 = .ok (.if_icmp .ge 44, 3) := by decide +kernel
theorem dX8_next_11 : decode cX8_next 11 = .ok (.aload_n 0, 1) := by decide +kernel
theorem dX8_next_12 : decode cX8_next 12 = .ok (.getfield 7, 3) := by decide +kernel
theorem dX8_next_15 : decode cX8_next 15 = .ok (.aload_n 0, 1) := by decide +kernel
theorem dX8_next_16 : decode cX8_next 16 = .ok (.getfield 169, 3) := by decide +kernel
theorem dX8_next_19 : decode cX8_next 19 = .ok (.baload, 1) := by decide +kernel
theorem dX8_next_20 : decode cX8_next 20 = .ok (.bipush 32, 2) := by decide +kernel
theorem dX8_next_22 : decode cX8_next 22 = .ok (.if_icmp .eq 17, 3) := by decide +kernel
theorem dX8_next_25 : decode cX8_next 25 = .ok (.aload_n 0, 1) := by decide +kernel
theorem dX8_next_26 : decode cX8_next 26 = .ok (.getfield 7, 3) := by decide +kernel
theorem dX8_next_29 : decode cX8_next 29 = .ok (.aload_n 0, 1) := by decide +kernel
theorem dX8_next_30 : decode cX8_next 30 = .ok (.getfield 169, 3) := by decide +kernel
theorem dX8_next_33 : decode cX8_next 33 = .ok (.baload, 1) := by decide +kernel
theorem dX8_next_34 : decode cX8_next 34 = .ok (.bipush 10, 2) := by decide +kernel
theorem dX8_next_36 : decode cX8_next 36 = .ok (.if_icmp .ne 16, 3) := by decide +kernel
theorem dX8_next_39 : decode cX8_next 39 = .ok (.aload_n 0, 1) := by decide +kernel
theorem dX8_next_40 : decode cX8_next 40 = .ok (.dup, 1) := by decide +kernel
theorem dX8_next_41 : decode cX8_next 41 = .ok (.getfield 169, 3) := by decide +kernel
theorem dX8_next_44 : decode cX8_next 44 = .ok (.iconst 1, 1) := by decide +kernel
theorem dX8_next_45 : decode cX8_next 45 = .ok (.iadd, 1) := by decide +kernel
theorem dX8_next_46 : decode cX8_next 46 = .ok (.putfield 169, 3) := by decide +kernel
theorem dX8_next_49 : decode cX8_next 49 = .ok (.goto (-49), 3) := by decide +kernel
theorem dX8_next_52 : decode cX8_next 52 = .ok (.aload_n 0, 1) := by decide +kernel
theorem dX8_next_53 : decode cX8_next 53 = .ok (.aload_n 0, 1) := by decide +kernel
theorem dX8_next_54 : decode cX8_next 54 = .ok (.getfield 169, 3) := by decide +kernel
theorem dX8_next_57 : decode cX8_next 57 = .ok (.putfield 172, 3) := by decide +kernel
theorem dX8_next_60 : decode cX8_next 60 = .ok (.aload_n 0, 1) := by decide +kernel
theorem dX8_next_61 : decode cX8_next 61 = .ok (.getfield 169, 3) := by decide +kernel
theorem dX8_next_64 : decode cX8_next 64 = .ok (.aload_n 0, 1) := by decide +kernel
theorem dX8_next_65 : decode cX8_next 65 = .ok (.getfield 161, 3) := by decide +kernel
theorem dX8_next_68 : decode cX8_next 68 = .ok (.if_icmp .ne 9, 3) := by decide +kernel
theorem dX8_next_71 : decode cX8_next 71 = .ok (.aload_n 0, 1) := by decide +kernel
theorem dX8_next_72 : decode cX8_next 72 = .ok (.iconst 0, 1) := by decide +kernel
theorem dX8_next_73 : decode cX8_next 73 = .ok (.putfield 175, 3) := by decide +kernel
theorem dX8_next_76 : decode cX8_next 76 = .ok (.return_, 1) := by decide +kernel
theorem dX8_next_77 : decode cX8_next 77 = .ok (.aload_n 0, 1) := by decide +kernel
theorem dX8_next_78 : decode cX8_next 78 = .ok (.getfield 7, 3) := by decide +kernel
theorem dX8_next_81 : decode cX8_next 81 = .ok (.aload_n 0, 1) := by decide +kernel
theorem dX8_next_82 : decode cX8_next 82 = .ok (.getfield 169, 3) := by decide +kernel
theorem dX8_next_85 : decode cX8_next 85 = .ok (.baload, 1) := by decide +kernel
theorem dX8_next_86 : decode cX8_next 86 = .ok (.istore_n 1, 1) := by decide +kernel
theorem dX8_next_87 : decode cX8_next 87 = .ok (.aload_n 0, 1) := by decide +kernel
theorem dX8_next_88 : decode cX8_next 88 = .ok (.aload_n 0, 1) := by decide +kernel
theorem dX8_next_89 : decode cX8_next 89 = .ok (.getfield 169, 3) := by decide +kernel
theorem dX8_next_92 : decode cX8_next 92 = .ok (.invokevirtual 178, 3) := by decide +kernel
theorem dX8_next_95 : decode cX8_next 95 = .ok (.ifCond .eq 139, 3) := by decide +kernel
theorem dX8_next_98 : decode cX8_next 98 = .ok (.aload_n 0, 1) := by decide +kernel
theorem dX8_next_99 : decode cX8_next 99 = .ok (.lconst 0, 1) := by decide +kernel
theorem dX8_next_100 : decode cX8_next 100 = .ok (.putfield 182, 3) := by decide +kernel
theorem dX8_next_103 : decode cX8_next 103 = .ok (.iconst 0, 1) := by decide +kernel
theorem dX8_next_104 : decode cX8_next 104 = .ok (.istore_n 2, 1) := by decide +kernel
theorem dX8_next_105 : decode cX8_next 105 = .ok (.aload_n 0, 1) := by decide +kernel
theorem dX8_next_106 : decode cX8_next 106 = .ok (.aload_n 0, 1) := by decide +kernel
theorem dX8_next_107 : decode cX8_next 107 = .ok (.getfield 169, 3) := by decide +kernel
theorem dX8_next_110 : decode cX8_next 110 = .ok (.invokevirtual 178, 3) := by decide +kernel
theorem dX8_next_113 : decode cX8_next 113 = .ok (.ifCond .ne 14, 3) := by decide +kernel
theorem dX8_next_116 : decode cX8_next 116 = .ok (.aload_n 0, 1) := by decide +kernel
theorem dX8_next_117 : decode cX8_next 117 = .ok (.aload_n 0, 1) := by decide +kernel
theorem dX8_next_118 : decode cX8_next 118 = .ok (.getfield 169, 3) := by decide +kernel
theorem dX8_next_121 : decode cX8_next 121 = .ok (.invokevirtual 186, 3) := by decide +kernel
theorem dX8_next_124 : decode cX8_next 124 = .ok (.ifCond .eq 41, 3) := by decide +kernel
theorem dX8_next_127 : decode cX8_next 127 = .ok (.aload_n 0, 1) := by decide +kernel
theorem dX8_next_128 : decode cX8_next 128 = .ok (.aload_n 0, 1) := by decide +kernel
theorem dX8_next_129 : decode cX8_next 129 = .ok (.getfield 182, 3) := by decide +kernel
theorem dX8_next_132 : decode cX8_next 132 = .ok (.bipush 8, 2) := by decide +kernel
theorem dX8_next_134 : decode cX8_next 134 = .ok (.lshl, 1) := by decide +kernel
theorem dX8_next_135 : decode cX8_next 135 = .ok (.aload_n 0, 1) := by decide +kernel
theorem dX8_next_136 : decode cX8_next 136 = .ok (.getfield 7, 3) := by decide +kernel
theorem dX8_next_139 : decode cX8_next 139 = .ok (.aload_n 0, 1) := by decide +kernel
theorem dX8_next_140 : decode cX8_next 140 = .ok (.getfield 169, 3) := by decide +kernel
theorem dX8_next_143 : decode cX8_next 143 = .ok (.baload, 1) := by decide +kernel
theorem dX8_next_144 : decode cX8_next 144 = .ok (.i2l, 1) := by decide +kernel
theorem dX8_next_145 : decode cX8_next 145 = .ok (.lor, 1) := by decide +kernel
theorem dX8_next_146 : decode cX8_next 146 = .ok (.putfield 182, 3) := by decide +kernel
theorem dX8_next_149 : decode cX8_next 149 = .ok (.aload_n 0, 1) := by decide +kernel
theorem dX8_next_150 : decode cX8_next 150 = .ok (.dup, 1) := by decide +kernel
theorem dX8_next_151 : decode cX8_next 151 = .ok (.getfield 169, 3) := by decide +kernel
theorem dX8_next_154 : decode cX8_next 154 = .ok (.iconst 1, 1) := by decide +kernel
theorem dX8_next_155 : decode cX8_next 155 = .ok (.iadd, 1) := by decide +kernel
theorem dX8_next_156 : decode cX8_next 156 = .ok (.putfield 169, 3) := by decide +kernel
theorem dX8_next_159 : decode cX8_next 159 = .ok (.iinc 2 1, 3) := by decide +kernel
theorem dX8_next_162 : decode cX8_next 162 = .ok (.goto (-57), 3) := by decide +kernel
theorem dX8_next_165 : decode cX8_next 165 = .ok (.aload_n 0, 1) := by decide +kernel
theorem dX8_next_166 : decode cX8_next 166 = .ok (.iload_n 2, 1) := by decide +kernel
theorem dX8_next_167 : decode cX8_next 167 = .ok (.bipush 8, 2) := by decide +kernel
theorem dX8_next_169 : decode cX8_next 169 = .ok (.if_icmp .le 7, 3) := by decide +kernel
theorem dX8_next_172 : decode cX8_next 172 = .ok (.iconst 1, 1) := by decide +kernel
theorem dX8_next_173 : decode cX8_next 173 = .ok (.goto 4, 3) := by decide +kernel
theorem dX8_next_176 : decode cX8_next 176 = .ok (.iconst 2, 1) := by decide +kernel
theorem dX8_next_177 : decode cX8_next 177 = .ok (.putfield 175, 3) := by decide +kernel
theorem dX8_next_180 : decode cX8_next 180 = .ok (.iconst 0, 1) := by decide +kernel
theorem dX8_next_181 : decode cX8_next 181 = .ok (.istore_n 3, 1) := by decide +kernel
theorem dX8_next_182 : decode cX8_next 182 = .ok (.iload_n 3, 1) := by decide +kernel
theorem dX8_next_183 : decode cX8_next 183 = .ok (.bipush 14, 2) := by decide +kernel
theorem dX8_next_185 : decode cX8_next 185 = .ok (.if_icmp .ge 46, 3) := by decide +kernel
theorem dX8_next_188 : decode cX8_next 188 = .ok (.aload_n 0, 1) := by decide +kernel
theorem dX8_next_189 : decode cX8_next 189 = .ok (.getfield 175, 3) := by decide +kernel
theorem dX8_next_192 : decode cX8_next 192 = .ok (.iconst 2, 1) := by decide +kernel
theorem dX8_next_193 : decode cX8_next 193 = .ok (.if_icmp .ne 38, 3) := by decide +kernel
theorem dX8_next_196 : decode cX8_next 196 = .ok (.aload_n 0, 1) := by decide +kernel
theorem dX8_next_197 : decode cX8_next 197 = .ok (.aload_n 0, 1) := by decide +kernel
theorem dX8_next_198 : decode cX8_next 198 = .ok (.getfield 41, 3) := by decide +kernel
theorem dX8_next_201 : decode cX8_next 201 = .ok (.iload_n 3, 1) := by decide +kernel
theorem dX8_next_202 : decode cX8_next 202 = .ok (.laload, 1) := by decide +kernel
theorem dX8_next_203 : decode cX8_next 203 = .ok (.aload_n 0, 1) := by decide +kernel
theorem dX8_next_204 : decode cX8_next 204 = .ok (.getfield 182, 3) := by decide +kernel
theorem dX8_next_207 : decode cX8_next 207 = .ok (.lcmp, 1) := by decide +kernel
theorem dX8_next_208 : decode cX8_next 208 = .ok (.ifCond .ne 10, 3) := by decide +kernel
theorem dX8_next_211 : decode cX8_next 211 = .ok (.bipush 10, 2) := by decide +kernel
theorem dX8_next_213 : decode cX8_next 213 = .ok (.iload_n 3, 1) := by decide +kernel
theorem dX8_next_214 : decode cX8_next 214 = .ok (.iadd, 1) := by decide +kernel
theorem dX8_next_215 : decode cX8_next 215 = .ok (.goto 7, 3) := by decide +kernel
theorem dX8_next_218 : decode cX8_next 218 = .ok (.aload_n 0, 1) := by decide +kernel
theorem dX8_next_219 : decode cX8_next 219 = .ok (.getfield 175, 3) := by decide +kernel
theorem dX8_next_222 : decode cX8_next 222 = .ok (.putfield 175, 3) := by decide +kernel
theorem dX8_next_225 : decode cX8_next 225 = .ok (.iinc 3 1, 3) := by decide +kernel
theorem dX8_next_228 : decode cX8_next 228 = .ok (.goto (-46), 3) := by decide +kernel
theorem dX8_next_231 : decode cX8_next 231 = .ok (.goto 124, 3) := by decide +kernel
theorem dX8_next_234 : decode cX8_next 234 = .ok (.aload_n 0, 1) := by decide +kernel
theorem dX8_next_235 : decode cX8_next 235 = .ok (.aload_n 0, 1) := by decide +kernel
theorem dX8_next_236 : decode cX8_next 236 = .ok (.getfield 169, 3) := by decide +kernel
theorem dX8_next_239 : decode cX8_next 239 = .ok (.invokevirtual 186, 3) := by decide +kernel
theorem dX8_next_242 : decode cX8_next 242 = .ok (.ifCond .eq 30, 3) := by decide +kernel
theorem dX8_next_245 : decode cX8_next 245 = .ok (.aload_n 0, 1) := by decide +kernel
theorem dX8_next_246 : decode cX8_next 246 = .ok (.iload_n 1, 1) := by decide +kernel
theorem dX8_next_247 : decode cX8_next 247 = .ok (.bipush 48, 2) := by decide +kernel
theorem dX8_next_249 : decode cX8_next 249 = .ok (.isub, 1) := by decide +kernel
theorem dX8_next_250 : decode cX8_next 250 = .ok (.i2l, 1) := by decide +kernel
theorem dX8_next_251 : decode cX8_next 251 = .ok (.putfield 182, 3) := by decide +kernel
theorem dX8_next_254 : decode cX8_next 254 = .ok (.aload_n 0, 1) := by decide +kernel
theorem dX8_next_255 : decode cX8_next 255 = .ok (.iconst 3, 1) := by decide +kernel
theorem dX8_next_256 : decode cX8_next 256 = .ok (.putfield 175, 3) := by decide +kernel
theorem dX8_next_259 : decode cX8_next 259 = .ok (.aload_n 0, 1) := by decide +kernel
theorem dX8_next_260 : decode cX8_next 260 = .ok (.dup, 1) := by decide +kernel
theorem dX8_next_261 : decode cX8_next 261 = .ok (.getfield 169, 3) := by decide +kernel
theorem dX8_next_264 : decode cX8_next 264 = .ok (.iconst 1, 1) := by decide +kernel
theorem dX8_next_265 : decode cX8_next 265 = .ok (.iadd, 1) := by decide +kernel
theorem dX8_next_266 : decode cX8_next 266 = .ok (.putfield 169, 3) := by decide +kernel
theorem dX8_next_269 : decode cX8_next 269 = .ok (.goto 86, 3) := by decide +kernel
theorem dX8_next_272 : decode cX8_next 272 = .ok (.iload_n 1, 1) := by decide +kernel
theorem dX8_next_273 : decode cX8_next 273 = .ok (.bipush 59, 2) := by decide +kernel
theorem dX8_next_275 : decode cX8_next 275 = .ok (.if_icmp .eq 51, 3) := by decide +kernel
theorem dX8_next_278 : decode cX8_next 278 = .ok (.iload_n 1, 1) := by decide +kernel
theorem dX8_next_279 : decode cX8_next 279 = .ok (.bipush 44, 2) := by decide +kernel
theorem dX8_next_281 : decode cX8_next 281 = .ok (.if_icmp .eq 45, 3) := by decide +kernel
theorem dX8_next_284 : decode cX8_next 284 = .ok (.iload_n 1, 1) := by decide +kernel
theorem dX8_next_285 : decode cX8_next 285 = .ok (.bipush 58, 2) := by decide +kernel
theorem dX8_next_287 : decode cX8_next 287 = .ok (.if_icmp .eq 39, 3) := by decide +kernel
theorem dX8_next_290 : decode cX8_next 290 = .ok (.iload_n 1, 1) := by decide +kernel
theorem dX8_next_291 : decode cX8_next 291 = .ok (.bipush 123, 2) := by decide +kernel
theorem dX8_next_293 : decode cX8_next 293 = .ok (.if_icmp .eq 33, 3) := by decide +kernel
theorem dX8_next_296 : decode cX8_next 296 = .ok (.iload_n 1, 1) := by decide +kernel
theorem dX8_next_297 : decode cX8_next 297 = .ok (.bipush 125, 2) := by decide +kernel
theorem dX8_next_299 : decode cX8_next 299 = .ok (.if_icmp .eq 27, 3) := by decide +kernel
theorem dX8_next_302 : decode cX8_next 302 = .ok (.iload_n 1, 1) := by decide +kernel
theorem dX8_next_303 : decode cX8_next 303 = .ok (.bipush 40, 2) := by decide +kernel
theorem dX8_next_305 : decode cX8_next 305 = .ok (.if_icmp .eq 21, 3) := by decide +kernel
theorem dX8_next_308 : decode cX8_next 308 = .ok (.iload_n 1, 1) := by decide +kernel
theorem dX8_next_309 : decode cX8_next 309 = .ok (.bipush 41, 2) := by decide +kernel
theorem dX8_next_311 : decode cX8_next 311 = .ok (.if_icmp .eq 15, 3) := by decide +kernel
theorem dX8_next_314 : decode cX8_next 314 = .ok (.iload_n 1, 1) := by decide +kernel
theorem dX8_next_315 : decode cX8_next 315 = .ok (.bipush 60, 2) := by decide +kernel
theorem dX8_next_317 : decode cX8_next 317 = .ok (.if_icmp .eq 9, 3) := by decide +kernel
theorem dX8_next_320 : decode cX8_next 320 = .ok (.iload_n 1, 1) := by decide +kernel
theorem dX8_next_321 : decode cX8_next 321 = .ok (.bipush 62, 2) := by decide +kernel
theorem dX8_next_323 : decode cX8_next 323 = .ok (.if_icmp .ne 7, 3) := by decide +kernel
theorem dX8_next_326 : decode cX8_next 326 = .ok (.iconst 1, 1) := by decide +kernel
theorem dX8_next_327 : decode cX8_next 327 = .ok (.goto 4, 3) := by decide +kernel
theorem dX8_next_330 : decode cX8_next 330 = .ok (.iconst 0, 1) := by decide +kernel
theorem dX8_next_331 : decode cX8_next 331 = .ok (.istore_n 2, 1) := by decide +kernel
theorem dX8_next_332 : decode cX8_next 332 = .ok (.aload_n 0, 1) := by decide +kernel
theorem dX8_next_333 : decode cX8_next 333 = .ok (.iload_n 2, 1) := by decide +kernel
theorem dX8_next_334 : decode cX8_next 334 = .ok (.ifCond .eq 7, 3) := by decide +kernel
theorem dX8_next_337 : decode cX8_next 337 = .ok (.iload_n 1, 1) := by decide +kernel
theorem dX8_next_338 : decode cX8_next 338 = .ok (.goto 4, 3) := by decide +kernel
theorem dX8_next_341 : decode cX8_next 341 = .ok (.iconst 1, 1) := by decide +kernel
theorem dX8_next_342 : decode cX8_next 342 = .ok (.putfield 175, 3) := by decide +kernel
theorem dX8_next_345 : decode cX8_next 345 = .ok (.aload_n 0, 1) := by decide +kernel
theorem dX8_next_346 : decode cX8_next 346 = .ok (.dup, 1) := by decide +kernel
theorem dX8_next_347 : decode cX8_next 347 = .ok (.getfield 169, 3) := by decide +kernel
theorem dX8_next_350 : decode cX8_next 350 = .ok (.iconst 1, 1) := by decide +kernel
theorem dX8_next_351 : decode cX8_next 351 = .ok (.iadd, 1) := by decide +kernel
theorem dX8_next_352 : decode cX8_next 352 = .ok (.putfield 169, 3) := by decide +kernel
theorem dX8_next_355 : decode cX8_next 355 = .ok (.return_, 1) := by decide +kernel
theorem dX8_goesOn_0 : decode cX8_goesOn 0 = .ok (.aload_n 0, 1) := by decide +kernel
theorem dX8_goesOn_1 : decode cX8_goesOn 1 = .ok (.getfield 189, 3) := by decide +kernel
theorem dX8_goesOn_4 : decode cX8_goesOn 4 = .ok (.ifCond .ne 7, 3) := by decide +kernel
theorem dX8_goesOn_7 : decode cX8_goesOn 7 = .ok (.iconst 1, 1) := by decide +kernel
theorem dX8_goesOn_8 : decode cX8_goesOn 8 = .ok (.goto 4, 3) := by decide +kernel
theorem dX8_goesOn_11 : decode cX8_goesOn 11 = .ok (.iconst 0, 1) := by decide +kernel
theorem dX8_goesOn_12 : decode cX8_goesOn 12 = .ok (.ireturn, 1) := by decide +kernel
theorem dX8_fails_0 : decode cX8_fails 0 = .ok (.aload_n 0, 1) := by decide +kernel
theorem dX8_fails_1 : decode cX8_fails 1 = .ok (.getfield 189, 3) := by decide +kernel
theorem dX8_fails_4 : decode cX8_fails 4 = .ok (.ifCond .ne 13, 3) := by decide +kernel
theorem dX8_fails_7 : decode cX8_fails 7 = .ok (.aload_n 0, 1) := by decide +kernel
theorem dX8_fails_8 : decode cX8_fails 8 = .ok (.iload_n 1, 1) := by decide +kernel
theorem dX8_fails_9 : decode cX8_fails 9 = .ok (.putfield 189, 3) := by decide +kernel
theorem dX8_fails_12 : decode cX8_fails 12 = .ok (.aload_n 0, 1) := by decide +kernel
theorem dX8_fails_13 : decode cX8_fails 13 = .ok (.iload_n 2, 1) := by decide +kernel
theorem dX8_fails_14 : decode cX8_fails 14 = .ok (.putfield 192, 3) := by decide +kernel
theorem dX8_fails_17 : decode cX8_fails 17 = .ok (.return_, 1) := by decide +kernel
theorem dX8_odd_0 : decode cX8_odd 0 = .ok (.aload_n 0, 1) := by decide +kernel
theorem dX8_odd_1 : decode cX8_odd 1 = .ok (.aload_n 0, 1) := by decide +kernel
theorem dX8_odd_2 : decode cX8_odd 2 = .ok (.getfield 175, 3) := by decide +kernel
theorem dX8_odd_5 : decode cX8_odd 5 = .ok (.iconst 1, 1) := by decide +kernel
theorem dX8_odd_6 : decode cX8_odd 6 = .ok (.if_icmp .ne 7, 3) := by decide +kernel
theorem dX8_odd_9 : decode cX8_odd 9 = .ok (.iconst 1, 1) := by decide +kernel
theorem dX8_odd_10 : decode cX8_odd 10 = .ok (.goto 4, 3) := by decide +kernel
theorem dX8_odd_13 : decode cX8_odd 13 = .ok (.iconst 2, 1) := by decide +kernel
theorem dX8_odd_14 : decode cX8_odd 14 = .ok (.aload_n 0, 1) := by decide +kernel
theorem dX8_odd_15 : decode cX8_odd 15 = .ok (.getfield 172, 3) := by decide +kernel
theorem dX8_odd_18 : decode cX8_odd 18 = .ok (.invokevirtual 195, 3) := by decide +kernel
theorem dX8_odd_21 : decode cX8_odd 21 = .ok (.return_, 1) := by decide +kernel
theorem dX8_is_0 : decode cX8_is 0 = .ok (.aload_n 0, 1) := by decide +kernel
theorem dX8_is_1 : decode cX8_is 1 = .ok (.getfield 189, 3) := by decide +kernel
theorem dX8_is_4 : decode cX8_is 4 = .ok (.ifCond .ne 15, 3) := by decide +kernel
theorem dX8_is_7 : decode cX8_is 7 = .ok (.aload_n 0, 1) := by decide +kernel
theorem dX8_is_8 : decode cX8_is 8 = .ok (.getfield 175, 3) := by decide +kernel
theorem dX8_is_11 : decode cX8_is 11 = .ok (.iload_n 1, 1) := by decide +kernel
theorem dX8_is_12 : decode cX8_is 12 = .ok (.if_icmp .ne 7, 3) := by decide +kernel
theorem dX8_is_15 : decode cX8_is 15 = .ok (.iconst 1, 1) := by decide +kernel
theorem dX8_is_16 : decode cX8_is 16 = .ok (.goto 4, 3) := by decide +kernel
theorem dX8_is_19 : decode cX8_is 19 = .ok (.iconst 0, 1) := by decide +kernel
theorem dX8_is_20 : decode cX8_is 20 = .ok (.ireturn, 1) := by decide +kernel
theorem dX8_take_0 : decode cX8_take 0 = .ok (.aload_n 0, 1) := by decide +kernel
theorem dX8_take_1 : decode cX8_take 1 = .ok (.iload_n 1, 1) := by decide +kernel
theorem dX8_take_2 : decode cX8_take 2 = .ok (.invokevirtual 199, 3) := by decide +kernel
theorem dX8_take_5 : decode cX8_take 5 = .ok (.ifCond .eq 10, 3) := by decide +kernel
theorem dX8_take_8 : decode cX8_take 8 = .ok (.aload_n 0, 1) := by decide +kernel
theorem dX8_take_9 : decode cX8_take 9 = .ok (.invokevirtual 202, 3) := by decide +kernel
theorem dX8_take_12 : decode cX8_take 12 = .ok (.goto 7, 3) := by decide +kernel
theorem dX8_take_15 : decode cX8_take 15 = .ok (.aload_n 0, 1) := by decide +kernel
theorem dX8_take_16 : decode cX8_take 16 = .ok (.invokevirtual 205, 3) := by decide +kernel
theorem dX8_take_19 : decode cX8_take 19 = .ok (.return_, 1) := by decide +kernel
theorem dX8_t_0 : decode cX8_t 0 = .ok (.bipush 24, 2) := by decide +kernel
theorem dX8_t_2 : decode cX8_t 2 = .ok (.aload_n 0, 1) := by decide +kernel
theorem dX8_t_3 : decode cX8_t 3 = .ok (.getfield 208, 3) := by decide +kernel
theorem dX8_t_6 : decode cX8_t 6 = .ok (.imul, 1) := by decide +kernel
theorem dX8_t_7 : decode cX8_t 7 = .ok (.iload_n 1, 1) := by decide +kernel
theorem dX8_t_8 : decode cX8_t 8 = .ok (.iadd, 1) := by decide +kernel
theorem dX8_t_9 : decode cX8_t 9 = .ok (.ireturn, 1) := by decide +kernel
theorem dX8_m_0 : decode cX8_m 0 = .ok (.bipush 120, 2) := by decide +kernel
theorem dX8_m_2 : decode cX8_m 2 = .ok (.aload_n 0, 1) := by decide +kernel
theorem dX8_m_3 : decode cX8_m 3 = .ok (.getfield 208, 3) := by decide +kernel
theorem dX8_m_6 : decode cX8_m 6 = .ok (.imul, 1) := by decide +kernel
theorem dX8_m_7 : decode cX8_m 7 = .ok (.iload_n 1, 1) := by decide +kernel
theorem dX8_m_8 : decode cX8_m 8 = .ok (.iadd, 1) := by decide +kernel
theorem dX8_m_9 : decode cX8_m 9 = .ok (.ireturn, 1) := by decide +kernel
theorem dX8_isType_0 : decode cX8_isType 0 = .ok (.aload_n 0, 1) := by decide +kernel
theorem dX8_isType_1 : decode cX8_isType 1 = .ok (.aload_n 0, 1) := by decide +kernel
theorem dX8_isType_2 : decode cX8_isType 2 = .ok (.getfield 211, 3) := by decide +kernel
theorem dX8_isType_5 : decode cX8_isType 5 = .ok (.putfield 208, 3) := by decide +kernel
theorem dX8_isType_8 : decode cX8_isType 8 = .ok (.iload_n 1, 1) := by decide +kernel
theorem dX8_isType_9 : decode cX8_isType 9 = .ok (.iconst 0, 1) := by decide +kernel
theorem dX8_isType_10 : decode cX8_isType 10 = .ok (.aload_n 0, 1) := by decide +kernel
theorem dX8_isType_11 : decode cX8_isType 11 = .ok (.getfield 45, 3) := by decide +kernel
theorem dX8_isType_14 : decode cX8_isType 14 = .ok (.aload_n 0, 1) := by decide +kernel
theorem dX8_isType_15 : decode cX8_isType 15 = .ok (.getfield 208, 3) := by decide +kernel
theorem dX8_isType_18 : decode cX8_isType 18 = .ok (.iaload, 1) := by decide +kernel
theorem dX8_isType_19 : decode cX8_isType 19 = .ok (.iconst 1, 1) := by decide +kernel
theorem dX8_isType_20 : decode cX8_isType 20 = .ok (.isub, 1) := by decide +kernel
theorem dX8_isType_21 : decode cX8_isType 21 = .ok (.invokestatic 165, 3) := by decide +kernel
theorem dX8_isType_24 : decode cX8_isType 24 = .ok (.ireturn, 1) := by decide +kernel
theorem dX8_isMember_0 : decode cX8_isMember 0 = .ok (.aload_n 0, 1) := by decide +kernel
theorem dX8_isMember_1 : decode cX8_isMember 1 = .ok (.aload_n 0, 1) := by decide +kernel
theorem dX8_isMember_2 : decode cX8_isMember 2 = .ok (.getfield 211, 3) := by decide +kernel
theorem dX8_isMember_5 : decode cX8_isMember 5 = .ok (.putfield 208, 3) := by decide +kernel
theorem dX8_isMember_8 : decode cX8_isMember 8 = .ok (.iload_n 1, 1) := by decide +kernel
theorem dX8_isMember_9 : decode cX8_isMember 9 = .ok (.iconst 0, 1) := by decide +kernel
theorem dX8_isMember_10 : decode cX8_isMember 10 = .ok (.aload_n 0, 1) := by decide +kernel
theorem dX8_isMember_11 : decode cX8_isMember 11 = .ok (.getfield 49, 3) := by decide +kernel
theorem dX8_isMember_14 : decode cX8_isMember 14 = .ok (.aload_n 0, 1) := by decide +kernel
theorem dX8_isMember_15 : decode cX8_isMember 15 = .ok (.getfield 208, 3) := by decide +kernel
theorem dX8_isMember_18 : decode cX8_isMember 18 = .ok (.iaload, 1) := by decide +kernel
theorem dX8_isMember_19 : decode cX8_isMember 19 = .ok (.iconst 1, 1) := by decide +kernel
theorem dX8_isMember_20 : decode cX8_isMember 20 = .ok (.isub, 1) := by decide +kernel
theorem dX8_isMember_21 : decode cX8_isMember 21 = .ok (.invokestatic 165, 3) := by decide +kernel
theorem dX8_isMember_24 : decode cX8_isMember 24 = .ok (.ireturn, 1) := by decide +kernel
theorem dX8_isUnder_0 : decode cX8_isUnder 0 = .ok (.iload_n 1, 1) := by decide +kernel
theorem dX8_isUnder_1 : decode cX8_isUnder 1 = .ok (.iload_n 2, 1) := by decide +kernel
theorem dX8_isUnder_2 : decode cX8_isUnder 2 = .ok (.if_icmp .eq 21, 3) := by decide +kernel
theorem dX8_isUnder_5 : decode cX8_isUnder 5 = .ok (.aload_n 0, 1) := by decide +kernel
theorem dX8_isUnder_6 : decode cX8_isUnder 6 = .ok (.getfield 103, 3) := by decide +kernel
theorem dX8_isUnder_9 : decode cX8_isUnder 9 = .ok (.bipush 24, 2) := by decide +kernel
theorem dX8_isUnder_11 : decode cX8_isUnder 11 = .ok (.aload_n 0, 1) := by decide +kernel
theorem dX8_isUnder_12 : decode cX8_isUnder 12 = .ok (.iload_n 1, 1) := by decide +kernel
theorem dX8_isUnder_13 : decode cX8_isUnder 13 = .ok (.invokevirtual 214, 3) := by decide +kernel
theorem dX8_isUnder_16 : decode cX8_isUnder 16 = .ok (.imul, 1) := by decide +kernel
theorem dX8_isUnder_17 : decode cX8_isUnder 17 = .ok (.iload_n 2, 1) := by decide +kernel
theorem dX8_isUnder_18 : decode cX8_isUnder 18 = .ok (.iadd, 1) := by decide +kernel
theorem dX8_isUnder_19 : decode cX8_isUnder 19 = .ok (.baload, 1) := by decide +kernel
theorem dX8_isUnder_20 : decode cX8_isUnder 20 = .ok (.ifCond .eq 7, 3) := by decide +kernel
theorem dX8_isUnder_23 : decode cX8_isUnder 23 = .ok (.iconst 1, 1) := by decide +kernel
theorem dX8_isUnder_24 : decode cX8_isUnder 24 = .ok (.goto 4, 3) := by decide +kernel
theorem dX8_isUnder_27 : decode cX8_isUnder 27 = .ok (.iconst 0, 1) := by decide +kernel
theorem dX8_isUnder_28 : decode cX8_isUnder 28 = .ok (.ireturn, 1) := by decide +kernel
theorem dX8_isSamePackage_0 : decode cX8_isSamePackage 0 = .ok (.aload_n 0, 1) := by decide +kernel
theorem dX8_isSamePackage_1 : decode cX8_isSamePackage 1 = .ok (.getfield 64, 3) := by decide +kernel
theorem dX8_isSamePackage_4 : decode cX8_isSamePackage 4 = .ok (.aload_n 0, 1) := by decide +kernel
theorem dX8_isSamePackage_5 : decode cX8_isSamePackage 5 = .ok (.iload_n 1, 1) := by decide +kernel
theorem dX8_isSamePackage_6 : decode cX8_isSamePackage 6 = .ok (.invokevirtual 214, 3) := by decide +kernel
theorem dX8_isSamePackage_9 : decode cX8_isSamePackage 9 = .ok (.iaload, 1) := by decide +kernel
theorem dX8_isSamePackage_10 : decode cX8_isSamePackage 10 = .ok (.aload_n 0, 1) := by decide +kernel
theorem dX8_isSamePackage_11 : decode cX8_isSamePackage 11 = .ok (.getfield 64, 3) := by decide +kernel
theorem dX8_isSamePackage_14 : decode cX8_isSamePackage 14 = .ok (.aload_n 0, 1) := by decide +kernel
theorem dX8_isSamePackage_15 : decode cX8_isSamePackage 15 = .ok (.iload_n 2, 1) := by decide +kernel
theorem dX8_isSamePackage_16 : decode cX8_isSamePackage 16 = .ok (.invokevirtual 214, 3) := by decide +kernel
theorem dX8_isSamePackage_19 : decode cX8_isSamePackage 19 = .ok (.iaload, 1) := by decide +kernel
theorem dX8_isSamePackage_20 : decode cX8_isSamePackage 20 = .ok (.if_icmp .ne 30, 3) := by decide +kernel
theorem dX8_isSamePackage_23 : decode cX8_isSamePackage 23 = .ok (.aload_n 0, 1) := by decide +kernel
theorem dX8_isSamePackage_24 : decode cX8_isSamePackage 24 = .ok (.getfield 67, 3) := by decide +kernel
theorem dX8_isSamePackage_27 : decode cX8_isSamePackage 27 = .ok (.aload_n 0, 1) := by decide +kernel
theorem dX8_isSamePackage_28 : decode cX8_isSamePackage 28 = .ok (.iload_n 1, 1) := by decide +kernel
theorem dX8_isSamePackage_29 : decode cX8_isSamePackage 29 = .ok (.invokevirtual 214, 3) := by decide +kernel
theorem dX8_isSamePackage_32 : decode cX8_isSamePackage 32 = .ok (.iaload, 1) := by decide +kernel
theorem dX8_isSamePackage_33 : decode cX8_isSamePackage 33 = .ok (.aload_n 0, 1) := by decide +kernel
theorem dX8_isSamePackage_34 : decode cX8_isSamePackage 34 = .ok (.getfield 67, 3) := by decide +kernel
theorem dX8_isSamePackage_37 : decode cX8_isSamePackage 37 = .ok (.aload_n 0, 1) := by decide +kernel
theorem dX8_isSamePackage_38 : decode cX8_isSamePackage 38 = .ok (.iload_n 2, 1) := by decide +kernel
theorem dX8_isSamePackage_39 : decode cX8_isSamePackage 39 = .ok (.invokevirtual 214, 3) := by decide +kernel
theorem dX8_isSamePackage_42 : decode cX8_isSamePackage 42 = .ok (.iaload, 1) := by decide +kernel
theorem dX8_isSamePackage_43 : decode cX8_isSamePackage 43 = .ok (.if_icmp .ne 7, 3) := by decide +kernel
theorem dX8_isSamePackage_46 : decode cX8_isSamePackage 46 = .ok (.iconst 1, 1) := by decide +kernel
theorem dX8_isSamePackage_47 : decode cX8_isSamePackage 47 = .ok (.goto 4, 3) := by decide +kernel
theorem dX8_isSamePackage_50 : decode cX8_isSamePackage 50 = .ok (.iconst 0, 1) := by decide +kernel
theorem dX8_isSamePackage_51 : decode cX8_isSamePackage 51 = .ok (.ireturn, 1) := by decide +kernel
theorem dX8_seenVar_0 : decode cX8_seenVar 0 = .ok (.iload_n 1, 1) := by decide +kernel
theorem dX8_seenVar_1 : decode cX8_seenVar 1 = .ok (.iload_n 2, 1) := by decide +kernel
theorem dX8_seenVar_2 : decode cX8_seenVar 2 = .ok (.if_icmp .ne 10, 3) := by decide +kernel
theorem dX8_seenVar_5 : decode cX8_seenVar 5 = .ok (.bipush 100, 2) := by decide +kernel
theorem dX8_seenVar_7 : decode cX8_seenVar 7 = .ok (.iload_n 3, 1) := by decide +kernel
theorem dX8_seenVar_8 : decode cX8_seenVar 8 = .ok (.iadd, 1) := by decide +kernel
theorem dX8_seenVar_9 : decode cX8_seenVar 9 = .ok (.goto 22, 3) := by decide +kernel
theorem dX8_seenVar_12 : decode cX8_seenVar 12 = .ok (.aload_n 0, 1) := by decide +kernel
theorem dX8_seenVar_13 : decode cX8_seenVar 13 = .ok (.getfield 107, 3) := by decide +kernel
theorem dX8_seenVar_16 : decode cX8_seenVar 16 = .ok (.iconst 2, 1) := by decide +kernel
theorem dX8_seenVar_17 : decode cX8_seenVar 17 = .ok (.bipush 24, 2) := by decide +kernel
theorem dX8_seenVar_19 : decode cX8_seenVar 19 = .ok (.aload_n 0, 1) := by decide +kernel
theorem dX8_seenVar_20 : decode cX8_seenVar 20 = .ok (.iload_n 1, 1) := by decide +kernel
theorem dX8_seenVar_21 : decode cX8_seenVar 21 = .ok (.invokevirtual 214, 3) := by decide +kernel
theorem dX8_seenVar_24 : decode cX8_seenVar 24 = .ok (.imul, 1) := by decide +kernel
theorem dX8_seenVar_25 : decode cX8_seenVar 25 = .ok (.iload_n 2, 1) := by decide +kernel
theorem dX8_seenVar_26 : decode cX8_seenVar 26 = .ok (.iadd, 1) := by decide +kernel
theorem dX8_seenVar_27 : decode cX8_seenVar 27 = .ok (.imul, 1) := by decide +kernel
theorem dX8_seenVar_28 : decode cX8_seenVar 28 = .ok (.iload_n 3, 1) := by decide +kernel
theorem dX8_seenVar_29 : decode cX8_seenVar 29 = .ok (.iadd, 1) := by decide +kernel
theorem dX8_seenVar_30 : decode cX8_seenVar 30 = .ok (.iaload, 1) := by decide +kernel
theorem dX8_seenVar_31 : decode cX8_seenVar 31 = .ok (.ireturn, 1) := by decide +kernel
theorem dX8_kindSeen_0 : decode cX8_kindSeen 0 = .ok (.aload_n 0, 1) := by decide +kernel
theorem dX8_kindSeen_1 : decode cX8_kindSeen 1 = .ok (.getfield 137, 3) := by decide +kernel
theorem dX8_kindSeen_4 : decode cX8_kindSeen 4 = .ok (.iconst 3, 1) := by decide +kernel
theorem dX8_kindSeen_5 : decode cX8_kindSeen 5 = .ok (.aload_n 0, 1) := by decide +kernel
theorem dX8_kindSeen_6 : decode cX8_kindSeen 6 = .ok (.iload_n 2, 1) := by decide +kernel
theorem dX8_kindSeen_7 : decode cX8_kindSeen 7 = .ok (.invokevirtual 218, 3) := by decide +kernel
theorem dX8_kindSeen_10 : decode cX8_kindSeen 10 = .ok (.imul, 1) := by decide +kernel
theorem dX8_kindSeen_11 : decode cX8_kindSeen 11 = .ok (.iload_n 3, 1) := by decide +kernel
theorem dX8_kindSeen_12 : decode cX8_kindSeen 12 = .ok (.iadd, 1) := by decide +kernel
theorem dX8_kindSeen_13 : decode cX8_kindSeen 13 = .ok (.iaload, 1) := by decide +kernel
theorem dX8_kindSeen_14 : decode cX8_kindSeen 14 = .ok (.istore 4, 2) := by decide +kernel
theorem dX8_kindSeen_16 : decode cX8_kindSeen 16 = .ok (.iload 4, 2) := by decide +kernel
theorem dX8_kindSeen_18 : decode cX8_kindSeen 18 = .ok (.bipush 100, 2) := by decide +kernel
theorem dX8_kindSeen_20 : decode cX8_kindSeen 20 = .ok (.if_icmp .lt 26, 3) := by decide +kernel
theorem dX8_kindSeen_23 : decode cX8_kindSeen 23 = .ok (.aload_n 0, 1) := by decide +kernel
theorem dX8_kindSeen_24 : decode cX8_kindSeen 24 = .ok (.iload_n 1, 1) := by decide +kernel
theorem dX8_kindSeen_25 : decode cX8_kindSeen 25 = .ok (.aload_n 0, 1) := by decide +kernel
theorem dX8_kindSeen_26 : decode cX8_kindSeen 26 = .ok (.getfield 122, 3) := by decide +kernel
theorem dX8_kindSeen_29 : decode cX8_kindSeen 29 = .ok (.aload_n 0, 1) := by decide +kernel
theorem dX8_kindSeen_30 : decode cX8_kindSeen 30 = .ok (.iload_n 2, 1) := by decide +kernel
theorem dX8_kindSeen_31 : decode cX8_kindSeen 31 = .ok (.invokevirtual 218, 3) := by decide +kernel
theorem dX8_kindSeen_34 : decode cX8_kindSeen 34 = .ok (.iaload, 1) := by decide +kernel
theorem dX8_kindSeen_35 : decode cX8_kindSeen 35 = .ok (.iload 4, 2) := by decide +kernel
theorem dX8_kindSeen_37 : decode cX8_kindSeen 37 = .ok (.bipush 100, 2) := by decide +kernel
theorem dX8_kindSeen_39 : decode cX8_kindSeen 39 = .ok (.isub, 1) := by decide +kernel
theorem dX8_kindSeen_40 : decode cX8_kindSeen 40 = .ok (.invokevirtual 221, 3) := by decide +kernel
theorem dX8_kindSeen_43 : decode cX8_kindSeen 43 = .ok (.goto 5, 3) := by decide +kernel
theorem dX8_kindSeen_46 : decode cX8_kindSeen 46 = .ok (.iload 4, 2) := by decide +kernel
theorem dX8_kindSeen_48 : decode cX8_kindSeen 48 = .ok (.ireturn, 1) := by decide +kernel
theorem dX8_boundOf_0 : decode cX8_boundOf 0 = .ok (.iload_n 2, 1) := by decide +kernel
theorem dX8_boundOf_1 : decode cX8_boundOf 1 = .ok (.bipush 100, 2) := by decide +kernel
theorem dX8_boundOf_3 : decode cX8_boundOf 3 = .ok (.if_icmp .lt 23, 3) := by decide +kernel
theorem dX8_boundOf_6 : decode cX8_boundOf 6 = .ok (.aload_n 0, 1) := by decide +kernel
theorem dX8_boundOf_7 : decode cX8_boundOf 7 = .ok (.getfield 82, 3) := by decide +kernel
theorem dX8_boundOf_10 : decode cX8_boundOf 10 = .ok (.iconst 2, 1) := by decide +kernel
theorem dX8_boundOf_11 : decode cX8_boundOf 11 = .ok (.aload_n 0, 1) := by decide +kernel
theorem dX8_boundOf_12 : decode cX8_boundOf 12 = .ok (.iload_n 1, 1) := by decide +kernel
theorem dX8_boundOf_13 : decode cX8_boundOf 13 = .ok (.invokevirtual 214, 3) := by decide +kernel
theorem dX8_boundOf_16 : decode cX8_boundOf 16 = .ok (.imul, 1) := by decide +kernel
theorem dX8_boundOf_17 : decode cX8_boundOf 17 = .ok (.iload_n 2, 1) := by decide +kernel
theorem dX8_boundOf_18 : decode cX8_boundOf 18 = .ok (.iadd, 1) := by decide +kernel
theorem dX8_boundOf_19 : decode cX8_boundOf 19 = .ok (.bipush 100, 2) := by decide +kernel
theorem dX8_boundOf_21 : decode cX8_boundOf 21 = .ok (.isub, 1) := by decide +kernel
theorem dX8_boundOf_22 : decode cX8_boundOf 22 = .ok (.iaload, 1) := by decide +kernel
theorem dX8_boundOf_23 : decode cX8_boundOf 23 = .ok (.goto 4, 3) := by decide +kernel
theorem dX8_boundOf_26 : decode cX8_boundOf 26 = .ok (.iload_n 2, 1) := by decide +kernel
theorem dX8_boundOf_27 : decode cX8_boundOf 27 = .ok (.ireturn, 1) := by decide +kernel
theorem dX8_kindErased_0 : decode cX8_kindErased 0 = .ok (.aload_n 0, 1) := by decide +kernel
theorem dX8_kindErased_1 : decode cX8_kindErased 1 = .ok (.aload_n 0, 1) := by decide +kernel
theorem dX8_kindErased_2 : decode cX8_kindErased 2 = .ok (.getfield 122, 3) := by decide +kernel
theorem dX8_kindErased_5 : decode cX8_kindErased 5 = .ok (.aload_n 0, 1) := by decide +kernel
theorem dX8_kindErased_6 : decode cX8_kindErased 6 = .ok (.iload_n 1, 1) := by decide +kernel
theorem dX8_kindErased_7 : decode cX8_kindErased 7 = .ok (.invokevirtual 218, 3) := by decide +kernel
theorem dX8_kindErased_10 : decode cX8_kindErased 10 = .ok (.iaload, 1) := by decide +kernel
theorem dX8_kindErased_11 : decode cX8_kindErased 11 = .ok (.aload_n 0, 1) := by decide +kernel
theorem dX8_kindErased_12 : decode cX8_kindErased 12 = .ok (.getfield 137, 3) := by decide +kernel
theorem dX8_kindErased_15 : decode cX8_kindErased 15 = .ok (.iconst 3, 1) := by decide +kernel
theorem dX8_kindErased_16 : decode cX8_kindErased 16 = .ok (.aload_n 0, 1) := by decide +kernel
theorem dX8_kindErased_17 : decode cX8_kindErased 17 = .ok (.iload_n 1, 1) := by decide +kernel
theorem dX8_kindErased_18 : decode cX8_kindErased 18 = .ok (.invokevirtual 218, 3) := by decide +kernel
theorem dX8_kindErased_21 : decode cX8_kindErased 21 = .ok (.imul, 1) := by decide +kernel
theorem dX8_kindErased_22 : decode cX8_kindErased 22 = .ok (.iload_n 2, 1) := by decide +kernel
theorem dX8_kindErased_23 : decode cX8_kindErased 23 = .ok (.iadd, 1) := by decide +kernel
theorem dX8_kindErased_24 : decode cX8_kindErased 24 = .ok (.iaload, 1) := by decide +kernel
theorem dX8_kindErased_25 : decode cX8_kindErased 25 = .ok (.invokevirtual 225, 3) := by decide +kernel
theorem dX8_kindErased_28 : decode cX8_kindErased 28 = .ok (.ireturn, 1) := by decide +kernel
theorem dX8_isLike_0 : decode cX8_isLike 0 = .ok (.aload_n 0, 1) := by decide +kernel
theorem dX8_isLike_1 : decode cX8_isLike 1 = .ok (.getfield 125, 3) := by decide +kernel
theorem dX8_isLike_4 : decode cX8_isLike 4 = .ok (.aload_n 0, 1) := by decide +kernel
theorem dX8_isLike_5 : decode cX8_isLike 5 = .ok (.iload_n 2, 1) := by decide +kernel
theorem dX8_isLike_6 : decode cX8_isLike 6 = .ok (.invokevirtual 218, 3) := by decide +kernel
theorem dX8_isLike_9 : decode cX8_isLike 9 = .ok (.laload, 1) := by decide +kernel
theorem dX8_isLike_10 : decode cX8_isLike 10 = .ok (.aload_n 0, 1) := by decide +kernel
theorem dX8_isLike_11 : decode cX8_isLike 11 = .ok (.getfield 125, 3) := by decide +kernel
theorem dX8_isLike_14 : decode cX8_isLike 14 = .ok (.aload_n 0, 1) := by decide +kernel
theorem dX8_isLike_15 : decode cX8_isLike 15 = .ok (.iload_n 3, 1) := by decide +kernel
theorem dX8_isLike_16 : decode cX8_isLike 16 = .ok (.invokevirtual 218, 3) := by decide +kernel
theorem dX8_isLike_19 : decode cX8_isLike 19 = .ok (.laload, 1) := by decide +kernel
theorem dX8_isLike_20 : decode cX8_isLike 20 = .ok (.lcmp, 1) := by decide +kernel
theorem dX8_isLike_21 : decode cX8_isLike 21 = .ok (.ifCond .ne 26, 3) := by decide +kernel
theorem dX8_isLike_24 : decode cX8_isLike 24 = .ok (.aload_n 0, 1) := by decide +kernel
theorem dX8_isLike_25 : decode cX8_isLike 25 = .ok (.getfield 134, 3) := by decide +kernel
theorem dX8_isLike_28 : decode cX8_isLike 28 = .ok (.aload_n 0, 1) := by decide +kernel
theorem dX8_isLike_29 : decode cX8_isLike 29 = .ok (.iload_n 2, 1) := by decide +kernel
theorem dX8_isLike_30 : decode cX8_isLike 30 = .ok (.invokevirtual 218, 3) := by decide +kernel
theorem dX8_isLike_33 : decode cX8_isLike 33 = .ok (.iaload, 1) := by decide +kernel
theorem dX8_isLike_34 : decode cX8_isLike 34 = .ok (.aload_n 0, 1) := by decide +kernel
theorem dX8_isLike_35 : decode cX8_isLike 35 = .ok (.getfield 134, 3) := by decide +kernel
theorem dX8_isLike_38 : decode cX8_isLike 38 = .ok (.aload_n 0, 1) := by decide +kernel
theorem dX8_isLike_39 : decode cX8_isLike 39 = .ok (.iload_n 3, 1) := by decide +kernel
theorem dX8_isLike_40 : decode cX8_isLike 40 = .ok (.invokevirtual 218, 3) := by decide +kernel
theorem dX8_isLike_43 : decode cX8_isLike 43 = .ok (.iaload, 1) := by decide +kernel
theorem dX8_isLike_44 : decode cX8_isLike 44 = .ok (.if_icmp .eq 5, 3) := by decide +kernel
theorem dX8_isLike_47 : decode cX8_isLike 47 = .ok (.iconst 0, 1) := by decide +kernel
theorem dX8_isLike_48 : decode cX8_isLike 48 = .ok (.ireturn, 1) := by decide +kernel
theorem dX8_isLike_49 : decode cX8_isLike 49 = .ok (.iconst 1, 1) := by decide +kernel
theorem dX8_isLike_50 : decode cX8_isLike 50 = .ok (.istore 4, 2) := by decide +kernel
theorem dX8_isLike_52 : decode cX8_isLike 52 = .ok (.iconst 0, 1) := by decide +kernel
theorem dX8_isLike_53 : decode cX8_isLike 53 = .ok (.istore 5, 2) := by decide +kernel
theorem dX8_isLike_55 : decode cX8_isLike 55 = .ok (.iload 5, 2) := by decide +kernel
theorem dX8_isLike_57 : decode cX8_isLike 57 = .ok (.aload_n 0, 1) := by decide +kernel
theorem dX8_isLike_58 : decode cX8_isLike 58 = .ok (.getfield 134, 3) := by decide +kernel
theorem dX8_isLike_61 : decode cX8_isLike 61 = .ok (.aload_n 0, 1) := by decide +kernel
theorem dX8_isLike_62 : decode cX8_isLike 62 = .ok (.iload_n 2, 1) := by decide +kernel
theorem dX8_isLike_63 : decode cX8_isLike 63 = .ok (.invokevirtual 218, 3) := by decide +kernel
theorem dX8_isLike_66 : decode cX8_isLike 66 = .ok (.iaload, 1) := by decide +kernel
theorem dX8_isLike_67 : decode cX8_isLike 67 = .ok (.if_icmp .ge 40, 3) := by decide +kernel
theorem dX8_isLike_70 : decode cX8_isLike 70 = .ok (.iload 4, 2) := by decide +kernel
theorem dX8_isLike_72 : decode cX8_isLike 72 = .ok (.ifCond .eq 26, 3) := by decide +kernel
theorem dX8_isLike_75 : decode cX8_isLike 75 = .ok (.aload_n 0, 1) := by decide +kernel
theorem dX8_isLike_76 : decode cX8_isLike 76 = .ok (.iload_n 1, 1) := by decide +kernel
theorem dX8_isLike_77 : decode cX8_isLike 77 = .ok (.iload_n 2, 1) := by decide +kernel
theorem dX8_isLike_78 : decode cX8_isLike 78 = .ok (.iload 5, 2) := by decide +kernel
theorem dX8_isLike_80 : decode cX8_isLike 80 = .ok (.invokevirtual 229, 3) := by decide +kernel
theorem dX8_isLike_83 : decode cX8_isLike 83 = .ok (.aload_n 0, 1) := by decide +kernel
theorem dX8_isLike_84 : decode cX8_isLike 84 = .ok (.iload_n 1, 1) := by decide +kernel
theorem dX8_isLike_85 : decode cX8_isLike 85 = .ok (.iload_n 3, 1) := by decide +kernel
theorem dX8_isLike_86 : decode cX8_isLike 86 = .ok (.iload 5, 2) := by decide +kernel
theorem dX8_isLike_88 : decode cX8_isLike 88 = .ok (.invokevirtual 229, 3) := by decide +kernel
theorem dX8_isLike_91 : decode cX8_isLike 91 = .ok (.if_icmp .ne 7, 3) := by decide +kernel
theorem dX8_isLike_94 : decode cX8_isLike 94 = .ok (.iconst 1, 1) := by decide +kernel
theorem dX8_isLike_95 : decode cX8_isLike 95 = .ok (.goto 4, 3) := by decide +kernel
theorem dX8_isLike_98 : decode cX8_isLike 98 = .ok (.iconst 0, 1) := by decide +kernel
theorem dX8_isLike_99 : decode cX8_isLike 99 = .ok (.istore 4, 2) := by decide +kernel
theorem dX8_isLike_101 : decode cX8_isLike 101 = .ok (.iinc 5 1, 3) := by decide +kernel
theorem dX8_isLike_104 : decode cX8_isLike 104 = .ok (.goto (-49), 3) := by decide +kernel
theorem dX8_isLike_107 : decode cX8_isLike 107 = .ok (.iload 4, 2) := by decide +kernel
theorem dX8_isLike_109 : decode cX8_isLike 109 = .ok (.ireturn, 1) := by decide +kernel
theorem dX8_isErasedLike_0 : decode cX8_isErasedLike 0 = .ok (.aload_n 0, 1) := by decide +kernel
theorem dX8_isErasedLike_1 : decode cX8_isErasedLike 1 = .ok (.getfield 125, 3) := by decide +kernel
theorem dX8_isErasedLike_4 : decode cX8_isErasedLike 4 = .ok (.aload_n 0, 1) := by decide +kernel
theorem dX8_isErasedLike_5 : decode cX8_isErasedLike 5 = .ok (.iload_n 1, 1) := by decide +kernel
theorem dX8_isErasedLike_6 : decode cX8_isErasedLike 6 = .ok (.invokevirtual 218, 3) := by decide +kernel
theorem dX8_isErasedLike_9 : decode cX8_isErasedLike 9 = .ok (.laload, 1) := by decide +kernel
theorem dX8_isErasedLike_10 : decode cX8_isErasedLike 10 = .ok (.aload_n 0, 1) := by decide +kernel
theorem dX8_isErasedLike_11 : decode cX8_isErasedLike 11 = .ok (.getfield 125, 3) := by decide +kernel
theorem dX8_isErasedLike_14 : decode cX8_isErasedLike 14 = .ok (.aload_n 0, 1) := by decide +kernel
theorem dX8_isErasedLike_15 : decode cX8_isErasedLike 15 = .ok (.iload_n 2, 1) := by decide +kernel
theorem dX8_isErasedLike_16 : decode cX8_isErasedLike 16 = .ok (.invokevirtual 218, 3) := by decide +kernel
theorem dX8_isErasedLike_19 : decode cX8_isErasedLike 19 = .ok (.laload, 1) := by decide +kernel
theorem dX8_isErasedLike_20 : decode cX8_isErasedLike 20 = .ok (.lcmp, 1) := by decide +kernel
theorem dX8_isErasedLike_21 : decode cX8_isErasedLike 21 = .ok (.ifCond .ne 26, 3) := by decide +kernel
theorem dX8_isErasedLike_24 : decode cX8_isErasedLike 24 = .ok (.aload_n 0, 1) := by decide +kernel
theorem dX8_isErasedLike_25 : decode cX8_isErasedLike 25 = .ok (.getfield 134, 3) := by decide +kernel
theorem dX8_isErasedLike_28 : decode cX8_isErasedLike 28 = .ok (.aload_n 0, 1) := by decide +kernel
theorem dX8_isErasedLike_29 : decode cX8_isErasedLike 29 = .ok (.iload_n 1, 1) := by decide +kernel
theorem dX8_isErasedLike_30 : decode cX8_isErasedLike 30 = .ok (.invokevirtual 218, 3) := by decide +kernel
theorem dX8_isErasedLike_33 : decode cX8_isErasedLike 33 = .ok (.iaload, 1) := by decide +kernel
theorem dX8_isErasedLike_34 : decode cX8_isErasedLike 34 = .ok (.aload_n 0, 1) := by decide +kernel
theorem dX8_isErasedLike_35 : decode cX8_isErasedLike 35 = .ok (.getfield 134, 3) := by decide +kernel
theorem dX8_isErasedLike_38 : decode cX8_isErasedLike 38 = .ok (.aload_n 0, 1) := by decide +kernel
theorem dX8_isErasedLike_39 : decode cX8_isErasedLike 39 = .ok (.iload_n 2, 1) := by decide +kernel
theorem dX8_isErasedLike_40 : decode cX8_isErasedLike 40 = .ok (.invokevirtual 218, 3) := by decide +kernel
theorem dX8_isErasedLike_43 : decode cX8_isErasedLike 43 = .ok (.iaload, 1) := by decide +kernel
theorem dX8_isErasedLike_44 : decode cX8_isErasedLike 44 = .ok (.if_icmp .eq 5, 3) := by decide +kernel
theorem dX8_isErasedLike_47 : decode cX8_isErasedLike 47 = .ok (.iconst 0, 1) := by decide +kernel
theorem dX8_isErasedLike_48 : decode cX8_isErasedLike 48 = .ok (.ireturn, 1) := by decide +kernel
theorem dX8_isErasedLike_49 : decode cX8_isErasedLike 49 = .ok (.iconst 1, 1) := by decide +kernel
theorem dX8_isErasedLike_50 : decode cX8_isErasedLike 50 = .ok (.istore_n 3, 1) := by decide +kernel
theorem dX8_isErasedLike_51 : decode cX8_isErasedLike 51 = .ok (.iconst 0, 1) := by decide +kernel
theorem dX8_isErasedLike_52 : decode cX8_isErasedLike 52 = .ok (.istore 4, 2) := by decide +kernel
theorem dX8_isErasedLike_54 : decode cX8_isErasedLike 54 = .ok (.iload 4, 2) := by decide +kernel
theorem dX8_isErasedLike_56 : decode cX8_isErasedLike 56 = .ok (.aload_n 0, 1) := by decide +kernel
theorem dX8_isErasedLike_57 : decode cX8_isErasedLike 57 = .ok (.getfield 134, 3) := by decide +kernel
theorem dX8_isErasedLike_60 : decode cX8_isErasedLike 60 = .ok (.aload_n 0, 1) := by decide +kernel
theorem dX8_isErasedLike_61 : decode cX8_isErasedLike 61 = .ok (.iload_n 1, 1) := by decide +kernel
theorem dX8_isErasedLike_62 : decode cX8_isErasedLike 62 = .ok (.invokevirtual 218, 3) := by decide +kernel
theorem dX8_isErasedLike_65 : decode cX8_isErasedLike 65 = .ok (.iaload, 1) := by decide +kernel
theorem dX8_isErasedLike_66 : decode cX8_isErasedLike 66 = .ok (.if_icmp .ge 36, 3) := by decide +kernel
theorem dX8_isErasedLike_69 : decode cX8_isErasedLike 69 = .ok (.iload_n 3, 1) := by decide +kernel
theorem dX8_isErasedLike_70 : decode cX8_isErasedLike 70 = .ok (.ifCond .eq 24, 3) := by decide +kernel
theorem dX8_isErasedLike_73 : decode cX8_isErasedLike 73 = .ok (.aload_n 0, 1) := by decide +kernel
theorem dX8_isErasedLike_74 : decode cX8_isErasedLike 74 = .ok (.iload_n 1, 1) := by decide +kernel
theorem dX8_isErasedLike_75 : decode cX8_isErasedLike 75 = .ok (.iload 4, 2) := by decide +kernel
theorem dX8_isErasedLike_77 : decode cX8_isErasedLike 77 = .ok (.invokevirtual 232, 3) := by decide +kernel
theorem dX8_isErasedLike_80 : decode cX8_isErasedLike 80 = .ok (.aload_n 0, 1) := by decide +kernel
theorem dX8_isErasedLike_81 : decode cX8_isErasedLike 81 = .ok (.iload_n 2, 1) := by decide +kernel
theorem dX8_isErasedLike_82 : decode cX8_isErasedLike 82 = .ok (.iload 4, 2) := by decide +kernel
theorem dX8_isErasedLike_84 : decode cX8_isErasedLike 84 = .ok (.invokevirtual 232, 3) := by decide +kernel
theorem dX8_isErasedLike_87 : decode cX8_isErasedLike 87 = .ok (.if_icmp .ne 7, 3) := by decide +kernel
theorem dX8_isErasedLike_90 : decode cX8_isErasedLike 90 = .ok (.iconst 1, 1) := by decide +kernel
theorem dX8_isErasedLike_91 : decode cX8_isErasedLike 91 = .ok (.goto 4, 3) := by decide +kernel
theorem dX8_isErasedLike_94 : decode cX8_isErasedLike 94 = .ok (.iconst 0, 1) := by decide +kernel
theorem dX8_isErasedLike_95 : decode cX8_isErasedLike 95 = .ok (.istore_n 3, 1) := by decide +kernel
theorem dX8_isErasedLike_96 : decode cX8_isErasedLike 96 = .ok (.iinc 4 1, 3) := by decide +kernel
theorem dX8_isErasedLike_99 : decode cX8_isErasedLike 99 = .ok (.goto (-45), 3) := by decide +kernel
theorem dX8_isErasedLike_102 : decode cX8_isErasedLike 102 = .ok (.iload_n 3, 1) := by decide +kernel
theorem dX8_isErasedLike_103 : decode cX8_isErasedLike 103 = .ok (.ireturn, 1) := by decide +kernel
theorem dX8_isSought_0 : decode cX8_isSought 0 = .ok (.aload_n 0, 1) := by decide +kernel
theorem dX8_isSought_1 : decode cX8_isSought 1 = .ok (.iload_n 1, 1) := by decide +kernel
theorem dX8_isSought_2 : decode cX8_isSought 2 = .ok (.iload_n 2, 1) := by decide +kernel
theorem dX8_isSought_3 : decode cX8_isSought 3 = .ok (.invokevirtual 235, 3) := by decide +kernel
theorem dX8_isSought_6 : decode cX8_isSought 6 = .ok (.ifCond .eq 22, 3) := by decide +kernel
theorem dX8_isSought_9 : decode cX8_isSought 9 = .ok (.aload_n 0, 1) := by decide +kernel
theorem dX8_isSought_10 : decode cX8_isSought 10 = .ok (.iload_n 1, 1) := by decide +kernel
theorem dX8_isSought_11 : decode cX8_isSought 11 = .ok (.iconst 2, 1) := by decide +kernel
theorem dX8_isSought_12 : decode cX8_isSought 12 = .ok (.invokevirtual 232, 3) := by decide +kernel
theorem dX8_isSought_15 : decode cX8_isSought 15 = .ok (.aload_n 0, 1) := by decide +kernel
theorem dX8_isSought_16 : decode cX8_isSought 16 = .ok (.iload_n 2, 1) := by decide +kernel
theorem dX8_isSought_17 : decode cX8_isSought 17 = .ok (.iconst 2, 1) := by decide +kernel
theorem dX8_isSought_18 : decode cX8_isSought 18 = .ok (.invokevirtual 232, 3) := by decide +kernel
theorem dX8_isSought_21 : decode cX8_isSought 21 = .ok (.if_icmp .ne 7, 3) := by decide +kernel
theorem dX8_isSought_24 : decode cX8_isSought 24 = .ok (.iconst 1, 1) := by decide +kernel
theorem dX8_isSought_25 : decode cX8_isSought 25 = .ok (.goto 4, 3) := by decide +kernel
theorem dX8_isSought_28 : decode cX8_isSought 28 = .ok (.iconst 0, 1) := by decide +kernel
theorem dX8_isSought_29 : decode cX8_isSought 29 = .ok (.ireturn, 1) := by decide +kernel
theorem dX8_seenType_0 : decode cX8_seenType 0 = .ok (.iconst (-1), 1) := by decide +kernel
theorem dX8_seenType_1 : decode cX8_seenType 1 = .ok (.istore 4, 2) := by decide +kernel
theorem dX8_seenType_3 : decode cX8_seenType 3 = .ok (.iconst 0, 1) := by decide +kernel
theorem dX8_seenType_4 : decode cX8_seenType 4 = .ok (.istore 5, 2) := by decide +kernel
theorem dX8_seenType_6 : decode cX8_seenType 6 = .ok (.iload 5, 2) := by decide +kernel
theorem dX8_seenType_8 : decode cX8_seenType 8 = .ok (.iload_n 3, 1) := by decide +kernel
theorem dX8_seenType_9 : decode cX8_seenType 9 = .ok (.if_icmp .gt 90, 3) := by decide +kernel
theorem dX8_seenType_12 : decode cX8_seenType 12 = .ok (.iload 5, 2) := by decide +kernel
theorem dX8_seenType_14 : decode cX8_seenType 14 = .ok (.iload_n 3, 1) := by decide +kernel
theorem dX8_seenType_15 : decode cX8_seenType 15 = .ok (.if_icmp .eq 41, 3) := by decide +kernel
theorem dX8_seenType_18 : decode cX8_seenType 18 = .ok (.aload_n 0, 1) := by decide +kernel
theorem dX8_seenType_19 : decode cX8_seenType 19 = .ok (.getfield 67, 3) := by decide +kernel
theorem dX8_seenType_22 : decode cX8_seenType 22 = .ok (.aload_n 0, 1) := by decide +kernel
theorem dX8_seenType_23 : decode cX8_seenType 23 = .ok (.iload 5, 2) := by decide +kernel
theorem dX8_seenType_25 : decode cX8_seenType 25 = .ok (.invokevirtual 214, 3) := by decide +kernel
theorem dX8_seenType_28 : decode cX8_seenType 28 = .ok (.iaload, 1) := by decide +kernel
theorem dX8_seenType_29 : decode cX8_seenType 29 = .ok (.aload_n 0, 1) := by decide +kernel
theorem dX8_seenType_30 : decode cX8_seenType 30 = .ok (.getfield 67, 3) := by decide +kernel
theorem dX8_seenType_33 : decode cX8_seenType 33 = .ok (.aload_n 0, 1) := by decide +kernel
theorem dX8_seenType_34 : decode cX8_seenType 34 = .ok (.iload_n 3, 1) := by decide +kernel
theorem dX8_seenType_35 : decode cX8_seenType 35 = .ok (.invokevirtual 214, 3) := by decide +kernel
theorem dX8_seenType_38 : decode cX8_seenType 38 = .ok (.iaload, 1) := by decide +kernel
theorem dX8_seenType_39 : decode cX8_seenType 39 = .ok (.if_icmp .eq 17, 3) := by decide +kernel
theorem dX8_seenType_42 : decode cX8_seenType 42 = .ok (.aload_n 0, 1) := by decide +kernel
theorem dX8_seenType_43 : decode cX8_seenType 43 = .ok (.getfield 67, 3) := by decide +kernel
theorem dX8_seenType_46 : decode cX8_seenType 46 = .ok (.aload_n 0, 1) := by decide +kernel
theorem dX8_seenType_47 : decode cX8_seenType 47 = .ok (.iload 5, 2) := by decide +kernel
theorem dX8_seenType_49 : decode cX8_seenType 49 = .ok (.invokevirtual 214, 3) := by decide +kernel
theorem dX8_seenType_52 : decode cX8_seenType 52 = .ok (.iaload, 1) := by decide +kernel
theorem dX8_seenType_53 : decode cX8_seenType 53 = .ok (.ifCond .ne 7, 3) := by decide +kernel
theorem dX8_seenType_56 : decode cX8_seenType 56 = .ok (.iconst 1, 1) := by decide +kernel
theorem dX8_seenType_57 : decode cX8_seenType 57 = .ok (.goto 4, 3) := by decide +kernel
theorem dX8_seenType_60 : decode cX8_seenType 60 = .ok (.iconst 0, 1) := by decide +kernel
theorem dX8_seenType_61 : decode cX8_seenType 61 = .ok (.istore 6, 2) := by decide +kernel
theorem dX8_seenType_63 : decode cX8_seenType 63 = .ok (.aload_n 0, 1) := by decide +kernel
theorem dX8_seenType_64 : decode cX8_seenType 64 = .ok (.getfield 61, 3) := by decide +kernel
theorem dX8_seenType_67 : decode cX8_seenType 67 = .ok (.aload_n 0, 1) := by decide +kernel
theorem dX8_seenType_68 : decode cX8_seenType 68 = .ok (.iload 5, 2) := by decide +kernel
theorem dX8_seenType_70 : decode cX8_seenType 70 = .ok (.invokevirtual 214, 3) := by decide +kernel
theorem dX8_seenType_73 : decode cX8_seenType 73 = .ok (.laload, 1) := by decide +kernel
theorem dX8_seenType_74 : decode cX8_seenType 74 = .ok (.lload_n 1, 1) := by decide +kernel
theorem dX8_seenType_75 : decode cX8_seenType 75 = .ok (.lcmp, 1) := by decide +kernel
theorem dX8_seenType_76 : decode cX8_seenType 76 = .ok (.ifCond .ne 13, 3) := by decide +kernel
theorem dX8_seenType_79 : decode cX8_seenType 79 = .ok (.iload 6, 2) := by decide +kernel
theorem dX8_seenType_81 : decode cX8_seenType 81 = .ok (.ifCond .eq 8, 3) := by decide +kernel
theorem dX8_seenType_84 : decode cX8_seenType 84 = .ok (.iload 5, 2) := by decide +kernel
theorem dX8_seenType_86 : decode cX8_seenType 86 = .ok (.goto 5, 3) := by decide +kernel
theorem dX8_seenType_89 : decode cX8_seenType 89 = .ok (.iload 4, 2) := by decide +kernel
theorem dX8_seenType_91 : decode cX8_seenType 91 = .ok (.istore 4, 2) := by decide +kernel
theorem dX8_seenType_93 : decode cX8_seenType 93 = .ok (.iinc 5 1, 3) := by decide +kernel
theorem dX8_seenType_96 : decode cX8_seenType 96 = .ok (.goto (-90), 3) := by decide +kernel
theorem dX8_seenType_99 : decode cX8_seenType 99 = .ok (.iload 4, 2) := by decide +kernel
theorem dX8_seenType_101 : decode cX8_seenType 101 = .ok (.ireturn, 1) := by decide +kernel
theorem dX8_varNamed_0 : decode cX8_varNamed 0 = .ok (.iconst (-1), 1) := by decide +kernel
theorem dX8_varNamed_1 : decode cX8_varNamed 1 = .ok (.istore 4, 2) := by decide +kernel
theorem dX8_varNamed_3 : decode cX8_varNamed 3 = .ok (.iconst 0, 1) := by decide +kernel
theorem dX8_varNamed_4 : decode cX8_varNamed 4 = .ok (.istore 5, 2) := by decide +kernel
theorem dX8_varNamed_6 : decode cX8_varNamed 6 = .ok (.iload 5, 2) := by decide +kernel
theorem dX8_varNamed_8 : decode cX8_varNamed 8 = .ok (.aload_n 0, 1) := by decide +kernel
theorem dX8_varNamed_9 : decode cX8_varNamed 9 = .ok (.getfield 76, 3) := by decide +kernel
theorem dX8_varNamed_12 : decode cX8_varNamed 12 = .ok (.aload_n 0, 1) := by decide +kernel
theorem dX8_varNamed_13 : decode cX8_varNamed 13 = .ok (.iload_n 3, 1) := by decide +kernel
theorem dX8_varNamed_14 : decode cX8_varNamed 14 = .ok (.invokevirtual 214, 3) := by decide +kernel
theorem dX8_varNamed_17 : decode cX8_varNamed 17 = .ok (.iaload, 1) := by decide +kernel
theorem dX8_varNamed_18 : decode cX8_varNamed 18 = .ok (.if_icmp .ge 38, 3) := by decide +kernel
theorem dX8_varNamed_21 : decode cX8_varNamed 21 = .ok (.aload_n 0, 1) := by decide +kernel
theorem dX8_varNamed_22 : decode cX8_varNamed 22 = .ok (.getfield 79, 3) := by decide +kernel
theorem dX8_varNamed_25 : decode cX8_varNamed 25 = .ok (.iconst 2, 1) := by decide +kernel
theorem dX8_varNamed_26 : decode cX8_varNamed 26 = .ok (.aload_n 0, 1) := by decide +kernel
theorem dX8_varNamed_27 : decode cX8_varNamed 27 = .ok (.iload_n 3, 1) := by decide +kernel
theorem dX8_varNamed_28 : decode cX8_varNamed 28 = .ok (.invokevirtual 214, 3) := by decide +kernel
theorem dX8_varNamed_31 : decode cX8_varNamed 31 = .ok (.imul, 1) := by decide +kernel
theorem dX8_varNamed_32 : decode cX8_varNamed 32 = .ok (.iload 5, 2) := by decide +kernel
theorem dX8_varNamed_34 : decode cX8_varNamed 34 = .ok (.iadd, 1) := by decide +kernel
theorem dX8_varNamed_35 : decode cX8_varNamed 35 = .ok (.laload, 1) := by decide +kernel
theorem dX8_varNamed_36 : decode cX8_varNamed 36 = .ok (.lload_n 1, 1) := by decide +kernel
theorem dX8_varNamed_37 : decode cX8_varNamed 37 = .ok (.lcmp, 1) := by decide +kernel
theorem dX8_varNamed_38 : decode cX8_varNamed 38 = .ok (.ifCond .ne 8, 3) := by decide +kernel
theorem dX8_varNamed_41 : decode cX8_varNamed 41 = .ok (.iload 5, 2) := by decide +kernel
theorem dX8_varNamed_43 : decode cX8_varNamed 43 = .ok (.goto 5, 3) := by decide +kernel
theorem dX8_varNamed_46 : decode cX8_varNamed 46 = .ok (.iload 4, 2) := by decide +kernel
theorem dX8_varNamed_48 : decode cX8_varNamed 48 = .ok (.istore 4, 2) := by decide +kernel
theorem dX8_varNamed_50 : decode cX8_varNamed 50 = .ok (.iinc 5 1, 3) := by decide +kernel
theorem dX8_varNamed_53 : decode cX8_varNamed 53 = .ok (.goto (-47), 3) := by decide +kernel
theorem dX8_varNamed_56 : decode cX8_varNamed 56 = .ok (.iload 4, 2) := by decide +kernel
theorem dX8_varNamed_58 : decode cX8_varNamed 58 = .ok (.ireturn, 1) := by decide +kernel
theorem dX8_takeNamed_0 : decode cX8_takeNamed 0 = .ok (.aload_n 0, 1) := by decide +kernel
theorem dX8_takeNamed_1 : decode cX8_takeNamed 1 = .ok (.iconst 2, 1) := by decide +kernel
theorem dX8_takeNamed_2 : decode cX8_takeNamed 2 = .ok (.invokevirtual 199, 3) := by decide +kernel
theorem dX8_takeNamed_5 : decode cX8_takeNamed 5 = .ok (.ifCond .ne 9, 3) := by decide +kernel
theorem dX8_takeNamed_8 : decode cX8_takeNamed 8 = .ok (.aload_n 0, 1) := by decide +kernel
theorem dX8_takeNamed_9 : decode cX8_takeNamed 9 = .ok (.invokevirtual 205, 3) := by decide +kernel
theorem dX8_takeNamed_12 : decode cX8_takeNamed 12 = .ok (.iconst (-1), 1) := by decide +kernel
theorem dX8_takeNamed_13 : decode cX8_takeNamed 13 = .ok (.ireturn, 1) := by decide +kernel
theorem dX8_takeNamed_14 : decode cX8_takeNamed 14 = .ok (.aload_n 0, 1) := by decide +kernel
theorem dX8_takeNamed_15 : decode cX8_takeNamed 15 = .ok (.aload_n 0, 1) := by decide +kernel
theorem dX8_takeNamed_16 : decode cX8_takeNamed 16 = .ok (.getfield 182, 3) := by decide +kernel
theorem dX8_takeNamed_19 : decode cX8_takeNamed 19 = .ok (.iload_n 1, 1) := by decide +kernel
theorem dX8_takeNamed_20 : decode cX8_takeNamed 20 = .ok (.invokevirtual 239, 3) := by decide +kernel
theorem dX8_takeNamed_23 : decode cX8_takeNamed 23 = .ok (.istore_n 2, 1) := by decide +kernel
theorem dX8_takeNamed_24 : decode cX8_takeNamed 24 = .ok (.iload_n 2, 1) := by decide +kernel
theorem dX8_takeNamed_25 : decode cX8_takeNamed 25 = .ok (.ifCond .lt 10, 3) := by decide +kernel
theorem dX8_takeNamed_28 : decode cX8_takeNamed 28 = .ok (.bipush 100, 2) := by decide +kernel
theorem dX8_takeNamed_30 : decode cX8_takeNamed 30 = .ok (.iload_n 2, 1) := by decide +kernel
theorem dX8_takeNamed_31 : decode cX8_takeNamed 31 = .ok (.iadd, 1) := by decide +kernel
theorem dX8_takeNamed_32 : decode cX8_takeNamed 32 = .ok (.goto 12, 3) := by decide +kernel
theorem dX8_takeNamed_35 : decode cX8_takeNamed 35 = .ok (.aload_n 0, 1) := by decide +kernel
theorem dX8_takeNamed_36 : decode cX8_takeNamed 36 = .ok (.aload_n 0, 1) := by decide +kernel
theorem dX8_takeNamed_37 : decode cX8_takeNamed 37 = .ok (.getfield 182, 3) := by decide +kernel
theorem dX8_takeNamed_40 : decode cX8_takeNamed 40 = .ok (.iload_n 1, 1) := by decide +kernel
theorem dX8_takeNamed_41 : decode cX8_takeNamed 41 = .ok (.invokevirtual 243, 3) := by decide +kernel
theorem dX8_takeNamed_44 : decode cX8_takeNamed 44 = .ok (.istore_n 3, 1) := by decide +kernel
theorem dX8_takeNamed_45 : decode cX8_takeNamed 45 = .ok (.iload_n 3, 1) := by decide +kernel
theorem dX8_takeNamed_46 : decode cX8_takeNamed 46 = .ok (.ifCond .ge 15, 3) := by decide +kernel
theorem dX8_takeNamed_49 : decode cX8_takeNamed 49 = .ok (.aload_n 0, 1) := by decide +kernel
theorem dX8_takeNamed_50 : decode cX8_takeNamed 50 = .ok (.iconst 3, 1) := by decide +kernel
theorem dX8_takeNamed_51 : decode cX8_takeNamed 51 = .ok (.aload_n 0, 1) := by decide +kernel
theorem dX8_takeNamed_52 : decode cX8_takeNamed 52 = .ok (.getfield 172, 3) := by decide +kernel
theorem dX8_takeNamed_55 : decode cX8_takeNamed 55 = .ok (.invokevirtual 195, 3) := by decide +kernel
theorem dX8_takeNamed_58 : decode cX8_takeNamed 58 = .ok (.goto 7, 3) := by decide +kernel
theorem dX8_takeNamed_61 : decode cX8_takeNamed 61 = .ok (.aload_n 0, 1) := by decide +kernel
theorem dX8_takeNamed_62 : decode cX8_takeNamed 62 = .ok (.invokevirtual 202, 3) := by decide +kernel
theorem dX8_takeNamed_65 : decode cX8_takeNamed 65 = .ok (.iload_n 3, 1) := by decide +kernel
theorem dX8_takeNamed_66 : decode cX8_takeNamed 66 = .ok (.ireturn, 1) := by decide +kernel
theorem dX8_readPackage_0 : decode cX8_readPackage 0 = .ok (.aload_n 0, 1) := by decide +kernel
theorem dX8_readPackage_1 : decode cX8_readPackage 1 = .ok (.invokevirtual 202, 3) := by decide +kernel
theorem dX8_readPackage_4 : decode cX8_readPackage 4 = .ok (.aload_n 0, 1) := by decide +kernel
theorem dX8_readPackage_5 : decode cX8_readPackage 5 = .ok (.iconst 2, 1) := by decide +kernel
theorem dX8_readPackage_6 : decode cX8_readPackage 6 = .ok (.invokevirtual 199, 3) := by decide +kernel
theorem dX8_readPackage_9 : decode cX8_readPackage 9 = .ok (.ifCond .ne 8, 3) := by decide +kernel
theorem dX8_readPackage_12 : decode cX8_readPackage 12 = .ok (.aload_n 0, 1) := by decide +kernel
theorem dX8_readPackage_13 : decode cX8_readPackage 13 = .ok (.invokevirtual 205, 3) := by decide +kernel
theorem dX8_readPackage_16 : decode cX8_readPackage 16 = .ok (.return_, 1) := by decide +kernel
theorem dX8_readPackage_17 : decode cX8_readPackage 17 = .ok (.iconst 0, 1) := by decide +kernel
theorem dX8_readPackage_18 : decode cX8_readPackage 18 = .ok (.istore_n 1, 1) := by decide +kernel
theorem dX8_readPackage_19 : decode cX8_readPackage 19 = .ok (.iconst 1, 1) := by decide +kernel
theorem dX8_readPackage_20 : decode cX8_readPackage 20 = .ok (.istore_n 2, 1) := by decide +kernel
theorem dX8_readPackage_21 : decode cX8_readPackage 21 = .ok (.iload_n 2, 1) := by decide +kernel
theorem dX8_readPackage_22 : decode cX8_readPackage 22 = .ok (.aload_n 0, 1) := by decide +kernel
theorem dX8_readPackage_23 : decode cX8_readPackage 23 = .ok (.getfield 55, 3) := by decide +kernel
theorem dX8_readPackage_26 : decode cX8_readPackage 26 = .ok (.aload_n 0, 1) := by decide +kernel
theorem dX8_readPackage_27 : decode cX8_readPackage 27 = .ok (.getfield 208, 3) := by decide +kernel
theorem dX8_readPackage_30 : decode cX8_readPackage 30 = .ok (.iaload, 1) := by decide +kernel
theorem dX8_readPackage_31 : decode cX8_readPackage 31 = .ok (.if_icmp .gt 38, 3) := by decide +kernel
theorem dX8_readPackage_34 : decode cX8_readPackage 34 = .ok (.aload_n 0, 1) := by decide +kernel
theorem dX8_readPackage_35 : decode cX8_readPackage 35 = .ok (.getfield 58, 3) := by decide +kernel
theorem dX8_readPackage_38 : decode cX8_readPackage 38 = .ok (.sipush 700, 3) := by decide +kernel
theorem dX8_readPackage_41 : decode cX8_readPackage 41 = .ok (.aload_n 0, 1) := by decide +kernel
theorem dX8_readPackage_42 : decode cX8_readPackage 42 = .ok (.getfield 208, 3) := by decide +kernel
theorem dX8_readPackage_45 : decode cX8_readPackage 45 = .ok (.imul, 1) := by decide +kernel
theorem dX8_readPackage_46 : decode cX8_readPackage 46 = .ok (.iload_n 2, 1) := by decide +kernel
theorem dX8_readPackage_47 : decode cX8_readPackage 47 = .ok (.iadd, 1) := by decide +kernel
theorem dX8_readPackage_48 : decode cX8_readPackage 48 = .ok (.laload, 1) := by decide +kernel
theorem dX8_readPackage_49 : decode cX8_readPackage 49 = .ok (.aload_n 0, 1) := by decide +kernel
theorem dX8_readPackage_50 : decode cX8_readPackage 50 = .ok (.getfield 182, 3) := by decide +kernel
theorem dX8_readPackage_53 : decode cX8_readPackage 53 = .ok (.lcmp, 1) := by decide +kernel
theorem dX8_readPackage_54 : decode cX8_readPackage 54 = .ok (.ifCond .ne 7, 3) := by decide +kernel
theorem dX8_readPackage_57 : decode cX8_readPackage 57 = .ok (.iload_n 2, 1) := by decide +kernel
theorem dX8_readPackage_58 : decode cX8_readPackage 58 = .ok (.goto 4, 3) := by decide +kernel
theorem dX8_readPackage_61 : decode cX8_readPackage 61 = .ok (.iload_n 1, 1) := by decide +kernel
theorem dX8_readPackage_62 : decode cX8_readPackage 62 = .ok (.istore_n 1, 1) := by decide +kernel
theorem dX8_readPackage_63 : decode cX8_readPackage 63 = .ok (.iinc 2 1, 3) := by decide +kernel
theorem dX8_readPackage_66 : decode cX8_readPackage 66 = .ok (.goto (-45), 3) := by decide +kernel
theorem dX8_readPackage_69 : decode cX8_readPackage 69 = .ok (.iload_n 1, 1) := by decide +kernel
theorem dX8_readPackage_70 : decode cX8_readPackage 70 = .ok (.ifCond .ne 45, 3) := by decide +kernel
theorem dX8_readPackage_73 : decode cX8_readPackage 73 = .ok (.aload_n 0, 1) := by decide +kernel
theorem dX8_readPackage_74 : decode cX8_readPackage 74 = .ok (.getfield 55, 3) := by decide +kernel
theorem dX8_readPackage_77 : decode cX8_readPackage 77 = .ok (.aload_n 0, 1) := by decide +kernel
theorem dX8_readPackage_78 : decode cX8_readPackage 78 = .ok (.getfield 208, 3) := by decide +kernel
theorem dX8_readPackage_81 : decode cX8_readPackage 81 = .ok (.dup2, 1) := by decide +kernel
theorem dX8_readPackage_82 : decode cX8_readPackage 82 = .ok (.iaload, 1) := by decide +kernel
theorem dX8_readPackage_83 : decode cX8_readPackage 83 = .ok (.iconst 1, 1) := by decide +kernel
theorem dX8_readPackage_84 : decode cX8_readPackage 84 = .ok (.iadd, 1) := by decide +kernel
theorem dX8_readPackage_85 : decode cX8_readPackage 85 = .ok (.iastore, 1) := by decide +kernel
theorem dX8_readPackage_86 : decode cX8_readPackage 86 = .ok (.aload_n 0, 1) := by decide +kernel
theorem dX8_readPackage_87 : decode cX8_readPackage 87 = .ok (.getfield 55, 3) := by decide +kernel
theorem dX8_readPackage_90 : decode cX8_readPackage 90 = .ok (.aload_n 0, 1) := by decide +kernel
theorem dX8_readPackage_91 : decode cX8_readPackage 91 = .ok (.getfield 208, 3) := by decide +kernel
theorem dX8_readPackage_94 : decode cX8_readPackage 94 = .ok (.iaload, 1) := by decide +kernel
theorem dX8_readPackage_95 : decode cX8_readPackage 95 = .ok (.istore_n 1, 1) := by decide +kernel
theorem dX8_readPackage_96 : decode cX8_readPackage 96 = .ok (.aload_n 0, 1) := by decide +kernel
theorem dX8_readPackage_97 : decode cX8_readPackage 97 = .ok (.getfield 58, 3) := by decide +kernel
theorem dX8_readPackage_100 : decode cX8_readPackage 100 = .ok (.sipush 700, 3) := by decide +kernel
theorem dX8_readPackage_103 : decode cX8_readPackage 103 = .ok (.aload_n 0, 1) := by decide +kernel
theorem dX8_readPackage_104 : decode cX8_readPackage 104 = .ok (.getfield 208, 3) := by decide +kernel
theorem dX8_readPackage_107 : decode cX8_readPackage 107 = .ok (.imul, 1) := by decide +kernel
theorem dX8_readPackage_108 : decode cX8_readPackage 108 = .ok (.iload_n 1, 1) := by decide +kernel
theorem dX8_readPackage_109 : decode cX8_readPackage 109 = .ok (.iadd, 1) := by decide +kernel
theorem dX8_readPackage_110 : decode cX8_readPackage 110 = .ok (.aload_n 0, 1) := by decide +kernel
theorem dX8_readPackage_111 : decode cX8_readPackage 111 = .ok (.getfield 182, 3) := by decide +kernel
theorem dX8_readPackage_114 : decode cX8_readPackage 114 = .ok (.lastore, 1) := by decide +kernel
theorem dX8_readPackage_115 : decode cX8_readPackage 115 = .ok (.aload_n 0, 1) := by decide +kernel
theorem dX8_readPackage_116 : decode cX8_readPackage 116 = .ok (.iload_n 1, 1) := by decide +kernel
theorem dX8_readPackage_117 : decode cX8_readPackage 117 = .ok (.putfield 246, 3) := by decide +kernel
theorem dX8_readPackage_120 : decode cX8_readPackage 120 = .ok (.aload_n 0, 1) := by decide +kernel
theorem dX8_readPackage_121 : decode cX8_readPackage 121 = .ok (.invokevirtual 202, 3) := by decide +kernel
theorem dX8_readPackage_124 : decode cX8_readPackage 124 = .ok (.aload_n 0, 1) := by decide +kernel
theorem dX8_readPackage_125 : decode cX8_readPackage 125 = .ok (.bipush 59, 2) := by decide +kernel
theorem dX8_readPackage_127 : decode cX8_readPackage 127 = .ok (.invokevirtual 249, 3) := by decide +kernel
theorem dX8_readPackage_130 : decode cX8_readPackage 130 = .ok (.return_, 1) := by decide +kernel
theorem dX8_readLoader_0 : decode cX8_readLoader 0 = .ok (.aload_n 0, 1) := by decide +kernel
theorem dX8_readLoader_1 : decode cX8_readLoader 1 = .ok (.invokevirtual 202, 3) := by decide +kernel
theorem dX8_readLoader_4 : decode cX8_readLoader 4 = .ok (.aload_n 0, 1) := by decide +kernel
theorem dX8_readLoader_5 : decode cX8_readLoader 5 = .ok (.iconst 3, 1) := by decide +kernel
theorem dX8_readLoader_6 : decode cX8_readLoader 6 = .ok (.invokevirtual 199, 3) := by decide +kernel
theorem dX8_readLoader_9 : decode cX8_readLoader 9 = .ok (.ifCond .eq 14, 3) := by decide +kernel
theorem dX8_readLoader_12 : decode cX8_readLoader 12 = .ok (.aload_n 0, 1) := by decide +kernel
theorem dX8_readLoader_13 : decode cX8_readLoader 13 = .ok (.getfield 182, 3) := by decide +kernel
theorem dX8_readLoader_16 : decode cX8_readLoader 16 = .ok (.ldc2_w 253, 3) := by decide +kernel
theorem dX8_readLoader_19 : decode cX8_readLoader 19 = .ok (.lcmp, 1) := by decide +kernel
theorem dX8_readLoader_20 : decode cX8_readLoader 20 = .ok (.ifCond .le 8, 3) := by decide +kernel
theorem dX8_readLoader_23 : decode cX8_readLoader 23 = .ok (.aload_n 0, 1) := by decide +kernel
theorem dX8_readLoader_24 : decode cX8_readLoader 24 = .ok (.invokevirtual 205, 3) := by decide +kernel
theorem dX8_readLoader_27 : decode cX8_readLoader 27 = .ok (.return_, 1) := by decide +kernel
theorem dX8_readLoader_28 : decode cX8_readLoader 28 = .ok (.aload_n 0, 1) := by decide +kernel
theorem dX8_readLoader_29 : decode cX8_readLoader 29 = .ok (.aload_n 0, 1) := by decide +kernel
theorem dX8_readLoader_30 : decode cX8_readLoader 30 = .ok (.getfield 182, 3) := by decide +kernel
theorem dX8_readLoader_33 : decode cX8_readLoader 33 = .ok (.l2i, 1) := by decide +kernel
theorem dX8_readLoader_34 : decode cX8_readLoader 34 = .ok (.putfield 255, 3) := by decide +kernel
theorem dX8_readLoader_37 : decode cX8_readLoader 37 = .ok (.aload_n 0, 1) := by decide +kernel
theorem dX8_readLoader_38 : decode cX8_readLoader 38 = .ok (.invokevirtual 202, 3) := by decide +kernel
theorem dX8_readLoader_41 : decode cX8_readLoader 41 = .ok (.aload_n 0, 1) := by decide +kernel
theorem dX8_readLoader_42 : decode cX8_readLoader 42 = .ok (.bipush 59, 2) := by decide +kernel
theorem dX8_readLoader_44 : decode cX8_readLoader 44 = .ok (.invokevirtual 249, 3) := by decide +kernel
theorem dX8_readLoader_47 : decode cX8_readLoader 47 = .ok (.return_, 1) := by decide +kernel
theorem dX8_readVars_0 : decode cX8_readVars 0 = .ok (.aload_n 0, 1) := by decide +kernel
theorem dX8_readVars_1 : decode cX8_readVars 1 = .ok (.iload_n 1, 1) := by decide +kernel
theorem dX8_readVars_2 : decode cX8_readVars 2 = .ok (.invokevirtual 214, 3) := by decide +kernel
theorem dX8_readVars_5 : decode cX8_readVars 5 = .ok (.istore_n 2, 1) := by decide +kernel
theorem dX8_readVars_6 : decode cX8_readVars 6 = .ok (.iconst 1, 1) := by decide +kernel
theorem dX8_readVars_7 : decode cX8_readVars 7 = .ok (.istore_n 3, 1) := by decide +kernel
theorem dX8_readVars_8 : decode cX8_readVars 8 = .ok (.aload_n 0, 1) := by decide +kernel
theorem dX8_readVars_9 : decode cX8_readVars 9 = .ok (.invokevirtual 202, 3) := by decide +kernel
theorem dX8_readVars_12 : decode cX8_readVars 12 = .ok (.iload_n 3, 1) := by decide +kernel
theorem dX8_readVars_13 : decode cX8_readVars 13 = .ok (.ifCond .eq 195, 3) := by decide +kernel
theorem dX8_readVars_16 : decode cX8_readVars 16 = .ok (.aload_n 0, 1) := by decide +kernel
theorem dX8_readVars_17 : decode cX8_readVars 17 = .ok (.iconst 2, 1) := by decide +kernel
theorem dX8_readVars_18 : decode cX8_readVars 18 = .ok (.invokevirtual 199, 3) := by decide +kernel
theorem dX8_readVars_21 : decode cX8_readVars 21 = .ok (.ifCond .ne 8, 3) := by decide +kernel
theorem dX8_readVars_24 : decode cX8_readVars 24 = .ok (.aload_n 0, 1) := by decide +kernel
theorem dX8_readVars_25 : decode cX8_readVars 25 = .ok (.invokevirtual 205, 3) := by decide +kernel
theorem dX8_readVars_28 : decode cX8_readVars 28 = .ok (.return_, 1) := by decide +kernel
theorem dX8_readVars_29 : decode cX8_readVars 29 = .ok (.aload_n 0, 1) := by decide +kernel
theorem dX8_readVars_30 : decode cX8_readVars 30 = .ok (.aload_n 0, 1) := by decide +kernel
theorem dX8_readVars_31 : decode cX8_readVars 31 = .ok (.getfield 182, 3) := by decide +kernel
theorem dX8_readVars_34 : decode cX8_readVars 34 = .ok (.iload_n 1, 1) := by decide +kernel
theorem dX8_readVars_35 : decode cX8_readVars 35 = .ok (.invokevirtual 239, 3) := by decide +kernel
theorem dX8_readVars_38 : decode cX8_readVars 38 = .ok (.ifCond .lt 13, 3) := by decide +kernel
theorem dX8_readVars_41 : decode cX8_readVars 41 = .ok (.aload_n 0, 1) := by decide +kernel
theorem dX8_readVars_42 : decode cX8_readVars 42 = .ok (.iconst 3, 1) := by decide +kernel
theorem dX8_readVars_43 : decode cX8_readVars 43 = .ok (.aload_n 0, 1) := by decide +kernel
theorem dX8_readVars_44 : decode cX8_readVars 44 = .ok (.getfield 172, 3) := by decide +kernel
theorem dX8_readVars_47 : decode cX8_readVars 47 = .ok (.invokevirtual 195, 3) := by decide +kernel
theorem dX8_readVars_50 : decode cX8_readVars 50 = .ok (.return_, 1) := by decide +kernel
theorem dX8_readVars_51 : decode cX8_readVars 51 = .ok (.iconst 2, 1) := by decide +kernel
theorem dX8_readVars_52 : decode cX8_readVars 52 = .ok (.iload_n 2, 1) := by decide +kernel
theorem dX8_readVars_53 : decode cX8_readVars 53 = .ok (.imul, 1) := by decide +kernel
theorem dX8_readVars_54 : decode cX8_readVars 54 = .ok (.aload_n 0, 1) := by decide +kernel
theorem dX8_readVars_55 : decode cX8_readVars 55 = .ok (.getfield 76, 3) := by decide +kernel
theorem dX8_readVars_58 : decode cX8_readVars 58 = .ok (.iload_n 2, 1) := by decide +kernel
theorem dX8_readVars_59 : decode cX8_readVars 59 = .ok (.iaload, 1) := by decide +kernel
theorem dX8_readVars_60 : decode cX8_readVars 60 = .ok (.iadd, 1) := by decide +kernel
theorem dX8_readVars_61 : decode cX8_readVars 61 = .ok (.istore 4, 2) := by decide +kernel
theorem dX8_readVars_63 : decode cX8_readVars 63 = .ok (.aload_n 0, 1) := by decide +kernel
theorem dX8_readVars_64 : decode cX8_readVars 64 = .ok (.getfield 79, 3) := by decide +kernel
theorem dX8_readVars_67 : decode cX8_readVars 67 = .ok (.iload 4, 2) := by decide +kernel
theorem dX8_readVars_69 : decode cX8_readVars 69 = .ok (.aload_n 0, 1) := by decide +kernel
theorem dX8_readVars_70 : decode cX8_readVars 70 = .ok (.getfield 182, 3) := by decide +kernel
theorem dX8_readVars_73 : decode cX8_readVars 73 = .ok (.lastore, 1) := by decide +kernel
theorem dX8_readVars_74 : decode cX8_readVars 74 = .ok (.aload_n 0, 1) := by decide +kernel
theorem dX8_readVars_75 : decode cX8_readVars 75 = .ok (.getfield 82, 3) := by decide +kernel
theorem dX8_readVars_78 : decode cX8_readVars 78 = .ok (.iload 4, 2) := by decide +kernel
theorem dX8_readVars_80 : decode cX8_readVars 80 = .ok (.iconst (-1), 1) := by decide +kernel
theorem dX8_readVars_81 : decode cX8_readVars 81 = .ok (.iastore, 1) := by decide +kernel
theorem dX8_readVars_82 : decode cX8_readVars 82 = .ok (.aload_n 0, 1) := by decide +kernel
theorem dX8_readVars_83 : decode cX8_readVars 83 = .ok (.getfield 76, 3) := by decide +kernel
theorem dX8_readVars_86 : decode cX8_readVars 86 = .ok (.iload_n 2, 1) := by decide +kernel
theorem dX8_readVars_87 : decode cX8_readVars 87 = .ok (.dup2, 1) := by decide +kernel
theorem dX8_readVars_88 : decode cX8_readVars 88 = .ok (.iaload, 1) := by decide +kernel
theorem dX8_readVars_89 : decode cX8_readVars 89 = .ok (.iconst 1, 1) := by decide +kernel
theorem dX8_readVars_90 : decode cX8_readVars 90 = .ok (.iadd, 1) := by decide +kernel
theorem dX8_readVars_91 : decode cX8_readVars 91 = .ok (.iastore, 1) := by decide +kernel
theorem dX8_readVars_92 : decode cX8_readVars 92 = .ok (.aload_n 0, 1) := by decide +kernel
theorem dX8_readVars_93 : decode cX8_readVars 93 = .ok (.invokevirtual 202, 3) := by decide +kernel
theorem dX8_readVars_96 : decode cX8_readVars 96 = .ok (.aload_n 0, 1) := by decide +kernel
theorem dX8_readVars_97 : decode cX8_readVars 97 = .ok (.bipush 15, 2) := by decide +kernel
theorem dX8_readVars_99 : decode cX8_readVars 99 = .ok (.invokevirtual 199, 3) := by decide +kernel
theorem dX8_readVars_102 : decode cX8_readVars 102 = .ok (.ifCond .eq 70, 3) := by decide +kernel
theorem dX8_readVars_105 : decode cX8_readVars 105 = .ok (.aload_n 0, 1) := by decide +kernel
theorem dX8_readVars_106 : decode cX8_readVars 106 = .ok (.invokevirtual 202, 3) := by decide +kernel
theorem dX8_readVars_109 : decode cX8_readVars 109 = .ok (.aload_n 0, 1) := by decide +kernel
theorem dX8_readVars_110 : decode cX8_readVars 110 = .ok (.iconst 2, 1) := by decide +kernel
theorem dX8_readVars_111 : decode cX8_readVars 111 = .ok (.invokevirtual 199, 3) := by decide +kernel
theorem dX8_readVars_114 : decode cX8_readVars 114 = .ok (.ifCond .eq 15, 3) := by decide +kernel
theorem dX8_readVars_117 : decode cX8_readVars 117 = .ok (.aload_n 0, 1) := by decide +kernel
theorem dX8_readVars_118 : decode cX8_readVars 118 = .ok (.aload_n 0, 1) := by decide +kernel
theorem dX8_readVars_119 : decode cX8_readVars 119 = .ok (.getfield 182, 3) := by decide +kernel
theorem dX8_readVars_122 : decode cX8_readVars 122 = .ok (.iload_n 1, 1) := by decide +kernel
theorem dX8_readVars_123 : decode cX8_readVars 123 = .ok (.invokevirtual 243, 3) := by decide +kernel
theorem dX8_readVars_126 : decode cX8_readVars 126 = .ok (.goto 4, 3) := by decide +kernel
theorem dX8_readVars_129 : decode cX8_readVars 129 = .ok (.iconst (-1), 1) := by decide +kernel
theorem dX8_readVars_130 : decode cX8_readVars 130 = .ok (.istore 5, 2) := by decide +kernel
theorem dX8_readVars_132 : decode cX8_readVars 132 = .ok (.iload 5, 2) := by decide +kernel
theorem dX8_readVars_134 : decode cX8_readVars 134 = .ok (.ifCond .ge 25, 3) := by decide +kernel
theorem dX8_readVars_137 : decode cX8_readVars 137 = .ok (.aload_n 0, 1) := by decide +kernel
theorem dX8_readVars_138 : decode cX8_readVars 138 = .ok (.iconst 2, 1) := by decide +kernel
theorem dX8_readVars_139 : decode cX8_readVars 139 = .ok (.invokevirtual 199, 3) := by decide +kernel
theorem dX8_readVars_142 : decode cX8_readVars 142 = .ok (.ifCond .eq 12, 3) := by decide +kernel
theorem dX8_readVars_145 : decode cX8_readVars 145 = .ok (.aload_n 0, 1) := by decide +kernel
theorem dX8_readVars_146 : decode cX8_readVars 146 = .ok (.iconst 3, 1) := by decide +kernel
theorem dX8_readVars_147 : decode cX8_readVars 147 = .ok (.aload_n 0, 1) := by decide +kernel
theorem dX8_readVars_148 : decode cX8_readVars 148 = .ok (.getfield 172, 3) := by decide +kernel
theorem dX8_readVars_151 : decode cX8_readVars 151 = .ok (.invokevirtual 195, 3) := by decide +kernel
theorem dX8_readVars_154 : decode cX8_readVars 154 = .ok (.aload_n 0, 1) := by decide +kernel
theorem dX8_readVars_155 : decode cX8_readVars 155 = .ok (.invokevirtual 205, 3) := by decide +kernel
theorem dX8_readVars_158 : decode cX8_readVars 158 = .ok (.return_, 1) := by decide +kernel
theorem dX8_readVars_159 : decode cX8_readVars 159 = .ok (.aload_n 0, 1) := by decide +kernel
theorem dX8_readVars_160 : decode cX8_readVars 160 = .ok (.getfield 82, 3) := by decide +kernel
theorem dX8_readVars_163 : decode cX8_readVars 163 = .ok (.iload 4, 2) := by decide +kernel
theorem dX8_readVars_165 : decode cX8_readVars 165 = .ok (.iload 5, 2) := by decide +kernel
theorem dX8_readVars_167 : decode cX8_readVars 167 = .ok (.iastore, 1) := by decide +kernel
theorem dX8_readVars_168 : decode cX8_readVars 168 = .ok (.aload_n 0, 1) := by decide +kernel
theorem dX8_readVars_169 : decode cX8_readVars 169 = .ok (.invokevirtual 202, 3) := by decide +kernel
theorem dX8_readVars_172 : decode cX8_readVars 172 = .ok (.aload_n 0, 1) := by decide +kernel
theorem dX8_readVars_173 : decode cX8_readVars 173 = .ok (.bipush 44, 2) := by decide +kernel
theorem dX8_readVars_175 : decode cX8_readVars 175 = .ok (.invokevirtual 199, 3) := by decide +kernel
theorem dX8_readVars_178 : decode cX8_readVars 178 = .ok (.ifCond .eq 17, 3) := by decide +kernel
theorem dX8_readVars_181 : decode cX8_readVars 181 = .ok (.aload_n 0, 1) := by decide +kernel
theorem dX8_readVars_182 : decode cX8_readVars 182 = .ok (.getfield 76, 3) := by decide +kernel
theorem dX8_readVars_185 : decode cX8_readVars 185 = .ok (.iload_n 2, 1) := by decide +kernel
theorem dX8_readVars_186 : decode cX8_readVars 186 = .ok (.iaload, 1) := by decide +kernel
theorem dX8_readVars_187 : decode cX8_readVars 187 = .ok (.iconst 2, 1) := by decide +kernel
theorem dX8_readVars_188 : decode cX8_readVars 188 = .ok (.if_icmp .ge 7, 3) := by decide +kernel
theorem dX8_readVars_191 : decode cX8_readVars 191 = .ok (.iconst 1, 1) := by decide +kernel
theorem dX8_readVars_192 : decode cX8_readVars 192 = .ok (.goto 4, 3) := by decide +kernel
theorem dX8_readVars_195 : decode cX8_readVars 195 = .ok (.iconst 0, 1) := by decide +kernel
theorem dX8_readVars_196 : decode cX8_readVars 196 = .ok (.istore_n 3, 1) := by decide +kernel
theorem dX8_readVars_197 : decode cX8_readVars 197 = .ok (.iload_n 3, 1) := by decide +kernel
theorem dX8_readVars_198 : decode cX8_readVars 198 = .ok (.ifCond .eq 7, 3) := by decide +kernel
theorem dX8_readVars_201 : decode cX8_readVars 201 = .ok (.aload_n 0, 1) := by decide +kernel
theorem dX8_readVars_202 : decode cX8_readVars 202 = .ok (.invokevirtual 202, 3) := by decide +kernel
theorem dX8_readVars_205 : decode cX8_readVars 205 = .ok (.goto (-193), 3) := by decide +kernel
theorem dX8_readVars_208 : decode cX8_readVars 208 = .ok (.aload_n 0, 1) := by decide +kernel
theorem dX8_readVars_209 : decode cX8_readVars 209 = .ok (.bipush 62, 2) := by decide +kernel
theorem dX8_readVars_211 : decode cX8_readVars 211 = .ok (.invokevirtual 249, 3) := by decide +kernel
theorem dX8_readVars_214 : decode cX8_readVars 214 = .ok (.return_, 1) := by decide +kernel
theorem dX8_readNest_0 : decode cX8_readNest 0 = .ok (.aload_n 0, 1) := by decide +kernel
theorem dX8_readNest_1 : decode cX8_readNest 1 = .ok (.invokevirtual 202, 3) := by decide +kernel
theorem dX8_readNest_4 : decode cX8_readNest 4 = .ok (.aload_n 0, 1) := by decide +kernel
theorem dX8_readNest_5 : decode cX8_readNest 5 = .ok (.iconst 2, 1) := by decide +kernel
theorem dX8_readNest_6 : decode cX8_readNest 6 = .ok (.invokevirtual 199, 3) := by decide +kernel
theorem dX8_readNest_9 : decode cX8_readNest 9 = .ok (.ifCond .ne 8, 3) := by decide +kernel
theorem dX8_readNest_12 : decode cX8_readNest 12 = .ok (.aload_n 0, 1) := by decide +kernel
theorem dX8_readNest_13 : decode cX8_readNest 13 = .ok (.invokevirtual 205, 3) := by decide +kernel
theorem dX8_readNest_16 : decode cX8_readNest 16 = .ok (.return_, 1) := by decide +kernel
theorem dX8_readNest_17 : decode cX8_readNest 17 = .ok (.aload_n 0, 1) := by decide +kernel
theorem dX8_readNest_18 : decode cX8_readNest 18 = .ok (.aload_n 0, 1) := by decide +kernel
theorem dX8_readNest_19 : decode cX8_readNest 19 = .ok (.getfield 182, 3) := by decide +kernel
theorem dX8_readNest_22 : decode cX8_readNest 22 = .ok (.iload_n 1, 1) := by decide +kernel
theorem dX8_readNest_23 : decode cX8_readNest 23 = .ok (.invokevirtual 243, 3) := by decide +kernel
theorem dX8_readNest_26 : decode cX8_readNest 26 = .ok (.istore_n 2, 1) := by decide +kernel
theorem dX8_readNest_27 : decode cX8_readNest 27 = .ok (.iload_n 2, 1) := by decide +kernel
theorem dX8_readNest_28 : decode cX8_readNest 28 = .ok (.ifCond .lt 8, 3) := by decide +kernel
theorem dX8_readNest_31 : decode cX8_readNest 31 = .ok (.iload_n 2, 1) := by decide +kernel
theorem dX8_readNest_32 : decode cX8_readNest 32 = .ok (.iload_n 1, 1) := by decide +kernel
theorem dX8_readNest_33 : decode cX8_readNest 33 = .ok (.if_icmp .ne 13, 3) := by decide +kernel
theorem dX8_readNest_36 : decode cX8_readNest 36 = .ok (.aload_n 0, 1) := by decide +kernel
theorem dX8_readNest_37 : decode cX8_readNest 37 = .ok (.iconst 3, 1) := by decide +kernel
theorem dX8_readNest_38 : decode cX8_readNest 38 = .ok (.aload_n 0, 1) := by decide +kernel
theorem dX8_readNest_39 : decode cX8_readNest 39 = .ok (.getfield 172, 3) := by decide +kernel
theorem dX8_readNest_42 : decode cX8_readNest 42 = .ok (.invokevirtual 195, 3) := by decide +kernel
theorem dX8_readNest_45 : decode cX8_readNest 45 = .ok (.return_, 1) := by decide +kernel
theorem dX8_readNest_46 : decode cX8_readNest 46 = .ok (.aload_n 0, 1) := by decide +kernel
theorem dX8_readNest_47 : decode cX8_readNest 47 = .ok (.iload_n 2, 1) := by decide +kernel
theorem dX8_readNest_48 : decode cX8_readNest 48 = .ok (.iload_n 1, 1) := by decide +kernel
theorem dX8_readNest_49 : decode cX8_readNest 49 = .ok (.invokevirtual 258, 3) := by decide +kernel
theorem dX8_readNest_52 : decode cX8_readNest 52 = .ok (.ifCond .eq 17, 3) := by decide +kernel
theorem dX8_readNest_55 : decode cX8_readNest 55 = .ok (.aload_n 0, 1) := by decide +kernel
theorem dX8_readNest_56 : decode cX8_readNest 56 = .ok (.getfield 73, 3) := by decide +kernel
theorem dX8_readNest_59 : decode cX8_readNest 59 = .ok (.aload_n 0, 1) := by decide +kernel
theorem dX8_readNest_60 : decode cX8_readNest 60 = .ok (.iload_n 2, 1) := by decide +kernel
theorem dX8_readNest_61 : decode cX8_readNest 61 = .ok (.invokevirtual 214, 3) := by decide +kernel
theorem dX8_readNest_64 : decode cX8_readNest 64 = .ok (.iaload, 1) := by decide +kernel
theorem dX8_readNest_65 : decode cX8_readNest 65 = .ok (.iload_n 2, 1) := by decide +kernel
theorem dX8_readNest_66 : decode cX8_readNest 66 = .ok (.if_icmp .eq 13, 3) := by decide +kernel
theorem dX8_readNest_69 : decode cX8_readNest 69 = .ok (.aload_n 0, 1) := by decide +kernel
theorem dX8_readNest_70 : decode cX8_readNest 70 = .ok (.iconst 4, 1) := by decide +kernel
theorem dX8_readNest_71 : decode cX8_readNest 71 = .ok (.aload_n 0, 1) := by decide +kernel
theorem dX8_readNest_72 : decode cX8_readNest 72 = .ok (.getfield 172, 3) := by decide +kernel
theorem dX8_readNest_75 : decode cX8_readNest 75 = .ok (.invokevirtual 195, 3) := by decide +kernel
theorem dX8_readNest_78 : decode cX8_readNest 78 = .ok (.return_, 1) := by decide +kernel
theorem dX8_readNest_79 : decode cX8_readNest 79 = .ok (.aload_n 0, 1) := by decide +kernel
theorem dX8_readNest_80 : decode cX8_readNest 80 = .ok (.getfield 73, 3) := by decide +kernel
theorem dX8_readNest_83 : decode cX8_readNest 83 = .ok (.aload_n 0, 1) := by decide +kernel
theorem dX8_readNest_84 : decode cX8_readNest 84 = .ok (.iload_n 1, 1) := by decide +kernel
theorem dX8_readNest_85 : decode cX8_readNest 85 = .ok (.invokevirtual 214, 3) := by decide +kernel
theorem dX8_readNest_88 : decode cX8_readNest 88 = .ok (.iload_n 2, 1) := by decide +kernel
theorem dX8_readNest_89 : decode cX8_readNest 89 = .ok (.iastore, 1) := by decide +kernel
theorem dX8_readNest_90 : decode cX8_readNest 90 = .ok (.aload_n 0, 1) := by decide +kernel
theorem dX8_readNest_91 : decode cX8_readNest 91 = .ok (.invokevirtual 202, 3) := by decide +kernel
theorem dX8_readNest_94 : decode cX8_readNest 94 = .ok (.return_, 1) := by decide +kernel
theorem dX8_readArguments_0 : decode cX8_readArguments 0 = .ok (.iconst 0, 1) := by decide +kernel
theorem dX8_readArguments_1 : decode cX8_readArguments 1 = .ok (.istore_n 3, 1) := by decide +kernel
theorem dX8_readArguments_2 : decode cX8_readArguments 2 = .ok (.iconst 1, 1) := by decide +kernel
theorem dX8_readArguments_3 : decode cX8_readArguments 3 = .ok (.istore 4, 2) := by decide +kernel
theorem dX8_readArguments_5 : decode cX8_readArguments 5 = .ok (.aload_n 0, 1) := by decide +kernel
theorem dX8_readArguments_6 : decode cX8_readArguments 6 = .ok (.invokevirtual 202, 3) := by decide +kernel
theorem dX8_readArguments_9 : decode cX8_readArguments 9 = .ok (.iload 4, 2) := by decide +kernel
theorem dX8_readArguments_11 : decode cX8_readArguments 11 = .ok (.ifCond .eq 61, 3) := by decide +kernel
theorem dX8_readArguments_14 : decode cX8_readArguments 14 = .ok (.aload_n 0, 1) := by decide +kernel
theorem dX8_readArguments_15 : decode cX8_readArguments 15 = .ok (.invokevirtual 261, 3) := by decide +kernel
theorem dX8_readArguments_18 : decode cX8_readArguments 18 = .ok (.ifCond .eq 54, 3) := by decide +kernel
theorem dX8_readArguments_21 : decode cX8_readArguments 21 = .ok (.aload_n 0, 1) := by decide +kernel
theorem dX8_readArguments_22 : decode cX8_readArguments 22 = .ok (.getfield 91, 3) := by decide +kernel
theorem dX8_readArguments_25 : decode cX8_readArguments 25 = .ok (.iconst 2, 1) := by decide +kernel
theorem dX8_readArguments_26 : decode cX8_readArguments 26 = .ok (.iload_n 2, 1) := by decide +kernel
theorem dX8_readArguments_27 : decode cX8_readArguments 27 = .ok (.imul, 1) := by decide +kernel
theorem dX8_readArguments_28 : decode cX8_readArguments 28 = .ok (.iload_n 3, 1) := by decide +kernel
theorem dX8_readArguments_29 : decode cX8_readArguments 29 = .ok (.iadd, 1) := by decide +kernel
theorem dX8_readArguments_30 : decode cX8_readArguments 30 = .ok (.aload_n 0, 1) := by decide +kernel
theorem dX8_readArguments_31 : decode cX8_readArguments 31 = .ok (.iload_n 1, 1) := by decide +kernel
theorem dX8_readArguments_32 : decode cX8_readArguments 32 = .ok (.invokevirtual 265, 3) := by decide +kernel
theorem dX8_readArguments_35 : decode cX8_readArguments 35 = .ok (.iastore, 1) := by decide +kernel
theorem dX8_readArguments_36 : decode cX8_readArguments 36 = .ok (.iinc 3 1, 3) := by decide +kernel
theorem dX8_readArguments_39 : decode cX8_readArguments 39 = .ok (.aload_n 0, 1) := by decide +kernel
theorem dX8_readArguments_40 : decode cX8_readArguments 40 = .ok (.bipush 44, 2) := by decide +kernel
theorem dX8_readArguments_42 : decode cX8_readArguments 42 = .ok (.invokevirtual 199, 3) := by decide +kernel
theorem dX8_readArguments_45 : decode cX8_readArguments 45 = .ok (.ifCond .eq 12, 3) := by decide +kernel
theorem dX8_readArguments_48 : decode cX8_readArguments 48 = .ok (.iload_n 3, 1) := by decide +kernel
theorem dX8_readArguments_49 : decode cX8_readArguments 49 = .ok (.iconst 2, 1) := by decide +kernel
theorem dX8_readArguments_50 : decode cX8_readArguments 50 = .ok (.if_icmp .ge 7, 3) := by decide +kernel
theorem dX8_readArguments_53 : decode cX8_readArguments 53 = .ok (.iconst 1, 1) := by decide +kernel
theorem dX8_readArguments_54 : decode cX8_readArguments 54 = .ok (.goto 4, 3) := by decide +kernel
theorem dX8_readArguments_57 : decode cX8_readArguments 57 = .ok (.iconst 0, 1) := by decide +kernel
theorem dX8_readArguments_58 : decode cX8_readArguments 58 = .ok (.istore 4, 2) := by decide +kernel
theorem dX8_readArguments_60 : decode cX8_readArguments 60 = .ok (.iload 4, 2) := by decide +kernel
theorem dX8_readArguments_62 : decode cX8_readArguments 62 = .ok (.ifCond .eq (-53), 3) := by decide +kernel
theorem dX8_readArguments_65 : decode cX8_readArguments 65 = .ok (.aload_n 0, 1) := by decide +kernel
theorem dX8_readArguments_66 : decode cX8_readArguments 66 = .ok (.invokevirtual 202, 3) := by decide +kernel
theorem dX8_readArguments_69 : decode cX8_readArguments 69 = .ok (.goto (-60), 3) := by decide +kernel
theorem dX8_readArguments_72 : decode cX8_readArguments 72 = .ok (.aload_n 0, 1) := by decide +kernel
theorem dX8_readArguments_73 : decode cX8_readArguments 73 = .ok (.bipush 62, 2) := by decide +kernel
theorem dX8_readArguments_75 : decode cX8_readArguments 75 = .ok (.invokevirtual 249, 3) := by decide +kernel
theorem dX8_readArguments_78 : decode cX8_readArguments 78 = .ok (.iload_n 3, 1) := by decide +kernel
theorem dX8_readArguments_79 : decode cX8_readArguments 79 = .ok (.ireturn, 1) := by decide +kernel
theorem dX8_readRefs_0 : decode cX8_readRefs 0 = .ok (.aload_n 0, 1) := by decide +kernel
theorem dX8_readRefs_1 : decode cX8_readRefs 1 = .ok (.iload_n 1, 1) := by decide +kernel
theorem dX8_readRefs_2 : decode cX8_readRefs 2 = .ok (.invokevirtual 214, 3) := by decide +kernel
theorem dX8_readRefs_5 : decode cX8_readRefs 5 = .ok (.istore_n 2, 1) := by decide +kernel
theorem dX8_readRefs_6 : decode cX8_readRefs 6 = .ok (.iconst 1, 1) := by decide +kernel
theorem dX8_readRefs_7 : decode cX8_readRefs 7 = .ok (.istore_n 3, 1) := by decide +kernel
theorem dX8_readRefs_8 : decode cX8_readRefs 8 = .ok (.aload_n 0, 1) := by decide +kernel
theorem dX8_readRefs_9 : decode cX8_readRefs 9 = .ok (.invokevirtual 202, 3) := by decide +kernel
theorem dX8_readRefs_12 : decode cX8_readRefs 12 = .ok (.iload_n 3, 1) := by decide +kernel
theorem dX8_readRefs_13 : decode cX8_readRefs 13 = .ok (.ifCond .eq 338, 3) := by decide +kernel
theorem dX8_readRefs_16 : decode cX8_readRefs 16 = .ok (.aload_n 0, 1) := by decide +kernel
theorem dX8_readRefs_17 : decode cX8_readRefs 17 = .ok (.invokevirtual 261, 3) := by decide +kernel
theorem dX8_readRefs_20 : decode cX8_readRefs 20 = .ok (.ifCond .eq 331, 3) := by decide +kernel
theorem dX8_readRefs_23 : decode cX8_readRefs 23 = .ok (.aload_n 0, 1) := by decide +kernel
theorem dX8_readRefs_24 : decode cX8_readRefs 24 = .ok (.iconst 2, 1) := by decide +kernel
theorem dX8_readRefs_25 : decode cX8_readRefs 25 = .ok (.invokevirtual 199, 3) := by decide +kernel
theorem dX8_readRefs_28 : decode cX8_readRefs 28 = .ok (.ifCond .ne 8, 3) := by decide +kernel
theorem dX8_readRefs_31 : decode cX8_readRefs 31 = .ok (.aload_n 0, 1) := by decide +kernel
theorem dX8_readRefs_32 : decode cX8_readRefs 32 = .ok (.invokevirtual 205, 3) := by decide +kernel
theorem dX8_readRefs_35 : decode cX8_readRefs 35 = .ok (.return_, 1) := by decide +kernel
theorem dX8_readRefs_36 : decode cX8_readRefs 36 = .ok (.aload_n 0, 1) := by decide +kernel
theorem dX8_readRefs_37 : decode cX8_readRefs 37 = .ok (.aload_n 0, 1) := by decide +kernel
theorem dX8_readRefs_38 : decode cX8_readRefs 38 = .ok (.getfield 182, 3) := by decide +kernel
theorem dX8_readRefs_41 : decode cX8_readRefs 41 = .ok (.iload_n 1, 1) := by decide +kernel
theorem dX8_readRefs_42 : decode cX8_readRefs 42 = .ok (.invokevirtual 243, 3) := by decide +kernel
theorem dX8_readRefs_45 : decode cX8_readRefs 45 = .ok (.istore 4, 2) := by decide +kernel
theorem dX8_readRefs_47 : decode cX8_readRefs 47 = .ok (.iload 4, 2) := by decide +kernel
theorem dX8_readRefs_49 : decode cX8_readRefs 49 = .ok (.ifCond .lt 9, 3) := by decide +kernel
theorem dX8_readRefs_52 : decode cX8_readRefs 52 = .ok (.iload 4, 2) := by decide +kernel
theorem dX8_readRefs_54 : decode cX8_readRefs 54 = .ok (.iload_n 1, 1) := by decide +kernel
theorem dX8_readRefs_55 : decode cX8_readRefs 55 = .ok (.if_icmp .ne 13, 3) := by decide +kernel
theorem dX8_readRefs_58 : decode cX8_readRefs 58 = .ok (.aload_n 0, 1) := by decide +kernel
theorem dX8_readRefs_59 : decode cX8_readRefs 59 = .ok (.iconst 3, 1) := by decide +kernel
theorem dX8_readRefs_60 : decode cX8_readRefs 60 = .ok (.aload_n 0, 1) := by decide +kernel
theorem dX8_readRefs_61 : decode cX8_readRefs 61 = .ok (.getfield 172, 3) := by decide +kernel
theorem dX8_readRefs_64 : decode cX8_readRefs 64 = .ok (.invokevirtual 195, 3) := by decide +kernel
theorem dX8_readRefs_67 : decode cX8_readRefs 67 = .ok (.return_, 1) := by decide +kernel
theorem dX8_readRefs_68 : decode cX8_readRefs 68 = .ok (.iconst 0, 1) := by decide +kernel
theorem dX8_readRefs_69 : decode cX8_readRefs 69 = .ok (.istore 5, 2) := by decide +kernel
theorem dX8_readRefs_71 : decode cX8_readRefs 71 = .ok (.iconst 0, 1) := by decide +kernel
theorem dX8_readRefs_72 : decode cX8_readRefs 72 = .ok (.istore 6, 2) := by decide +kernel
theorem dX8_readRefs_74 : decode cX8_readRefs 74 = .ok (.iload 6, 2) := by decide +kernel
theorem dX8_readRefs_76 : decode cX8_readRefs 76 = .ok (.aload_n 0, 1) := by decide +kernel
theorem dX8_readRefs_77 : decode cX8_readRefs 77 = .ok (.getfield 85, 3) := by decide +kernel
theorem dX8_readRefs_80 : decode cX8_readRefs 80 = .ok (.iload_n 2, 1) := by decide +kernel
theorem dX8_readRefs_81 : decode cX8_readRefs 81 = .ok (.iaload, 1) := by decide +kernel
theorem dX8_readRefs_82 : decode cX8_readRefs 82 = .ok (.if_icmp .ge 37, 3) := by decide +kernel
theorem dX8_readRefs_85 : decode cX8_readRefs 85 = .ok (.iload 5, 2) := by decide +kernel
theorem dX8_readRefs_87 : decode cX8_readRefs 87 = .ok (.ifCond .ne 19, 3) := by decide +kernel
theorem dX8_readRefs_90 : decode cX8_readRefs 90 = .ok (.aload_n 0, 1) := by decide +kernel
theorem dX8_readRefs_91 : decode cX8_readRefs 91 = .ok (.getfield 88, 3) := by decide +kernel
theorem dX8_readRefs_94 : decode cX8_readRefs 94 = .ok (.iconst 5, 1) := by decide +kernel
theorem dX8_readRefs_95 : decode cX8_readRefs 95 = .ok (.iload_n 2, 1) := by decide +kernel
theorem dX8_readRefs_96 : decode cX8_readRefs 96 = .ok (.imul, 1) := by decide +kernel
theorem dX8_readRefs_97 : decode cX8_readRefs 97 = .ok (.iload 6, 2) := by decide +kernel
theorem dX8_readRefs_99 : decode cX8_readRefs 99 = .ok (.iadd, 1) := by decide +kernel
theorem dX8_readRefs_100 : decode cX8_readRefs 100 = .ok (.iaload, 1) := by decide +kernel
theorem dX8_readRefs_101 : decode cX8_readRefs 101 = .ok (.iload 4, 2) := by decide +kernel
theorem dX8_readRefs_103 : decode cX8_readRefs 103 = .ok (.if_icmp .ne 7, 3) := by decide +kernel
theorem dX8_readRefs_106 : decode cX8_readRefs 106 = .ok (.iconst 1, 1) := by decide +kernel
theorem dX8_readRefs_107 : decode cX8_readRefs 107 = .ok (.goto 4, 3) := by decide +kernel
theorem dX8_readRefs_110 : decode cX8_readRefs 110 = .ok (.iconst 0, 1) := by decide +kernel
theorem dX8_readRefs_111 : decode cX8_readRefs 111 = .ok (.istore 5, 2) := by decide +kernel
theorem dX8_readRefs_113 : decode cX8_readRefs 113 = .ok (.iinc 6 1, 3) := by decide +kernel
theorem dX8_readRefs_116 : decode cX8_readRefs 116 = .ok (.goto (-42), 3) := by decide +kernel
theorem dX8_readRefs_119 : decode cX8_readRefs 119 = .ok (.iload 5, 2) := by decide +kernel
theorem dX8_readRefs_121 : decode cX8_readRefs 121 = .ok (.ifCond .ne 37, 3) := by decide +kernel
theorem dX8_readRefs_124 : decode cX8_readRefs 124 = .ok (.aload_n 0, 1) := by decide +kernel
theorem dX8_readRefs_125 : decode cX8_readRefs 125 = .ok (.getfield 70, 3) := by decide +kernel
theorem dX8_readRefs_128 : decode cX8_readRefs 128 = .ok (.aload_n 0, 1) := by decide +kernel
theorem dX8_readRefs_129 : decode cX8_readRefs 129 = .ok (.iload 4, 2) := by decide +kernel
theorem dX8_readRefs_131 : decode cX8_readRefs 131 = .ok (.invokevirtual 214, 3) := by decide +kernel
theorem dX8_readRefs_134 : decode cX8_readRefs 134 = .ok (.iaload, 1) := by decide +kernel
theorem dX8_readRefs_135 : decode cX8_readRefs 135 = .ok (.iconst 2, 1) := by decide +kernel
theorem dX8_readRefs_136 : decode cX8_readRefs 136 = .ok (.if_icmp .ge 32, 3) := by decide +kernel
theorem dX8_readRefs_139 : decode cX8_readRefs 139 = .ok (.aload_n 0, 1) := by decide +kernel
theorem dX8_readRefs_140 : decode cX8_readRefs 140 = .ok (.getfield 70, 3) := by decide +kernel
theorem dX8_readRefs_143 : decode cX8_readRefs 143 = .ok (.iload_n 2, 1) := by decide +kernel
theorem dX8_readRefs_144 : decode cX8_readRefs 144 = .ok (.iaload, 1) := by decide +kernel
theorem dX8_readRefs_145 : decode cX8_readRefs 145 = .ok (.iconst 2, 1) := by decide +kernel
theorem dX8_readRefs_146 : decode cX8_readRefs 146 = .ok (.if_icmp .eq 12, 3) := by decide +kernel
theorem dX8_readRefs_149 : decode cX8_readRefs 149 = .ok (.aload_n 0, 1) := by decide +kernel
theorem dX8_readRefs_150 : decode cX8_readRefs 150 = .ok (.getfield 85, 3) := by decide +kernel
theorem dX8_readRefs_153 : decode cX8_readRefs 153 = .ok (.iload_n 2, 1) := by decide +kernel
theorem dX8_readRefs_154 : decode cX8_readRefs 154 = .ok (.iaload, 1) := by decide +kernel
theorem dX8_readRefs_155 : decode cX8_readRefs 155 = .ok (.ifCond .le 13, 3) := by decide +kernel
theorem dX8_readRefs_158 : decode cX8_readRefs 158 = .ok (.aload_n 0, 1) := by decide +kernel
theorem dX8_readRefs_159 : decode cX8_readRefs 159 = .ok (.iconst 4, 1) := by decide +kernel
theorem dX8_readRefs_160 : decode cX8_readRefs 160 = .ok (.aload_n 0, 1) := by decide +kernel
theorem dX8_readRefs_161 : decode cX8_readRefs 161 = .ok (.getfield 172, 3) := by decide +kernel
theorem dX8_readRefs_164 : decode cX8_readRefs 164 = .ok (.invokevirtual 195, 3) := by decide +kernel
theorem dX8_readRefs_167 : decode cX8_readRefs 167 = .ok (.return_, 1) := by decide +kernel
theorem dX8_readRefs_168 : decode cX8_readRefs 168 = .ok (.aload_n 0, 1) := by decide +kernel
theorem dX8_readRefs_169 : decode cX8_readRefs 169 = .ok (.getfield 85, 3) := by decide +kernel
theorem dX8_readRefs_172 : decode cX8_readRefs 172 = .ok (.iload_n 2, 1) := by decide +kernel
theorem dX8_readRefs_173 : decode cX8_readRefs 173 = .ok (.iaload, 1) := by decide +kernel
theorem dX8_readRefs_174 : decode cX8_readRefs 174 = .ok (.iconst 4, 1) := by decide +kernel
theorem dX8_readRefs_175 : decode cX8_readRefs 175 = .ok (.if_icmp .ne 14, 3) := by decide +kernel
theorem dX8_readRefs_178 : decode cX8_readRefs 178 = .ok (.aload_n 0, 1) := by decide +kernel
theorem dX8_readRefs_179 : decode cX8_readRefs 179 = .ok (.bipush 6, 2) := by decide +kernel
theorem dX8_readRefs_181 : decode cX8_readRefs 181 = .ok (.aload_n 0, 1) := by decide +kernel
theorem dX8_readRefs_182 : decode cX8_readRefs 182 = .ok (.getfield 172, 3) := by decide +kernel
theorem dX8_readRefs_185 : decode cX8_readRefs 185 = .ok (.invokevirtual 195, 3) := by decide +kernel
theorem dX8_readRefs_188 : decode cX8_readRefs 188 = .ok (.return_, 1) := by decide +kernel
theorem dX8_readRefs_189 : decode cX8_readRefs 189 = .ok (.iconst 5, 1) := by decide +kernel
theorem dX8_readRefs_190 : decode cX8_readRefs 190 = .ok (.iload_n 2, 1) := by decide +kernel
theorem dX8_readRefs_191 : decode cX8_readRefs 191 = .ok (.imul, 1) := by decide +kernel
theorem dX8_readRefs_192 : decode cX8_readRefs 192 = .ok (.aload_n 0, 1) := by decide +kernel
theorem dX8_readRefs_193 : decode cX8_readRefs 193 = .ok (.getfield 85, 3) := by decide +kernel
theorem dX8_readRefs_196 : decode cX8_readRefs 196 = .ok (.iload_n 2, 1) := by decide +kernel
theorem dX8_readRefs_197 : decode cX8_readRefs 197 = .ok (.iaload, 1) := by decide +kernel
theorem dX8_readRefs_198 : decode cX8_readRefs 198 = .ok (.iadd, 1) := by decide +kernel
theorem dX8_readRefs_199 : decode cX8_readRefs 199 = .ok (.istore 6, 2) := by decide +kernel
theorem dX8_readRefs_201 : decode cX8_readRefs 201 = .ok (.aload_n 0, 1) := by decide +kernel
theorem dX8_readRefs_202 : decode cX8_readRefs 202 = .ok (.getfield 88, 3) := by decide +kernel
theorem dX8_readRefs_205 : decode cX8_readRefs 205 = .ok (.iload 6, 2) := by decide +kernel
theorem dX8_readRefs_207 : decode cX8_readRefs 207 = .ok (.iload 4, 2) := by decide +kernel
theorem dX8_readRefs_209 : decode cX8_readRefs 209 = .ok (.iastore, 1) := by decide +kernel
theorem dX8_readRefs_210 : decode cX8_readRefs 210 = .ok (.aload_n 0, 1) := by decide +kernel
theorem dX8_readRefs_211 : decode cX8_readRefs 211 = .ok (.getfield 85, 3) := by decide +kernel
theorem dX8_readRefs_214 : decode cX8_readRefs 214 = .ok (.iload_n 2, 1) := by decide +kernel
theorem dX8_readRefs_215 : decode cX8_readRefs 215 = .ok (.dup2, 1) := by decide +kernel
theorem dX8_readRefs_216 : decode cX8_readRefs 216 = .ok (.iaload, 1) := by decide +kernel
theorem dX8_readRefs_217 : decode cX8_readRefs 217 = .ok (.iconst 1, 1) := by decide +kernel
theorem dX8_readRefs_218 : decode cX8_readRefs 218 = .ok (.iadd, 1) := by decide +kernel
theorem dX8_readRefs_219 : decode cX8_readRefs 219 = .ok (.iastore, 1) := by decide +kernel
theorem dX8_readRefs_220 : decode cX8_readRefs 220 = .ok (.aload_n 0, 1) := by decide +kernel
theorem dX8_readRefs_221 : decode cX8_readRefs 221 = .ok (.getfield 94, 3) := by decide +kernel
theorem dX8_readRefs_224 : decode cX8_readRefs 224 = .ok (.iload_n 2, 1) := by decide +kernel
theorem dX8_readRefs_225 : decode cX8_readRefs 225 = .ok (.aload_n 0, 1) := by decide +kernel
theorem dX8_readRefs_226 : decode cX8_readRefs 226 = .ok (.getfield 70, 3) := by decide +kernel
theorem dX8_readRefs_229 : decode cX8_readRefs 229 = .ok (.aload_n 0, 1) := by decide +kernel
theorem dX8_readRefs_230 : decode cX8_readRefs 230 = .ok (.iload 4, 2) := by decide +kernel
theorem dX8_readRefs_232 : decode cX8_readRefs 232 = .ok (.invokevirtual 214, 3) := by decide +kernel
theorem dX8_readRefs_235 : decode cX8_readRefs 235 = .ok (.iaload, 1) := by decide +kernel
theorem dX8_readRefs_236 : decode cX8_readRefs 236 = .ok (.iconst 2, 1) := by decide +kernel
theorem dX8_readRefs_237 : decode cX8_readRefs 237 = .ok (.if_icmp .ge 8, 3) := by decide +kernel
theorem dX8_readRefs_240 : decode cX8_readRefs 240 = .ok (.iload 4, 2) := by decide +kernel
theorem dX8_readRefs_242 : decode cX8_readRefs 242 = .ok (.goto 9, 3) := by decide +kernel
theorem dX8_readRefs_245 : decode cX8_readRefs 245 = .ok (.aload_n 0, 1) := by decide +kernel
theorem dX8_readRefs_246 : decode cX8_readRefs 246 = .ok (.getfield 94, 3) := by decide +kernel
theorem dX8_readRefs_249 : decode cX8_readRefs 249 = .ok (.iload_n 2, 1) := by decide +kernel
theorem dX8_readRefs_250 : decode cX8_readRefs 250 = .ok (.iaload, 1) := by decide +kernel
theorem dX8_readRefs_251 : decode cX8_readRefs 251 = .ok (.iastore, 1) := by decide +kernel
theorem dX8_readRefs_252 : decode cX8_readRefs 252 = .ok (.aload_n 0, 1) := by decide +kernel
theorem dX8_readRefs_253 : decode cX8_readRefs 253 = .ok (.invokevirtual 202, 3) := by decide +kernel
theorem dX8_readRefs_256 : decode cX8_readRefs 256 = .ok (.aload_n 0, 1) := by decide +kernel
theorem dX8_readRefs_257 : decode cX8_readRefs 257 = .ok (.bipush 60, 2) := by decide +kernel
theorem dX8_readRefs_259 : decode cX8_readRefs 259 = .ok (.invokevirtual 199, 3) := by decide +kernel
theorem dX8_readRefs_262 : decode cX8_readRefs 262 = .ok (.ifCond .eq 13, 3) := by decide +kernel
theorem dX8_readRefs_265 : decode cX8_readRefs 265 = .ok (.aload_n 0, 1) := by decide +kernel
theorem dX8_readRefs_266 : decode cX8_readRefs 266 = .ok (.iload_n 1, 1) := by decide +kernel
theorem dX8_readRefs_267 : decode cX8_readRefs 267 = .ok (.iload 6, 2) := by decide +kernel
theorem dX8_readRefs_269 : decode cX8_readRefs 269 = .ok (.invokevirtual 268, 3) := by decide +kernel
theorem dX8_readRefs_272 : decode cX8_readRefs 272 = .ok (.goto 4, 3) := by decide +kernel
theorem dX8_readRefs_275 : decode cX8_readRefs 275 = .ok (.iconst 0, 1) := by decide +kernel
theorem dX8_readRefs_276 : decode cX8_readRefs 276 = .ok (.istore 7, 2) := by decide +kernel
theorem dX8_readRefs_278 : decode cX8_readRefs 278 = .ok (.aload_n 0, 1) := by decide +kernel
theorem dX8_readRefs_279 : decode cX8_readRefs 279 = .ok (.invokevirtual 261, 3) := by decide +kernel
theorem dX8_readRefs_282 : decode cX8_readRefs 282 = .ok (.ifCond .eq 51, 3) := by decide +kernel
theorem dX8_readRefs_285 : decode cX8_readRefs 285 = .ok (.iload 7, 2) := by decide +kernel
theorem dX8_readRefs_287 : decode cX8_readRefs 287 = .ok (.aload_n 0, 1) := by decide +kernel
theorem dX8_readRefs_288 : decode cX8_readRefs 288 = .ok (.getfield 76, 3) := by decide +kernel
theorem dX8_readRefs_291 : decode cX8_readRefs 291 = .ok (.aload_n 0, 1) := by decide +kernel
theorem dX8_readRefs_292 : decode cX8_readRefs 292 = .ok (.iload 4, 2) := by decide +kernel
theorem dX8_readRefs_294 : decode cX8_readRefs 294 = .ok (.invokevirtual 214, 3) := by decide +kernel
theorem dX8_readRefs_297 : decode cX8_readRefs 297 = .ok (.iaload, 1) := by decide +kernel
theorem dX8_readRefs_298 : decode cX8_readRefs 298 = .ok (.if_icmp .eq 35, 3) := by decide +kernel
theorem dX8_readRefs_301 : decode cX8_readRefs 301 = .ok (.aload_n 0, 1) := by decide +kernel
theorem dX8_readRefs_302 : decode cX8_readRefs 302 = .ok (.getfield 175, 3) := by decide +kernel
theorem dX8_readRefs_305 : decode cX8_readRefs 305 = .ok (.bipush 44, 2) := by decide +kernel
theorem dX8_readRefs_307 : decode cX8_readRefs 307 = .ok (.if_icmp .eq 12, 3) := by decide +kernel
theorem dX8_readRefs_310 : decode cX8_readRefs 310 = .ok (.aload_n 0, 1) := by decide +kernel
theorem dX8_readRefs_311 : decode cX8_readRefs 311 = .ok (.getfield 175, 3) := by decide +kernel
theorem dX8_readRefs_314 : decode cX8_readRefs 314 = .ok (.bipush 123, 2) := by decide +kernel
theorem dX8_readRefs_316 : decode cX8_readRefs 316 = .ok (.if_icmp .ne 12, 3) := by decide +kernel
theorem dX8_readRefs_319 : decode cX8_readRefs 319 = .ok (.aload_n 0, 1) := by decide +kernel
theorem dX8_readRefs_320 : decode cX8_readRefs 320 = .ok (.iconst 4, 1) := by decide +kernel
theorem dX8_readRefs_321 : decode cX8_readRefs 321 = .ok (.aload_n 0, 1) := by decide +kernel
theorem dX8_readRefs_322 : decode cX8_readRefs 322 = .ok (.getfield 172, 3) := by decide +kernel
theorem dX8_readRefs_325 : decode cX8_readRefs 325 = .ok (.invokevirtual 195, 3) := by decide +kernel
theorem dX8_readRefs_328 : decode cX8_readRefs 328 = .ok (.aload_n 0, 1) := by decide +kernel
theorem dX8_readRefs_329 : decode cX8_readRefs 329 = .ok (.invokevirtual 205, 3) := by decide +kernel
theorem dX8_readRefs_332 : decode cX8_readRefs 332 = .ok (.return_, 1) := by decide +kernel
theorem dX8_readRefs_333 : decode cX8_readRefs 333 = .ok (.aload_n 0, 1) := by decide +kernel
theorem dX8_readRefs_334 : decode cX8_readRefs 334 = .ok (.bipush 44, 2) := by decide +kernel
theorem dX8_readRefs_336 : decode cX8_readRefs 336 = .ok (.invokevirtual 199, 3) := by decide +kernel
theorem dX8_readRefs_339 : decode cX8_readRefs 339 = .ok (.istore_n 3, 1) := by decide +kernel
theorem dX8_readRefs_340 : decode cX8_readRefs 340 = .ok (.iload_n 3, 1) := by decide +kernel
theorem dX8_readRefs_341 : decode cX8_readRefs 341 = .ok (.ifCond .eq 7, 3) := by decide +kernel
theorem dX8_readRefs_344 : decode cX8_readRefs 344 = .ok (.aload_n 0, 1) := by decide +kernel
theorem dX8_readRefs_345 : decode cX8_readRefs 345 = .ok (.invokevirtual 202, 3) := by decide +kernel
theorem dX8_readRefs_348 : decode cX8_readRefs 348 = .ok (.goto (-336), 3) := by decide +kernel
theorem dX8_readRefs_351 : decode cX8_readRefs 351 = .ok (.return_, 1) := by decide +kernel
theorem dX8_past_0 : decode cX8_past 0 = .ok (.aload_n 0, 1) := by decide +kernel
theorem dX8_past_1 : decode cX8_past 1 = .ok (.getfield 271, 3) := by decide +kernel
theorem dX8_past_4 : decode cX8_past 4 = .ok (.ifCond .eq 16, 3) := by decide +kernel
theorem dX8_past_7 : decode cX8_past 7 = .ok (.aload_n 0, 1) := by decide +kernel
theorem dX8_past_8 : decode cX8_past 8 = .ok (.bipush 6, 2) := by decide +kernel
theorem dX8_past_10 : decode cX8_past 10 = .ok (.aload_n 0, 1) := by decide +kernel
theorem dX8_past_11 : decode cX8_past 11 = .ok (.getfield 172, 3) := by decide +kernel
theorem dX8_past_14 : decode cX8_past 14 = .ok (.invokevirtual 195, 3) := by decide +kernel
theorem dX8_past_17 : decode cX8_past 17 = .ok (.goto 7, 3) := by decide +kernel
theorem dX8_past_20 : decode cX8_past 20 = .ok (.aload_n 0, 1) := by decide +kernel
theorem dX8_past_21 : decode cX8_past 21 = .ok (.invokevirtual 202, 3) := by decide +kernel
theorem dX8_past_24 : decode cX8_past 24 = .ok (.return_, 1) := by decide +kernel
theorem dX8_readAccess_0 : decode cX8_readAccess 0 = .ok (.aload_n 0, 1) := by decide +kernel
theorem dX8_readAccess_1 : decode cX8_readAccess 1 = .ok (.bipush 16, 2) := by decide +kernel
theorem dX8_readAccess_3 : decode cX8_readAccess 3 = .ok (.invokevirtual 199, 3) := by decide +kernel
theorem dX8_readAccess_6 : decode cX8_readAccess 6 = .ok (.ifCond .eq 7, 3) := by decide +kernel
theorem dX8_readAccess_9 : decode cX8_readAccess 9 = .ok (.iconst 3, 1) := by decide +kernel
theorem dX8_readAccess_10 : decode cX8_readAccess 10 = .ok (.goto 30, 3) := by decide +kernel
theorem dX8_readAccess_13 : decode cX8_readAccess 13 = .ok (.aload_n 0, 1) := by decide +kernel
theorem dX8_readAccess_14 : decode cX8_readAccess 14 = .ok (.bipush 17, 2) := by decide +kernel
theorem dX8_readAccess_16 : decode cX8_readAccess 16 = .ok (.invokevirtual 199, 3) := by decide +kernel
theorem dX8_readAccess_19 : decode cX8_readAccess 19 = .ok (.ifCond .eq 7, 3) := by decide +kernel
theorem dX8_readAccess_22 : decode cX8_readAccess 22 = .ok (.iconst 2, 1) := by decide +kernel
theorem dX8_readAccess_23 : decode cX8_readAccess 23 = .ok (.goto 17, 3) := by decide +kernel
theorem dX8_readAccess_26 : decode cX8_readAccess 26 = .ok (.aload_n 0, 1) := by decide +kernel
theorem dX8_readAccess_27 : decode cX8_readAccess 27 = .ok (.bipush 18, 2) := by decide +kernel
theorem dX8_readAccess_29 : decode cX8_readAccess 29 = .ok (.invokevirtual 199, 3) := by decide +kernel
theorem dX8_readAccess_32 : decode cX8_readAccess 32 = .ok (.ifCond .eq 7, 3) := by decide +kernel
theorem dX8_readAccess_35 : decode cX8_readAccess 35 = .ok (.iconst 0, 1) := by decide +kernel
theorem dX8_readAccess_36 : decode cX8_readAccess 36 = .ok (.goto 4, 3) := by decide +kernel
theorem dX8_readAccess_39 : decode cX8_readAccess 39 = .ok (.iconst (-1), 1) := by decide +kernel
theorem dX8_readAccess_40 : decode cX8_readAccess 40 = .ok (.istore_n 2, 1) := by decide +kernel
theorem dX8_readAccess_41 : decode cX8_readAccess 41 = .ok (.iload_n 2, 1) := by decide +kernel
theorem dX8_readAccess_42 : decode cX8_readAccess 42 = .ok (.iconst 2, 1) := by decide +kernel
theorem dX8_readAccess_43 : decode cX8_readAccess 43 = .ok (.if_icmp .ne 16, 3) := by decide +kernel
theorem dX8_readAccess_46 : decode cX8_readAccess 46 = .ok (.iload_n 1, 1) := by decide +kernel
theorem dX8_readAccess_47 : decode cX8_readAccess 47 = .ok (.ifCond .eq 12, 3) := by decide +kernel
theorem dX8_readAccess_50 : decode cX8_readAccess 50 = .ok (.aload_n 0, 1) := by decide +kernel
theorem dX8_readAccess_51 : decode cX8_readAccess 51 = .ok (.iconst 5, 1) := by decide +kernel
theorem dX8_readAccess_52 : decode cX8_readAccess 52 = .ok (.aload_n 0, 1) := by decide +kernel
theorem dX8_readAccess_53 : decode cX8_readAccess 53 = .ok (.getfield 172, 3) := by decide +kernel
theorem dX8_readAccess_56 : decode cX8_readAccess 56 = .ok (.invokevirtual 195, 3) := by decide +kernel
theorem dX8_readAccess_59 : decode cX8_readAccess 59 = .ok (.iload_n 2, 1) := by decide +kernel
theorem dX8_readAccess_60 : decode cX8_readAccess 60 = .ok (.ifCond .lt 7, 3) := by decide +kernel
theorem dX8_readAccess_63 : decode cX8_readAccess 63 = .ok (.aload_n 0, 1) := by decide +kernel
theorem dX8_readAccess_64 : decode cX8_readAccess 64 = .ok (.invokevirtual 275, 3) := by decide +kernel
theorem dX8_readAccess_67 : decode cX8_readAccess 67 = .ok (.iload_n 2, 1) := by decide +kernel
theorem dX8_readAccess_68 : decode cX8_readAccess 68 = .ok (.ireturn, 1) := by decide +kernel
theorem dX8_readShape_0 : decode cX8_readShape 0 = .ok (.aload_n 0, 1) := by decide +kernel
theorem dX8_readShape_1 : decode cX8_readShape 1 = .ok (.bipush 19, 2) := by decide +kernel
theorem dX8_readShape_3 : decode cX8_readShape 3 = .ok (.invokevirtual 199, 3) := by decide +kernel
theorem dX8_readShape_6 : decode cX8_readShape 6 = .ok (.ifCond .eq 7, 3) := by decide +kernel
theorem dX8_readShape_9 : decode cX8_readShape 9 = .ok (.iconst 1, 1) := by decide +kernel
theorem dX8_readShape_10 : decode cX8_readShape 10 = .ok (.goto 30, 3) := by decide +kernel
theorem dX8_readShape_13 : decode cX8_readShape 13 = .ok (.aload_n 0, 1) := by decide +kernel
theorem dX8_readShape_14 : decode cX8_readShape 14 = .ok (.bipush 20, 2) := by decide +kernel
theorem dX8_readShape_16 : decode cX8_readShape 16 = .ok (.invokevirtual 199, 3) := by decide +kernel
theorem dX8_readShape_19 : decode cX8_readShape 19 = .ok (.ifCond .eq 7, 3) := by decide +kernel
theorem dX8_readShape_22 : decode cX8_readShape 22 = .ok (.iconst 2, 1) := by decide +kernel
theorem dX8_readShape_23 : decode cX8_readShape 23 = .ok (.goto 17, 3) := by decide +kernel
theorem dX8_readShape_26 : decode cX8_readShape 26 = .ok (.aload_n 0, 1) := by decide +kernel
theorem dX8_readShape_27 : decode cX8_readShape 27 = .ok (.bipush 21, 2) := by decide +kernel
theorem dX8_readShape_29 : decode cX8_readShape 29 = .ok (.invokevirtual 199, 3) := by decide +kernel
theorem dX8_readShape_32 : decode cX8_readShape 32 = .ok (.ifCond .eq 7, 3) := by decide +kernel
theorem dX8_readShape_35 : decode cX8_readShape 35 = .ok (.iconst 3, 1) := by decide +kernel
theorem dX8_readShape_36 : decode cX8_readShape 36 = .ok (.goto 4, 3) := by decide +kernel
theorem dX8_readShape_39 : decode cX8_readShape 39 = .ok (.iconst (-1), 1) := by decide +kernel
theorem dX8_readShape_40 : decode cX8_readShape 40 = .ok (.istore_n 3, 1) := by decide +kernel
theorem dX8_readShape_41 : decode cX8_readShape 41 = .ok (.iload_n 3, 1) := by decide +kernel
theorem dX8_readShape_42 : decode cX8_readShape 42 = .ok (.iconst 3, 1) := by decide +kernel
theorem dX8_readShape_43 : decode cX8_readShape 43 = .ok (.if_icmp .ne 8, 3) := by decide +kernel
theorem dX8_readShape_46 : decode cX8_readShape 46 = .ok (.iload_n 1, 1) := by decide +kernel
theorem dX8_readShape_47 : decode cX8_readShape 47 = .ok (.iconst 2, 1) := by decide +kernel
theorem dX8_readShape_48 : decode cX8_readShape 48 = .ok (.if_icmp .lt 16, 3) := by decide +kernel
theorem dX8_readShape_51 : decode cX8_readShape 51 = .ok (.iload_n 3, 1) := by decide +kernel
theorem dX8_readShape_52 : decode cX8_readShape 52 = .ok (.iconst 2, 1) := by decide +kernel
theorem dX8_readShape_53 : decode cX8_readShape 53 = .ok (.if_icmp .ne 20, 3) := by decide +kernel
theorem dX8_readShape_56 : decode cX8_readShape 56 = .ok (.iload_n 1, 1) := by decide +kernel
theorem dX8_readShape_57 : decode cX8_readShape 57 = .ok (.ifCond .eq 7, 3) := by decide +kernel
theorem dX8_readShape_60 : decode cX8_readShape 60 = .ok (.iload_n 2, 1) := by decide +kernel
theorem dX8_readShape_61 : decode cX8_readShape 61 = .ok (.ifCond .ne 12, 3) := by decide +kernel
theorem dX8_readShape_64 : decode cX8_readShape 64 = .ok (.aload_n 0, 1) := by decide +kernel
theorem dX8_readShape_65 : decode cX8_readShape 65 = .ok (.iconst 5, 1) := by decide +kernel
theorem dX8_readShape_66 : decode cX8_readShape 66 = .ok (.aload_n 0, 1) := by decide +kernel
theorem dX8_readShape_67 : decode cX8_readShape 67 = .ok (.getfield 172, 3) := by decide +kernel
theorem dX8_readShape_70 : decode cX8_readShape 70 = .ok (.invokevirtual 195, 3) := by decide +kernel
theorem dX8_readShape_73 : decode cX8_readShape 73 = .ok (.iload_n 3, 1) := by decide +kernel
theorem dX8_readShape_74 : decode cX8_readShape 74 = .ok (.ifCond .lt 7, 3) := by decide +kernel
theorem dX8_readShape_77 : decode cX8_readShape 77 = .ok (.aload_n 0, 1) := by decide +kernel
theorem dX8_readShape_78 : decode cX8_readShape 78 = .ok (.invokevirtual 275, 3) := by decide +kernel
theorem dX8_readShape_81 : decode cX8_readShape 81 = .ok (.iload_n 3, 1) := by decide +kernel
theorem dX8_readShape_82 : decode cX8_readShape 82 = .ok (.ireturn, 1) := by decide +kernel
theorem dX8_readResult_0 : decode cX8_readResult 0 = .ok (.aload_n 0, 1) := by decide +kernel
theorem dX8_readResult_1 : decode cX8_readResult 1 = .ok (.bipush 23, 2) := by decide +kernel
theorem dX8_readResult_3 : decode cX8_readResult 3 = .ok (.invokevirtual 199, 3) := by decide +kernel
theorem dX8_readResult_6 : decode cX8_readResult 6 = .ok (.ifCond .eq 8, 3) := by decide +kernel
theorem dX8_readResult_9 : decode cX8_readResult 9 = .ok (.bipush (-2), 2) := by decide +kernel
theorem dX8_readResult_11 : decode cX8_readResult 11 = .ok (.goto 18, 3) := by decide +kernel
theorem dX8_readResult_14 : decode cX8_readResult 14 = .ok (.aload_n 0, 1) := by decide +kernel
theorem dX8_readResult_15 : decode cX8_readResult 15 = .ok (.bipush 22, 2) := by decide +kernel
theorem dX8_readResult_17 : decode cX8_readResult 17 = .ok (.invokevirtual 199, 3) := by decide +kernel
theorem dX8_readResult_20 : decode cX8_readResult 20 = .ok (.ifCond .eq 8, 3) := by decide +kernel
theorem dX8_readResult_23 : decode cX8_readResult 23 = .ok (.bipush (-3), 2) := by decide +kernel
theorem dX8_readResult_25 : decode cX8_readResult 25 = .ok (.goto 4, 3) := by decide +kernel
theorem dX8_readResult_28 : decode cX8_readResult 28 = .ok (.iconst (-1), 1) := by decide +kernel
theorem dX8_readResult_29 : decode cX8_readResult 29 = .ok (.istore_n 3, 1) := by decide +kernel
theorem dX8_readResult_30 : decode cX8_readResult 30 = .ok (.aload_n 0, 1) := by decide +kernel
theorem dX8_readResult_31 : decode cX8_readResult 31 = .ok (.iconst 2, 1) := by decide +kernel
theorem dX8_readResult_32 : decode cX8_readResult 32 = .ok (.invokevirtual 199, 3) := by decide +kernel
theorem dX8_readResult_35 : decode cX8_readResult 35 = .ok (.ifCond .eq 53, 3) := by decide +kernel
theorem dX8_readResult_38 : decode cX8_readResult 38 = .ok (.aload_n 0, 1) := by decide +kernel
theorem dX8_readResult_39 : decode cX8_readResult 39 = .ok (.aload_n 0, 1) := by decide +kernel
theorem dX8_readResult_40 : decode cX8_readResult 40 = .ok (.getfield 182, 3) := by decide +kernel
theorem dX8_readResult_43 : decode cX8_readResult 43 = .ok (.iload_n 1, 1) := by decide +kernel
theorem dX8_readResult_44 : decode cX8_readResult 44 = .ok (.invokevirtual 239, 3) := by decide +kernel
theorem dX8_readResult_47 : decode cX8_readResult 47 = .ok (.istore 4, 2) := by decide +kernel
theorem dX8_readResult_49 : decode cX8_readResult 49 = .ok (.iload 4, 2) := by decide +kernel
theorem dX8_readResult_51 : decode cX8_readResult 51 = .ok (.ifCond .lt 11, 3) := by decide +kernel
theorem dX8_readResult_54 : decode cX8_readResult 54 = .ok (.bipush 100, 2) := by decide +kernel
theorem dX8_readResult_56 : decode cX8_readResult 56 = .ok (.iload 4, 2) := by decide +kernel
theorem dX8_readResult_58 : decode cX8_readResult 58 = .ok (.iadd, 1) := by decide +kernel
theorem dX8_readResult_59 : decode cX8_readResult 59 = .ok (.goto 12, 3) := by decide +kernel
theorem dX8_readResult_62 : decode cX8_readResult 62 = .ok (.aload_n 0, 1) := by decide +kernel
theorem dX8_readResult_63 : decode cX8_readResult 63 = .ok (.aload_n 0, 1) := by decide +kernel
theorem dX8_readResult_64 : decode cX8_readResult 64 = .ok (.getfield 182, 3) := by decide +kernel
theorem dX8_readResult_67 : decode cX8_readResult 67 = .ok (.iload_n 1, 1) := by decide +kernel
theorem dX8_readResult_68 : decode cX8_readResult 68 = .ok (.invokevirtual 243, 3) := by decide +kernel
theorem dX8_readResult_71 : decode cX8_readResult 71 = .ok (.istore_n 3, 1) := by decide +kernel
theorem dX8_readResult_72 : decode cX8_readResult 72 = .ok (.iload_n 3, 1) := by decide +kernel
theorem dX8_readResult_73 : decode cX8_readResult 73 = .ok (.ifCond .ge 12, 3) := by decide +kernel
theorem dX8_readResult_76 : decode cX8_readResult 76 = .ok (.aload_n 0, 1) := by decide +kernel
theorem dX8_readResult_77 : decode cX8_readResult 77 = .ok (.iconst 3, 1) := by decide +kernel
theorem dX8_readResult_78 : decode cX8_readResult 78 = .ok (.aload_n 0, 1) := by decide +kernel
theorem dX8_readResult_79 : decode cX8_readResult 79 = .ok (.getfield 172, 3) := by decide +kernel
theorem dX8_readResult_82 : decode cX8_readResult 82 = .ok (.invokevirtual 195, 3) := by decide +kernel
theorem dX8_readResult_85 : decode cX8_readResult 85 = .ok (.goto 12, 3) := by decide +kernel
theorem dX8_readResult_88 : decode cX8_readResult 88 = .ok (.iload_n 3, 1) := by decide +kernel
theorem dX8_readResult_89 : decode cX8_readResult 89 = .ok (.iconst (-1), 1) := by decide +kernel
theorem dX8_readResult_90 : decode cX8_readResult 90 = .ok (.if_icmp .ne 7, 3) := by decide +kernel
theorem dX8_readResult_93 : decode cX8_readResult 93 = .ok (.aload_n 0, 1) := by decide +kernel
theorem dX8_readResult_94 : decode cX8_readResult 94 = .ok (.invokevirtual 205, 3) := by decide +kernel
theorem dX8_readResult_97 : decode cX8_readResult 97 = .ok (.iload_n 2, 1) := by decide +kernel
theorem dX8_readResult_98 : decode cX8_readResult 98 = .ok (.ifCond .eq 12, 3) := by decide +kernel
theorem dX8_readResult_101 : decode cX8_readResult 101 = .ok (.aload_n 0, 1) := by decide +kernel
theorem dX8_readResult_102 : decode cX8_readResult 102 = .ok (.iconst 5, 1) := by decide +kernel
theorem dX8_readResult_103 : decode cX8_readResult 103 = .ok (.aload_n 0, 1) := by decide +kernel
theorem dX8_readResult_104 : decode cX8_readResult 104 = .ok (.getfield 172, 3) := by decide +kernel
theorem dX8_readResult_107 : decode cX8_readResult 107 = .ok (.invokevirtual 195, 3) := by decide +kernel
theorem dX8_readResult_110 : decode cX8_readResult 110 = .ok (.aload_n 0, 1) := by decide +kernel
theorem dX8_readResult_111 : decode cX8_readResult 111 = .ok (.invokevirtual 261, 3) := by decide +kernel
theorem dX8_readResult_114 : decode cX8_readResult 114 = .ok (.ifCond .eq 7, 3) := by decide +kernel
theorem dX8_readResult_117 : decode cX8_readResult 117 = .ok (.aload_n 0, 1) := by decide +kernel
theorem dX8_readResult_118 : decode cX8_readResult 118 = .ok (.invokevirtual 275, 3) := by decide +kernel
theorem dX8_readResult_121 : decode cX8_readResult 121 = .ok (.iload_n 3, 1) := by decide +kernel
theorem dX8_readResult_122 : decode cX8_readResult 122 = .ok (.ireturn, 1) := by decide +kernel
theorem dX8_readKind_0 : decode cX8_readKind 0 = .ok (.aload_n 0, 1) := by decide +kernel
theorem dX8_readKind_1 : decode cX8_readKind 1 = .ok (.bipush 22, 2) := by decide +kernel
theorem dX8_readKind_3 : decode cX8_readKind 3 = .ok (.invokevirtual 199, 3) := by decide +kernel
theorem dX8_readKind_6 : decode cX8_readKind 6 = .ok (.ifCond .eq 10, 3) := by decide +kernel
theorem dX8_readKind_9 : decode cX8_readKind 9 = .ok (.aload_n 0, 1) := by decide +kernel
theorem dX8_readKind_10 : decode cX8_readKind 10 = .ok (.invokevirtual 202, 3) := by decide +kernel
theorem dX8_readKind_13 : decode cX8_readKind 13 = .ok (.bipush (-3), 2) := by decide +kernel
theorem dX8_readKind_15 : decode cX8_readKind 15 = .ok (.ireturn, 1) := by decide +kernel
theorem dX8_readKind_16 : decode cX8_readKind 16 = .ok (.aload_n 0, 1) := by decide +kernel
theorem dX8_readKind_17 : decode cX8_readKind 17 = .ok (.iload_n 1, 1) := by decide +kernel
theorem dX8_readKind_18 : decode cX8_readKind 18 = .ok (.invokevirtual 265, 3) := by decide +kernel
theorem dX8_readKind_21 : decode cX8_readKind 21 = .ok (.ireturn, 1) := by decide +kernel
theorem dX8_readMember_0 : decode cX8_readMember 0 = .ok (.aload_n 0, 1) := by decide +kernel
theorem dX8_readMember_1 : decode cX8_readMember 1 = .ok (.iload_n 1, 1) := by decide +kernel
theorem dX8_readMember_2 : decode cX8_readMember 2 = .ok (.invokevirtual 214, 3) := by decide +kernel
theorem dX8_readMember_5 : decode cX8_readMember 5 = .ok (.istore_n 2, 1) := by decide +kernel
theorem dX8_readMember_6 : decode cX8_readMember 6 = .ok (.aload_n 0, 1) := by decide +kernel
theorem dX8_readMember_7 : decode cX8_readMember 7 = .ok (.getfield 70, 3) := by decide +kernel
theorem dX8_readMember_10 : decode cX8_readMember 10 = .ok (.iload_n 2, 1) := by decide +kernel
theorem dX8_readMember_11 : decode cX8_readMember 11 = .ok (.iaload, 1) := by decide +kernel
theorem dX8_readMember_12 : decode cX8_readMember 12 = .ok (.iconst 2, 1) := by decide +kernel
theorem dX8_readMember_13 : decode cX8_readMember 13 = .ok (.if_icmp .ne 7, 3) := by decide +kernel
theorem dX8_readMember_16 : decode cX8_readMember 16 = .ok (.iconst 1, 1) := by decide +kernel
theorem dX8_readMember_17 : decode cX8_readMember 17 = .ok (.goto 4, 3) := by decide +kernel
theorem dX8_readMember_20 : decode cX8_readMember 20 = .ok (.iconst 0, 1) := by decide +kernel
theorem dX8_readMember_21 : decode cX8_readMember 21 = .ok (.istore_n 3, 1) := by decide +kernel
theorem dX8_readMember_22 : decode cX8_readMember 22 = .ok (.aload_n 0, 1) := by decide +kernel
theorem dX8_readMember_23 : decode cX8_readMember 23 = .ok (.aload_n 0, 1) := by decide +kernel
theorem dX8_readMember_24 : decode cX8_readMember 24 = .ok (.getfield 113, 3) := by decide +kernel
theorem dX8_readMember_27 : decode cX8_readMember 27 = .ok (.iload_n 2, 1) := by decide +kernel
theorem dX8_readMember_28 : decode cX8_readMember 28 = .ok (.iaload, 1) := by decide +kernel
theorem dX8_readMember_29 : decode cX8_readMember 29 = .ok (.bipush 8, 2) := by decide +kernel
theorem dX8_readMember_31 : decode cX8_readMember 31 = .ok (.if_icmp .eq 17, 3) := by decide +kernel
theorem dX8_readMember_34 : decode cX8_readMember 34 = .ok (.aload_n 0, 1) := by decide +kernel
theorem dX8_readMember_35 : decode cX8_readMember 35 = .ok (.getfield 49, 3) := by decide +kernel
theorem dX8_readMember_38 : decode cX8_readMember 38 = .ok (.aload_n 0, 1) := by decide +kernel
theorem dX8_readMember_39 : decode cX8_readMember 39 = .ok (.getfield 208, 3) := by decide +kernel
theorem dX8_readMember_42 : decode cX8_readMember 42 = .ok (.iaload, 1) := by decide +kernel
theorem dX8_readMember_43 : decode cX8_readMember 43 = .ok (.bipush 120, 2) := by decide +kernel
theorem dX8_readMember_45 : decode cX8_readMember 45 = .ok (.if_icmp .ne 7, 3) := by decide +kernel
theorem dX8_readMember_48 : decode cX8_readMember 48 = .ok (.iconst 1, 1) := by decide +kernel
theorem dX8_readMember_49 : decode cX8_readMember 49 = .ok (.goto 4, 3) := by decide +kernel
theorem dX8_readMember_52 : decode cX8_readMember 52 = .ok (.iconst 0, 1) := by decide +kernel
theorem dX8_readMember_53 : decode cX8_readMember 53 = .ok (.putfield 271, 3) := by decide +kernel
theorem dX8_readMember_56 : decode cX8_readMember 56 = .ok (.aload_n 0, 1) := by decide +kernel
theorem dX8_readMember_57 : decode cX8_readMember 57 = .ok (.iload_n 3, 1) := by decide +kernel
theorem dX8_readMember_58 : decode cX8_readMember 58 = .ok (.invokevirtual 278, 3) := by decide +kernel
theorem dX8_readMember_61 : decode cX8_readMember 61 = .ok (.istore 4, 2) := by decide +kernel
theorem dX8_readMember_63 : decode cX8_readMember 63 = .ok (.aload_n 0, 1) := by decide +kernel
theorem dX8_readMember_64 : decode cX8_readMember 64 = .ok (.invokevirtual 261, 3) := by decide +kernel
theorem dX8_readMember_67 : decode cX8_readMember 67 = .ok (.ifCond .eq 18, 3) := by decide +kernel
theorem dX8_readMember_70 : decode cX8_readMember 70 = .ok (.aload_n 0, 1) := by decide +kernel
theorem dX8_readMember_71 : decode cX8_readMember 71 = .ok (.aload_n 0, 1) := by decide +kernel
theorem dX8_readMember_72 : decode cX8_readMember 72 = .ok (.getfield 70, 3) := by decide +kernel
theorem dX8_readMember_75 : decode cX8_readMember 75 = .ok (.iload_n 2, 1) := by decide +kernel
theorem dX8_readMember_76 : decode cX8_readMember 76 = .ok (.iaload, 1) := by decide +kernel
theorem dX8_readMember_77 : decode cX8_readMember 77 = .ok (.iload 4, 2) := by decide +kernel
theorem dX8_readMember_79 : decode cX8_readMember 79 = .ok (.invokevirtual 282, 3) := by decide +kernel
theorem dX8_readMember_82 : decode cX8_readMember 82 = .ok (.goto 4, 3) := by decide +kernel
theorem dX8_readMember_85 : decode cX8_readMember 85 = .ok (.iconst (-1), 1) := by decide +kernel
theorem dX8_readMember_86 : decode cX8_readMember 86 = .ok (.istore 5, 2) := by decide +kernel
theorem dX8_readMember_88 : decode cX8_readMember 88 = .ok (.aload_n 0, 1) := by decide +kernel
theorem dX8_readMember_89 : decode cX8_readMember 89 = .ok (.invokevirtual 261, 3) := by decide +kernel
theorem dX8_readMember_92 : decode cX8_readMember 92 = .ok (.ifCond .ne 4, 3) := by decide +kernel
theorem dX8_readMember_95 : decode cX8_readMember 95 = .ok (.return_, 1) := by decide +kernel
theorem dX8_readMember_96 : decode cX8_readMember 96 = .ok (.aload_n 0, 1) := by decide +kernel
theorem dX8_readMember_97 : decode cX8_readMember 97 = .ok (.iload_n 1, 1) := by decide +kernel
theorem dX8_readMember_98 : decode cX8_readMember 98 = .ok (.iload_n 3, 1) := by decide +kernel
theorem dX8_readMember_99 : decode cX8_readMember 99 = .ok (.ifCond .eq 17, 3) := by decide +kernel
theorem dX8_readMember_102 : decode cX8_readMember 102 = .ok (.iload 4, 2) := by decide +kernel
theorem dX8_readMember_104 : decode cX8_readMember 104 = .ok (.ifCond .ne 12, 3) := by decide +kernel
theorem dX8_readMember_107 : decode cX8_readMember 107 = .ok (.iload 5, 2) := by decide +kernel
theorem dX8_readMember_109 : decode cX8_readMember 109 = .ok (.ifCond .ge 7, 3) := by decide +kernel
theorem dX8_readMember_112 : decode cX8_readMember 112 = .ok (.iconst 1, 1) := by decide +kernel
theorem dX8_readMember_113 : decode cX8_readMember 113 = .ok (.goto 4, 3) := by decide +kernel
theorem dX8_readMember_116 : decode cX8_readMember 116 = .ok (.iconst 0, 1) := by decide +kernel
theorem dX8_readMember_117 : decode cX8_readMember 117 = .ok (.invokevirtual 285, 3) := by decide +kernel
theorem dX8_readMember_120 : decode cX8_readMember 120 = .ok (.istore 6, 2) := by decide +kernel
theorem dX8_readMember_122 : decode cX8_readMember 122 = .ok (.aload_n 0, 1) := by decide +kernel
theorem dX8_readMember_123 : decode cX8_readMember 123 = .ok (.invokevirtual 261, 3) := by decide +kernel
theorem dX8_readMember_126 : decode cX8_readMember 126 = .ok (.ifCond .ne 4, 3) := by decide +kernel
theorem dX8_readMember_129 : decode cX8_readMember 129 = .ok (.return_, 1) := by decide +kernel
theorem dX8_readMember_130 : decode cX8_readMember 130 = .ok (.aload_n 0, 1) := by decide +kernel
theorem dX8_readMember_131 : decode cX8_readMember 131 = .ok (.aload_n 0, 1) := by decide +kernel
theorem dX8_readMember_132 : decode cX8_readMember 132 = .ok (.getfield 49, 3) := by decide +kernel
theorem dX8_readMember_135 : decode cX8_readMember 135 = .ok (.aload_n 0, 1) := by decide +kernel
theorem dX8_readMember_136 : decode cX8_readMember 136 = .ok (.getfield 208, 3) := by decide +kernel
theorem dX8_readMember_139 : decode cX8_readMember 139 = .ok (.iaload, 1) := by decide +kernel
theorem dX8_readMember_140 : decode cX8_readMember 140 = .ok (.invokevirtual 218, 3) := by decide +kernel
theorem dX8_readMember_143 : decode cX8_readMember 143 = .ok (.istore 7, 2) := by decide +kernel
theorem dX8_readMember_145 : decode cX8_readMember 145 = .ok (.aload_n 0, 1) := by decide +kernel
theorem dX8_readMember_146 : decode cX8_readMember 146 = .ok (.iconst 2, 1) := by decide +kernel
theorem dX8_readMember_147 : decode cX8_readMember 147 = .ok (.invokevirtual 199, 3) := by decide +kernel
theorem dX8_readMember_150 : decode cX8_readMember 150 = .ok (.ifCond .ne 8, 3) := by decide +kernel
theorem dX8_readMember_153 : decode cX8_readMember 153 = .ok (.aload_n 0, 1) := by decide +kernel
theorem dX8_readMember_154 : decode cX8_readMember 154 = .ok (.invokevirtual 205, 3) := by decide +kernel
theorem dX8_readMember_157 : decode cX8_readMember 157 = .ok (.return_, 1) := by decide +kernel
theorem dX8_readMember_158 : decode cX8_readMember 158 = .ok (.aload_n 0, 1) := by decide +kernel
theorem dX8_readMember_159 : decode cX8_readMember 159 = .ok (.getfield 125, 3) := by decide +kernel
theorem dX8_readMember_162 : decode cX8_readMember 162 = .ok (.iload 7, 2) := by decide +kernel
theorem dX8_readMember_164 : decode cX8_readMember 164 = .ok (.aload_n 0, 1) := by decide +kernel
theorem dX8_readMember_165 : decode cX8_readMember 165 = .ok (.getfield 182, 3) := by decide +kernel
theorem dX8_readMember_168 : decode cX8_readMember 168 = .ok (.lastore, 1) := by decide +kernel
theorem dX8_readMember_169 : decode cX8_readMember 169 = .ok (.aload_n 0, 1) := by decide +kernel
theorem dX8_readMember_170 : decode cX8_readMember 170 = .ok (.invokevirtual 202, 3) := by decide +kernel
theorem dX8_readMember_173 : decode cX8_readMember 173 = .ok (.aload_n 0, 1) := by decide +kernel
theorem dX8_readMember_174 : decode cX8_readMember 174 = .ok (.bipush 40, 2) := by decide +kernel
theorem dX8_readMember_176 : decode cX8_readMember 176 = .ok (.invokevirtual 249, 3) := by decide +kernel
theorem dX8_readMember_179 : decode cX8_readMember 179 = .ok (.iconst 0, 1) := by decide +kernel
theorem dX8_readMember_180 : decode cX8_readMember 180 = .ok (.istore 8, 2) := by decide +kernel
theorem dX8_readMember_182 : decode cX8_readMember 182 = .ok (.aload_n 0, 1) := by decide +kernel
theorem dX8_readMember_183 : decode cX8_readMember 183 = .ok (.invokevirtual 261, 3) := by decide +kernel
theorem dX8_readMember_186 : decode cX8_readMember 186 = .ok (.ifCond .eq 16, 3) := by decide +kernel
theorem dX8_readMember_189 : decode cX8_readMember 189 = .ok (.aload_n 0, 1) := by decide +kernel
theorem dX8_readMember_190 : decode cX8_readMember 190 = .ok (.getfield 175, 3) := by decide +kernel
theorem dX8_readMember_193 : decode cX8_readMember 193 = .ok (.bipush 41, 2) := by decide +kernel
theorem dX8_readMember_195 : decode cX8_readMember 195 = .ok (.if_icmp .eq 7, 3) := by decide +kernel
theorem dX8_readMember_198 : decode cX8_readMember 198 = .ok (.iconst 1, 1) := by decide +kernel
theorem dX8_readMember_199 : decode cX8_readMember 199 = .ok (.goto 4, 3) := by decide +kernel
theorem dX8_readMember_202 : decode cX8_readMember 202 = .ok (.iconst 0, 1) := by decide +kernel
theorem dX8_readMember_203 : decode cX8_readMember 203 = .ok (.istore 9, 2) := by decide +kernel
theorem dX8_readMember_205 : decode cX8_readMember 205 = .ok (.iload 9, 2) := by decide +kernel
theorem dX8_readMember_207 : decode cX8_readMember 207 = .ok (.ifCond .eq 64, 3) := by decide +kernel
theorem dX8_readMember_210 : decode cX8_readMember 210 = .ok (.aload_n 0, 1) := by decide +kernel
theorem dX8_readMember_211 : decode cX8_readMember 211 = .ok (.invokevirtual 261, 3) := by decide +kernel
theorem dX8_readMember_214 : decode cX8_readMember 214 = .ok (.ifCond .eq 57, 3) := by decide +kernel
theorem dX8_readMember_217 : decode cX8_readMember 217 = .ok (.aload_n 0, 1) := by decide +kernel
theorem dX8_readMember_218 : decode cX8_readMember 218 = .ok (.getfield 137, 3) := by decide +kernel
theorem dX8_readMember_221 : decode cX8_readMember 221 = .ok (.iconst 3, 1) := by decide +kernel
theorem dX8_readMember_222 : decode cX8_readMember 222 = .ok (.iload 7, 2) := by decide +kernel
theorem dX8_readMember_224 : decode cX8_readMember 224 = .ok (.imul, 1) := by decide +kernel
theorem dX8_readMember_225 : decode cX8_readMember 225 = .ok (.iload 8, 2) := by decide +kernel
theorem dX8_readMember_227 : decode cX8_readMember 227 = .ok (.iadd, 1) := by decide +kernel
theorem dX8_readMember_228 : decode cX8_readMember 228 = .ok (.aload_n 0, 1) := by decide +kernel
theorem dX8_readMember_229 : decode cX8_readMember 229 = .ok (.iload_n 1, 1) := by decide +kernel
theorem dX8_readMember_230 : decode cX8_readMember 230 = .ok (.invokevirtual 289, 3) := by decide +kernel
theorem dX8_readMember_233 : decode cX8_readMember 233 = .ok (.iastore, 1) := by decide +kernel
theorem dX8_readMember_234 : decode cX8_readMember 234 = .ok (.iinc 8 1, 3) := by decide +kernel
theorem dX8_readMember_237 : decode cX8_readMember 237 = .ok (.aload_n 0, 1) := by decide +kernel
theorem dX8_readMember_238 : decode cX8_readMember 238 = .ok (.bipush 44, 2) := by decide +kernel
theorem dX8_readMember_240 : decode cX8_readMember 240 = .ok (.invokevirtual 199, 3) := by decide +kernel
theorem dX8_readMember_243 : decode cX8_readMember 243 = .ok (.ifCond .eq 13, 3) := by decide +kernel
theorem dX8_readMember_246 : decode cX8_readMember 246 = .ok (.iload 8, 2) := by decide +kernel
theorem dX8_readMember_248 : decode cX8_readMember 248 = .ok (.iconst 2, 1) := by decide +kernel
theorem dX8_readMember_249 : decode cX8_readMember 249 = .ok (.if_icmp .ge 7, 3) := by decide +kernel
theorem dX8_readMember_252 : decode cX8_readMember 252 = .ok (.iconst 1, 1) := by decide +kernel
theorem dX8_readMember_253 : decode cX8_readMember 253 = .ok (.goto 4, 3) := by decide +kernel
theorem dX8_readMember_256 : decode cX8_readMember 256 = .ok (.iconst 0, 1) := by decide +kernel
theorem dX8_readMember_257 : decode cX8_readMember 257 = .ok (.istore 9, 2) := by decide +kernel
theorem dX8_readMember_259 : decode cX8_readMember 259 = .ok (.iload 9, 2) := by decide +kernel
theorem dX8_readMember_261 : decode cX8_readMember 261 = .ok (.ifCond .eq (-56), 3) := by decide +kernel
theorem dX8_readMember_264 : decode cX8_readMember 264 = .ok (.aload_n 0, 1) := by decide +kernel
theorem dX8_readMember_265 : decode cX8_readMember 265 = .ok (.invokevirtual 202, 3) := by decide +kernel
theorem dX8_readMember_268 : decode cX8_readMember 268 = .ok (.goto (-63), 3) := by decide +kernel
theorem dX8_readMember_271 : decode cX8_readMember 271 = .ok (.aload_n 0, 1) := by decide +kernel
theorem dX8_readMember_272 : decode cX8_readMember 272 = .ok (.bipush 41, 2) := by decide +kernel
theorem dX8_readMember_274 : decode cX8_readMember 274 = .ok (.invokevirtual 249, 3) := by decide +kernel
theorem dX8_readMember_277 : decode cX8_readMember 277 = .ok (.aload_n 0, 1) := by decide +kernel
theorem dX8_readMember_278 : decode cX8_readMember 278 = .ok (.bipush 59, 2) := by decide +kernel
theorem dX8_readMember_280 : decode cX8_readMember 280 = .ok (.invokevirtual 249, 3) := by decide +kernel
theorem dX8_readMember_283 : decode cX8_readMember 283 = .ok (.aload_n 0, 1) := by decide +kernel
theorem dX8_readMember_284 : decode cX8_readMember 284 = .ok (.invokevirtual 261, 3) := by decide +kernel
theorem dX8_readMember_287 : decode cX8_readMember 287 = .ok (.ifCond .eq 108, 3) := by decide +kernel
theorem dX8_readMember_290 : decode cX8_readMember 290 = .ok (.aload_n 0, 1) := by decide +kernel
theorem dX8_readMember_291 : decode cX8_readMember 291 = .ok (.getfield 122, 3) := by decide +kernel
theorem dX8_readMember_294 : decode cX8_readMember 294 = .ok (.iload 7, 2) := by decide +kernel
theorem dX8_readMember_296 : decode cX8_readMember 296 = .ok (.iload_n 1, 1) := by decide +kernel
theorem dX8_readMember_297 : decode cX8_readMember 297 = .ok (.iastore, 1) := by decide +kernel
theorem dX8_readMember_298 : decode cX8_readMember 298 = .ok (.aload_n 0, 1) := by decide +kernel
theorem dX8_readMember_299 : decode cX8_readMember 299 = .ok (.getfield 128, 3) := by decide +kernel
theorem dX8_readMember_302 : decode cX8_readMember 302 = .ok (.iload 7, 2) := by decide +kernel
theorem dX8_readMember_304 : decode cX8_readMember 304 = .ok (.iload 4, 2) := by decide +kernel
theorem dX8_readMember_306 : decode cX8_readMember 306 = .ok (.ifCond .lt 8, 3) := by decide +kernel
theorem dX8_readMember_309 : decode cX8_readMember 309 = .ok (.iload 4, 2) := by decide +kernel
theorem dX8_readMember_311 : decode cX8_readMember 311 = .ok (.goto 12, 3) := by decide +kernel
theorem dX8_readMember_314 : decode cX8_readMember 314 = .ok (.iload_n 3, 1) := by decide +kernel
theorem dX8_readMember_315 : decode cX8_readMember 315 = .ok (.ifCond .eq 7, 3) := by decide +kernel
theorem dX8_readMember_318 : decode cX8_readMember 318 = .ok (.iconst 3, 1) := by decide +kernel
theorem dX8_readMember_319 : decode cX8_readMember 319 = .ok (.goto 4, 3) := by decide +kernel
theorem dX8_readMember_322 : decode cX8_readMember 322 = .ok (.iconst 1, 1) := by decide +kernel
theorem dX8_readMember_323 : decode cX8_readMember 323 = .ok (.iastore, 1) := by decide +kernel
theorem dX8_readMember_324 : decode cX8_readMember 324 = .ok (.aload_n 0, 1) := by decide +kernel
theorem dX8_readMember_325 : decode cX8_readMember 325 = .ok (.getfield 131, 3) := by decide +kernel
theorem dX8_readMember_328 : decode cX8_readMember 328 = .ok (.iload 7, 2) := by decide +kernel
theorem dX8_readMember_330 : decode cX8_readMember 330 = .ok (.iload 5, 2) := by decide +kernel
theorem dX8_readMember_332 : decode cX8_readMember 332 = .ok (.ifCond .lt 8, 3) := by decide +kernel
theorem dX8_readMember_335 : decode cX8_readMember 335 = .ok (.iload 5, 2) := by decide +kernel
theorem dX8_readMember_337 : decode cX8_readMember 337 = .ok (.goto 12, 3) := by decide +kernel
theorem dX8_readMember_340 : decode cX8_readMember 340 = .ok (.iload_n 3, 1) := by decide +kernel
theorem dX8_readMember_341 : decode cX8_readMember 341 = .ok (.ifCond .eq 7, 3) := by decide +kernel
theorem dX8_readMember_344 : decode cX8_readMember 344 = .ok (.iconst 2, 1) := by decide +kernel
theorem dX8_readMember_345 : decode cX8_readMember 345 = .ok (.goto 4, 3) := by decide +kernel
theorem dX8_readMember_348 : decode cX8_readMember 348 = .ok (.iconst 0, 1) := by decide +kernel
theorem dX8_readMember_349 : decode cX8_readMember 349 = .ok (.iastore, 1) := by decide +kernel
theorem dX8_readMember_350 : decode cX8_readMember 350 = .ok (.aload_n 0, 1) := by decide +kernel
theorem dX8_readMember_351 : decode cX8_readMember 351 = .ok (.getfield 134, 3) := by decide +kernel
theorem dX8_readMember_354 : decode cX8_readMember 354 = .ok (.iload 7, 2) := by decide +kernel
theorem dX8_readMember_356 : decode cX8_readMember 356 = .ok (.iload 8, 2) := by decide +kernel
theorem dX8_readMember_358 : decode cX8_readMember 358 = .ok (.iastore, 1) := by decide +kernel
theorem dX8_readMember_359 : decode cX8_readMember 359 = .ok (.aload_n 0, 1) := by decide +kernel
theorem dX8_readMember_360 : decode cX8_readMember 360 = .ok (.getfield 137, 3) := by decide +kernel
theorem dX8_readMember_363 : decode cX8_readMember 363 = .ok (.iconst 3, 1) := by decide +kernel
theorem dX8_readMember_364 : decode cX8_readMember 364 = .ok (.iload 7, 2) := by decide +kernel
theorem dX8_readMember_366 : decode cX8_readMember 366 = .ok (.imul, 1) := by decide +kernel
theorem dX8_readMember_367 : decode cX8_readMember 367 = .ok (.iconst 2, 1) := by decide +kernel
theorem dX8_readMember_368 : decode cX8_readMember 368 = .ok (.iadd, 1) := by decide +kernel
theorem dX8_readMember_369 : decode cX8_readMember 369 = .ok (.iload 6, 2) := by decide +kernel
theorem dX8_readMember_371 : decode cX8_readMember 371 = .ok (.iastore, 1) := by decide +kernel
theorem dX8_readMember_372 : decode cX8_readMember 372 = .ok (.aload_n 0, 1) := by decide +kernel
theorem dX8_readMember_373 : decode cX8_readMember 373 = .ok (.getfield 49, 3) := by decide +kernel
theorem dX8_readMember_376 : decode cX8_readMember 376 = .ok (.aload_n 0, 1) := by decide +kernel
theorem dX8_readMember_377 : decode cX8_readMember 377 = .ok (.getfield 208, 3) := by decide +kernel
theorem dX8_readMember_380 : decode cX8_readMember 380 = .ok (.dup2, 1) := by decide +kernel
theorem dX8_readMember_381 : decode cX8_readMember 381 = .ok (.iaload, 1) := by decide +kernel
theorem dX8_readMember_382 : decode cX8_readMember 382 = .ok (.iconst 1, 1) := by decide +kernel
theorem dX8_readMember_383 : decode cX8_readMember 383 = .ok (.iadd, 1) := by decide +kernel
theorem dX8_readMember_384 : decode cX8_readMember 384 = .ok (.iastore, 1) := by decide +kernel
theorem dX8_readMember_385 : decode cX8_readMember 385 = .ok (.aload_n 0, 1) := by decide +kernel
theorem dX8_readMember_386 : decode cX8_readMember 386 = .ok (.getfield 113, 3) := by decide +kernel
theorem dX8_readMember_389 : decode cX8_readMember 389 = .ok (.iload_n 2, 1) := by decide +kernel
theorem dX8_readMember_390 : decode cX8_readMember 390 = .ok (.dup2, 1) := by decide +kernel
theorem dX8_readMember_391 : decode cX8_readMember 391 = .ok (.iaload, 1) := by decide +kernel
theorem dX8_readMember_392 : decode cX8_readMember 392 = .ok (.iconst 1, 1) := by decide +kernel
theorem dX8_readMember_393 : decode cX8_readMember 393 = .ok (.iadd, 1) := by decide +kernel
theorem dX8_readMember_394 : decode cX8_readMember 394 = .ok (.iastore, 1) := by decide +kernel
theorem dX8_readMember_395 : decode cX8_readMember 395 = .ok (.return_, 1) := by decide +kernel
theorem dX8_readType_0 : decode cX8_readType 0 = .ok (.aload_n 0, 1) := by decide +kernel
theorem dX8_readType_1 : decode cX8_readType 1 = .ok (.getfield 45, 3) := by decide +kernel
theorem dX8_readType_4 : decode cX8_readType 4 = .ok (.aload_n 0, 1) := by decide +kernel
theorem dX8_readType_5 : decode cX8_readType 5 = .ok (.getfield 208, 3) := by decide +kernel
theorem dX8_readType_8 : decode cX8_readType 8 = .ok (.iaload, 1) := by decide +kernel
theorem dX8_readType_9 : decode cX8_readType 9 = .ok (.istore_n 1, 1) := by decide +kernel
theorem dX8_readType_10 : decode cX8_readType 10 = .ok (.iload_n 1, 1) := by decide +kernel
theorem dX8_readType_11 : decode cX8_readType 11 = .ok (.bipush 24, 2) := by decide +kernel
theorem dX8_readType_13 : decode cX8_readType 13 = .ok (.if_icmp .ne 14, 3) := by decide +kernel
theorem dX8_readType_16 : decode cX8_readType 16 = .ok (.aload_n 0, 1) := by decide +kernel
theorem dX8_readType_17 : decode cX8_readType 17 = .ok (.bipush 6, 2) := by decide +kernel
theorem dX8_readType_19 : decode cX8_readType 19 = .ok (.aload_n 0, 1) := by decide +kernel
theorem dX8_readType_20 : decode cX8_readType 20 = .ok (.getfield 172, 3) := by decide +kernel
theorem dX8_readType_23 : decode cX8_readType 23 = .ok (.invokevirtual 195, 3) := by decide +kernel
theorem dX8_readType_26 : decode cX8_readType 26 = .ok (.return_, 1) := by decide +kernel
theorem dX8_readType_27 : decode cX8_readType 27 = .ok (.aload_n 0, 1) := by decide +kernel
theorem dX8_readType_28 : decode cX8_readType 28 = .ok (.iload_n 1, 1) := by decide +kernel
theorem dX8_readType_29 : decode cX8_readType 29 = .ok (.invokevirtual 214, 3) := by decide +kernel
theorem dX8_readType_32 : decode cX8_readType 32 = .ok (.istore_n 2, 1) := by decide +kernel
theorem dX8_readType_33 : decode cX8_readType 33 = .ok (.aload_n 0, 1) := by decide +kernel
theorem dX8_readType_34 : decode cX8_readType 34 = .ok (.bipush 20, 2) := by decide +kernel
theorem dX8_readType_36 : decode cX8_readType 36 = .ok (.invokevirtual 199, 3) := by decide +kernel
theorem dX8_readType_39 : decode cX8_readType 39 = .ok (.ifCond .eq 7, 3) := by decide +kernel
theorem dX8_readType_42 : decode cX8_readType 42 = .ok (.iconst 1, 1) := by decide +kernel
theorem dX8_readType_43 : decode cX8_readType 43 = .ok (.goto 4, 3) := by decide +kernel
theorem dX8_readType_46 : decode cX8_readType 46 = .ok (.iconst 0, 1) := by decide +kernel
theorem dX8_readType_47 : decode cX8_readType 47 = .ok (.istore_n 3, 1) := by decide +kernel
theorem dX8_readType_48 : decode cX8_readType 48 = .ok (.iload_n 3, 1) := by decide +kernel
theorem dX8_readType_49 : decode cX8_readType 49 = .ok (.iconst 1, 1) := by decide +kernel
theorem dX8_readType_50 : decode cX8_readType 50 = .ok (.if_icmp .ne 21, 3) := by decide +kernel
theorem dX8_readType_53 : decode cX8_readType 53 = .ok (.aload_n 0, 1) := by decide +kernel
theorem dX8_readType_54 : decode cX8_readType 54 = .ok (.invokevirtual 202, 3) := by decide +kernel
theorem dX8_readType_57 : decode cX8_readType 57 = .ok (.aload_n 0, 1) := by decide +kernel
theorem dX8_readType_58 : decode cX8_readType 58 = .ok (.bipush 12, 2) := by decide +kernel
theorem dX8_readType_60 : decode cX8_readType 60 = .ok (.invokevirtual 199, 3) := by decide +kernel
theorem dX8_readType_63 : decode cX8_readType 63 = .ok (.ifCond .ne 8, 3) := by decide +kernel
theorem dX8_readType_66 : decode cX8_readType 66 = .ok (.aload_n 0, 1) := by decide +kernel
theorem dX8_readType_67 : decode cX8_readType 67 = .ok (.invokevirtual 205, 3) := by decide +kernel
theorem dX8_readType_70 : decode cX8_readType 70 = .ok (.return_, 1) := by decide +kernel
theorem dX8_readType_71 : decode cX8_readType 71 = .ok (.aload_n 0, 1) := by decide +kernel
theorem dX8_readType_72 : decode cX8_readType 72 = .ok (.bipush 13, 2) := by decide +kernel
theorem dX8_readType_74 : decode cX8_readType 74 = .ok (.invokevirtual 199, 3) := by decide +kernel
theorem dX8_readType_77 : decode cX8_readType 77 = .ok (.ifCond .eq 7, 3) := by decide +kernel
theorem dX8_readType_80 : decode cX8_readType 80 = .ok (.iconst 2, 1) := by decide +kernel
theorem dX8_readType_81 : decode cX8_readType 81 = .ok (.goto 4, 3) := by decide +kernel
theorem dX8_readType_84 : decode cX8_readType 84 = .ok (.iload_n 3, 1) := by decide +kernel
theorem dX8_readType_85 : decode cX8_readType 85 = .ok (.istore_n 3, 1) := by decide +kernel
theorem dX8_readType_86 : decode cX8_readType 86 = .ok (.aload_n 0, 1) := by decide +kernel
theorem dX8_readType_87 : decode cX8_readType 87 = .ok (.invokevirtual 202, 3) := by decide +kernel
theorem dX8_readType_90 : decode cX8_readType 90 = .ok (.aload_n 0, 1) := by decide +kernel
theorem dX8_readType_91 : decode cX8_readType 91 = .ok (.iconst 2, 1) := by decide +kernel
theorem dX8_readType_92 : decode cX8_readType 92 = .ok (.invokevirtual 199, 3) := by decide +kernel
theorem dX8_readType_95 : decode cX8_readType 95 = .ok (.ifCond .ne 8, 3) := by decide +kernel
theorem dX8_readType_98 : decode cX8_readType 98 = .ok (.aload_n 0, 1) := by decide +kernel
theorem dX8_readType_99 : decode cX8_readType 99 = .ok (.invokevirtual 205, 3) := by decide +kernel
theorem dX8_readType_102 : decode cX8_readType 102 = .ok (.return_, 1) := by decide +kernel
theorem dX8_readType_103 : decode cX8_readType 103 = .ok (.iconst 0, 1) := by decide +kernel
theorem dX8_readType_104 : decode cX8_readType 104 = .ok (.istore 4, 2) := by decide +kernel
theorem dX8_readType_106 : decode cX8_readType 106 = .ok (.iload 4, 2) := by decide +kernel
theorem dX8_readType_108 : decode cX8_readType 108 = .ok (.iload_n 1, 1) := by decide +kernel
theorem dX8_readType_109 : decode cX8_readType 109 = .ok (.if_icmp .ge 38, 3) := by decide +kernel
theorem dX8_readType_112 : decode cX8_readType 112 = .ok (.aload_n 0, 1) := by decide +kernel
theorem dX8_readType_113 : decode cX8_readType 113 = .ok (.getfield 61, 3) := by decide +kernel
theorem dX8_readType_116 : decode cX8_readType 116 = .ok (.aload_n 0, 1) := by decide +kernel
theorem dX8_readType_117 : decode cX8_readType 117 = .ok (.iload 4, 2) := by decide +kernel
theorem dX8_readType_119 : decode cX8_readType 119 = .ok (.invokevirtual 214, 3) := by decide +kernel
theorem dX8_readType_122 : decode cX8_readType 122 = .ok (.laload, 1) := by decide +kernel
theorem dX8_readType_123 : decode cX8_readType 123 = .ok (.aload_n 0, 1) := by decide +kernel
theorem dX8_readType_124 : decode cX8_readType 124 = .ok (.getfield 182, 3) := by decide +kernel
theorem dX8_readType_127 : decode cX8_readType 127 = .ok (.lcmp, 1) := by decide +kernel
theorem dX8_readType_128 : decode cX8_readType 128 = .ok (.ifCond .ne 13, 3) := by decide +kernel
theorem dX8_readType_131 : decode cX8_readType 131 = .ok (.aload_n 0, 1) := by decide +kernel
theorem dX8_readType_132 : decode cX8_readType 132 = .ok (.iconst 3, 1) := by decide +kernel
theorem dX8_readType_133 : decode cX8_readType 133 = .ok (.aload_n 0, 1) := by decide +kernel
theorem dX8_readType_134 : decode cX8_readType 134 = .ok (.getfield 172, 3) := by decide +kernel
theorem dX8_readType_137 : decode cX8_readType 137 = .ok (.invokevirtual 195, 3) := by decide +kernel
theorem dX8_readType_140 : decode cX8_readType 140 = .ok (.return_, 1) := by decide +kernel
theorem dX8_readType_141 : decode cX8_readType 141 = .ok (.iinc 4 1, 3) := by decide +kernel
theorem dX8_readType_144 : decode cX8_readType 144 = .ok (.goto (-38), 3) := by decide +kernel
theorem dX8_readType_147 : decode cX8_readType 147 = .ok (.aload_n 0, 1) := by decide +kernel
theorem dX8_readType_148 : decode cX8_readType 148 = .ok (.getfield 61, 3) := by decide +kernel
theorem dX8_readType_151 : decode cX8_readType 151 = .ok (.iload_n 2, 1) := by decide +kernel
theorem dX8_readType_152 : decode cX8_readType 152 = .ok (.aload_n 0, 1) := by decide +kernel
theorem dX8_readType_153 : decode cX8_readType 153 = .ok (.getfield 182, 3) := by decide +kernel
theorem dX8_readType_156 : decode cX8_readType 156 = .ok (.lastore, 1) := by decide +kernel
theorem dX8_readType_157 : decode cX8_readType 157 = .ok (.aload_n 0, 1) := by decide +kernel
theorem dX8_readType_158 : decode cX8_readType 158 = .ok (.getfield 64, 3) := by decide +kernel
theorem dX8_readType_161 : decode cX8_readType 161 = .ok (.iload_n 2, 1) := by decide +kernel
theorem dX8_readType_162 : decode cX8_readType 162 = .ok (.aload_n 0, 1) := by decide +kernel
theorem dX8_readType_163 : decode cX8_readType 163 = .ok (.getfield 246, 3) := by decide +kernel
theorem dX8_readType_166 : decode cX8_readType 166 = .ok (.iastore, 1) := by decide +kernel
theorem dX8_readType_167 : decode cX8_readType 167 = .ok (.aload_n 0, 1) := by decide +kernel
theorem dX8_readType_168 : decode cX8_readType 168 = .ok (.getfield 67, 3) := by decide +kernel
theorem dX8_readType_171 : decode cX8_readType 171 = .ok (.iload_n 2, 1) := by decide +kernel
theorem dX8_readType_172 : decode cX8_readType 172 = .ok (.aload_n 0, 1) := by decide +kernel
theorem dX8_readType_173 : decode cX8_readType 173 = .ok (.getfield 255, 3) := by decide +kernel
theorem dX8_readType_176 : decode cX8_readType 176 = .ok (.iastore, 1) := by decide +kernel
theorem dX8_readType_177 : decode cX8_readType 177 = .ok (.aload_n 0, 1) := by decide +kernel
theorem dX8_readType_178 : decode cX8_readType 178 = .ok (.getfield 70, 3) := by decide +kernel
theorem dX8_readType_181 : decode cX8_readType 181 = .ok (.iload_n 2, 1) := by decide +kernel
theorem dX8_readType_182 : decode cX8_readType 182 = .ok (.iload_n 3, 1) := by decide +kernel
theorem dX8_readType_183 : decode cX8_readType 183 = .ok (.iastore, 1) := by decide +kernel
theorem dX8_readType_184 : decode cX8_readType 184 = .ok (.aload_n 0, 1) := by decide +kernel
theorem dX8_readType_185 : decode cX8_readType 185 = .ok (.getfield 73, 3) := by decide +kernel
theorem dX8_readType_188 : decode cX8_readType 188 = .ok (.iload_n 2, 1) := by decide +kernel
theorem dX8_readType_189 : decode cX8_readType 189 = .ok (.iload_n 1, 1) := by decide +kernel
theorem dX8_readType_190 : decode cX8_readType 190 = .ok (.iastore, 1) := by decide +kernel
theorem dX8_readType_191 : decode cX8_readType 191 = .ok (.aload_n 0, 1) := by decide +kernel
theorem dX8_readType_192 : decode cX8_readType 192 = .ok (.getfield 76, 3) := by decide +kernel
theorem dX8_readType_195 : decode cX8_readType 195 = .ok (.iload_n 2, 1) := by decide +kernel
theorem dX8_readType_196 : decode cX8_readType 196 = .ok (.iconst 0, 1) := by decide +kernel
theorem dX8_readType_197 : decode cX8_readType 197 = .ok (.iastore, 1) := by decide +kernel
theorem dX8_readType_198 : decode cX8_readType 198 = .ok (.aload_n 0, 1) := by decide +kernel
theorem dX8_readType_199 : decode cX8_readType 199 = .ok (.getfield 85, 3) := by decide +kernel
theorem dX8_readType_202 : decode cX8_readType 202 = .ok (.iload_n 2, 1) := by decide +kernel
theorem dX8_readType_203 : decode cX8_readType 203 = .ok (.iconst 0, 1) := by decide +kernel
theorem dX8_readType_204 : decode cX8_readType 204 = .ok (.iastore, 1) := by decide +kernel
theorem dX8_readType_205 : decode cX8_readType 205 = .ok (.aload_n 0, 1) := by decide +kernel
theorem dX8_readType_206 : decode cX8_readType 206 = .ok (.getfield 94, 3) := by decide +kernel
theorem dX8_readType_209 : decode cX8_readType 209 = .ok (.iload_n 2, 1) := by decide +kernel
theorem dX8_readType_210 : decode cX8_readType 210 = .ok (.bipush (-13), 2) := by decide +kernel
theorem dX8_readType_212 : decode cX8_readType 212 = .ok (.iastore, 1) := by decide +kernel
theorem dX8_readType_213 : decode cX8_readType 213 = .ok (.aload_n 0, 1) := by decide +kernel
theorem dX8_readType_214 : decode cX8_readType 214 = .ok (.getfield 110, 3) := by decide +kernel
theorem dX8_readType_217 : decode cX8_readType 217 = .ok (.iload_n 2, 1) := by decide +kernel
theorem dX8_readType_218 : decode cX8_readType 218 = .ok (.aload_n 0, 1) := by decide +kernel
theorem dX8_readType_219 : decode cX8_readType 219 = .ok (.getfield 49, 3) := by decide +kernel
theorem dX8_readType_222 : decode cX8_readType 222 = .ok (.aload_n 0, 1) := by decide +kernel
theorem dX8_readType_223 : decode cX8_readType 223 = .ok (.getfield 208, 3) := by decide +kernel
theorem dX8_readType_226 : decode cX8_readType 226 = .ok (.iaload, 1) := by decide +kernel
theorem dX8_readType_227 : decode cX8_readType 227 = .ok (.iastore, 1) := by decide +kernel
theorem dX8_readType_228 : decode cX8_readType 228 = .ok (.aload_n 0, 1) := by decide +kernel
theorem dX8_readType_229 : decode cX8_readType 229 = .ok (.getfield 113, 3) := by decide +kernel
theorem dX8_readType_232 : decode cX8_readType 232 = .ok (.iload_n 2, 1) := by decide +kernel
theorem dX8_readType_233 : decode cX8_readType 233 = .ok (.iconst 0, 1) := by decide +kernel
theorem dX8_readType_234 : decode cX8_readType 234 = .ok (.iastore, 1) := by decide +kernel
theorem dX8_readType_235 : decode cX8_readType 235 = .ok (.aload_n 0, 1) := by decide +kernel
theorem dX8_readType_236 : decode cX8_readType 236 = .ok (.invokevirtual 202, 3) := by decide +kernel
theorem dX8_readType_239 : decode cX8_readType 239 = .ok (.aload_n 0, 1) := by decide +kernel
theorem dX8_readType_240 : decode cX8_readType 240 = .ok (.bipush 60, 2) := by decide +kernel
theorem dX8_readType_242 : decode cX8_readType 242 = .ok (.invokevirtual 199, 3) := by decide +kernel
theorem dX8_readType_245 : decode cX8_readType 245 = .ok (.ifCond .eq 8, 3) := by decide +kernel
theorem dX8_readType_248 : decode cX8_readType 248 = .ok (.aload_n 0, 1) := by decide +kernel
theorem dX8_readType_249 : decode cX8_readType 249 = .ok (.iload_n 1, 1) := by decide +kernel
theorem dX8_readType_250 : decode cX8_readType 250 = .ok (.invokevirtual 292, 3) := by decide +kernel
theorem dX8_readType_253 : decode cX8_readType 253 = .ok (.iload_n 3, 1) := by decide +kernel
theorem dX8_readType_254 : decode cX8_readType 254 = .ok (.iconst 2, 1) := by decide +kernel
theorem dX8_readType_255 : decode cX8_readType 255 = .ok (.if_icmp .ge 17, 3) := by decide +kernel
theorem dX8_readType_258 : decode cX8_readType 258 = .ok (.aload_n 0, 1) := by decide +kernel
theorem dX8_readType_259 : decode cX8_readType 259 = .ok (.bipush 14, 2) := by decide +kernel
theorem dX8_readType_261 : decode cX8_readType 261 = .ok (.invokevirtual 199, 3) := by decide +kernel
theorem dX8_readType_264 : decode cX8_readType 264 = .ok (.ifCond .eq 8, 3) := by decide +kernel
theorem dX8_readType_267 : decode cX8_readType 267 = .ok (.aload_n 0, 1) := by decide +kernel
theorem dX8_readType_268 : decode cX8_readType 268 = .ok (.iload_n 1, 1) := by decide +kernel
theorem dX8_readType_269 : decode cX8_readType 269 = .ok (.invokevirtual 295, 3) := by decide +kernel
theorem dX8_readType_272 : decode cX8_readType 272 = .ok (.aload_n 0, 1) := by decide +kernel
theorem dX8_readType_273 : decode cX8_readType 273 = .ok (.bipush 58, 2) := by decide +kernel
theorem dX8_readType_275 : decode cX8_readType 275 = .ok (.invokevirtual 199, 3) := by decide +kernel
theorem dX8_readType_278 : decode cX8_readType 278 = .ok (.ifCond .eq 8, 3) := by decide +kernel
theorem dX8_readType_281 : decode cX8_readType 281 = .ok (.aload_n 0, 1) := by decide +kernel
theorem dX8_readType_282 : decode cX8_readType 282 = .ok (.iload_n 1, 1) := by decide +kernel
theorem dX8_readType_283 : decode cX8_readType 283 = .ok (.invokevirtual 298, 3) := by decide +kernel
theorem dX8_readType_286 : decode cX8_readType 286 = .ok (.aload_n 0, 1) := by decide +kernel
theorem dX8_readType_287 : decode cX8_readType 287 = .ok (.bipush 123, 2) := by decide +kernel
theorem dX8_readType_289 : decode cX8_readType 289 = .ok (.invokevirtual 249, 3) := by decide +kernel
theorem dX8_readType_292 : decode cX8_readType 292 = .ok (.aload_n 0, 1) := by decide +kernel
theorem dX8_readType_293 : decode cX8_readType 293 = .ok (.invokevirtual 261, 3) := by decide +kernel
theorem dX8_readType_296 : decode cX8_readType 296 = .ok (.ifCond .eq 20, 3) := by decide +kernel
theorem dX8_readType_299 : decode cX8_readType 299 = .ok (.aload_n 0, 1) := by decide +kernel
theorem dX8_readType_300 : decode cX8_readType 300 = .ok (.getfield 175, 3) := by decide +kernel
theorem dX8_readType_303 : decode cX8_readType 303 = .ok (.bipush 125, 2) := by decide +kernel
theorem dX8_readType_305 : decode cX8_readType 305 = .ok (.if_icmp .eq 11, 3) := by decide +kernel
theorem dX8_readType_308 : decode cX8_readType 308 = .ok (.aload_n 0, 1) := by decide +kernel
theorem dX8_readType_309 : decode cX8_readType 309 = .ok (.iload_n 1, 1) := by decide +kernel
theorem dX8_readType_310 : decode cX8_readType 310 = .ok (.invokevirtual 301, 3) := by decide +kernel
theorem dX8_readType_313 : decode cX8_readType 313 = .ok (.goto (-21), 3) := by decide +kernel
theorem dX8_readType_316 : decode cX8_readType 316 = .ok (.aload_n 0, 1) := by decide +kernel
theorem dX8_readType_317 : decode cX8_readType 317 = .ok (.invokevirtual 261, 3) := by decide +kernel
theorem dX8_readType_320 : decode cX8_readType 320 = .ok (.ifCond .eq 8, 3) := by decide +kernel
theorem dX8_readType_323 : decode cX8_readType 323 = .ok (.aload_n 0, 1) := by decide +kernel
theorem dX8_readType_324 : decode cX8_readType 324 = .ok (.iload_n 1, 1) := by decide +kernel
theorem dX8_readType_325 : decode cX8_readType 325 = .ok (.invokevirtual 304, 3) := by decide +kernel
theorem dX8_readType_328 : decode cX8_readType 328 = .ok (.aload_n 0, 1) := by decide +kernel
theorem dX8_readType_329 : decode cX8_readType 329 = .ok (.invokevirtual 261, 3) := by decide +kernel
theorem dX8_readType_332 : decode cX8_readType 332 = .ok (.ifCond .eq 20, 3) := by decide +kernel
theorem dX8_readType_335 : decode cX8_readType 335 = .ok (.aload_n 0, 1) := by decide +kernel
theorem dX8_readType_336 : decode cX8_readType 336 = .ok (.getfield 45, 3) := by decide +kernel
theorem dX8_readType_339 : decode cX8_readType 339 = .ok (.aload_n 0, 1) := by decide +kernel
theorem dX8_readType_340 : decode cX8_readType 340 = .ok (.getfield 208, 3) := by decide +kernel
theorem dX8_readType_343 : decode cX8_readType 343 = .ok (.dup2, 1) := by decide +kernel
theorem dX8_readType_344 : decode cX8_readType 344 = .ok (.iaload, 1) := by decide +kernel
theorem dX8_readType_345 : decode cX8_readType 345 = .ok (.iconst 1, 1) := by decide +kernel
theorem dX8_readType_346 : decode cX8_readType 346 = .ok (.iadd, 1) := by decide +kernel
theorem dX8_readType_347 : decode cX8_readType 347 = .ok (.iastore, 1) := by decide +kernel
theorem dX8_readType_348 : decode cX8_readType 348 = .ok (.aload_n 0, 1) := by decide +kernel
theorem dX8_readType_349 : decode cX8_readType 349 = .ok (.invokevirtual 202, 3) := by decide +kernel
theorem dX8_readType_352 : decode cX8_readType 352 = .ok (.return_, 1) := by decide +kernel
theorem dX8_compile_0 : decode cX8_compile 0 = .ok (.aload_n 0, 1) := by decide +kernel
theorem dX8_compile_1 : decode cX8_compile 1 = .ok (.iconst 1, 1) := by decide +kernel
theorem dX8_compile_2 : decode cX8_compile 2 = .ok (.aload_n 0, 1) := by decide +kernel
theorem dX8_compile_3 : decode cX8_compile 3 = .ok (.getfield 211, 3) := by decide +kernel
theorem dX8_compile_6 : decode cX8_compile 6 = .ok (.isub, 1) := by decide +kernel
theorem dX8_compile_7 : decode cX8_compile 7 = .ok (.putfield 208, 3) := by decide +kernel
theorem dX8_compile_10 : decode cX8_compile 10 = .ok (.aload_n 0, 1) := by decide +kernel
theorem dX8_compile_11 : decode cX8_compile 11 = .ok (.getfield 45, 3) := by decide +kernel
theorem dX8_compile_14 : decode cX8_compile 14 = .ok (.aload_n 0, 1) := by decide +kernel
theorem dX8_compile_15 : decode cX8_compile 15 = .ok (.getfield 208, 3) := by decide +kernel
theorem dX8_compile_18 : decode cX8_compile 18 = .ok (.iconst 0, 1) := by decide +kernel
theorem dX8_compile_19 : decode cX8_compile 19 = .ok (.iastore, 1) := by decide +kernel
theorem dX8_compile_20 : decode cX8_compile 20 = .ok (.aload_n 0, 1) := by decide +kernel
theorem dX8_compile_21 : decode cX8_compile 21 = .ok (.getfield 49, 3) := by decide +kernel
theorem dX8_compile_24 : decode cX8_compile 24 = .ok (.aload_n 0, 1) := by decide +kernel
theorem dX8_compile_25 : decode cX8_compile 25 = .ok (.getfield 208, 3) := by decide +kernel
theorem dX8_compile_28 : decode cX8_compile 28 = .ok (.iconst 0, 1) := by decide +kernel
theorem dX8_compile_29 : decode cX8_compile 29 = .ok (.iastore, 1) := by decide +kernel
theorem dX8_compile_30 : decode cX8_compile 30 = .ok (.aload_n 0, 1) := by decide +kernel
theorem dX8_compile_31 : decode cX8_compile 31 = .ok (.getfield 52, 3) := by decide +kernel
theorem dX8_compile_34 : decode cX8_compile 34 = .ok (.aload_n 0, 1) := by decide +kernel
theorem dX8_compile_35 : decode cX8_compile 35 = .ok (.getfield 208, 3) := by decide +kernel
theorem dX8_compile_38 : decode cX8_compile 38 = .ok (.iconst 0, 1) := by decide +kernel
theorem dX8_compile_39 : decode cX8_compile 39 = .ok (.iastore, 1) := by decide +kernel
theorem dX8_compile_40 : decode cX8_compile 40 = .ok (.aload_n 0, 1) := by decide +kernel
theorem dX8_compile_41 : decode cX8_compile 41 = .ok (.getfield 55, 3) := by decide +kernel
theorem dX8_compile_44 : decode cX8_compile 44 = .ok (.aload_n 0, 1) := by decide +kernel
theorem dX8_compile_45 : decode cX8_compile 45 = .ok (.getfield 208, 3) := by decide +kernel
theorem dX8_compile_48 : decode cX8_compile 48 = .ok (.iconst 0, 1) := by decide +kernel
theorem dX8_compile_49 : decode cX8_compile 49 = .ok (.iastore, 1) := by decide +kernel
theorem dX8_compile_50 : decode cX8_compile 50 = .ok (.aload_n 0, 1) := by decide +kernel
theorem dX8_compile_51 : decode cX8_compile 51 = .ok (.iconst 0, 1) := by decide +kernel
theorem dX8_compile_52 : decode cX8_compile 52 = .ok (.putfield 246, 3) := by decide +kernel
theorem dX8_compile_55 : decode cX8_compile 55 = .ok (.aload_n 0, 1) := by decide +kernel
theorem dX8_compile_56 : decode cX8_compile 56 = .ok (.iconst 0, 1) := by decide +kernel
theorem dX8_compile_57 : decode cX8_compile 57 = .ok (.putfield 255, 3) := by decide +kernel
theorem dX8_compile_60 : decode cX8_compile 60 = .ok (.aload_n 0, 1) := by decide +kernel
theorem dX8_compile_61 : decode cX8_compile 61 = .ok (.iconst 0, 1) := by decide +kernel
theorem dX8_compile_62 : decode cX8_compile 62 = .ok (.putfield 169, 3) := by decide +kernel
theorem dX8_compile_65 : decode cX8_compile 65 = .ok (.aload_n 0, 1) := by decide +kernel
theorem dX8_compile_66 : decode cX8_compile 66 = .ok (.iconst 0, 1) := by decide +kernel
theorem dX8_compile_67 : decode cX8_compile 67 = .ok (.putfield 189, 3) := by decide +kernel
theorem dX8_compile_70 : decode cX8_compile 70 = .ok (.aload_n 0, 1) := by decide +kernel
theorem dX8_compile_71 : decode cX8_compile 71 = .ok (.invokevirtual 202, 3) := by decide +kernel
theorem dX8_compile_74 : decode cX8_compile 74 = .ok (.aload_n 0, 1) := by decide +kernel
theorem dX8_compile_75 : decode cX8_compile 75 = .ok (.invokevirtual 261, 3) := by decide +kernel
theorem dX8_compile_78 : decode cX8_compile 78 = .ok (.ifCond .eq 83, 3) := by decide +kernel
theorem dX8_compile_81 : decode cX8_compile 81 = .ok (.aload_n 0, 1) := by decide +kernel
theorem dX8_compile_82 : decode cX8_compile 82 = .ok (.getfield 175, 3) := by decide +kernel
theorem dX8_compile_85 : decode cX8_compile 85 = .ok (.ifCond .eq 76, 3) := by decide +kernel
theorem dX8_compile_88 : decode cX8_compile 88 = .ok (.aload_n 0, 1) := by decide +kernel
theorem dX8_compile_89 : decode cX8_compile 89 = .ok (.getfield 175, 3) := by decide +kernel
theorem dX8_compile_92 : decode cX8_compile 92 = .ok (.bipush 10, 2) := by decide +kernel
theorem dX8_compile_94 : decode cX8_compile 94 = .ok (.if_icmp .ne 10, 3) := by decide +kernel
theorem dX8_compile_97 : decode cX8_compile 97 = .ok (.aload_n 0, 1) := by decide +kernel
theorem dX8_compile_98 : decode cX8_compile 98 = .ok (.invokevirtual 307, 3) := by decide +kernel
theorem dX8_compile_101 : decode cX8_compile 101 = .ok (.goto (-27), 3) := by decide +kernel
theorem dX8_compile_104 : decode cX8_compile 104 = .ok (.aload_n 0, 1) := by decide +kernel
theorem dX8_compile_105 : decode cX8_compile 105 = .ok (.getfield 175, 3) := by decide +kernel
theorem dX8_compile_108 : decode cX8_compile 108 = .ok (.bipush 11, 2) := by decide +kernel
theorem dX8_compile_110 : decode cX8_compile 110 = .ok (.if_icmp .ne 10, 3) := by decide +kernel
theorem dX8_compile_113 : decode cX8_compile 113 = .ok (.aload_n 0, 1) := by decide +kernel
theorem dX8_compile_114 : decode cX8_compile 114 = .ok (.invokevirtual 310, 3) := by decide +kernel
theorem dX8_compile_117 : decode cX8_compile 117 = .ok (.goto (-43), 3) := by decide +kernel
theorem dX8_compile_120 : decode cX8_compile 120 = .ok (.aload_n 0, 1) := by decide +kernel
theorem dX8_compile_121 : decode cX8_compile 121 = .ok (.getfield 175, 3) := by decide +kernel
theorem dX8_compile_124 : decode cX8_compile 124 = .ok (.bipush 20, 2) := by decide +kernel
theorem dX8_compile_126 : decode cX8_compile 126 = .ok (.if_icmp .eq 21, 3) := by decide +kernel
theorem dX8_compile_129 : decode cX8_compile 129 = .ok (.aload_n 0, 1) := by decide +kernel
theorem dX8_compile_130 : decode cX8_compile 130 = .ok (.getfield 175, 3) := by decide +kernel
theorem dX8_compile_133 : decode cX8_compile 133 = .ok (.bipush 12, 2) := by decide +kernel
theorem dX8_compile_135 : decode cX8_compile 135 = .ok (.if_icmp .eq 12, 3) := by decide +kernel
theorem dX8_compile_138 : decode cX8_compile 138 = .ok (.aload_n 0, 1) := by decide +kernel
theorem dX8_compile_139 : decode cX8_compile 139 = .ok (.getfield 175, 3) := by decide +kernel
theorem dX8_compile_142 : decode cX8_compile 142 = .ok (.bipush 13, 2) := by decide +kernel
theorem dX8_compile_144 : decode cX8_compile 144 = .ok (.if_icmp .ne 10, 3) := by decide +kernel
theorem dX8_compile_147 : decode cX8_compile 147 = .ok (.aload_n 0, 1) := by decide +kernel
theorem dX8_compile_148 : decode cX8_compile 148 = .ok (.invokevirtual 313, 3) := by decide +kernel
theorem dX8_compile_151 : decode cX8_compile 151 = .ok (.goto (-77), 3) := by decide +kernel
theorem dX8_compile_154 : decode cX8_compile 154 = .ok (.aload_n 0, 1) := by decide +kernel
theorem dX8_compile_155 : decode cX8_compile 155 = .ok (.invokevirtual 205, 3) := by decide +kernel
theorem dX8_compile_158 : decode cX8_compile 158 = .ok (.goto (-84), 3) := by decide +kernel
theorem dX8_compile_161 : decode cX8_compile 161 = .ok (.aload_n 0, 1) := by decide +kernel
theorem dX8_compile_162 : decode cX8_compile 162 = .ok (.iconst 0, 1) := by decide +kernel
theorem dX8_compile_163 : decode cX8_compile 163 = .ok (.putfield 161, 3) := by decide +kernel
theorem dX8_compile_166 : decode cX8_compile 166 = .ok (.aload_n 0, 1) := by decide +kernel
theorem dX8_compile_167 : decode cX8_compile 167 = .ok (.aload_n 0, 1) := by decide +kernel
theorem dX8_compile_168 : decode cX8_compile 168 = .ok (.getfield 189, 3) := by decide +kernel
theorem dX8_compile_171 : decode cX8_compile 171 = .ok (.putfield 316, 3) := by decide +kernel
theorem dX8_compile_174 : decode cX8_compile 174 = .ok (.aload_n 0, 1) := by decide +kernel
theorem dX8_compile_175 : decode cX8_compile 175 = .ok (.getfield 189, 3) := by decide +kernel
theorem dX8_compile_178 : decode cX8_compile 178 = .ok (.ifCond .le 11, 3) := by decide +kernel
theorem dX8_compile_181 : decode cX8_compile 181 = .ok (.bipush (-20), 2) := by decide +kernel
theorem dX8_compile_183 : decode cX8_compile 183 = .ok (.aload_n 0, 1) := by decide +kernel
theorem dX8_compile_184 : decode cX8_compile 184 = .ok (.getfield 192, 3) := by decide +kernel
theorem dX8_compile_187 : decode cX8_compile 187 = .ok (.isub, 1) := by decide +kernel
theorem dX8_compile_188 : decode cX8_compile 188 = .ok (.ireturn, 1) := by decide +kernel
theorem dX8_compile_189 : decode cX8_compile 189 = .ok (.aload_n 0, 1) := by decide +kernel
theorem dX8_compile_190 : decode cX8_compile 190 = .ok (.aload_n 0, 1) := by decide +kernel
theorem dX8_compile_191 : decode cX8_compile 191 = .ok (.getfield 208, 3) := by decide +kernel
theorem dX8_compile_194 : decode cX8_compile 194 = .ok (.putfield 211, 3) := by decide +kernel
theorem dX8_compile_197 : decode cX8_compile 197 = .ok (.aload_n 0, 1) := by decide +kernel
theorem dX8_compile_198 : decode cX8_compile 198 = .ok (.getfield 45, 3) := by decide +kernel
theorem dX8_compile_201 : decode cX8_compile 201 = .ok (.aload_n 0, 1) := by decide +kernel
theorem dX8_compile_202 : decode cX8_compile 202 = .ok (.getfield 208, 3) := by decide +kernel
theorem dX8_compile_205 : decode cX8_compile 205 = .ok (.iaload, 1) := by decide +kernel
theorem dX8_compile_206 : decode cX8_compile 206 = .ok (.ireturn, 1) := by decide +kernel
theorem dX8_fault_0 : decode cX8_fault 0 = .ok (.aload_n 0, 1) := by decide +kernel
theorem dX8_fault_1 : decode cX8_fault 1 = .ok (.getfield 316, 3) := by decide +kernel
theorem dX8_fault_4 : decode cX8_fault 4 = .ok (.ireturn, 1) := by decide +kernel
theorem dX8_puts_0 : decode cX8_puts 0 = .ok (.bipush 24, 2) := by decide +kernel
theorem dX8_puts_2 : decode cX8_puts 2 = .ok (.aload_n 0, 1) := by decide +kernel
theorem dX8_puts_3 : decode cX8_puts 3 = .ok (.iload_n 1, 1) := by decide +kernel
theorem dX8_puts_4 : decode cX8_puts 4 = .ok (.invokevirtual 214, 3) := by decide +kernel
theorem dX8_puts_7 : decode cX8_puts 7 = .ok (.imul, 1) := by decide +kernel
theorem dX8_puts_8 : decode cX8_puts 8 = .ok (.iload_n 2, 1) := by decide +kernel
theorem dX8_puts_9 : decode cX8_puts 9 = .ok (.iadd, 1) := by decide +kernel
theorem dX8_puts_10 : decode cX8_puts 10 = .ok (.istore 5, 2) := by decide +kernel
theorem dX8_puts_12 : decode cX8_puts 12 = .ok (.aload_n 0, 1) := by decide +kernel
theorem dX8_puts_13 : decode cX8_puts 13 = .ok (.getfield 103, 3) := by decide +kernel
theorem dX8_puts_16 : decode cX8_puts 16 = .ok (.iload 5, 2) := by decide +kernel
theorem dX8_puts_18 : decode cX8_puts 18 = .ok (.baload, 1) := by decide +kernel
theorem dX8_puts_19 : decode cX8_puts 19 = .ok (.ifCond .eq 65, 3) := by decide +kernel
theorem dX8_puts_22 : decode cX8_puts 22 = .ok (.aload_n 0, 1) := by decide +kernel
theorem dX8_puts_23 : decode cX8_puts 23 = .ok (.getfield 76, 3) := by decide +kernel
theorem dX8_puts_26 : decode cX8_puts 26 = .ok (.aload_n 0, 1) := by decide +kernel
theorem dX8_puts_27 : decode cX8_puts 27 = .ok (.iload_n 2, 1) := by decide +kernel
theorem dX8_puts_28 : decode cX8_puts 28 = .ok (.invokevirtual 214, 3) := by decide +kernel
theorem dX8_puts_31 : decode cX8_puts 31 = .ok (.iaload, 1) := by decide +kernel
theorem dX8_puts_32 : decode cX8_puts 32 = .ok (.ifCond .le 16, 3) := by decide +kernel
theorem dX8_puts_35 : decode cX8_puts 35 = .ok (.aload_n 0, 1) := by decide +kernel
theorem dX8_puts_36 : decode cX8_puts 36 = .ok (.getfield 107, 3) := by decide +kernel
theorem dX8_puts_39 : decode cX8_puts 39 = .ok (.iconst 2, 1) := by decide +kernel
theorem dX8_puts_40 : decode cX8_puts 40 = .ok (.iload 5, 2) := by decide +kernel
theorem dX8_puts_42 : decode cX8_puts 42 = .ok (.imul, 1) := by decide +kernel
theorem dX8_puts_43 : decode cX8_puts 43 = .ok (.iaload, 1) := by decide +kernel
theorem dX8_puts_44 : decode cX8_puts 44 = .ok (.iload_n 3, 1) := by decide +kernel
theorem dX8_puts_45 : decode cX8_puts 45 = .ok (.if_icmp .ne 33, 3) := by decide +kernel
theorem dX8_puts_48 : decode cX8_puts 48 = .ok (.aload_n 0, 1) := by decide +kernel
theorem dX8_puts_49 : decode cX8_puts 49 = .ok (.getfield 76, 3) := by decide +kernel
theorem dX8_puts_52 : decode cX8_puts 52 = .ok (.aload_n 0, 1) := by decide +kernel
theorem dX8_puts_53 : decode cX8_puts 53 = .ok (.iload_n 2, 1) := by decide +kernel
theorem dX8_puts_54 : decode cX8_puts 54 = .ok (.invokevirtual 214, 3) := by decide +kernel
theorem dX8_puts_57 : decode cX8_puts 57 = .ok (.iaload, 1) := by decide +kernel
theorem dX8_puts_58 : decode cX8_puts 58 = .ok (.iconst 1, 1) := by decide +kernel
theorem dX8_puts_59 : decode cX8_puts 59 = .ok (.if_icmp .le 23, 3) := by decide +kernel
theorem dX8_puts_62 : decode cX8_puts 62 = .ok (.aload_n 0, 1) := by decide +kernel
theorem dX8_puts_63 : decode cX8_puts 63 = .ok (.getfield 107, 3) := by decide +kernel
theorem dX8_puts_66 : decode cX8_puts 66 = .ok (.iconst 2, 1) := by decide +kernel
theorem dX8_puts_67 : decode cX8_puts 67 = .ok (.iload 5, 2) := by decide +kernel
theorem dX8_puts_69 : decode cX8_puts 69 = .ok (.imul, 1) := by decide +kernel
theorem dX8_puts_70 : decode cX8_puts 70 = .ok (.iconst 1, 1) := by decide +kernel
theorem dX8_puts_71 : decode cX8_puts 71 = .ok (.iadd, 1) := by decide +kernel
theorem dX8_puts_72 : decode cX8_puts 72 = .ok (.iaload, 1) := by decide +kernel
theorem dX8_puts_73 : decode cX8_puts 73 = .ok (.iload 4, 2) := by decide +kernel
theorem dX8_puts_75 : decode cX8_puts 75 = .ok (.if_icmp .eq 7, 3) := by decide +kernel
theorem dX8_puts_78 : decode cX8_puts 78 = .ok (.iconst 1, 1) := by decide +kernel
theorem dX8_puts_79 : decode cX8_puts 79 = .ok (.goto 4, 3) := by decide +kernel
theorem dX8_puts_82 : decode cX8_puts 82 = .ok (.iconst 0, 1) := by decide +kernel
theorem dX8_puts_83 : decode cX8_puts 83 = .ok (.ireturn, 1) := by decide +kernel
theorem dX8_puts_84 : decode cX8_puts 84 = .ok (.aload_n 0, 1) := by decide +kernel
theorem dX8_puts_85 : decode cX8_puts 85 = .ok (.getfield 103, 3) := by decide +kernel
theorem dX8_puts_88 : decode cX8_puts 88 = .ok (.iload 5, 2) := by decide +kernel
theorem dX8_puts_90 : decode cX8_puts 90 = .ok (.iconst 1, 1) := by decide +kernel
theorem dX8_puts_91 : decode cX8_puts 91 = .ok (.bastore, 1) := by decide +kernel
theorem dX8_puts_92 : decode cX8_puts 92 = .ok (.aload_n 0, 1) := by decide +kernel
theorem dX8_puts_93 : decode cX8_puts 93 = .ok (.getfield 100, 3) := by decide +kernel
theorem dX8_puts_96 : decode cX8_puts 96 = .ok (.bipush 24, 2) := by decide +kernel
theorem dX8_puts_98 : decode cX8_puts 98 = .ok (.aload_n 0, 1) := by decide +kernel
theorem dX8_puts_99 : decode cX8_puts 99 = .ok (.iload_n 1, 1) := by decide +kernel
theorem dX8_puts_100 : decode cX8_puts 100 = .ok (.invokevirtual 214, 3) := by decide +kernel
theorem dX8_puts_103 : decode cX8_puts 103 = .ok (.imul, 1) := by decide +kernel
theorem dX8_puts_104 : decode cX8_puts 104 = .ok (.aload_n 0, 1) := by decide +kernel
theorem dX8_puts_105 : decode cX8_puts 105 = .ok (.getfield 97, 3) := by decide +kernel
theorem dX8_puts_108 : decode cX8_puts 108 = .ok (.aload_n 0, 1) := by decide +kernel
theorem dX8_puts_109 : decode cX8_puts 109 = .ok (.iload_n 1, 1) := by decide +kernel
theorem dX8_puts_110 : decode cX8_puts 110 = .ok (.invokevirtual 214, 3) := by decide +kernel
theorem dX8_puts_113 : decode cX8_puts 113 = .ok (.iaload, 1) := by decide +kernel
theorem dX8_puts_114 : decode cX8_puts 114 = .ok (.iadd, 1) := by decide +kernel
theorem dX8_puts_115 : decode cX8_puts 115 = .ok (.iload_n 2, 1) := by decide +kernel
theorem dX8_puts_116 : decode cX8_puts 116 = .ok (.iastore, 1) := by decide +kernel
theorem dX8_puts_117 : decode cX8_puts 117 = .ok (.aload_n 0, 1) := by decide +kernel
theorem dX8_puts_118 : decode cX8_puts 118 = .ok (.getfield 97, 3) := by decide +kernel
theorem dX8_puts_121 : decode cX8_puts 121 = .ok (.aload_n 0, 1) := by decide +kernel
theorem dX8_puts_122 : decode cX8_puts 122 = .ok (.iload_n 1, 1) := by decide +kernel
theorem dX8_puts_123 : decode cX8_puts 123 = .ok (.invokevirtual 214, 3) := by decide +kernel
theorem dX8_puts_126 : decode cX8_puts 126 = .ok (.dup2, 1) := by decide +kernel
theorem dX8_puts_127 : decode cX8_puts 127 = .ok (.iaload, 1) := by decide +kernel
theorem dX8_puts_128 : decode cX8_puts 128 = .ok (.iconst 1, 1) := by decide +kernel
theorem dX8_puts_129 : decode cX8_puts 129 = .ok (.iadd, 1) := by decide +kernel
theorem dX8_puts_130 : decode cX8_puts 130 = .ok (.iastore, 1) := by decide +kernel
theorem dX8_puts_131 : decode cX8_puts 131 = .ok (.aload_n 0, 1) := by decide +kernel
theorem dX8_puts_132 : decode cX8_puts 132 = .ok (.getfield 107, 3) := by decide +kernel
theorem dX8_puts_135 : decode cX8_puts 135 = .ok (.iconst 2, 1) := by decide +kernel
theorem dX8_puts_136 : decode cX8_puts 136 = .ok (.iload 5, 2) := by decide +kernel
theorem dX8_puts_138 : decode cX8_puts 138 = .ok (.imul, 1) := by decide +kernel
theorem dX8_puts_139 : decode cX8_puts 139 = .ok (.iload_n 3, 1) := by decide +kernel
theorem dX8_puts_140 : decode cX8_puts 140 = .ok (.iastore, 1) := by decide +kernel
theorem dX8_puts_141 : decode cX8_puts 141 = .ok (.aload_n 0, 1) := by decide +kernel
theorem dX8_puts_142 : decode cX8_puts 142 = .ok (.getfield 107, 3) := by decide +kernel
theorem dX8_puts_145 : decode cX8_puts 145 = .ok (.iconst 2, 1) := by decide +kernel
theorem dX8_puts_146 : decode cX8_puts 146 = .ok (.iload 5, 2) := by decide +kernel
theorem dX8_puts_148 : decode cX8_puts 148 = .ok (.imul, 1) := by decide +kernel
theorem dX8_puts_149 : decode cX8_puts 149 = .ok (.iconst 1, 1) := by decide +kernel
theorem dX8_puts_150 : decode cX8_puts 150 = .ok (.iadd, 1) := by decide +kernel
theorem dX8_puts_151 : decode cX8_puts 151 = .ok (.iload 4, 2) := by decide +kernel
theorem dX8_puts_153 : decode cX8_puts 153 = .ok (.iastore, 1) := by decide +kernel
theorem dX8_puts_154 : decode cX8_puts 154 = .ok (.iconst 0, 1) := by decide +kernel
theorem dX8_puts_155 : decode cX8_puts 155 = .ok (.ireturn, 1) := by decide +kernel
theorem dX8_replaced_0 : decode cX8_replaced 0 = .ok (.iload_n 1, 1) := by decide +kernel
theorem dX8_replaced_1 : decode cX8_replaced 1 = .ok (.bipush 100, 2) := by decide +kernel
theorem dX8_replaced_3 : decode cX8_replaced 3 = .ok (.if_icmp .lt 19, 3) := by decide +kernel
theorem dX8_replaced_6 : decode cX8_replaced 6 = .ok (.aload_n 0, 1) := by decide +kernel
theorem dX8_replaced_7 : decode cX8_replaced 7 = .ok (.getfield 91, 3) := by decide +kernel
theorem dX8_replaced_10 : decode cX8_replaced 10 = .ok (.iconst 2, 1) := by decide +kernel
theorem dX8_replaced_11 : decode cX8_replaced 11 = .ok (.iload_n 2, 1) := by decide +kernel
theorem dX8_replaced_12 : decode cX8_replaced 12 = .ok (.imul, 1) := by decide +kernel
theorem dX8_replaced_13 : decode cX8_replaced 13 = .ok (.iload_n 1, 1) := by decide +kernel
theorem dX8_replaced_14 : decode cX8_replaced 14 = .ok (.iadd, 1) := by decide +kernel
theorem dX8_replaced_15 : decode cX8_replaced 15 = .ok (.bipush 100, 2) := by decide +kernel
theorem dX8_replaced_17 : decode cX8_replaced 17 = .ok (.isub, 1) := by decide +kernel
theorem dX8_replaced_18 : decode cX8_replaced 18 = .ok (.iaload, 1) := by decide +kernel
theorem dX8_replaced_19 : decode cX8_replaced 19 = .ok (.goto 4, 3) := by decide +kernel
theorem dX8_replaced_22 : decode cX8_replaced 22 = .ok (.iload_n 1, 1) := by decide +kernel
theorem dX8_replaced_23 : decode cX8_replaced 23 = .ok (.ireturn, 1) := by decide +kernel
theorem dX8_isTorn_0 : decode cX8_isTorn 0 = .ok (.aload_n 0, 1) := by decide +kernel
theorem dX8_isTorn_1 : decode cX8_isTorn 1 = .ok (.iload_n 1, 1) := by decide +kernel
theorem dX8_isTorn_2 : decode cX8_isTorn 2 = .ok (.invokevirtual 214, 3) := by decide +kernel
theorem dX8_isTorn_5 : decode cX8_isTorn 5 = .ok (.istore_n 2, 1) := by decide +kernel
theorem dX8_isTorn_6 : decode cX8_isTorn 6 = .ok (.aload_n 0, 1) := by decide +kernel
theorem dX8_isTorn_7 : decode cX8_isTorn 7 = .ok (.getfield 97, 3) := by decide +kernel
theorem dX8_isTorn_10 : decode cX8_isTorn 10 = .ok (.iload_n 2, 1) := by decide +kernel
theorem dX8_isTorn_11 : decode cX8_isTorn 11 = .ok (.iconst 0, 1) := by decide +kernel
theorem dX8_isTorn_12 : decode cX8_isTorn 12 = .ok (.iastore, 1) := by decide +kernel
theorem dX8_isTorn_13 : decode cX8_isTorn 13 = .ok (.iconst 0, 1) := by decide +kernel
theorem dX8_isTorn_14 : decode cX8_isTorn 14 = .ok (.istore_n 3, 1) := by decide +kernel
theorem dX8_isTorn_15 : decode cX8_isTorn 15 = .ok (.iload_n 3, 1) := by decide +kernel
theorem dX8_isTorn_16 : decode cX8_isTorn 16 = .ok (.bipush 24, 2) := by decide +kernel
theorem dX8_isTorn_18 : decode cX8_isTorn 18 = .ok (.if_icmp .ge 21, 3) := by decide +kernel
theorem dX8_isTorn_21 : decode cX8_isTorn 21 = .ok (.aload_n 0, 1) := by decide +kernel
theorem dX8_isTorn_22 : decode cX8_isTorn 22 = .ok (.getfield 103, 3) := by decide +kernel
theorem dX8_isTorn_25 : decode cX8_isTorn 25 = .ok (.bipush 24, 2) := by decide +kernel
theorem dX8_isTorn_27 : decode cX8_isTorn 27 = .ok (.iload_n 2, 1) := by decide +kernel
theorem dX8_isTorn_28 : decode cX8_isTorn 28 = .ok (.imul, 1) := by decide +kernel
theorem dX8_isTorn_29 : decode cX8_isTorn 29 = .ok (.iload_n 3, 1) := by decide +kernel
theorem dX8_isTorn_30 : decode cX8_isTorn 30 = .ok (.iadd, 1) := by decide +kernel
theorem dX8_isTorn_31 : decode cX8_isTorn 31 = .ok (.iconst 0, 1) := by decide +kernel
theorem dX8_isTorn_32 : decode cX8_isTorn 32 = .ok (.bastore, 1) := by decide +kernel
theorem dX8_isTorn_33 : decode cX8_isTorn 33 = .ok (.iinc 3 1, 3) := by decide +kernel
theorem dX8_isTorn_36 : decode cX8_isTorn 36 = .ok (.goto (-21), 3) := by decide +kernel
theorem dX8_isTorn_39 : decode cX8_isTorn 39 = .ok (.iconst 0, 1) := by decide +kernel
theorem dX8_isTorn_40 : decode cX8_isTorn 40 = .ok (.istore_n 3, 1) := by decide +kernel
theorem dX8_isTorn_41 : decode cX8_isTorn 41 = .ok (.iconst 0, 1) := by decide +kernel
theorem dX8_isTorn_42 : decode cX8_isTorn 42 = .ok (.istore 4, 2) := by decide +kernel
theorem dX8_isTorn_44 : decode cX8_isTorn 44 = .ok (.iload 4, 2) := by decide +kernel
theorem dX8_isTorn_46 : decode cX8_isTorn 46 = .ok (.aload_n 0, 1) := by decide +kernel
theorem dX8_isTorn_47 : decode cX8_isTorn 47 = .ok (.getfield 85, 3) := by decide +kernel
theorem dX8_isTorn_50 : decode cX8_isTorn 50 = .ok (.iload_n 2, 1) := by decide +kernel
theorem dX8_isTorn_51 : decode cX8_isTorn 51 = .ok (.iaload, 1) := by decide +kernel
theorem dX8_isTorn_52 : decode cX8_isTorn 52 = .ok (.if_icmp .ge 205, 3) := by decide +kernel
theorem dX8_isTorn_55 : decode cX8_isTorn 55 = .ok (.iconst 5, 1) := by decide +kernel
theorem dX8_isTorn_56 : decode cX8_isTorn 56 = .ok (.iload_n 2, 1) := by decide +kernel
theorem dX8_isTorn_57 : decode cX8_isTorn 57 = .ok (.imul, 1) := by decide +kernel
theorem dX8_isTorn_58 : decode cX8_isTorn 58 = .ok (.iload 4, 2) := by decide +kernel
theorem dX8_isTorn_60 : decode cX8_isTorn 60 = .ok (.iadd, 1) := by decide +kernel
theorem dX8_isTorn_61 : decode cX8_isTorn 61 = .ok (.istore 5, 2) := by decide +kernel
theorem dX8_isTorn_63 : decode cX8_isTorn 63 = .ok (.aload_n 0, 1) := by decide +kernel
theorem dX8_isTorn_64 : decode cX8_isTorn 64 = .ok (.getfield 88, 3) := by decide +kernel
theorem dX8_isTorn_67 : decode cX8_isTorn 67 = .ok (.iload 5, 2) := by decide +kernel
theorem dX8_isTorn_69 : decode cX8_isTorn 69 = .ok (.iaload, 1) := by decide +kernel
theorem dX8_isTorn_70 : decode cX8_isTorn 70 = .ok (.istore 6, 2) := by decide +kernel
theorem dX8_isTorn_72 : decode cX8_isTorn 72 = .ok (.aload_n 0, 1) := by decide +kernel
theorem dX8_isTorn_73 : decode cX8_isTorn 73 = .ok (.iload_n 1, 1) := by decide +kernel
theorem dX8_isTorn_74 : decode cX8_isTorn 74 = .ok (.iload 6, 2) := by decide +kernel
theorem dX8_isTorn_76 : decode cX8_isTorn 76 = .ok (.aload_n 0, 1) := by decide +kernel
theorem dX8_isTorn_77 : decode cX8_isTorn 77 = .ok (.getfield 91, 3) := by decide +kernel
theorem dX8_isTorn_80 : decode cX8_isTorn 80 = .ok (.iconst 2, 1) := by decide +kernel
theorem dX8_isTorn_81 : decode cX8_isTorn 81 = .ok (.iload 5, 2) := by decide +kernel
theorem dX8_isTorn_83 : decode cX8_isTorn 83 = .ok (.imul, 1) := by decide +kernel
theorem dX8_isTorn_84 : decode cX8_isTorn 84 = .ok (.iaload, 1) := by decide +kernel
theorem dX8_isTorn_85 : decode cX8_isTorn 85 = .ok (.aload_n 0, 1) := by decide +kernel
theorem dX8_isTorn_86 : decode cX8_isTorn 86 = .ok (.getfield 91, 3) := by decide +kernel
theorem dX8_isTorn_89 : decode cX8_isTorn 89 = .ok (.iconst 2, 1) := by decide +kernel
theorem dX8_isTorn_90 : decode cX8_isTorn 90 = .ok (.iload 5, 2) := by decide +kernel
theorem dX8_isTorn_92 : decode cX8_isTorn 92 = .ok (.imul, 1) := by decide +kernel
theorem dX8_isTorn_93 : decode cX8_isTorn 93 = .ok (.iconst 1, 1) := by decide +kernel
theorem dX8_isTorn_94 : decode cX8_isTorn 94 = .ok (.iadd, 1) := by decide +kernel
theorem dX8_isTorn_95 : decode cX8_isTorn 95 = .ok (.iaload, 1) := by decide +kernel
theorem dX8_isTorn_96 : decode cX8_isTorn 96 = .ok (.invokevirtual 319, 3) := by decide +kernel
theorem dX8_isTorn_99 : decode cX8_isTorn 99 = .ok (.ifCond .ne 7, 3) := by decide +kernel
theorem dX8_isTorn_102 : decode cX8_isTorn 102 = .ok (.iload_n 3, 1) := by decide +kernel
theorem dX8_isTorn_103 : decode cX8_isTorn 103 = .ok (.ifCond .eq 7, 3) := by decide +kernel
theorem dX8_isTorn_106 : decode cX8_isTorn 106 = .ok (.iconst 1, 1) := by decide +kernel
theorem dX8_isTorn_107 : decode cX8_isTorn 107 = .ok (.goto 4, 3) := by decide +kernel
theorem dX8_isTorn_110 : decode cX8_isTorn 110 = .ok (.iconst 0, 1) := by decide +kernel
theorem dX8_isTorn_111 : decode cX8_isTorn 111 = .ok (.istore_n 3, 1) := by decide +kernel
theorem dX8_isTorn_112 : decode cX8_isTorn 112 = .ok (.iconst 0, 1) := by decide +kernel
theorem dX8_isTorn_113 : decode cX8_isTorn 113 = .ok (.istore 7, 2) := by decide +kernel
theorem dX8_isTorn_115 : decode cX8_isTorn 115 = .ok (.iload 7, 2) := by decide +kernel
theorem dX8_isTorn_117 : decode cX8_isTorn 117 = .ok (.aload_n 0, 1) := by decide +kernel
theorem dX8_isTorn_118 : decode cX8_isTorn 118 = .ok (.getfield 97, 3) := by decide +kernel
theorem dX8_isTorn_121 : decode cX8_isTorn 121 = .ok (.aload_n 0, 1) := by decide +kernel
theorem dX8_isTorn_122 : decode cX8_isTorn 122 = .ok (.iload 6, 2) := by decide +kernel
theorem dX8_isTorn_124 : decode cX8_isTorn 124 = .ok (.invokevirtual 214, 3) := by decide +kernel
theorem dX8_isTorn_127 : decode cX8_isTorn 127 = .ok (.iaload, 1) := by decide +kernel
theorem dX8_isTorn_128 : decode cX8_isTorn 128 = .ok (.if_icmp .ge 123, 3) := by decide +kernel
theorem dX8_isTorn_131 : decode cX8_isTorn 131 = .ok (.aload_n 0, 1) := by decide +kernel
theorem dX8_isTorn_132 : decode cX8_isTorn 132 = .ok (.getfield 100, 3) := by decide +kernel
theorem dX8_isTorn_135 : decode cX8_isTorn 135 = .ok (.bipush 24, 2) := by decide +kernel
theorem dX8_isTorn_137 : decode cX8_isTorn 137 = .ok (.aload_n 0, 1) := by decide +kernel
theorem dX8_isTorn_138 : decode cX8_isTorn 138 = .ok (.iload 6, 2) := by decide +kernel
theorem dX8_isTorn_140 : decode cX8_isTorn 140 = .ok (.invokevirtual 214, 3) := by decide +kernel
theorem dX8_isTorn_143 : decode cX8_isTorn 143 = .ok (.imul, 1) := by decide +kernel
theorem dX8_isTorn_144 : decode cX8_isTorn 144 = .ok (.iload 7, 2) := by decide +kernel
theorem dX8_isTorn_146 : decode cX8_isTorn 146 = .ok (.iadd, 1) := by decide +kernel
theorem dX8_isTorn_147 : decode cX8_isTorn 147 = .ok (.iaload, 1) := by decide +kernel
theorem dX8_isTorn_148 : decode cX8_isTorn 148 = .ok (.istore 8, 2) := by decide +kernel
theorem dX8_isTorn_150 : decode cX8_isTorn 150 = .ok (.aload_n 0, 1) := by decide +kernel
theorem dX8_isTorn_151 : decode cX8_isTorn 151 = .ok (.getfield 76, 3) := by decide +kernel
theorem dX8_isTorn_154 : decode cX8_isTorn 154 = .ok (.aload_n 0, 1) := by decide +kernel
theorem dX8_isTorn_155 : decode cX8_isTorn 155 = .ok (.iload 8, 2) := by decide +kernel
theorem dX8_isTorn_157 : decode cX8_isTorn 157 = .ok (.invokevirtual 214, 3) := by decide +kernel
theorem dX8_isTorn_160 : decode cX8_isTorn 160 = .ok (.iaload, 1) := by decide +kernel
theorem dX8_isTorn_161 : decode cX8_isTorn 161 = .ok (.ifCond .le 21, 3) := by decide +kernel
theorem dX8_isTorn_164 : decode cX8_isTorn 164 = .ok (.aload_n 0, 1) := by decide +kernel
theorem dX8_isTorn_165 : decode cX8_isTorn 165 = .ok (.aload_n 0, 1) := by decide +kernel
theorem dX8_isTorn_166 : decode cX8_isTorn 166 = .ok (.iload 6, 2) := by decide +kernel
theorem dX8_isTorn_168 : decode cX8_isTorn 168 = .ok (.iload 8, 2) := by decide +kernel
theorem dX8_isTorn_170 : decode cX8_isTorn 170 = .ok (.iconst 0, 1) := by decide +kernel
theorem dX8_isTorn_171 : decode cX8_isTorn 171 = .ok (.invokevirtual 221, 3) := by decide +kernel
theorem dX8_isTorn_174 : decode cX8_isTorn 174 = .ok (.iload 5, 2) := by decide +kernel
theorem dX8_isTorn_176 : decode cX8_isTorn 176 = .ok (.invokevirtual 323, 3) := by decide +kernel
theorem dX8_isTorn_179 : decode cX8_isTorn 179 = .ok (.goto 4, 3) := by decide +kernel
theorem dX8_isTorn_182 : decode cX8_isTorn 182 = .ok (.iconst (-1), 1) := by decide +kernel
theorem dX8_isTorn_183 : decode cX8_isTorn 183 = .ok (.istore 9, 2) := by decide +kernel
theorem dX8_isTorn_185 : decode cX8_isTorn 185 = .ok (.aload_n 0, 1) := by decide +kernel
theorem dX8_isTorn_186 : decode cX8_isTorn 186 = .ok (.getfield 76, 3) := by decide +kernel
theorem dX8_isTorn_189 : decode cX8_isTorn 189 = .ok (.aload_n 0, 1) := by decide +kernel
theorem dX8_isTorn_190 : decode cX8_isTorn 190 = .ok (.iload 8, 2) := by decide +kernel
theorem dX8_isTorn_192 : decode cX8_isTorn 192 = .ok (.invokevirtual 214, 3) := by decide +kernel
theorem dX8_isTorn_195 : decode cX8_isTorn 195 = .ok (.iaload, 1) := by decide +kernel
theorem dX8_isTorn_196 : decode cX8_isTorn 196 = .ok (.iconst 1, 1) := by decide +kernel
theorem dX8_isTorn_197 : decode cX8_isTorn 197 = .ok (.if_icmp .le 21, 3) := by decide +kernel
theorem dX8_isTorn_200 : decode cX8_isTorn 200 = .ok (.aload_n 0, 1) := by decide +kernel
theorem dX8_isTorn_201 : decode cX8_isTorn 201 = .ok (.aload_n 0, 1) := by decide +kernel
theorem dX8_isTorn_202 : decode cX8_isTorn 202 = .ok (.iload 6, 2) := by decide +kernel
theorem dX8_isTorn_204 : decode cX8_isTorn 204 = .ok (.iload 8, 2) := by decide +kernel
theorem dX8_isTorn_206 : decode cX8_isTorn 206 = .ok (.iconst 1, 1) := by decide +kernel
theorem dX8_isTorn_207 : decode cX8_isTorn 207 = .ok (.invokevirtual 221, 3) := by decide +kernel
theorem dX8_isTorn_210 : decode cX8_isTorn 210 = .ok (.iload 5, 2) := by decide +kernel
theorem dX8_isTorn_212 : decode cX8_isTorn 212 = .ok (.invokevirtual 323, 3) := by decide +kernel
theorem dX8_isTorn_215 : decode cX8_isTorn 215 = .ok (.goto 4, 3) := by decide +kernel
theorem dX8_isTorn_218 : decode cX8_isTorn 218 = .ok (.iconst (-1), 1) := by decide +kernel
theorem dX8_isTorn_219 : decode cX8_isTorn 219 = .ok (.istore 10, 2) := by decide +kernel
theorem dX8_isTorn_221 : decode cX8_isTorn 221 = .ok (.aload_n 0, 1) := by decide +kernel
theorem dX8_isTorn_222 : decode cX8_isTorn 222 = .ok (.iload_n 1, 1) := by decide +kernel
theorem dX8_isTorn_223 : decode cX8_isTorn 223 = .ok (.iload 8, 2) := by decide +kernel
theorem dX8_isTorn_225 : decode cX8_isTorn 225 = .ok (.iload 9, 2) := by decide +kernel
theorem dX8_isTorn_227 : decode cX8_isTorn 227 = .ok (.iload 10, 2) := by decide +kernel
theorem dX8_isTorn_229 : decode cX8_isTorn 229 = .ok (.invokevirtual 319, 3) := by decide +kernel
theorem dX8_isTorn_232 : decode cX8_isTorn 232 = .ok (.ifCond .ne 7, 3) := by decide +kernel
theorem dX8_isTorn_235 : decode cX8_isTorn 235 = .ok (.iload_n 3, 1) := by decide +kernel
theorem dX8_isTorn_236 : decode cX8_isTorn 236 = .ok (.ifCond .eq 7, 3) := by decide +kernel
theorem dX8_isTorn_239 : decode cX8_isTorn 239 = .ok (.iconst 1, 1) := by decide +kernel
theorem dX8_isTorn_240 : decode cX8_isTorn 240 = .ok (.goto 4, 3) := by decide +kernel
theorem dX8_isTorn_243 : decode cX8_isTorn 243 = .ok (.iconst 0, 1) := by decide +kernel
theorem dX8_isTorn_244 : decode cX8_isTorn 244 = .ok (.istore_n 3, 1) := by decide +kernel
theorem dX8_isTorn_245 : decode cX8_isTorn 245 = .ok (.iinc 7 1, 3) := by decide +kernel
theorem dX8_isTorn_248 : decode cX8_isTorn 248 = .ok (.goto (-133), 3) := by decide +kernel
theorem dX8_isTorn_251 : decode cX8_isTorn 251 = .ok (.iinc 4 1, 3) := by decide +kernel
theorem dX8_isTorn_254 : decode cX8_isTorn 254 = .ok (.goto (-210), 3) := by decide +kernel
theorem dX8_isTorn_257 : decode cX8_isTorn 257 = .ok (.iload_n 3, 1) := by decide +kernel
theorem dX8_isTorn_258 : decode cX8_isTorn 258 = .ok (.ireturn, 1) := by decide +kernel
theorem dX8_isTwice_0 : decode cX8_isTwice 0 = .ok (.aload_n 0, 1) := by decide +kernel
theorem dX8_isTwice_1 : decode cX8_isTwice 1 = .ok (.getfield 110, 3) := by decide +kernel
theorem dX8_isTwice_4 : decode cX8_isTwice 4 = .ok (.aload_n 0, 1) := by decide +kernel
theorem dX8_isTwice_5 : decode cX8_isTwice 5 = .ok (.iload_n 1, 1) := by decide +kernel
theorem dX8_isTwice_6 : decode cX8_isTwice 6 = .ok (.invokevirtual 214, 3) := by decide +kernel
theorem dX8_isTwice_9 : decode cX8_isTwice 9 = .ok (.iaload, 1) := by decide +kernel
theorem dX8_isTwice_10 : decode cX8_isTwice 10 = .ok (.istore_n 2, 1) := by decide +kernel
theorem dX8_isTwice_11 : decode cX8_isTwice 11 = .ok (.iload_n 2, 1) := by decide +kernel
theorem dX8_isTwice_12 : decode cX8_isTwice 12 = .ok (.aload_n 0, 1) := by decide +kernel
theorem dX8_isTwice_13 : decode cX8_isTwice 13 = .ok (.getfield 113, 3) := by decide +kernel
theorem dX8_isTwice_16 : decode cX8_isTwice 16 = .ok (.aload_n 0, 1) := by decide +kernel
theorem dX8_isTwice_17 : decode cX8_isTwice 17 = .ok (.iload_n 1, 1) := by decide +kernel
theorem dX8_isTwice_18 : decode cX8_isTwice 18 = .ok (.invokevirtual 214, 3) := by decide +kernel
theorem dX8_isTwice_21 : decode cX8_isTwice 21 = .ok (.iaload, 1) := by decide +kernel
theorem dX8_isTwice_22 : decode cX8_isTwice 22 = .ok (.iadd, 1) := by decide +kernel
theorem dX8_isTwice_23 : decode cX8_isTwice 23 = .ok (.istore_n 3, 1) := by decide +kernel
theorem dX8_isTwice_24 : decode cX8_isTwice 24 = .ok (.iconst 0, 1) := by decide +kernel
theorem dX8_isTwice_25 : decode cX8_isTwice 25 = .ok (.istore 4, 2) := by decide +kernel
theorem dX8_isTwice_27 : decode cX8_isTwice 27 = .ok (.iload_n 2, 1) := by decide +kernel
theorem dX8_isTwice_28 : decode cX8_isTwice 28 = .ok (.istore 5, 2) := by decide +kernel
theorem dX8_isTwice_30 : decode cX8_isTwice 30 = .ok (.iload 5, 2) := by decide +kernel
theorem dX8_isTwice_32 : decode cX8_isTwice 32 = .ok (.iload_n 3, 1) := by decide +kernel
theorem dX8_isTwice_33 : decode cX8_isTwice 33 = .ok (.if_icmp .ge 50, 3) := by decide +kernel
theorem dX8_isTwice_36 : decode cX8_isTwice 36 = .ok (.iload 5, 2) := by decide +kernel
theorem dX8_isTwice_38 : decode cX8_isTwice 38 = .ok (.iconst 1, 1) := by decide +kernel
theorem dX8_isTwice_39 : decode cX8_isTwice 39 = .ok (.iadd, 1) := by decide +kernel
theorem dX8_isTwice_40 : decode cX8_isTwice 40 = .ok (.istore 6, 2) := by decide +kernel
theorem dX8_isTwice_42 : decode cX8_isTwice 42 = .ok (.iload 6, 2) := by decide +kernel
theorem dX8_isTwice_44 : decode cX8_isTwice 44 = .ok (.iload_n 3, 1) := by decide +kernel
theorem dX8_isTwice_45 : decode cX8_isTwice 45 = .ok (.if_icmp .ge 32, 3) := by decide +kernel
theorem dX8_isTwice_48 : decode cX8_isTwice 48 = .ok (.iload 4, 2) := by decide +kernel
theorem dX8_isTwice_50 : decode cX8_isTwice 50 = .ok (.ifCond .ne 14, 3) := by decide +kernel
theorem dX8_isTwice_53 : decode cX8_isTwice 53 = .ok (.aload_n 0, 1) := by decide +kernel
theorem dX8_isTwice_54 : decode cX8_isTwice 54 = .ok (.iload 5, 2) := by decide +kernel
theorem dX8_isTwice_56 : decode cX8_isTwice 56 = .ok (.iload 6, 2) := by decide +kernel
theorem dX8_isTwice_58 : decode cX8_isTwice 58 = .ok (.invokevirtual 235, 3) := by decide +kernel
theorem dX8_isTwice_61 : decode cX8_isTwice 61 = .ok (.ifCond .eq 7, 3) := by decide +kernel
theorem dX8_isTwice_64 : decode cX8_isTwice 64 = .ok (.iconst 1, 1) := by decide +kernel
theorem dX8_isTwice_65 : decode cX8_isTwice 65 = .ok (.goto 4, 3) := by decide +kernel
theorem dX8_isTwice_68 : decode cX8_isTwice 68 = .ok (.iconst 0, 1) := by decide +kernel
theorem dX8_isTwice_69 : decode cX8_isTwice 69 = .ok (.istore 4, 2) := by decide +kernel
theorem dX8_isTwice_71 : decode cX8_isTwice 71 = .ok (.iinc 6 1, 3) := by decide +kernel
theorem dX8_isTwice_74 : decode cX8_isTwice 74 = .ok (.goto (-32), 3) := by decide +kernel
theorem dX8_isTwice_77 : decode cX8_isTwice 77 = .ok (.iinc 5 1, 3) := by decide +kernel
theorem dX8_isTwice_80 : decode cX8_isTwice 80 = .ok (.goto (-50), 3) := by decide +kernel
theorem dX8_isTwice_83 : decode cX8_isTwice 83 = .ok (.iload 4, 2) := by decide +kernel
theorem dX8_isTwice_85 : decode cX8_isTwice 85 = .ok (.ireturn, 1) := by decide +kernel
theorem dX8_isOver_0 : decode cX8_isOver 0 = .ok (.aload_n 0, 1) := by decide +kernel
theorem dX8_isOver_1 : decode cX8_isOver 1 = .ok (.getfield 140, 3) := by decide +kernel
theorem dX8_isOver_4 : decode cX8_isOver 4 = .ok (.bipush 120, 2) := by decide +kernel
theorem dX8_isOver_6 : decode cX8_isOver 6 = .ok (.aload_n 0, 1) := by decide +kernel
theorem dX8_isOver_7 : decode cX8_isOver 7 = .ok (.iload_n 1, 1) := by decide +kernel
theorem dX8_isOver_8 : decode cX8_isOver 8 = .ok (.invokevirtual 218, 3) := by decide +kernel
theorem dX8_isOver_11 : decode cX8_isOver 11 = .ok (.imul, 1) := by decide +kernel
theorem dX8_isOver_12 : decode cX8_isOver 12 = .ok (.iload_n 2, 1) := by decide +kernel
theorem dX8_isOver_13 : decode cX8_isOver 13 = .ok (.iadd, 1) := by decide +kernel
theorem dX8_isOver_14 : decode cX8_isOver 14 = .ok (.baload, 1) := by decide +kernel
theorem dX8_isOver_15 : decode cX8_isOver 15 = .ok (.ireturn, 1) := by decide +kernel
theorem dX8_isAkin_0 : decode cX8_isAkin 0 = .ok (.aload_n 0, 1) := by decide +kernel
theorem dX8_isAkin_1 : decode cX8_isAkin 1 = .ok (.iload_n 1, 1) := by decide +kernel
theorem dX8_isAkin_2 : decode cX8_isAkin 2 = .ok (.iload_n 2, 1) := by decide +kernel
theorem dX8_isAkin_3 : decode cX8_isAkin 3 = .ok (.iload_n 3, 1) := by decide +kernel
theorem dX8_isAkin_4 : decode cX8_isAkin 4 = .ok (.invokevirtual 326, 3) := by decide +kernel
theorem dX8_isAkin_7 : decode cX8_isAkin 7 = .ok (.ifCond .eq 29, 3) := by decide +kernel
theorem dX8_isAkin_10 : decode cX8_isAkin 10 = .ok (.aload_n 0, 1) := by decide +kernel
theorem dX8_isAkin_11 : decode cX8_isAkin 11 = .ok (.getfield 128, 3) := by decide +kernel
theorem dX8_isAkin_14 : decode cX8_isAkin 14 = .ok (.aload_n 0, 1) := by decide +kernel
theorem dX8_isAkin_15 : decode cX8_isAkin 15 = .ok (.iload_n 2, 1) := by decide +kernel
theorem dX8_isAkin_16 : decode cX8_isAkin 16 = .ok (.invokevirtual 218, 3) := by decide +kernel
theorem dX8_isAkin_19 : decode cX8_isAkin 19 = .ok (.iaload, 1) := by decide +kernel
theorem dX8_isAkin_20 : decode cX8_isAkin 20 = .ok (.ifCond .eq 16, 3) := by decide +kernel
theorem dX8_isAkin_23 : decode cX8_isAkin 23 = .ok (.aload_n 0, 1) := by decide +kernel
theorem dX8_isAkin_24 : decode cX8_isAkin 24 = .ok (.getfield 128, 3) := by decide +kernel
theorem dX8_isAkin_27 : decode cX8_isAkin 27 = .ok (.aload_n 0, 1) := by decide +kernel
theorem dX8_isAkin_28 : decode cX8_isAkin 28 = .ok (.iload_n 3, 1) := by decide +kernel
theorem dX8_isAkin_29 : decode cX8_isAkin 29 = .ok (.invokevirtual 218, 3) := by decide +kernel
theorem dX8_isAkin_32 : decode cX8_isAkin 32 = .ok (.iaload, 1) := by decide +kernel
theorem dX8_isAkin_33 : decode cX8_isAkin 33 = .ok (.ifCond .ne 5, 3) := by decide +kernel
theorem dX8_isAkin_36 : decode cX8_isAkin 36 = .ok (.iconst 0, 1) := by decide +kernel
theorem dX8_isAkin_37 : decode cX8_isAkin 37 = .ok (.ireturn, 1) := by decide +kernel
theorem dX8_isAkin_38 : decode cX8_isAkin 38 = .ok (.aload_n 0, 1) := by decide +kernel
theorem dX8_isAkin_39 : decode cX8_isAkin 39 = .ok (.getfield 128, 3) := by decide +kernel
theorem dX8_isAkin_42 : decode cX8_isAkin 42 = .ok (.aload_n 0, 1) := by decide +kernel
theorem dX8_isAkin_43 : decode cX8_isAkin 43 = .ok (.iload_n 3, 1) := by decide +kernel
theorem dX8_isAkin_44 : decode cX8_isAkin 44 = .ok (.invokevirtual 218, 3) := by decide +kernel
theorem dX8_isAkin_47 : decode cX8_isAkin 47 = .ok (.iaload, 1) := by decide +kernel
theorem dX8_isAkin_48 : decode cX8_isAkin 48 = .ok (.iconst 1, 1) := by decide +kernel
theorem dX8_isAkin_49 : decode cX8_isAkin 49 = .ok (.if_icmp .gt 21, 3) := by decide +kernel
theorem dX8_isAkin_52 : decode cX8_isAkin 52 = .ok (.aload_n 0, 1) := by decide +kernel
theorem dX8_isAkin_53 : decode cX8_isAkin 53 = .ok (.iload_n 1, 1) := by decide +kernel
theorem dX8_isAkin_54 : decode cX8_isAkin 54 = .ok (.aload_n 0, 1) := by decide +kernel
theorem dX8_isAkin_55 : decode cX8_isAkin 55 = .ok (.getfield 122, 3) := by decide +kernel
theorem dX8_isAkin_58 : decode cX8_isAkin 58 = .ok (.aload_n 0, 1) := by decide +kernel
theorem dX8_isAkin_59 : decode cX8_isAkin 59 = .ok (.iload_n 3, 1) := by decide +kernel
theorem dX8_isAkin_60 : decode cX8_isAkin 60 = .ok (.invokevirtual 218, 3) := by decide +kernel
theorem dX8_isAkin_63 : decode cX8_isAkin 63 = .ok (.iaload, 1) := by decide +kernel
theorem dX8_isAkin_64 : decode cX8_isAkin 64 = .ok (.invokevirtual 258, 3) := by decide +kernel
theorem dX8_isAkin_67 : decode cX8_isAkin 67 = .ok (.ifCond .eq 5, 3) := by decide +kernel
theorem dX8_isAkin_70 : decode cX8_isAkin 70 = .ok (.iconst 1, 1) := by decide +kernel
theorem dX8_isAkin_71 : decode cX8_isAkin 71 = .ok (.ireturn, 1) := by decide +kernel
theorem dX8_isAkin_72 : decode cX8_isAkin 72 = .ok (.iconst 0, 1) := by decide +kernel
theorem dX8_isAkin_73 : decode cX8_isAkin 73 = .ok (.istore 4, 2) := by decide +kernel
theorem dX8_isAkin_75 : decode cX8_isAkin 75 = .ok (.iconst 0, 1) := by decide +kernel
theorem dX8_isAkin_76 : decode cX8_isAkin 76 = .ok (.istore 5, 2) := by decide +kernel
theorem dX8_isAkin_78 : decode cX8_isAkin 78 = .ok (.iload 5, 2) := by decide +kernel
theorem dX8_isAkin_80 : decode cX8_isAkin 80 = .ok (.aload_n 0, 1) := by decide +kernel
theorem dX8_isAkin_81 : decode cX8_isAkin 81 = .ok (.getfield 49, 3) := by decide +kernel
theorem dX8_isAkin_84 : decode cX8_isAkin 84 = .ok (.aload_n 0, 1) := by decide +kernel
theorem dX8_isAkin_85 : decode cX8_isAkin 85 = .ok (.getfield 208, 3) := by decide +kernel
theorem dX8_isAkin_88 : decode cX8_isAkin 88 = .ok (.iaload, 1) := by decide +kernel
theorem dX8_isAkin_89 : decode cX8_isAkin 89 = .ok (.if_icmp .ge 47, 3) := by decide +kernel
theorem dX8_isAkin_92 : decode cX8_isAkin 92 = .ok (.iload 4, 2) := by decide +kernel
theorem dX8_isAkin_94 : decode cX8_isAkin 94 = .ok (.ifCond .ne 42, 3) := by decide +kernel
theorem dX8_isAkin_97 : decode cX8_isAkin 97 = .ok (.iload 5, 2) := by decide +kernel
theorem dX8_isAkin_99 : decode cX8_isAkin 99 = .ok (.iload_n 3, 1) := by decide +kernel
theorem dX8_isAkin_100 : decode cX8_isAkin 100 = .ok (.if_icmp .eq 27, 3) := by decide +kernel
theorem dX8_isAkin_103 : decode cX8_isAkin 103 = .ok (.aload_n 0, 1) := by decide +kernel
theorem dX8_isAkin_104 : decode cX8_isAkin 104 = .ok (.iload_n 2, 1) := by decide +kernel
theorem dX8_isAkin_105 : decode cX8_isAkin 105 = .ok (.iload 5, 2) := by decide +kernel
theorem dX8_isAkin_107 : decode cX8_isAkin 107 = .ok (.invokevirtual 329, 3) := by decide +kernel
theorem dX8_isAkin_110 : decode cX8_isAkin 110 = .ok (.ifCond .eq 17, 3) := by decide +kernel
theorem dX8_isAkin_113 : decode cX8_isAkin 113 = .ok (.aload_n 0, 1) := by decide +kernel
theorem dX8_isAkin_114 : decode cX8_isAkin 114 = .ok (.iload 5, 2) := by decide +kernel
theorem dX8_isAkin_116 : decode cX8_isAkin 116 = .ok (.iload_n 3, 1) := by decide +kernel
theorem dX8_isAkin_117 : decode cX8_isAkin 117 = .ok (.invokevirtual 329, 3) := by decide +kernel
theorem dX8_isAkin_120 : decode cX8_isAkin 120 = .ok (.ifCond .eq 7, 3) := by decide +kernel
theorem dX8_isAkin_123 : decode cX8_isAkin 123 = .ok (.iconst 1, 1) := by decide +kernel
theorem dX8_isAkin_124 : decode cX8_isAkin 124 = .ok (.goto 4, 3) := by decide +kernel
theorem dX8_isAkin_127 : decode cX8_isAkin 127 = .ok (.iconst 0, 1) := by decide +kernel
theorem dX8_isAkin_128 : decode cX8_isAkin 128 = .ok (.istore 4, 2) := by decide +kernel
theorem dX8_isAkin_130 : decode cX8_isAkin 130 = .ok (.iinc 5 1, 3) := by decide +kernel
theorem dX8_isAkin_133 : decode cX8_isAkin 133 = .ok (.goto (-55), 3) := by decide +kernel
theorem dX8_isAkin_136 : decode cX8_isAkin 136 = .ok (.iload 4, 2) := by decide +kernel
theorem dX8_isAkin_138 : decode cX8_isAkin 138 = .ok (.ireturn, 1) := by decide +kernel
theorem dX8_findOver_0 : decode cX8_findOver 0 = .ok (.aload_n 0, 1) := by decide +kernel
theorem dX8_findOver_1 : decode cX8_findOver 1 = .ok (.getfield 110, 3) := by decide +kernel
theorem dX8_findOver_4 : decode cX8_findOver 4 = .ok (.aload_n 0, 1) := by decide +kernel
theorem dX8_findOver_5 : decode cX8_findOver 5 = .ok (.iload_n 1, 1) := by decide +kernel
theorem dX8_findOver_6 : decode cX8_findOver 6 = .ok (.invokevirtual 214, 3) := by decide +kernel
theorem dX8_findOver_9 : decode cX8_findOver 9 = .ok (.iaload, 1) := by decide +kernel
theorem dX8_findOver_10 : decode cX8_findOver 10 = .ok (.istore_n 2, 1) := by decide +kernel
theorem dX8_findOver_11 : decode cX8_findOver 11 = .ok (.iload_n 2, 1) := by decide +kernel
theorem dX8_findOver_12 : decode cX8_findOver 12 = .ok (.istore_n 3, 1) := by decide +kernel
theorem dX8_findOver_13 : decode cX8_findOver 13 = .ok (.iload_n 3, 1) := by decide +kernel
theorem dX8_findOver_14 : decode cX8_findOver 14 = .ok (.iload_n 2, 1) := by decide +kernel
theorem dX8_findOver_15 : decode cX8_findOver 15 = .ok (.aload_n 0, 1) := by decide +kernel
theorem dX8_findOver_16 : decode cX8_findOver 16 = .ok (.getfield 113, 3) := by decide +kernel
theorem dX8_findOver_19 : decode cX8_findOver 19 = .ok (.aload_n 0, 1) := by decide +kernel
theorem dX8_findOver_20 : decode cX8_findOver 20 = .ok (.iload_n 1, 1) := by decide +kernel
theorem dX8_findOver_21 : decode cX8_findOver 21 = .ok (.invokevirtual 214, 3) := by decide +kernel
theorem dX8_findOver_24 : decode cX8_findOver 24 = .ok (.iaload, 1) := by decide +kernel
theorem dX8_findOver_25 : decode cX8_findOver 25 = .ok (.iadd, 1) := by decide +kernel
theorem dX8_findOver_26 : decode cX8_findOver 26 = .ok (.if_icmp .ge 159, 3) := by decide +kernel
theorem dX8_findOver_29 : decode cX8_findOver 29 = .ok (.iconst 0, 1) := by decide +kernel
theorem dX8_findOver_30 : decode cX8_findOver 30 = .ok (.istore 4, 2) := by decide +kernel
theorem dX8_findOver_32 : decode cX8_findOver 32 = .ok (.iload 4, 2) := by decide +kernel
theorem dX8_findOver_34 : decode cX8_findOver 34 = .ok (.bipush 120, 2) := by decide +kernel
theorem dX8_findOver_36 : decode cX8_findOver 36 = .ok (.if_icmp .ge 26, 3) := by decide +kernel
theorem dX8_findOver_39 : decode cX8_findOver 39 = .ok (.aload_n 0, 1) := by decide +kernel
theorem dX8_findOver_40 : decode cX8_findOver 40 = .ok (.getfield 140, 3) := by decide +kernel
theorem dX8_findOver_43 : decode cX8_findOver 43 = .ok (.bipush 120, 2) := by decide +kernel
theorem dX8_findOver_45 : decode cX8_findOver 45 = .ok (.aload_n 0, 1) := by decide +kernel
theorem dX8_findOver_46 : decode cX8_findOver 46 = .ok (.iload_n 3, 1) := by decide +kernel
theorem dX8_findOver_47 : decode cX8_findOver 47 = .ok (.invokevirtual 218, 3) := by decide +kernel
theorem dX8_findOver_50 : decode cX8_findOver 50 = .ok (.imul, 1) := by decide +kernel
theorem dX8_findOver_51 : decode cX8_findOver 51 = .ok (.iload 4, 2) := by decide +kernel
theorem dX8_findOver_53 : decode cX8_findOver 53 = .ok (.iadd, 1) := by decide +kernel
theorem dX8_findOver_54 : decode cX8_findOver 54 = .ok (.iconst 0, 1) := by decide +kernel
theorem dX8_findOver_55 : decode cX8_findOver 55 = .ok (.bastore, 1) := by decide +kernel
theorem dX8_findOver_56 : decode cX8_findOver 56 = .ok (.iinc 4 1, 3) := by decide +kernel
theorem dX8_findOver_59 : decode cX8_findOver 59 = .ok (.goto (-27), 3) := by decide +kernel
theorem dX8_findOver_62 : decode cX8_findOver 62 = .ok (.iload_n 2, 1) := by decide +kernel
theorem dX8_findOver_63 : decode cX8_findOver 63 = .ok (.iconst 1, 1) := by decide +kernel
theorem dX8_findOver_64 : decode cX8_findOver 64 = .ok (.isub, 1) := by decide +kernel
theorem dX8_findOver_65 : decode cX8_findOver 65 = .ok (.istore 4, 2) := by decide +kernel
theorem dX8_findOver_67 : decode cX8_findOver 67 = .ok (.iload 4, 2) := by decide +kernel
theorem dX8_findOver_69 : decode cX8_findOver 69 = .ok (.ifCond .lt 110, 3) := by decide +kernel
theorem dX8_findOver_72 : decode cX8_findOver 72 = .ok (.aload_n 0, 1) := by decide +kernel
theorem dX8_findOver_73 : decode cX8_findOver 73 = .ok (.getfield 103, 3) := by decide +kernel
theorem dX8_findOver_76 : decode cX8_findOver 76 = .ok (.bipush 24, 2) := by decide +kernel
theorem dX8_findOver_78 : decode cX8_findOver 78 = .ok (.aload_n 0, 1) := by decide +kernel
theorem dX8_findOver_79 : decode cX8_findOver 79 = .ok (.iload_n 1, 1) := by decide +kernel
theorem dX8_findOver_80 : decode cX8_findOver 80 = .ok (.invokevirtual 214, 3) := by decide +kernel
theorem dX8_findOver_83 : decode cX8_findOver 83 = .ok (.imul, 1) := by decide +kernel
theorem dX8_findOver_84 : decode cX8_findOver 84 = .ok (.aload_n 0, 1) := by decide +kernel
theorem dX8_findOver_85 : decode cX8_findOver 85 = .ok (.getfield 122, 3) := by decide +kernel
theorem dX8_findOver_88 : decode cX8_findOver 88 = .ok (.aload_n 0, 1) := by decide +kernel
theorem dX8_findOver_89 : decode cX8_findOver 89 = .ok (.iload 4, 2) := by decide +kernel
theorem dX8_findOver_91 : decode cX8_findOver 91 = .ok (.invokevirtual 218, 3) := by decide +kernel
theorem dX8_findOver_94 : decode cX8_findOver 94 = .ok (.iaload, 1) := by decide +kernel
theorem dX8_findOver_95 : decode cX8_findOver 95 = .ok (.iadd, 1) := by decide +kernel
theorem dX8_findOver_96 : decode cX8_findOver 96 = .ok (.baload, 1) := by decide +kernel
theorem dX8_findOver_97 : decode cX8_findOver 97 = .ok (.ifCond .eq 36, 3) := by decide +kernel
theorem dX8_findOver_100 : decode cX8_findOver 100 = .ok (.aload_n 0, 1) := by decide +kernel
theorem dX8_findOver_101 : decode cX8_findOver 101 = .ok (.getfield 131, 3) := by decide +kernel
theorem dX8_findOver_104 : decode cX8_findOver 104 = .ok (.aload_n 0, 1) := by decide +kernel
theorem dX8_findOver_105 : decode cX8_findOver 105 = .ok (.iload_n 3, 1) := by decide +kernel
theorem dX8_findOver_106 : decode cX8_findOver 106 = .ok (.invokevirtual 218, 3) := by decide +kernel
theorem dX8_findOver_109 : decode cX8_findOver 109 = .ok (.iaload, 1) := by decide +kernel
theorem dX8_findOver_110 : decode cX8_findOver 110 = .ok (.iconst 1, 1) := by decide +kernel
theorem dX8_findOver_111 : decode cX8_findOver 111 = .ok (.if_icmp .eq 22, 3) := by decide +kernel
theorem dX8_findOver_114 : decode cX8_findOver 114 = .ok (.aload_n 0, 1) := by decide +kernel
theorem dX8_findOver_115 : decode cX8_findOver 115 = .ok (.getfield 131, 3) := by decide +kernel
theorem dX8_findOver_118 : decode cX8_findOver 118 = .ok (.aload_n 0, 1) := by decide +kernel
theorem dX8_findOver_119 : decode cX8_findOver 119 = .ok (.iload 4, 2) := by decide +kernel
theorem dX8_findOver_121 : decode cX8_findOver 121 = .ok (.invokevirtual 218, 3) := by decide +kernel
theorem dX8_findOver_124 : decode cX8_findOver 124 = .ok (.iaload, 1) := by decide +kernel
theorem dX8_findOver_125 : decode cX8_findOver 125 = .ok (.iconst 1, 1) := by decide +kernel
theorem dX8_findOver_126 : decode cX8_findOver 126 = .ok (.if_icmp .eq 7, 3) := by decide +kernel
theorem dX8_findOver_129 : decode cX8_findOver 129 = .ok (.iconst 1, 1) := by decide +kernel
theorem dX8_findOver_130 : decode cX8_findOver 130 = .ok (.goto 4, 3) := by decide +kernel
theorem dX8_findOver_133 : decode cX8_findOver 133 = .ok (.iconst 0, 1) := by decide +kernel
theorem dX8_findOver_134 : decode cX8_findOver 134 = .ok (.istore 5, 2) := by decide +kernel
theorem dX8_findOver_136 : decode cX8_findOver 136 = .ok (.aload_n 0, 1) := by decide +kernel
theorem dX8_findOver_137 : decode cX8_findOver 137 = .ok (.getfield 140, 3) := by decide +kernel
theorem dX8_findOver_140 : decode cX8_findOver 140 = .ok (.bipush 120, 2) := by decide +kernel
theorem dX8_findOver_142 : decode cX8_findOver 142 = .ok (.aload_n 0, 1) := by decide +kernel
theorem dX8_findOver_143 : decode cX8_findOver 143 = .ok (.iload_n 3, 1) := by decide +kernel
theorem dX8_findOver_144 : decode cX8_findOver 144 = .ok (.invokevirtual 218, 3) := by decide +kernel
theorem dX8_findOver_147 : decode cX8_findOver 147 = .ok (.imul, 1) := by decide +kernel
theorem dX8_findOver_148 : decode cX8_findOver 148 = .ok (.iload 4, 2) := by decide +kernel
theorem dX8_findOver_150 : decode cX8_findOver 150 = .ok (.iadd, 1) := by decide +kernel
theorem dX8_findOver_151 : decode cX8_findOver 151 = .ok (.iload 5, 2) := by decide +kernel
theorem dX8_findOver_153 : decode cX8_findOver 153 = .ok (.ifCond .eq 18, 3) := by decide +kernel
theorem dX8_findOver_156 : decode cX8_findOver 156 = .ok (.aload_n 0, 1) := by decide +kernel
theorem dX8_findOver_157 : decode cX8_findOver 157 = .ok (.iload_n 1, 1) := by decide +kernel
theorem dX8_findOver_158 : decode cX8_findOver 158 = .ok (.iload_n 3, 1) := by decide +kernel
theorem dX8_findOver_159 : decode cX8_findOver 159 = .ok (.iload 4, 2) := by decide +kernel
theorem dX8_findOver_161 : decode cX8_findOver 161 = .ok (.invokevirtual 332, 3) := by decide +kernel
theorem dX8_findOver_164 : decode cX8_findOver 164 = .ok (.ifCond .eq 7, 3) := by decide +kernel
theorem dX8_findOver_167 : decode cX8_findOver 167 = .ok (.iconst 1, 1) := by decide +kernel
theorem dX8_findOver_168 : decode cX8_findOver 168 = .ok (.goto 4, 3) := by decide +kernel
theorem dX8_findOver_171 : decode cX8_findOver 171 = .ok (.iconst 0, 1) := by decide +kernel
theorem dX8_findOver_172 : decode cX8_findOver 172 = .ok (.bastore, 1) := by decide +kernel
theorem dX8_findOver_173 : decode cX8_findOver 173 = .ok (.iinc 4 (-1), 3) := by decide +kernel
theorem dX8_findOver_176 : decode cX8_findOver 176 = .ok (.goto (-109), 3) := by decide +kernel
theorem dX8_findOver_179 : decode cX8_findOver 179 = .ok (.iinc 3 1, 3) := by decide +kernel
theorem dX8_findOver_182 : decode cX8_findOver 182 = .ok (.goto (-169), 3) := by decide +kernel
theorem dX8_findOver_185 : decode cX8_findOver 185 = .ok (.return_, 1) := by decide +kernel
theorem dX8_isNarrow_0 : decode cX8_isNarrow 0 = .ok (.aload_n 0, 1) := by decide +kernel
theorem dX8_isNarrow_1 : decode cX8_isNarrow 1 = .ok (.iload_n 1, 1) := by decide +kernel
theorem dX8_isNarrow_2 : decode cX8_isNarrow 2 = .ok (.iload_n 2, 1) := by decide +kernel
theorem dX8_isNarrow_3 : decode cX8_isNarrow 3 = .ok (.iconst 2, 1) := by decide +kernel
theorem dX8_isNarrow_4 : decode cX8_isNarrow 4 = .ok (.invokevirtual 229, 3) := by decide +kernel
theorem dX8_isNarrow_7 : decode cX8_isNarrow 7 = .ok (.istore 4, 2) := by decide +kernel
theorem dX8_isNarrow_9 : decode cX8_isNarrow 9 = .ok (.aload_n 0, 1) := by decide +kernel
theorem dX8_isNarrow_10 : decode cX8_isNarrow 10 = .ok (.iload_n 1, 1) := by decide +kernel
theorem dX8_isNarrow_11 : decode cX8_isNarrow 11 = .ok (.iload_n 3, 1) := by decide +kernel
theorem dX8_isNarrow_12 : decode cX8_isNarrow 12 = .ok (.iconst 2, 1) := by decide +kernel
theorem dX8_isNarrow_13 : decode cX8_isNarrow 13 = .ok (.invokevirtual 229, 3) := by decide +kernel
theorem dX8_isNarrow_16 : decode cX8_isNarrow 16 = .ok (.istore 5, 2) := by decide +kernel
theorem dX8_isNarrow_18 : decode cX8_isNarrow 18 = .ok (.iload 4, 2) := by decide +kernel
theorem dX8_isNarrow_20 : decode cX8_isNarrow 20 = .ok (.iload 5, 2) := by decide +kernel
theorem dX8_isNarrow_22 : decode cX8_isNarrow 22 = .ok (.if_icmp .ne 5, 3) := by decide +kernel
theorem dX8_isNarrow_25 : decode cX8_isNarrow 25 = .ok (.iconst 1, 1) := by decide +kernel
theorem dX8_isNarrow_26 : decode cX8_isNarrow 26 = .ok (.ireturn, 1) := by decide +kernel
theorem dX8_isNarrow_27 : decode cX8_isNarrow 27 = .ok (.aload_n 0, 1) := by decide +kernel
theorem dX8_isNarrow_28 : decode cX8_isNarrow 28 = .ok (.iload_n 1, 1) := by decide +kernel
theorem dX8_isNarrow_29 : decode cX8_isNarrow 29 = .ok (.iload 4, 2) := by decide +kernel
theorem dX8_isNarrow_31 : decode cX8_isNarrow 31 = .ok (.invokevirtual 225, 3) := by decide +kernel
theorem dX8_isNarrow_34 : decode cX8_isNarrow 34 = .ok (.istore 6, 2) := by decide +kernel
theorem dX8_isNarrow_36 : decode cX8_isNarrow 36 = .ok (.iload 5, 2) := by decide +kernel
theorem dX8_isNarrow_38 : decode cX8_isNarrow 38 = .ok (.iconst 0, 1) := by decide +kernel
theorem dX8_isNarrow_39 : decode cX8_isNarrow 39 = .ok (.bipush 23, 2) := by decide +kernel
theorem dX8_isNarrow_41 : decode cX8_isNarrow 41 = .ok (.invokestatic 165, 3) := by decide +kernel
theorem dX8_isNarrow_44 : decode cX8_isNarrow 44 = .ok (.ifCond .eq 29, 3) := by decide +kernel
theorem dX8_isNarrow_47 : decode cX8_isNarrow 47 = .ok (.iload 6, 2) := by decide +kernel
theorem dX8_isNarrow_49 : decode cX8_isNarrow 49 = .ok (.iconst 0, 1) := by decide +kernel
theorem dX8_isNarrow_50 : decode cX8_isNarrow 50 = .ok (.bipush 23, 2) := by decide +kernel
theorem dX8_isNarrow_52 : decode cX8_isNarrow 52 = .ok (.invokestatic 165, 3) := by decide +kernel
theorem dX8_isNarrow_55 : decode cX8_isNarrow 55 = .ok (.ifCond .eq 18, 3) := by decide +kernel
theorem dX8_isNarrow_58 : decode cX8_isNarrow 58 = .ok (.aload_n 0, 1) := by decide +kernel
theorem dX8_isNarrow_59 : decode cX8_isNarrow 59 = .ok (.iload 6, 2) := by decide +kernel
theorem dX8_isNarrow_61 : decode cX8_isNarrow 61 = .ok (.iload 5, 2) := by decide +kernel
theorem dX8_isNarrow_63 : decode cX8_isNarrow 63 = .ok (.invokevirtual 335, 3) := by decide +kernel
theorem dX8_isNarrow_66 : decode cX8_isNarrow 66 = .ok (.ifCond .eq 7, 3) := by decide +kernel
theorem dX8_isNarrow_69 : decode cX8_isNarrow 69 = .ok (.iconst 1, 1) := by decide +kernel
theorem dX8_isNarrow_70 : decode cX8_isNarrow 70 = .ok (.goto 4, 3) := by decide +kernel
theorem dX8_isNarrow_73 : decode cX8_isNarrow 73 = .ok (.iconst 0, 1) := by decide +kernel
theorem dX8_isNarrow_74 : decode cX8_isNarrow 74 = .ok (.ireturn, 1) := by decide +kernel
theorem dX8_breaksAbove_0 : decode cX8_breaksAbove 0 = .ok (.aload_n 0, 1) := by decide +kernel
theorem dX8_breaksAbove_1 : decode cX8_breaksAbove 1 = .ok (.getfield 110, 3) := by decide +kernel
theorem dX8_breaksAbove_4 : decode cX8_breaksAbove 4 = .ok (.aload_n 0, 1) := by decide +kernel
theorem dX8_breaksAbove_5 : decode cX8_breaksAbove 5 = .ok (.iload_n 1, 1) := by decide +kernel
theorem dX8_breaksAbove_6 : decode cX8_breaksAbove 6 = .ok (.invokevirtual 214, 3) := by decide +kernel
theorem dX8_breaksAbove_9 : decode cX8_breaksAbove 9 = .ok (.iaload, 1) := by decide +kernel
theorem dX8_breaksAbove_10 : decode cX8_breaksAbove 10 = .ok (.istore_n 2, 1) := by decide +kernel
theorem dX8_breaksAbove_11 : decode cX8_breaksAbove 11 = .ok (.iconst 0, 1) := by decide +kernel
theorem dX8_breaksAbove_12 : decode cX8_breaksAbove 12 = .ok (.istore_n 3, 1) := by decide +kernel
theorem dX8_breaksAbove_13 : decode cX8_breaksAbove 13 = .ok (.iload_n 2, 1) := by decide +kernel
theorem dX8_breaksAbove_14 : decode cX8_breaksAbove 14 = .ok (.istore 4, 2) := by decide +kernel
theorem dX8_breaksAbove_16 : decode cX8_breaksAbove 16 = .ok (.iload 4, 2) := by decide +kernel
theorem dX8_breaksAbove_18 : decode cX8_breaksAbove 18 = .ok (.iload_n 2, 1) := by decide +kernel
theorem dX8_breaksAbove_19 : decode cX8_breaksAbove 19 = .ok (.aload_n 0, 1) := by decide +kernel
theorem dX8_breaksAbove_20 : decode cX8_breaksAbove 20 = .ok (.getfield 113, 3) := by decide +kernel
theorem dX8_breaksAbove_23 : decode cX8_breaksAbove 23 = .ok (.aload_n 0, 1) := by decide +kernel
theorem dX8_breaksAbove_24 : decode cX8_breaksAbove 24 = .ok (.iload_n 1, 1) := by decide +kernel
theorem dX8_breaksAbove_25 : decode cX8_breaksAbove 25 = .ok (.invokevirtual 214, 3) := by decide +kernel
theorem dX8_breaksAbove_28 : decode cX8_breaksAbove 28 = .ok (.iaload, 1) := by decide +kernel
theorem dX8_breaksAbove_29 : decode cX8_breaksAbove 29 = .ok (.iadd, 1) := by decide +kernel
theorem dX8_breaksAbove_30 : decode cX8_breaksAbove 30 = .ok (.if_icmp .ge 166, 3) := by decide +kernel
theorem dX8_breaksAbove_33 : decode cX8_breaksAbove 33 = .ok (.iconst 0, 1) := by decide +kernel
theorem dX8_breaksAbove_34 : decode cX8_breaksAbove 34 = .ok (.istore 5, 2) := by decide +kernel
theorem dX8_breaksAbove_36 : decode cX8_breaksAbove 36 = .ok (.iload 5, 2) := by decide +kernel
theorem dX8_breaksAbove_38 : decode cX8_breaksAbove 38 = .ok (.iload_n 2, 1) := by decide +kernel
theorem dX8_breaksAbove_39 : decode cX8_breaksAbove 39 = .ok (.if_icmp .ge 151, 3) := by decide +kernel
theorem dX8_breaksAbove_42 : decode cX8_breaksAbove 42 = .ok (.aload_n 0, 1) := by decide +kernel
theorem dX8_breaksAbove_43 : decode cX8_breaksAbove 43 = .ok (.getfield 103, 3) := by decide +kernel
theorem dX8_breaksAbove_46 : decode cX8_breaksAbove 46 = .ok (.bipush 24, 2) := by decide +kernel
theorem dX8_breaksAbove_48 : decode cX8_breaksAbove 48 = .ok (.aload_n 0, 1) := by decide +kernel
theorem dX8_breaksAbove_49 : decode cX8_breaksAbove 49 = .ok (.iload_n 1, 1) := by decide +kernel
theorem dX8_breaksAbove_50 : decode cX8_breaksAbove 50 = .ok (.invokevirtual 214, 3) := by decide +kernel
theorem dX8_breaksAbove_53 : decode cX8_breaksAbove 53 = .ok (.imul, 1) := by decide +kernel
theorem dX8_breaksAbove_54 : decode cX8_breaksAbove 54 = .ok (.aload_n 0, 1) := by decide +kernel
theorem dX8_breaksAbove_55 : decode cX8_breaksAbove 55 = .ok (.getfield 122, 3) := by decide +kernel
theorem dX8_breaksAbove_58 : decode cX8_breaksAbove 58 = .ok (.aload_n 0, 1) := by decide +kernel
theorem dX8_breaksAbove_59 : decode cX8_breaksAbove 59 = .ok (.iload 5, 2) := by decide +kernel
theorem dX8_breaksAbove_61 : decode cX8_breaksAbove 61 = .ok (.invokevirtual 218, 3) := by decide +kernel
theorem dX8_breaksAbove_64 : decode cX8_breaksAbove 64 = .ok (.iaload, 1) := by decide +kernel
theorem dX8_breaksAbove_65 : decode cX8_breaksAbove 65 = .ok (.iadd, 1) := by decide +kernel
theorem dX8_breaksAbove_66 : decode cX8_breaksAbove 66 = .ok (.baload, 1) := by decide +kernel
theorem dX8_breaksAbove_67 : decode cX8_breaksAbove 67 = .ok (.ifCond .eq 117, 3) := by decide +kernel
theorem dX8_breaksAbove_70 : decode cX8_breaksAbove 70 = .ok (.aload_n 0, 1) := by decide +kernel
theorem dX8_breaksAbove_71 : decode cX8_breaksAbove 71 = .ok (.iload_n 1, 1) := by decide +kernel
theorem dX8_breaksAbove_72 : decode cX8_breaksAbove 72 = .ok (.iload 4, 2) := by decide +kernel
theorem dX8_breaksAbove_74 : decode cX8_breaksAbove 74 = .ok (.iload 5, 2) := by decide +kernel
theorem dX8_breaksAbove_76 : decode cX8_breaksAbove 76 = .ok (.invokevirtual 332, 3) := by decide +kernel
theorem dX8_breaksAbove_79 : decode cX8_breaksAbove 79 = .ok (.ifCond .eq 105, 3) := by decide +kernel
theorem dX8_breaksAbove_82 : decode cX8_breaksAbove 82 = .ok (.aload_n 0, 1) := by decide +kernel
theorem dX8_breaksAbove_83 : decode cX8_breaksAbove 83 = .ok (.getfield 131, 3) := by decide +kernel
theorem dX8_breaksAbove_86 : decode cX8_breaksAbove 86 = .ok (.aload_n 0, 1) := by decide +kernel
theorem dX8_breaksAbove_87 : decode cX8_breaksAbove 87 = .ok (.iload 4, 2) := by decide +kernel
theorem dX8_breaksAbove_89 : decode cX8_breaksAbove 89 = .ok (.invokevirtual 218, 3) := by decide +kernel
theorem dX8_breaksAbove_92 : decode cX8_breaksAbove 92 = .ok (.iaload, 1) := by decide +kernel
theorem dX8_breaksAbove_93 : decode cX8_breaksAbove 93 = .ok (.iconst 1, 1) := by decide +kernel
theorem dX8_breaksAbove_94 : decode cX8_breaksAbove 94 = .ok (.if_icmp .ne 7, 3) := by decide +kernel
theorem dX8_breaksAbove_97 : decode cX8_breaksAbove 97 = .ok (.iconst 1, 1) := by decide +kernel
theorem dX8_breaksAbove_98 : decode cX8_breaksAbove 98 = .ok (.goto 4, 3) := by decide +kernel
theorem dX8_breaksAbove_101 : decode cX8_breaksAbove 101 = .ok (.iconst 0, 1) := by decide +kernel
theorem dX8_breaksAbove_102 : decode cX8_breaksAbove 102 = .ok (.aload_n 0, 1) := by decide +kernel
theorem dX8_breaksAbove_103 : decode cX8_breaksAbove 103 = .ok (.getfield 131, 3) := by decide +kernel
theorem dX8_breaksAbove_106 : decode cX8_breaksAbove 106 = .ok (.aload_n 0, 1) := by decide +kernel
theorem dX8_breaksAbove_107 : decode cX8_breaksAbove 107 = .ok (.iload 5, 2) := by decide +kernel
theorem dX8_breaksAbove_109 : decode cX8_breaksAbove 109 = .ok (.invokevirtual 218, 3) := by decide +kernel
theorem dX8_breaksAbove_112 : decode cX8_breaksAbove 112 = .ok (.iaload, 1) := by decide +kernel
theorem dX8_breaksAbove_113 : decode cX8_breaksAbove 113 = .ok (.iconst 1, 1) := by decide +kernel
theorem dX8_breaksAbove_114 : decode cX8_breaksAbove 114 = .ok (.if_icmp .ne 7, 3) := by decide +kernel
theorem dX8_breaksAbove_117 : decode cX8_breaksAbove 117 = .ok (.iconst 1, 1) := by decide +kernel
theorem dX8_breaksAbove_118 : decode cX8_breaksAbove 118 = .ok (.goto 4, 3) := by decide +kernel
theorem dX8_breaksAbove_121 : decode cX8_breaksAbove 121 = .ok (.iconst 0, 1) := by decide +kernel
theorem dX8_breaksAbove_122 : decode cX8_breaksAbove 122 = .ok (.if_icmp .eq 7, 3) := by decide +kernel
theorem dX8_breaksAbove_125 : decode cX8_breaksAbove 125 = .ok (.iconst 1, 1) := by decide +kernel
theorem dX8_breaksAbove_126 : decode cX8_breaksAbove 126 = .ok (.goto 4, 3) := by decide +kernel
theorem dX8_breaksAbove_129 : decode cX8_breaksAbove 129 = .ok (.iconst 0, 1) := by decide +kernel
theorem dX8_breaksAbove_130 : decode cX8_breaksAbove 130 = .ok (.istore 6, 2) := by decide +kernel
theorem dX8_breaksAbove_132 : decode cX8_breaksAbove 132 = .ok (.iload_n 3, 1) := by decide +kernel
theorem dX8_breaksAbove_133 : decode cX8_breaksAbove 133 = .ok (.ifCond .ne 45, 3) := by decide +kernel
theorem dX8_breaksAbove_136 : decode cX8_breaksAbove 136 = .ok (.iload 6, 2) := by decide +kernel
theorem dX8_breaksAbove_138 : decode cX8_breaksAbove 138 = .ok (.ifCond .ne 40, 3) := by decide +kernel
theorem dX8_breaksAbove_141 : decode cX8_breaksAbove 141 = .ok (.aload_n 0, 1) := by decide +kernel
theorem dX8_breaksAbove_142 : decode cX8_breaksAbove 142 = .ok (.getfield 128, 3) := by decide +kernel
theorem dX8_breaksAbove_145 : decode cX8_breaksAbove 145 = .ok (.aload_n 0, 1) := by decide +kernel
theorem dX8_breaksAbove_146 : decode cX8_breaksAbove 146 = .ok (.iload 4, 2) := by decide +kernel
theorem dX8_breaksAbove_148 : decode cX8_breaksAbove 148 = .ok (.invokevirtual 218, 3) := by decide +kernel
theorem dX8_breaksAbove_151 : decode cX8_breaksAbove 151 = .ok (.iaload, 1) := by decide +kernel
theorem dX8_breaksAbove_152 : decode cX8_breaksAbove 152 = .ok (.aload_n 0, 1) := by decide +kernel
theorem dX8_breaksAbove_153 : decode cX8_breaksAbove 153 = .ok (.getfield 128, 3) := by decide +kernel
theorem dX8_breaksAbove_156 : decode cX8_breaksAbove 156 = .ok (.aload_n 0, 1) := by decide +kernel
theorem dX8_breaksAbove_157 : decode cX8_breaksAbove 157 = .ok (.iload 5, 2) := by decide +kernel
theorem dX8_breaksAbove_159 : decode cX8_breaksAbove 159 = .ok (.invokevirtual 218, 3) := by decide +kernel
theorem dX8_breaksAbove_162 : decode cX8_breaksAbove 162 = .ok (.iaload, 1) := by decide +kernel
theorem dX8_breaksAbove_163 : decode cX8_breaksAbove 163 = .ok (.if_icmp .lt 15, 3) := by decide +kernel
theorem dX8_breaksAbove_166 : decode cX8_breaksAbove 166 = .ok (.aload_n 0, 1) := by decide +kernel
theorem dX8_breaksAbove_167 : decode cX8_breaksAbove 167 = .ok (.iload_n 1, 1) := by decide +kernel
theorem dX8_breaksAbove_168 : decode cX8_breaksAbove 168 = .ok (.iload 4, 2) := by decide +kernel
theorem dX8_breaksAbove_170 : decode cX8_breaksAbove 170 = .ok (.iload 5, 2) := by decide +kernel
theorem dX8_breaksAbove_172 : decode cX8_breaksAbove 172 = .ok (.invokevirtual 338, 3) := by decide +kernel
theorem dX8_breaksAbove_175 : decode cX8_breaksAbove 175 = .ok (.ifCond .ne 7, 3) := by decide +kernel
theorem dX8_breaksAbove_178 : decode cX8_breaksAbove 178 = .ok (.iconst 1, 1) := by decide +kernel
theorem dX8_breaksAbove_179 : decode cX8_breaksAbove 179 = .ok (.goto 4, 3) := by decide +kernel
theorem dX8_breaksAbove_182 : decode cX8_breaksAbove 182 = .ok (.iconst 0, 1) := by decide +kernel
theorem dX8_breaksAbove_183 : decode cX8_breaksAbove 183 = .ok (.istore_n 3, 1) := by decide +kernel
theorem dX8_breaksAbove_184 : decode cX8_breaksAbove 184 = .ok (.iinc 5 1, 3) := by decide +kernel
theorem dX8_breaksAbove_187 : decode cX8_breaksAbove 187 = .ok (.goto (-151), 3) := by decide +kernel
theorem dX8_breaksAbove_190 : decode cX8_breaksAbove 190 = .ok (.iinc 4 1, 3) := by decide +kernel
theorem dX8_breaksAbove_193 : decode cX8_breaksAbove 193 = .ok (.goto (-177), 3) := by decide +kernel
theorem dX8_breaksAbove_196 : decode cX8_breaksAbove 196 = .ok (.iload_n 3, 1) := by decide +kernel
theorem dX8_breaksAbove_197 : decode cX8_breaksAbove 197 = .ok (.ireturn, 1) := by decide +kernel
theorem dX8_isBare_0 : decode cX8_isBare 0 = .ok (.aload_n 0, 1) := by decide +kernel
theorem dX8_isBare_1 : decode cX8_isBare 1 = .ok (.getfield 131, 3) := by decide +kernel
theorem dX8_isBare_4 : decode cX8_isBare 4 = .ok (.aload_n 0, 1) := by decide +kernel
theorem dX8_isBare_5 : decode cX8_isBare 5 = .ok (.iload_n 1, 1) := by decide +kernel
theorem dX8_isBare_6 : decode cX8_isBare 6 = .ok (.invokevirtual 218, 3) := by decide +kernel
theorem dX8_isBare_9 : decode cX8_isBare 9 = .ok (.iaload, 1) := by decide +kernel
theorem dX8_isBare_10 : decode cX8_isBare 10 = .ok (.iconst 1, 1) := by decide +kernel
theorem dX8_isBare_11 : decode cX8_isBare 11 = .ok (.if_icmp .eq 20, 3) := by decide +kernel
theorem dX8_isBare_14 : decode cX8_isBare 14 = .ok (.aload_n 0, 1) := by decide +kernel
theorem dX8_isBare_15 : decode cX8_isBare 15 = .ok (.getfield 128, 3) := by decide +kernel
theorem dX8_isBare_18 : decode cX8_isBare 18 = .ok (.aload_n 0, 1) := by decide +kernel
theorem dX8_isBare_19 : decode cX8_isBare 19 = .ok (.iload_n 1, 1) := by decide +kernel
theorem dX8_isBare_20 : decode cX8_isBare 20 = .ok (.invokevirtual 218, 3) := by decide +kernel
theorem dX8_isBare_23 : decode cX8_isBare 23 = .ok (.iaload, 1) := by decide +kernel
theorem dX8_isBare_24 : decode cX8_isBare 24 = .ok (.ifCond .eq 7, 3) := by decide +kernel
theorem dX8_isBare_27 : decode cX8_isBare 27 = .ok (.iconst 1, 1) := by decide +kernel
theorem dX8_isBare_28 : decode cX8_isBare 28 = .ok (.goto 4, 3) := by decide +kernel
theorem dX8_isBare_31 : decode cX8_isBare 31 = .ok (.iconst 0, 1) := by decide +kernel
theorem dX8_isBare_32 : decode cX8_isBare 32 = .ok (.ireturn, 1) := by decide +kernel
theorem dX8_overridesOne_0 : decode cX8_overridesOne 0 = .ok (.iconst 0, 1) := by decide +kernel
theorem dX8_overridesOne_1 : decode cX8_overridesOne 1 = .ok (.istore 4, 2) := by decide +kernel
theorem dX8_overridesOne_3 : decode cX8_overridesOne 3 = .ok (.aload_n 0, 1) := by decide +kernel
theorem dX8_overridesOne_4 : decode cX8_overridesOne 4 = .ok (.getfield 110, 3) := by decide +kernel
theorem dX8_overridesOne_7 : decode cX8_overridesOne 7 = .ok (.aload_n 0, 1) := by decide +kernel
theorem dX8_overridesOne_8 : decode cX8_overridesOne 8 = .ok (.iload_n 1, 1) := by decide +kernel
theorem dX8_overridesOne_9 : decode cX8_overridesOne 9 = .ok (.invokevirtual 214, 3) := by decide +kernel
theorem dX8_overridesOne_12 : decode cX8_overridesOne 12 = .ok (.iaload, 1) := by decide +kernel
theorem dX8_overridesOne_13 : decode cX8_overridesOne 13 = .ok (.istore 5, 2) := by decide +kernel
theorem dX8_overridesOne_15 : decode cX8_overridesOne 15 = .ok (.iload 5, 2) := by decide +kernel
theorem dX8_overridesOne_17 : decode cX8_overridesOne 17 = .ok (.aload_n 0, 1) := by decide +kernel
theorem dX8_overridesOne_18 : decode cX8_overridesOne 18 = .ok (.getfield 110, 3) := by decide +kernel
theorem dX8_overridesOne_21 : decode cX8_overridesOne 21 = .ok (.aload_n 0, 1) := by decide +kernel
theorem dX8_overridesOne_22 : decode cX8_overridesOne 22 = .ok (.iload_n 1, 1) := by decide +kernel
theorem dX8_overridesOne_23 : decode cX8_overridesOne 23 = .ok (.invokevirtual 214, 3) := by decide +kernel
theorem dX8_overridesOne_26 : decode cX8_overridesOne 26 = .ok (.iaload, 1) := by decide +kernel
theorem dX8_overridesOne_27 : decode cX8_overridesOne 27 = .ok (.aload_n 0, 1) := by decide +kernel
theorem dX8_overridesOne_28 : decode cX8_overridesOne 28 = .ok (.getfield 113, 3) := by decide +kernel
theorem dX8_overridesOne_31 : decode cX8_overridesOne 31 = .ok (.aload_n 0, 1) := by decide +kernel
theorem dX8_overridesOne_32 : decode cX8_overridesOne 32 = .ok (.iload_n 1, 1) := by decide +kernel
theorem dX8_overridesOne_33 : decode cX8_overridesOne 33 = .ok (.invokevirtual 214, 3) := by decide +kernel
theorem dX8_overridesOne_36 : decode cX8_overridesOne 36 = .ok (.iaload, 1) := by decide +kernel
theorem dX8_overridesOne_37 : decode cX8_overridesOne 37 = .ok (.iadd, 1) := by decide +kernel
theorem dX8_overridesOne_38 : decode cX8_overridesOne 38 = .ok (.if_icmp .ge 41, 3) := by decide +kernel
theorem dX8_overridesOne_41 : decode cX8_overridesOne 41 = .ok (.iload 4, 2) := by decide +kernel
theorem dX8_overridesOne_43 : decode cX8_overridesOne 43 = .ok (.ifCond .ne 23, 3) := by decide +kernel
theorem dX8_overridesOne_46 : decode cX8_overridesOne 46 = .ok (.aload_n 0, 1) := by decide +kernel
theorem dX8_overridesOne_47 : decode cX8_overridesOne 47 = .ok (.iload 5, 2) := by decide +kernel
theorem dX8_overridesOne_49 : decode cX8_overridesOne 49 = .ok (.iload_n 2, 1) := by decide +kernel
theorem dX8_overridesOne_50 : decode cX8_overridesOne 50 = .ok (.invokevirtual 329, 3) := by decide +kernel
theorem dX8_overridesOne_53 : decode cX8_overridesOne 53 = .ok (.ifCond .ne 13, 3) := by decide +kernel
theorem dX8_overridesOne_56 : decode cX8_overridesOne 56 = .ok (.aload_n 0, 1) := by decide +kernel
theorem dX8_overridesOne_57 : decode cX8_overridesOne 57 = .ok (.iload 5, 2) := by decide +kernel
theorem dX8_overridesOne_59 : decode cX8_overridesOne 59 = .ok (.iload_n 3, 1) := by decide +kernel
theorem dX8_overridesOne_60 : decode cX8_overridesOne 60 = .ok (.invokevirtual 329, 3) := by decide +kernel
theorem dX8_overridesOne_63 : decode cX8_overridesOne 63 = .ok (.ifCond .eq 7, 3) := by decide +kernel
theorem dX8_overridesOne_66 : decode cX8_overridesOne 66 = .ok (.iconst 1, 1) := by decide +kernel
theorem dX8_overridesOne_67 : decode cX8_overridesOne 67 = .ok (.goto 4, 3) := by decide +kernel
theorem dX8_overridesOne_70 : decode cX8_overridesOne 70 = .ok (.iconst 0, 1) := by decide +kernel
theorem dX8_overridesOne_71 : decode cX8_overridesOne 71 = .ok (.istore 4, 2) := by decide +kernel
theorem dX8_overridesOne_73 : decode cX8_overridesOne 73 = .ok (.iinc 5 1, 3) := by decide +kernel
theorem dX8_overridesOne_76 : decode cX8_overridesOne 76 = .ok (.goto (-61), 3) := by decide +kernel
theorem dX8_overridesOne_79 : decode cX8_overridesOne 79 = .ok (.iload 4, 2) := by decide +kernel
theorem dX8_overridesOne_81 : decode cX8_overridesOne 81 = .ok (.ireturn, 1) := by decide +kernel
theorem dX8_clashes_0 : decode cX8_clashes 0 = .ok (.aload_n 0, 1) := by decide +kernel
theorem dX8_clashes_1 : decode cX8_clashes 1 = .ok (.getfield 110, 3) := by decide +kernel
theorem dX8_clashes_4 : decode cX8_clashes 4 = .ok (.aload_n 0, 1) := by decide +kernel
theorem dX8_clashes_5 : decode cX8_clashes 5 = .ok (.iload_n 1, 1) := by decide +kernel
theorem dX8_clashes_6 : decode cX8_clashes 6 = .ok (.invokevirtual 214, 3) := by decide +kernel
theorem dX8_clashes_9 : decode cX8_clashes 9 = .ok (.iaload, 1) := by decide +kernel
theorem dX8_clashes_10 : decode cX8_clashes 10 = .ok (.istore_n 2, 1) := by decide +kernel
theorem dX8_clashes_11 : decode cX8_clashes 11 = .ok (.iconst 0, 1) := by decide +kernel
theorem dX8_clashes_12 : decode cX8_clashes 12 = .ok (.istore_n 3, 1) := by decide +kernel
theorem dX8_clashes_13 : decode cX8_clashes 13 = .ok (.iconst 0, 1) := by decide +kernel
theorem dX8_clashes_14 : decode cX8_clashes 14 = .ok (.istore 4, 2) := by decide +kernel
theorem dX8_clashes_16 : decode cX8_clashes 16 = .ok (.iload 4, 2) := by decide +kernel
theorem dX8_clashes_18 : decode cX8_clashes 18 = .ok (.iload_n 2, 1) := by decide +kernel
theorem dX8_clashes_19 : decode cX8_clashes 19 = .ok (.if_icmp .ge 184, 3) := by decide +kernel
theorem dX8_clashes_22 : decode cX8_clashes 22 = .ok (.iload 4, 2) := by decide +kernel
theorem dX8_clashes_24 : decode cX8_clashes 24 = .ok (.iconst 1, 1) := by decide +kernel
theorem dX8_clashes_25 : decode cX8_clashes 25 = .ok (.iadd, 1) := by decide +kernel
theorem dX8_clashes_26 : decode cX8_clashes 26 = .ok (.istore 5, 2) := by decide +kernel
theorem dX8_clashes_28 : decode cX8_clashes 28 = .ok (.iload 5, 2) := by decide +kernel
theorem dX8_clashes_30 : decode cX8_clashes 30 = .ok (.iload_n 2, 1) := by decide +kernel
theorem dX8_clashes_31 : decode cX8_clashes 31 = .ok (.if_icmp .ge 166, 3) := by decide +kernel
theorem dX8_clashes_34 : decode cX8_clashes 34 = .ok (.aload_n 0, 1) := by decide +kernel
theorem dX8_clashes_35 : decode cX8_clashes 35 = .ok (.getfield 122, 3) := by decide +kernel
theorem dX8_clashes_38 : decode cX8_clashes 38 = .ok (.aload_n 0, 1) := by decide +kernel
theorem dX8_clashes_39 : decode cX8_clashes 39 = .ok (.iload 4, 2) := by decide +kernel
theorem dX8_clashes_41 : decode cX8_clashes 41 = .ok (.invokevirtual 218, 3) := by decide +kernel
theorem dX8_clashes_44 : decode cX8_clashes 44 = .ok (.iaload, 1) := by decide +kernel
theorem dX8_clashes_45 : decode cX8_clashes 45 = .ok (.istore 6, 2) := by decide +kernel
theorem dX8_clashes_47 : decode cX8_clashes 47 = .ok (.aload_n 0, 1) := by decide +kernel
theorem dX8_clashes_48 : decode cX8_clashes 48 = .ok (.getfield 122, 3) := by decide +kernel
theorem dX8_clashes_51 : decode cX8_clashes 51 = .ok (.aload_n 0, 1) := by decide +kernel
theorem dX8_clashes_52 : decode cX8_clashes 52 = .ok (.iload 5, 2) := by decide +kernel
theorem dX8_clashes_54 : decode cX8_clashes 54 = .ok (.invokevirtual 218, 3) := by decide +kernel
theorem dX8_clashes_57 : decode cX8_clashes 57 = .ok (.iaload, 1) := by decide +kernel
theorem dX8_clashes_58 : decode cX8_clashes 58 = .ok (.istore 7, 2) := by decide +kernel
theorem dX8_clashes_60 : decode cX8_clashes 60 = .ok (.aload_n 0, 1) := by decide +kernel
theorem dX8_clashes_61 : decode cX8_clashes 61 = .ok (.getfield 103, 3) := by decide +kernel
theorem dX8_clashes_64 : decode cX8_clashes 64 = .ok (.bipush 24, 2) := by decide +kernel
theorem dX8_clashes_66 : decode cX8_clashes 66 = .ok (.aload_n 0, 1) := by decide +kernel
theorem dX8_clashes_67 : decode cX8_clashes 67 = .ok (.iload_n 1, 1) := by decide +kernel
theorem dX8_clashes_68 : decode cX8_clashes 68 = .ok (.invokevirtual 214, 3) := by decide +kernel
theorem dX8_clashes_71 : decode cX8_clashes 71 = .ok (.imul, 1) := by decide +kernel
theorem dX8_clashes_72 : decode cX8_clashes 72 = .ok (.iload 6, 2) := by decide +kernel
theorem dX8_clashes_74 : decode cX8_clashes 74 = .ok (.iadd, 1) := by decide +kernel
theorem dX8_clashes_75 : decode cX8_clashes 75 = .ok (.baload, 1) := by decide +kernel
theorem dX8_clashes_76 : decode cX8_clashes 76 = .ok (.ifCond .eq 115, 3) := by decide +kernel
theorem dX8_clashes_79 : decode cX8_clashes 79 = .ok (.aload_n 0, 1) := by decide +kernel
theorem dX8_clashes_80 : decode cX8_clashes 80 = .ok (.getfield 103, 3) := by decide +kernel
theorem dX8_clashes_83 : decode cX8_clashes 83 = .ok (.bipush 24, 2) := by decide +kernel
theorem dX8_clashes_85 : decode cX8_clashes 85 = .ok (.aload_n 0, 1) := by decide +kernel
theorem dX8_clashes_86 : decode cX8_clashes 86 = .ok (.iload_n 1, 1) := by decide +kernel
theorem dX8_clashes_87 : decode cX8_clashes 87 = .ok (.invokevirtual 214, 3) := by decide +kernel
theorem dX8_clashes_90 : decode cX8_clashes 90 = .ok (.imul, 1) := by decide +kernel
theorem dX8_clashes_91 : decode cX8_clashes 91 = .ok (.iload 7, 2) := by decide +kernel
theorem dX8_clashes_93 : decode cX8_clashes 93 = .ok (.iadd, 1) := by decide +kernel
theorem dX8_clashes_94 : decode cX8_clashes 94 = .ok (.baload, 1) := by decide +kernel
theorem dX8_clashes_95 : decode cX8_clashes 95 = .ok (.ifCond .eq 96, 3) := by decide +kernel
theorem dX8_clashes_98 : decode cX8_clashes 98 = .ok (.aload_n 0, 1) := by decide +kernel
theorem dX8_clashes_99 : decode cX8_clashes 99 = .ok (.iload 6, 2) := by decide +kernel
theorem dX8_clashes_101 : decode cX8_clashes 101 = .ok (.iload 7, 2) := by decide +kernel
theorem dX8_clashes_103 : decode cX8_clashes 103 = .ok (.invokevirtual 335, 3) := by decide +kernel
theorem dX8_clashes_106 : decode cX8_clashes 106 = .ok (.ifCond .ne 85, 3) := by decide +kernel
theorem dX8_clashes_109 : decode cX8_clashes 109 = .ok (.aload_n 0, 1) := by decide +kernel
theorem dX8_clashes_110 : decode cX8_clashes 110 = .ok (.iload 7, 2) := by decide +kernel
theorem dX8_clashes_112 : decode cX8_clashes 112 = .ok (.iload 6, 2) := by decide +kernel
theorem dX8_clashes_114 : decode cX8_clashes 114 = .ok (.invokevirtual 335, 3) := by decide +kernel
theorem dX8_clashes_117 : decode cX8_clashes 117 = .ok (.ifCond .ne 74, 3) := by decide +kernel
theorem dX8_clashes_120 : decode cX8_clashes 120 = .ok (.aload_n 0, 1) := by decide +kernel
theorem dX8_clashes_121 : decode cX8_clashes 121 = .ok (.iload 4, 2) := by decide +kernel
theorem dX8_clashes_123 : decode cX8_clashes 123 = .ok (.invokevirtual 341, 3) := by decide +kernel
theorem dX8_clashes_126 : decode cX8_clashes 126 = .ok (.ifCond .eq 65, 3) := by decide +kernel
theorem dX8_clashes_129 : decode cX8_clashes 129 = .ok (.aload_n 0, 1) := by decide +kernel
theorem dX8_clashes_130 : decode cX8_clashes 130 = .ok (.iload 5, 2) := by decide +kernel
theorem dX8_clashes_132 : decode cX8_clashes 132 = .ok (.invokevirtual 341, 3) := by decide +kernel
theorem dX8_clashes_135 : decode cX8_clashes 135 = .ok (.ifCond .eq 56, 3) := by decide +kernel
theorem dX8_clashes_138 : decode cX8_clashes 138 = .ok (.aload_n 0, 1) := by decide +kernel
theorem dX8_clashes_139 : decode cX8_clashes 139 = .ok (.iload_n 1, 1) := by decide +kernel
theorem dX8_clashes_140 : decode cX8_clashes 140 = .ok (.iload 4, 2) := by decide +kernel
theorem dX8_clashes_142 : decode cX8_clashes 142 = .ok (.iload 5, 2) := by decide +kernel
theorem dX8_clashes_144 : decode cX8_clashes 144 = .ok (.invokevirtual 326, 3) := by decide +kernel
theorem dX8_clashes_147 : decode cX8_clashes 147 = .ok (.ifCond .eq 44, 3) := by decide +kernel
theorem dX8_clashes_150 : decode cX8_clashes 150 = .ok (.aload_n 0, 1) := by decide +kernel
theorem dX8_clashes_151 : decode cX8_clashes 151 = .ok (.iload_n 1, 1) := by decide +kernel
theorem dX8_clashes_152 : decode cX8_clashes 152 = .ok (.iload 4, 2) := by decide +kernel
theorem dX8_clashes_154 : decode cX8_clashes 154 = .ok (.iconst 2, 1) := by decide +kernel
theorem dX8_clashes_155 : decode cX8_clashes 155 = .ok (.invokevirtual 229, 3) := by decide +kernel
theorem dX8_clashes_158 : decode cX8_clashes 158 = .ok (.aload_n 0, 1) := by decide +kernel
theorem dX8_clashes_159 : decode cX8_clashes 159 = .ok (.iload_n 1, 1) := by decide +kernel
theorem dX8_clashes_160 : decode cX8_clashes 160 = .ok (.iload 5, 2) := by decide +kernel
theorem dX8_clashes_162 : decode cX8_clashes 162 = .ok (.iconst 2, 1) := by decide +kernel
theorem dX8_clashes_163 : decode cX8_clashes 163 = .ok (.invokevirtual 229, 3) := by decide +kernel
theorem dX8_clashes_166 : decode cX8_clashes 166 = .ok (.if_icmp .eq 25, 3) := by decide +kernel
theorem dX8_clashes_169 : decode cX8_clashes 169 = .ok (.iload_n 3, 1) := by decide +kernel
theorem dX8_clashes_170 : decode cX8_clashes 170 = .ok (.ifCond .ne 15, 3) := by decide +kernel
theorem dX8_clashes_173 : decode cX8_clashes 173 = .ok (.aload_n 0, 1) := by decide +kernel
theorem dX8_clashes_174 : decode cX8_clashes 174 = .ok (.iload_n 1, 1) := by decide +kernel
theorem dX8_clashes_175 : decode cX8_clashes 175 = .ok (.iload 4, 2) := by decide +kernel
theorem dX8_clashes_177 : decode cX8_clashes 177 = .ok (.iload 5, 2) := by decide +kernel
theorem dX8_clashes_179 : decode cX8_clashes 179 = .ok (.invokevirtual 344, 3) := by decide +kernel
theorem dX8_clashes_182 : decode cX8_clashes 182 = .ok (.ifCond .ne 7, 3) := by decide +kernel
theorem dX8_clashes_185 : decode cX8_clashes 185 = .ok (.iconst 1, 1) := by decide +kernel
theorem dX8_clashes_186 : decode cX8_clashes 186 = .ok (.goto 4, 3) := by decide +kernel
theorem dX8_clashes_189 : decode cX8_clashes 189 = .ok (.iconst 0, 1) := by decide +kernel
theorem dX8_clashes_190 : decode cX8_clashes 190 = .ok (.istore_n 3, 1) := by decide +kernel
theorem dX8_clashes_191 : decode cX8_clashes 191 = .ok (.iinc 5 1, 3) := by decide +kernel
theorem dX8_clashes_194 : decode cX8_clashes 194 = .ok (.goto (-166), 3) := by decide +kernel
theorem dX8_clashes_197 : decode cX8_clashes 197 = .ok (.iinc 4 1, 3) := by decide +kernel
theorem dX8_clashes_200 : decode cX8_clashes 200 = .ok (.goto (-184), 3) := by decide +kernel
theorem dX8_clashes_203 : decode cX8_clashes 203 = .ok (.iload_n 3, 1) := by decide +kernel
theorem dX8_clashes_204 : decode cX8_clashes 204 = .ok (.ireturn, 1) := by decide +kernel
theorem dX8_hasSought_0 : decode cX8_hasSought 0 = .ok (.aload_n 0, 1) := by decide +kernel
theorem dX8_hasSought_1 : decode cX8_hasSought 1 = .ok (.iload_n 1, 1) := by decide +kernel
theorem dX8_hasSought_2 : decode cX8_hasSought 2 = .ok (.invokevirtual 214, 3) := by decide +kernel
theorem dX8_hasSought_5 : decode cX8_hasSought 5 = .ok (.istore_n 3, 1) := by decide +kernel
theorem dX8_hasSought_6 : decode cX8_hasSought 6 = .ok (.iconst 0, 1) := by decide +kernel
theorem dX8_hasSought_7 : decode cX8_hasSought 7 = .ok (.istore 4, 2) := by decide +kernel
theorem dX8_hasSought_9 : decode cX8_hasSought 9 = .ok (.aload_n 0, 1) := by decide +kernel
theorem dX8_hasSought_10 : decode cX8_hasSought 10 = .ok (.getfield 110, 3) := by decide +kernel
theorem dX8_hasSought_13 : decode cX8_hasSought 13 = .ok (.iload_n 3, 1) := by decide +kernel
theorem dX8_hasSought_14 : decode cX8_hasSought 14 = .ok (.iaload, 1) := by decide +kernel
theorem dX8_hasSought_15 : decode cX8_hasSought 15 = .ok (.istore 5, 2) := by decide +kernel
theorem dX8_hasSought_17 : decode cX8_hasSought 17 = .ok (.iload 5, 2) := by decide +kernel
theorem dX8_hasSought_19 : decode cX8_hasSought 19 = .ok (.aload_n 0, 1) := by decide +kernel
theorem dX8_hasSought_20 : decode cX8_hasSought 20 = .ok (.getfield 110, 3) := by decide +kernel
theorem dX8_hasSought_23 : decode cX8_hasSought 23 = .ok (.iload_n 3, 1) := by decide +kernel
theorem dX8_hasSought_24 : decode cX8_hasSought 24 = .ok (.iaload, 1) := by decide +kernel
theorem dX8_hasSought_25 : decode cX8_hasSought 25 = .ok (.aload_n 0, 1) := by decide +kernel
theorem dX8_hasSought_26 : decode cX8_hasSought 26 = .ok (.getfield 113, 3) := by decide +kernel
theorem dX8_hasSought_29 : decode cX8_hasSought 29 = .ok (.iload_n 3, 1) := by decide +kernel
theorem dX8_hasSought_30 : decode cX8_hasSought 30 = .ok (.iaload, 1) := by decide +kernel
theorem dX8_hasSought_31 : decode cX8_hasSought 31 = .ok (.iadd, 1) := by decide +kernel
theorem dX8_hasSought_32 : decode cX8_hasSought 32 = .ok (.if_icmp .ge 31, 3) := by decide +kernel
theorem dX8_hasSought_35 : decode cX8_hasSought 35 = .ok (.iload 4, 2) := by decide +kernel
theorem dX8_hasSought_37 : decode cX8_hasSought 37 = .ok (.ifCond .ne 13, 3) := by decide +kernel
theorem dX8_hasSought_40 : decode cX8_hasSought 40 = .ok (.aload_n 0, 1) := by decide +kernel
theorem dX8_hasSought_41 : decode cX8_hasSought 41 = .ok (.iload 5, 2) := by decide +kernel
theorem dX8_hasSought_43 : decode cX8_hasSought 43 = .ok (.iload_n 2, 1) := by decide +kernel
theorem dX8_hasSought_44 : decode cX8_hasSought 44 = .ok (.invokevirtual 347, 3) := by decide +kernel
theorem dX8_hasSought_47 : decode cX8_hasSought 47 = .ok (.ifCond .eq 7, 3) := by decide +kernel
theorem dX8_hasSought_50 : decode cX8_hasSought 50 = .ok (.iconst 1, 1) := by decide +kernel
theorem dX8_hasSought_51 : decode cX8_hasSought 51 = .ok (.goto 4, 3) := by decide +kernel
theorem dX8_hasSought_54 : decode cX8_hasSought 54 = .ok (.iconst 0, 1) := by decide +kernel
theorem dX8_hasSought_55 : decode cX8_hasSought 55 = .ok (.istore 4, 2) := by decide +kernel
theorem dX8_hasSought_57 : decode cX8_hasSought 57 = .ok (.iinc 5 1, 3) := by decide +kernel
theorem dX8_hasSought_60 : decode cX8_hasSought 60 = .ok (.goto (-43), 3) := by decide +kernel
theorem dX8_hasSought_63 : decode cX8_hasSought 63 = .ok (.iconst 0, 1) := by decide +kernel
theorem dX8_hasSought_64 : decode cX8_hasSought 64 = .ok (.istore 5, 2) := by decide +kernel
theorem dX8_hasSought_66 : decode cX8_hasSought 66 = .ok (.iload 5, 2) := by decide +kernel
theorem dX8_hasSought_68 : decode cX8_hasSought 68 = .ok (.aload_n 0, 1) := by decide +kernel
theorem dX8_hasSought_69 : decode cX8_hasSought 69 = .ok (.getfield 119, 3) := by decide +kernel
theorem dX8_hasSought_72 : decode cX8_hasSought 72 = .ok (.iload_n 3, 1) := by decide +kernel
theorem dX8_hasSought_73 : decode cX8_hasSought 73 = .ok (.iaload, 1) := by decide +kernel
theorem dX8_hasSought_74 : decode cX8_hasSought 74 = .ok (.if_icmp .ge 52, 3) := by decide +kernel
theorem dX8_hasSought_77 : decode cX8_hasSought 77 = .ok (.iload 4, 2) := by decide +kernel
theorem dX8_hasSought_79 : decode cX8_hasSought 79 = .ok (.ifCond .ne 34, 3) := by decide +kernel
theorem dX8_hasSought_82 : decode cX8_hasSought 82 = .ok (.aload_n 0, 1) := by decide +kernel
theorem dX8_hasSought_83 : decode cX8_hasSought 83 = .ok (.aload_n 0, 1) := by decide +kernel
theorem dX8_hasSought_84 : decode cX8_hasSought 84 = .ok (.getfield 146, 3) := by decide +kernel
theorem dX8_hasSought_87 : decode cX8_hasSought 87 = .ok (.sipush 7200, 3) := by decide +kernel
theorem dX8_hasSought_90 : decode cX8_hasSought 90 = .ok (.aload_n 0, 1) := by decide +kernel
theorem dX8_hasSought_91 : decode cX8_hasSought 91 = .ok (.getfield 208, 3) := by decide +kernel
theorem dX8_hasSought_94 : decode cX8_hasSought 94 = .ok (.imul, 1) := by decide +kernel
theorem dX8_hasSought_95 : decode cX8_hasSought 95 = .ok (.aload_n 0, 1) := by decide +kernel
theorem dX8_hasSought_96 : decode cX8_hasSought 96 = .ok (.getfield 116, 3) := by decide +kernel
theorem dX8_hasSought_99 : decode cX8_hasSought 99 = .ok (.iload_n 3, 1) := by decide +kernel
theorem dX8_hasSought_100 : decode cX8_hasSought 100 = .ok (.iaload, 1) := by decide +kernel
theorem dX8_hasSought_101 : decode cX8_hasSought 101 = .ok (.iadd, 1) := by decide +kernel
theorem dX8_hasSought_102 : decode cX8_hasSought 102 = .ok (.iload 5, 2) := by decide +kernel
theorem dX8_hasSought_104 : decode cX8_hasSought 104 = .ok (.iadd, 1) := by decide +kernel
theorem dX8_hasSought_105 : decode cX8_hasSought 105 = .ok (.iaload, 1) := by decide +kernel
theorem dX8_hasSought_106 : decode cX8_hasSought 106 = .ok (.iload_n 2, 1) := by decide +kernel
theorem dX8_hasSought_107 : decode cX8_hasSought 107 = .ok (.invokevirtual 347, 3) := by decide +kernel
theorem dX8_hasSought_110 : decode cX8_hasSought 110 = .ok (.ifCond .eq 7, 3) := by decide +kernel
theorem dX8_hasSought_113 : decode cX8_hasSought 113 = .ok (.iconst 1, 1) := by decide +kernel
theorem dX8_hasSought_114 : decode cX8_hasSought 114 = .ok (.goto 4, 3) := by decide +kernel
theorem dX8_hasSought_117 : decode cX8_hasSought 117 = .ok (.iconst 0, 1) := by decide +kernel
theorem dX8_hasSought_118 : decode cX8_hasSought 118 = .ok (.istore 4, 2) := by decide +kernel
theorem dX8_hasSought_120 : decode cX8_hasSought 120 = .ok (.iinc 5 1, 3) := by decide +kernel
theorem dX8_hasSought_123 : decode cX8_hasSought 123 = .ok (.goto (-57), 3) := by decide +kernel
theorem dX8_hasSought_126 : decode cX8_hasSought 126 = .ok (.iload 4, 2) := by decide +kernel
theorem dX8_hasSought_128 : decode cX8_hasSought 128 = .ok (.ireturn, 1) := by decide +kernel
theorem dX8_makeBridges_0 : decode cX8_makeBridges 0 = .ok (.aload_n 0, 1) := by decide +kernel
theorem dX8_makeBridges_1 : decode cX8_makeBridges 1 = .ok (.iload_n 1, 1) := by decide +kernel
theorem dX8_makeBridges_2 : decode cX8_makeBridges 2 = .ok (.invokevirtual 214, 3) := by decide +kernel
theorem dX8_makeBridges_5 : decode cX8_makeBridges 5 = .ok (.istore_n 2, 1) := by decide +kernel
theorem dX8_makeBridges_6 : decode cX8_makeBridges 6 = .ok (.aload_n 0, 1) := by decide +kernel
theorem dX8_makeBridges_7 : decode cX8_makeBridges 7 = .ok (.getfield 116, 3) := by decide +kernel
theorem dX8_makeBridges_10 : decode cX8_makeBridges 10 = .ok (.iload_n 2, 1) := by decide +kernel
theorem dX8_makeBridges_11 : decode cX8_makeBridges 11 = .ok (.aload_n 0, 1) := by decide +kernel
theorem dX8_makeBridges_12 : decode cX8_makeBridges 12 = .ok (.getfield 52, 3) := by decide +kernel
theorem dX8_makeBridges_15 : decode cX8_makeBridges 15 = .ok (.aload_n 0, 1) := by decide +kernel
theorem dX8_makeBridges_16 : decode cX8_makeBridges 16 = .ok (.getfield 208, 3) := by decide +kernel
theorem dX8_makeBridges_19 : decode cX8_makeBridges 19 = .ok (.iaload, 1) := by decide +kernel
theorem dX8_makeBridges_20 : decode cX8_makeBridges 20 = .ok (.iastore, 1) := by decide +kernel
theorem dX8_makeBridges_21 : decode cX8_makeBridges 21 = .ok (.aload_n 0, 1) := by decide +kernel
theorem dX8_makeBridges_22 : decode cX8_makeBridges 22 = .ok (.getfield 119, 3) := by decide +kernel
theorem dX8_makeBridges_25 : decode cX8_makeBridges 25 = .ok (.iload_n 2, 1) := by decide +kernel
theorem dX8_makeBridges_26 : decode cX8_makeBridges 26 = .ok (.iconst 0, 1) := by decide +kernel
theorem dX8_makeBridges_27 : decode cX8_makeBridges 27 = .ok (.iastore, 1) := by decide +kernel
theorem dX8_makeBridges_28 : decode cX8_makeBridges 28 = .ok (.aload_n 0, 1) := by decide +kernel
theorem dX8_makeBridges_29 : decode cX8_makeBridges 29 = .ok (.getfield 110, 3) := by decide +kernel
theorem dX8_makeBridges_32 : decode cX8_makeBridges 32 = .ok (.iload_n 2, 1) := by decide +kernel
theorem dX8_makeBridges_33 : decode cX8_makeBridges 33 = .ok (.iaload, 1) := by decide +kernel
theorem dX8_makeBridges_34 : decode cX8_makeBridges 34 = .ok (.istore_n 3, 1) := by decide +kernel
theorem dX8_makeBridges_35 : decode cX8_makeBridges 35 = .ok (.iload_n 3, 1) := by decide +kernel
theorem dX8_makeBridges_36 : decode cX8_makeBridges 36 = .ok (.aload_n 0, 1) := by decide +kernel
theorem dX8_makeBridges_37 : decode cX8_makeBridges 37 = .ok (.getfield 110, 3) := by decide +kernel
theorem dX8_makeBridges_40 : decode cX8_makeBridges 40 = .ok (.iload_n 2, 1) := by decide +kernel
theorem dX8_makeBridges_41 : decode cX8_makeBridges 41 = .ok (.iaload, 1) := by decide +kernel
theorem dX8_makeBridges_42 : decode cX8_makeBridges 42 = .ok (.aload_n 0, 1) := by decide +kernel
theorem dX8_makeBridges_43 : decode cX8_makeBridges 43 = .ok (.getfield 113, 3) := by decide +kernel
theorem dX8_makeBridges_46 : decode cX8_makeBridges 46 = .ok (.iload_n 2, 1) := by decide +kernel
theorem dX8_makeBridges_47 : decode cX8_makeBridges 47 = .ok (.iaload, 1) := by decide +kernel
theorem dX8_makeBridges_48 : decode cX8_makeBridges 48 = .ok (.iadd, 1) := by decide +kernel
theorem dX8_makeBridges_49 : decode cX8_makeBridges 49 = .ok (.if_icmp .ge 197, 3) := by decide +kernel
theorem dX8_makeBridges_52 : decode cX8_makeBridges 52 = .ok (.aload_n 0, 1) := by decide +kernel
theorem dX8_makeBridges_53 : decode cX8_makeBridges 53 = .ok (.getfield 131, 3) := by decide +kernel
theorem dX8_makeBridges_56 : decode cX8_makeBridges 56 = .ok (.aload_n 0, 1) := by decide +kernel
theorem dX8_makeBridges_57 : decode cX8_makeBridges 57 = .ok (.iload_n 3, 1) := by decide +kernel
theorem dX8_makeBridges_58 : decode cX8_makeBridges 58 = .ok (.invokevirtual 218, 3) := by decide +kernel
theorem dX8_makeBridges_61 : decode cX8_makeBridges 61 = .ok (.iaload, 1) := by decide +kernel
theorem dX8_makeBridges_62 : decode cX8_makeBridges 62 = .ok (.iconst 2, 1) := by decide +kernel
theorem dX8_makeBridges_63 : decode cX8_makeBridges 63 = .ok (.if_icmp .eq 177, 3) := by decide +kernel
theorem dX8_makeBridges_66 : decode cX8_makeBridges 66 = .ok (.aload_n 0, 1) := by decide +kernel
theorem dX8_makeBridges_67 : decode cX8_makeBridges 67 = .ok (.iload_n 3, 1) := by decide +kernel
theorem dX8_makeBridges_68 : decode cX8_makeBridges 68 = .ok (.invokevirtual 341, 3) := by decide +kernel
theorem dX8_makeBridges_71 : decode cX8_makeBridges 71 = .ok (.ifCond .ne 6, 3) := by decide +kernel
theorem dX8_makeBridges_74 : decode cX8_makeBridges 74 = .ok (.goto 166, 3) := by decide +kernel
theorem dX8_makeBridges_77 : decode cX8_makeBridges 77 = .ok (.iconst 0, 1) := by decide +kernel
theorem dX8_makeBridges_78 : decode cX8_makeBridges 78 = .ok (.istore 4, 2) := by decide +kernel
theorem dX8_makeBridges_80 : decode cX8_makeBridges 80 = .ok (.iload 4, 2) := by decide +kernel
theorem dX8_makeBridges_82 : decode cX8_makeBridges 82 = .ok (.aload_n 0, 1) := by decide +kernel
theorem dX8_makeBridges_83 : decode cX8_makeBridges 83 = .ok (.getfield 97, 3) := by decide +kernel
theorem dX8_makeBridges_86 : decode cX8_makeBridges 86 = .ok (.iload_n 2, 1) := by decide +kernel
theorem dX8_makeBridges_87 : decode cX8_makeBridges 87 = .ok (.iaload, 1) := by decide +kernel
theorem dX8_makeBridges_88 : decode cX8_makeBridges 88 = .ok (.if_icmp .ge 152, 3) := by decide +kernel
theorem dX8_makeBridges_91 : decode cX8_makeBridges 91 = .ok (.aload_n 0, 1) := by decide +kernel
theorem dX8_makeBridges_92 : decode cX8_makeBridges 92 = .ok (.aload_n 0, 1) := by decide +kernel
theorem dX8_makeBridges_93 : decode cX8_makeBridges 93 = .ok (.getfield 100, 3) := by decide +kernel
theorem dX8_makeBridges_96 : decode cX8_makeBridges 96 = .ok (.bipush 24, 2) := by decide +kernel
theorem dX8_makeBridges_98 : decode cX8_makeBridges 98 = .ok (.iload_n 2, 1) := by decide +kernel
theorem dX8_makeBridges_99 : decode cX8_makeBridges 99 = .ok (.imul, 1) := by decide +kernel
theorem dX8_makeBridges_100 : decode cX8_makeBridges 100 = .ok (.iload 4, 2) := by decide +kernel
theorem dX8_makeBridges_102 : decode cX8_makeBridges 102 = .ok (.iadd, 1) := by decide +kernel
theorem dX8_makeBridges_103 : decode cX8_makeBridges 103 = .ok (.iaload, 1) := by decide +kernel
theorem dX8_makeBridges_104 : decode cX8_makeBridges 104 = .ok (.invokevirtual 214, 3) := by decide +kernel
theorem dX8_makeBridges_107 : decode cX8_makeBridges 107 = .ok (.istore 5, 2) := by decide +kernel
theorem dX8_makeBridges_109 : decode cX8_makeBridges 109 = .ok (.aload_n 0, 1) := by decide +kernel
theorem dX8_makeBridges_110 : decode cX8_makeBridges 110 = .ok (.getfield 110, 3) := by decide +kernel
theorem dX8_makeBridges_113 : decode cX8_makeBridges 113 = .ok (.iload 5, 2) := by decide +kernel
theorem dX8_makeBridges_115 : decode cX8_makeBridges 115 = .ok (.iaload, 1) := by decide +kernel
theorem dX8_makeBridges_116 : decode cX8_makeBridges 116 = .ok (.istore 6, 2) := by decide +kernel
theorem dX8_makeBridges_118 : decode cX8_makeBridges 118 = .ok (.iload 6, 2) := by decide +kernel
theorem dX8_makeBridges_120 : decode cX8_makeBridges 120 = .ok (.aload_n 0, 1) := by decide +kernel
theorem dX8_makeBridges_121 : decode cX8_makeBridges 121 = .ok (.getfield 110, 3) := by decide +kernel
theorem dX8_makeBridges_124 : decode cX8_makeBridges 124 = .ok (.iload 5, 2) := by decide +kernel
theorem dX8_makeBridges_126 : decode cX8_makeBridges 126 = .ok (.iaload, 1) := by decide +kernel
theorem dX8_makeBridges_127 : decode cX8_makeBridges 127 = .ok (.aload_n 0, 1) := by decide +kernel
theorem dX8_makeBridges_128 : decode cX8_makeBridges 128 = .ok (.getfield 113, 3) := by decide +kernel
theorem dX8_makeBridges_131 : decode cX8_makeBridges 131 = .ok (.iload 5, 2) := by decide +kernel
theorem dX8_makeBridges_133 : decode cX8_makeBridges 133 = .ok (.iaload, 1) := by decide +kernel
theorem dX8_makeBridges_134 : decode cX8_makeBridges 134 = .ok (.iadd, 1) := by decide +kernel
theorem dX8_makeBridges_135 : decode cX8_makeBridges 135 = .ok (.if_icmp .ge 99, 3) := by decide +kernel
theorem dX8_makeBridges_138 : decode cX8_makeBridges 138 = .ok (.aload_n 0, 1) := by decide +kernel
theorem dX8_makeBridges_139 : decode cX8_makeBridges 139 = .ok (.iload_n 3, 1) := by decide +kernel
theorem dX8_makeBridges_140 : decode cX8_makeBridges 140 = .ok (.iload 6, 2) := by decide +kernel
theorem dX8_makeBridges_142 : decode cX8_makeBridges 142 = .ok (.invokevirtual 329, 3) := by decide +kernel
theorem dX8_makeBridges_145 : decode cX8_makeBridges 145 = .ok (.ifCond .eq 83, 3) := by decide +kernel
theorem dX8_makeBridges_148 : decode cX8_makeBridges 148 = .ok (.aload_n 0, 1) := by decide +kernel
theorem dX8_makeBridges_149 : decode cX8_makeBridges 149 = .ok (.iload_n 3, 1) := by decide +kernel
theorem dX8_makeBridges_150 : decode cX8_makeBridges 150 = .ok (.iload 6, 2) := by decide +kernel
theorem dX8_makeBridges_152 : decode cX8_makeBridges 152 = .ok (.invokevirtual 347, 3) := by decide +kernel
theorem dX8_makeBridges_155 : decode cX8_makeBridges 155 = .ok (.ifCond .ne 73, 3) := by decide +kernel
theorem dX8_makeBridges_158 : decode cX8_makeBridges 158 = .ok (.aload_n 0, 1) := by decide +kernel
theorem dX8_makeBridges_159 : decode cX8_makeBridges 159 = .ok (.iload_n 1, 1) := by decide +kernel
theorem dX8_makeBridges_160 : decode cX8_makeBridges 160 = .ok (.iload 6, 2) := by decide +kernel
theorem dX8_makeBridges_162 : decode cX8_makeBridges 162 = .ok (.invokevirtual 350, 3) := by decide +kernel
theorem dX8_makeBridges_165 : decode cX8_makeBridges 165 = .ok (.ifCond .ne 63, 3) := by decide +kernel
theorem dX8_makeBridges_168 : decode cX8_makeBridges 168 = .ok (.sipush 7200, 3) := by decide +kernel
theorem dX8_makeBridges_171 : decode cX8_makeBridges 171 = .ok (.aload_n 0, 1) := by decide +kernel
theorem dX8_makeBridges_172 : decode cX8_makeBridges 172 = .ok (.getfield 208, 3) := by decide +kernel
theorem dX8_makeBridges_175 : decode cX8_makeBridges 175 = .ok (.imul, 1) := by decide +kernel
theorem dX8_makeBridges_176 : decode cX8_makeBridges 176 = .ok (.aload_n 0, 1) := by decide +kernel
theorem dX8_makeBridges_177 : decode cX8_makeBridges 177 = .ok (.getfield 52, 3) := by decide +kernel
theorem dX8_makeBridges_180 : decode cX8_makeBridges 180 = .ok (.aload_n 0, 1) := by decide +kernel
theorem dX8_makeBridges_181 : decode cX8_makeBridges 181 = .ok (.getfield 208, 3) := by decide +kernel
theorem dX8_makeBridges_184 : decode cX8_makeBridges 184 = .ok (.iaload, 1) := by decide +kernel
theorem dX8_makeBridges_185 : decode cX8_makeBridges 185 = .ok (.iadd, 1) := by decide +kernel
theorem dX8_makeBridges_186 : decode cX8_makeBridges 186 = .ok (.istore 7, 2) := by decide +kernel
theorem dX8_makeBridges_188 : decode cX8_makeBridges 188 = .ok (.aload_n 0, 1) := by decide +kernel
theorem dX8_makeBridges_189 : decode cX8_makeBridges 189 = .ok (.getfield 143, 3) := by decide +kernel
theorem dX8_makeBridges_192 : decode cX8_makeBridges 192 = .ok (.iload 7, 2) := by decide +kernel
theorem dX8_makeBridges_194 : decode cX8_makeBridges 194 = .ok (.iload_n 3, 1) := by decide +kernel
theorem dX8_makeBridges_195 : decode cX8_makeBridges 195 = .ok (.iastore, 1) := by decide +kernel
theorem dX8_makeBridges_196 : decode cX8_makeBridges 196 = .ok (.aload_n 0, 1) := by decide +kernel
theorem dX8_makeBridges_197 : decode cX8_makeBridges 197 = .ok (.getfield 146, 3) := by decide +kernel
theorem dX8_makeBridges_200 : decode cX8_makeBridges 200 = .ok (.iload 7, 2) := by decide +kernel
theorem dX8_makeBridges_202 : decode cX8_makeBridges 202 = .ok (.iload 6, 2) := by decide +kernel
theorem dX8_makeBridges_204 : decode cX8_makeBridges 204 = .ok (.iastore, 1) := by decide +kernel
theorem dX8_makeBridges_205 : decode cX8_makeBridges 205 = .ok (.aload_n 0, 1) := by decide +kernel
theorem dX8_makeBridges_206 : decode cX8_makeBridges 206 = .ok (.getfield 52, 3) := by decide +kernel
theorem dX8_makeBridges_209 : decode cX8_makeBridges 209 = .ok (.aload_n 0, 1) := by decide +kernel
theorem dX8_makeBridges_210 : decode cX8_makeBridges 210 = .ok (.getfield 208, 3) := by decide +kernel
theorem dX8_makeBridges_213 : decode cX8_makeBridges 213 = .ok (.dup2, 1) := by decide +kernel
theorem dX8_makeBridges_214 : decode cX8_makeBridges 214 = .ok (.iaload, 1) := by decide +kernel
theorem dX8_makeBridges_215 : decode cX8_makeBridges 215 = .ok (.iconst 1, 1) := by decide +kernel
theorem dX8_makeBridges_216 : decode cX8_makeBridges 216 = .ok (.iadd, 1) := by decide +kernel
theorem dX8_makeBridges_217 : decode cX8_makeBridges 217 = .ok (.iastore, 1) := by decide +kernel
theorem dX8_makeBridges_218 : decode cX8_makeBridges 218 = .ok (.aload_n 0, 1) := by decide +kernel
theorem dX8_makeBridges_219 : decode cX8_makeBridges 219 = .ok (.getfield 119, 3) := by decide +kernel
theorem dX8_makeBridges_222 : decode cX8_makeBridges 222 = .ok (.iload_n 2, 1) := by decide +kernel
theorem dX8_makeBridges_223 : decode cX8_makeBridges 223 = .ok (.dup2, 1) := by decide +kernel
theorem dX8_makeBridges_224 : decode cX8_makeBridges 224 = .ok (.iaload, 1) := by decide +kernel
theorem dX8_makeBridges_225 : decode cX8_makeBridges 225 = .ok (.iconst 1, 1) := by decide +kernel
theorem dX8_makeBridges_226 : decode cX8_makeBridges 226 = .ok (.iadd, 1) := by decide +kernel
theorem dX8_makeBridges_227 : decode cX8_makeBridges 227 = .ok (.iastore, 1) := by decide +kernel
theorem dX8_makeBridges_228 : decode cX8_makeBridges 228 = .ok (.iinc 6 1, 3) := by decide +kernel
theorem dX8_makeBridges_231 : decode cX8_makeBridges 231 = .ok (.goto (-113), 3) := by decide +kernel
theorem dX8_makeBridges_234 : decode cX8_makeBridges 234 = .ok (.iinc 4 1, 3) := by decide +kernel
theorem dX8_makeBridges_237 : decode cX8_makeBridges 237 = .ok (.goto (-157), 3) := by decide +kernel
theorem dX8_makeBridges_240 : decode cX8_makeBridges 240 = .ok (.iinc 3 1, 3) := by decide +kernel
theorem dX8_makeBridges_243 : decode cX8_makeBridges 243 = .ok (.goto (-208), 3) := by decide +kernel
theorem dX8_makeBridges_246 : decode cX8_makeBridges 246 = .ok (.return_, 1) := by decide +kernel
theorem dX8_close_0 : decode cX8_close 0 = .ok (.aload_n 0, 1) := by decide +kernel
theorem dX8_close_1 : decode cX8_close 1 = .ok (.iload_n 1, 1) := by decide +kernel
theorem dX8_close_2 : decode cX8_close 2 = .ok (.invokevirtual 353, 3) := by decide +kernel
theorem dX8_close_5 : decode cX8_close 5 = .ok (.istore_n 2, 1) := by decide +kernel
theorem dX8_close_6 : decode cX8_close 6 = .ok (.aload_n 0, 1) := by decide +kernel
theorem dX8_close_7 : decode cX8_close 7 = .ok (.iload_n 1, 1) := by decide +kernel
theorem dX8_close_8 : decode cX8_close 8 = .ok (.invokevirtual 356, 3) := by decide +kernel
theorem dX8_close_11 : decode cX8_close 11 = .ok (.ifCond .eq 16, 3) := by decide +kernel
theorem dX8_close_14 : decode cX8_close 14 = .ok (.aload_n 0, 1) := by decide +kernel
theorem dX8_close_15 : decode cX8_close 15 = .ok (.bipush 7, 2) := by decide +kernel
theorem dX8_close_17 : decode cX8_close 17 = .ok (.aload_n 0, 1) := by decide +kernel
theorem dX8_close_18 : decode cX8_close 18 = .ok (.getfield 172, 3) := by decide +kernel
theorem dX8_close_21 : decode cX8_close 21 = .ok (.invokevirtual 195, 3) := by decide +kernel
theorem dX8_close_24 : decode cX8_close 24 = .ok (.goto 72, 3) := by decide +kernel
theorem dX8_close_27 : decode cX8_close 27 = .ok (.iload_n 2, 1) := by decide +kernel
theorem dX8_close_28 : decode cX8_close 28 = .ok (.ifCond .eq 16, 3) := by decide +kernel
theorem dX8_close_31 : decode cX8_close 31 = .ok (.aload_n 0, 1) := by decide +kernel
theorem dX8_close_32 : decode cX8_close 32 = .ok (.bipush 8, 2) := by decide +kernel
theorem dX8_close_34 : decode cX8_close 34 = .ok (.aload_n 0, 1) := by decide +kernel
theorem dX8_close_35 : decode cX8_close 35 = .ok (.getfield 172, 3) := by decide +kernel
theorem dX8_close_38 : decode cX8_close 38 = .ok (.invokevirtual 195, 3) := by decide +kernel
theorem dX8_close_41 : decode cX8_close 41 = .ok (.goto 55, 3) := by decide +kernel
theorem dX8_close_44 : decode cX8_close 44 = .ok (.aload_n 0, 1) := by decide +kernel
theorem dX8_close_45 : decode cX8_close 45 = .ok (.iload_n 1, 1) := by decide +kernel
theorem dX8_close_46 : decode cX8_close 46 = .ok (.invokevirtual 359, 3) := by decide +kernel
theorem dX8_close_49 : decode cX8_close 49 = .ok (.aload_n 0, 1) := by decide +kernel
theorem dX8_close_50 : decode cX8_close 50 = .ok (.iload_n 1, 1) := by decide +kernel
theorem dX8_close_51 : decode cX8_close 51 = .ok (.invokevirtual 362, 3) := by decide +kernel
theorem dX8_close_54 : decode cX8_close 54 = .ok (.ifCond .eq 16, 3) := by decide +kernel
theorem dX8_close_57 : decode cX8_close 57 = .ok (.aload_n 0, 1) := by decide +kernel
theorem dX8_close_58 : decode cX8_close 58 = .ok (.bipush 9, 2) := by decide +kernel
theorem dX8_close_60 : decode cX8_close 60 = .ok (.aload_n 0, 1) := by decide +kernel
theorem dX8_close_61 : decode cX8_close 61 = .ok (.getfield 172, 3) := by decide +kernel
theorem dX8_close_64 : decode cX8_close 64 = .ok (.invokevirtual 195, 3) := by decide +kernel
theorem dX8_close_67 : decode cX8_close 67 = .ok (.goto 29, 3) := by decide +kernel
theorem dX8_close_70 : decode cX8_close 70 = .ok (.aload_n 0, 1) := by decide +kernel
theorem dX8_close_71 : decode cX8_close 71 = .ok (.iload_n 1, 1) := by decide +kernel
theorem dX8_close_72 : decode cX8_close 72 = .ok (.invokevirtual 365, 3) := by decide +kernel
theorem dX8_close_75 : decode cX8_close 75 = .ok (.ifCond .eq 16, 3) := by decide +kernel
theorem dX8_close_78 : decode cX8_close 78 = .ok (.aload_n 0, 1) := by decide +kernel
theorem dX8_close_79 : decode cX8_close 79 = .ok (.bipush 10, 2) := by decide +kernel
theorem dX8_close_81 : decode cX8_close 81 = .ok (.aload_n 0, 1) := by decide +kernel
theorem dX8_close_82 : decode cX8_close 82 = .ok (.getfield 172, 3) := by decide +kernel
theorem dX8_close_85 : decode cX8_close 85 = .ok (.invokevirtual 195, 3) := by decide +kernel
theorem dX8_close_88 : decode cX8_close 88 = .ok (.goto 8, 3) := by decide +kernel
theorem dX8_close_91 : decode cX8_close 91 = .ok (.aload_n 0, 1) := by decide +kernel
theorem dX8_close_92 : decode cX8_close 92 = .ok (.iload_n 1, 1) := by decide +kernel
theorem dX8_close_93 : decode cX8_close 93 = .ok (.invokevirtual 368, 3) := by decide +kernel
theorem dX8_close_96 : decode cX8_close 96 = .ok (.return_, 1) := by decide +kernel
theorem dX8_type_0 : decode cX8_type 0 = .ok (.aload_n 0, 1) := by decide +kernel
theorem dX8_type_1 : decode cX8_type 1 = .ok (.iload_n 1, 1) := by decide +kernel
theorem dX8_type_2 : decode cX8_type 2 = .ok (.invokevirtual 371, 3) := by decide +kernel
theorem dX8_type_5 : decode cX8_type 5 = .ok (.ifCond .ne 6, 3) := by decide +kernel
theorem dX8_type_8 : decode cX8_type 8 = .ok (.bipush (-11), 2) := by decide +kernel
theorem dX8_type_10 : decode cX8_type 10 = .ok (.ireturn, 1) := by decide +kernel
theorem dX8_type_11 : decode cX8_type 11 = .ok (.aload_n 0, 1) := by decide +kernel
theorem dX8_type_12 : decode cX8_type 12 = .ok (.iload_n 1, 1) := by decide +kernel
theorem dX8_type_13 : decode cX8_type 13 = .ok (.invokevirtual 214, 3) := by decide +kernel
theorem dX8_type_16 : decode cX8_type 16 = .ok (.istore_n 3, 1) := by decide +kernel
theorem dX8_type_17 : decode cX8_type 17 = .ok (.iload_n 2, 1) := by decide +kernel
theorem dX8_type_18 : decode cX8_type 18 = .ok (.tableswitch 138 0 9 #[54, 61, 68, 75, 82, 89, 96, 103, 110, 117], 54) := by decide +kernel
theorem dX8_type_72 : decode cX8_type 72 = .ok (.aload_n 0, 1) := by decide +kernel
theorem dX8_type_73 : decode cX8_type 73 = .ok (.getfield 64, 3) := by decide +kernel
theorem dX8_type_76 : decode cX8_type 76 = .ok (.iload_n 3, 1) := by decide +kernel
theorem dX8_type_77 : decode cX8_type 77 = .ok (.iaload, 1) := by decide +kernel
theorem dX8_type_78 : decode cX8_type 78 = .ok (.ireturn, 1) := by decide +kernel
theorem dX8_type_79 : decode cX8_type 79 = .ok (.aload_n 0, 1) := by decide +kernel
theorem dX8_type_80 : decode cX8_type 80 = .ok (.getfield 67, 3) := by decide +kernel
theorem dX8_type_83 : decode cX8_type 83 = .ok (.iload_n 3, 1) := by decide +kernel
theorem dX8_type_84 : decode cX8_type 84 = .ok (.iaload, 1) := by decide +kernel
theorem dX8_type_85 : decode cX8_type 85 = .ok (.ireturn, 1) := by decide +kernel
theorem dX8_type_86 : decode cX8_type 86 = .ok (.aload_n 0, 1) := by decide +kernel
theorem dX8_type_87 : decode cX8_type 87 = .ok (.getfield 70, 3) := by decide +kernel
theorem dX8_type_90 : decode cX8_type 90 = .ok (.iload_n 3, 1) := by decide +kernel
theorem dX8_type_91 : decode cX8_type 91 = .ok (.iaload, 1) := by decide +kernel
theorem dX8_type_92 : decode cX8_type 92 = .ok (.ireturn, 1) := by decide +kernel
theorem dX8_type_93 : decode cX8_type 93 = .ok (.aload_n 0, 1) := by decide +kernel
theorem dX8_type_94 : decode cX8_type 94 = .ok (.getfield 94, 3) := by decide +kernel
theorem dX8_type_97 : decode cX8_type 97 = .ok (.iload_n 3, 1) := by decide +kernel
theorem dX8_type_98 : decode cX8_type 98 = .ok (.iaload, 1) := by decide +kernel
theorem dX8_type_99 : decode cX8_type 99 = .ok (.ireturn, 1) := by decide +kernel
theorem dX8_type_100 : decode cX8_type 100 = .ok (.aload_n 0, 1) := by decide +kernel
theorem dX8_type_101 : decode cX8_type 101 = .ok (.getfield 73, 3) := by decide +kernel
theorem dX8_type_104 : decode cX8_type 104 = .ok (.iload_n 3, 1) := by decide +kernel
theorem dX8_type_105 : decode cX8_type 105 = .ok (.iaload, 1) := by decide +kernel
theorem dX8_type_106 : decode cX8_type 106 = .ok (.ireturn, 1) := by decide +kernel
theorem dX8_type_107 : decode cX8_type 107 = .ok (.aload_n 0, 1) := by decide +kernel
theorem dX8_type_108 : decode cX8_type 108 = .ok (.getfield 113, 3) := by decide +kernel
theorem dX8_type_111 : decode cX8_type 111 = .ok (.iload_n 3, 1) := by decide +kernel
theorem dX8_type_112 : decode cX8_type 112 = .ok (.iaload, 1) := by decide +kernel
theorem dX8_type_113 : decode cX8_type 113 = .ok (.ireturn, 1) := by decide +kernel
theorem dX8_type_114 : decode cX8_type 114 = .ok (.aload_n 0, 1) := by decide +kernel
theorem dX8_type_115 : decode cX8_type 115 = .ok (.getfield 119, 3) := by decide +kernel
theorem dX8_type_118 : decode cX8_type 118 = .ok (.iload_n 3, 1) := by decide +kernel
theorem dX8_type_119 : decode cX8_type 119 = .ok (.iaload, 1) := by decide +kernel
theorem dX8_type_120 : decode cX8_type 120 = .ok (.ireturn, 1) := by decide +kernel
theorem dX8_type_121 : decode cX8_type 121 = .ok (.aload_n 0, 1) := by decide +kernel
theorem dX8_type_122 : decode cX8_type 122 = .ok (.getfield 76, 3) := by decide +kernel
theorem dX8_type_125 : decode cX8_type 125 = .ok (.iload_n 3, 1) := by decide +kernel
theorem dX8_type_126 : decode cX8_type 126 = .ok (.iaload, 1) := by decide +kernel
theorem dX8_type_127 : decode cX8_type 127 = .ok (.ireturn, 1) := by decide +kernel
theorem dX8_type_128 : decode cX8_type 128 = .ok (.aload_n 0, 1) := by decide +kernel
theorem dX8_type_129 : decode cX8_type 129 = .ok (.getfield 97, 3) := by decide +kernel
theorem dX8_type_132 : decode cX8_type 132 = .ok (.iload_n 3, 1) := by decide +kernel
theorem dX8_type_133 : decode cX8_type 133 = .ok (.iaload, 1) := by decide +kernel
theorem dX8_type_134 : decode cX8_type 134 = .ok (.ireturn, 1) := by decide +kernel
theorem dX8_type_135 : decode cX8_type 135 = .ok (.aload_n 0, 1) := by decide +kernel
theorem dX8_type_136 : decode cX8_type 136 = .ok (.getfield 113, 3) := by decide +kernel
theorem dX8_type_139 : decode cX8_type 139 = .ok (.iload_n 3, 1) := by decide +kernel
theorem dX8_type_140 : decode cX8_type 140 = .ok (.iaload, 1) := by decide +kernel
theorem dX8_type_141 : decode cX8_type 141 = .ok (.ifCond .le 12, 3) := by decide +kernel
theorem dX8_type_144 : decode cX8_type 144 = .ok (.aload_n 0, 1) := by decide +kernel
theorem dX8_type_145 : decode cX8_type 145 = .ok (.getfield 110, 3) := by decide +kernel
theorem dX8_type_148 : decode cX8_type 148 = .ok (.iload_n 3, 1) := by decide +kernel
theorem dX8_type_149 : decode cX8_type 149 = .ok (.iaload, 1) := by decide +kernel
theorem dX8_type_150 : decode cX8_type 150 = .ok (.goto 5, 3) := by decide +kernel
theorem dX8_type_153 : decode cX8_type 153 = .ok (.bipush (-13), 2) := by decide +kernel
theorem dX8_type_155 : decode cX8_type 155 = .ok (.ireturn, 1) := by decide +kernel
theorem dX8_type_156 : decode cX8_type 156 = .ok (.bipush (-12), 2) := by decide +kernel
theorem dX8_type_158 : decode cX8_type 158 = .ok (.ireturn, 1) := by decide +kernel
theorem dX8_above_0 : decode cX8_above 0 = .ok (.aload_n 0, 1) := by decide +kernel
theorem dX8_above_1 : decode cX8_above 1 = .ok (.iload_n 1, 1) := by decide +kernel
theorem dX8_above_2 : decode cX8_above 2 = .ok (.invokevirtual 371, 3) := by decide +kernel
theorem dX8_above_5 : decode cX8_above 5 = .ok (.ifCond .ne 6, 3) := by decide +kernel
theorem dX8_above_8 : decode cX8_above 8 = .ok (.bipush (-11), 2) := by decide +kernel
theorem dX8_above_10 : decode cX8_above 10 = .ok (.ireturn, 1) := by decide +kernel
theorem dX8_above_11 : decode cX8_above 11 = .ok (.iload_n 2, 1) := by decide +kernel
theorem dX8_above_12 : decode cX8_above 12 = .ok (.iconst 0, 1) := by decide +kernel
theorem dX8_above_13 : decode cX8_above 13 = .ok (.aload_n 0, 1) := by decide +kernel
theorem dX8_above_14 : decode cX8_above 14 = .ok (.getfield 97, 3) := by decide +kernel
theorem dX8_above_17 : decode cX8_above 17 = .ok (.aload_n 0, 1) := by decide +kernel
theorem dX8_above_18 : decode cX8_above 18 = .ok (.iload_n 1, 1) := by decide +kernel
theorem dX8_above_19 : decode cX8_above 19 = .ok (.invokevirtual 214, 3) := by decide +kernel
theorem dX8_above_22 : decode cX8_above 22 = .ok (.iaload, 1) := by decide +kernel
theorem dX8_above_23 : decode cX8_above 23 = .ok (.iconst 1, 1) := by decide +kernel
theorem dX8_above_24 : decode cX8_above 24 = .ok (.isub, 1) := by decide +kernel
theorem dX8_above_25 : decode cX8_above 25 = .ok (.invokestatic 165, 3) := by decide +kernel
theorem dX8_above_28 : decode cX8_above 28 = .ok (.ifCond .eq 21, 3) := by decide +kernel
theorem dX8_above_31 : decode cX8_above 31 = .ok (.aload_n 0, 1) := by decide +kernel
theorem dX8_above_32 : decode cX8_above 32 = .ok (.getfield 100, 3) := by decide +kernel
theorem dX8_above_35 : decode cX8_above 35 = .ok (.bipush 24, 2) := by decide +kernel
theorem dX8_above_37 : decode cX8_above 37 = .ok (.aload_n 0, 1) := by decide +kernel
theorem dX8_above_38 : decode cX8_above 38 = .ok (.iload_n 1, 1) := by decide +kernel
theorem dX8_above_39 : decode cX8_above 39 = .ok (.invokevirtual 214, 3) := by decide +kernel
theorem dX8_above_42 : decode cX8_above 42 = .ok (.imul, 1) := by decide +kernel
theorem dX8_above_43 : decode cX8_above 43 = .ok (.iload_n 2, 1) := by decide +kernel
theorem dX8_above_44 : decode cX8_above 44 = .ok (.iadd, 1) := by decide +kernel
theorem dX8_above_45 : decode cX8_above 45 = .ok (.iaload, 1) := by decide +kernel
theorem dX8_above_46 : decode cX8_above 46 = .ok (.goto 5, 3) := by decide +kernel
theorem dX8_above_49 : decode cX8_above 49 = .ok (.bipush (-13), 2) := by decide +kernel
theorem dX8_above_51 : decode cX8_above 51 = .ok (.ireturn, 1) := by decide +kernel
theorem dX8_under_0 : decode cX8_under 0 = .ok (.aload_n 0, 1) := by decide +kernel
theorem dX8_under_1 : decode cX8_under 1 = .ok (.iload_n 1, 1) := by decide +kernel
theorem dX8_under_2 : decode cX8_under 2 = .ok (.invokevirtual 371, 3) := by decide +kernel
theorem dX8_under_5 : decode cX8_under 5 = .ok (.ifCond .eq 11, 3) := by decide +kernel
theorem dX8_under_8 : decode cX8_under 8 = .ok (.aload_n 0, 1) := by decide +kernel
theorem dX8_under_9 : decode cX8_under 9 = .ok (.iload_n 2, 1) := by decide +kernel
theorem dX8_under_10 : decode cX8_under 10 = .ok (.invokevirtual 371, 3) := by decide +kernel
theorem dX8_under_13 : decode cX8_under 13 = .ok (.ifCond .ne 6, 3) := by decide +kernel
theorem dX8_under_16 : decode cX8_under 16 = .ok (.bipush (-11), 2) := by decide +kernel
theorem dX8_under_18 : decode cX8_under 18 = .ok (.ireturn, 1) := by decide +kernel
theorem dX8_under_19 : decode cX8_under 19 = .ok (.aload_n 0, 1) := by decide +kernel
theorem dX8_under_20 : decode cX8_under 20 = .ok (.iload_n 1, 1) := by decide +kernel
theorem dX8_under_21 : decode cX8_under 21 = .ok (.iload_n 2, 1) := by decide +kernel
theorem dX8_under_22 : decode cX8_under 22 = .ok (.invokevirtual 335, 3) := by decide +kernel
theorem dX8_under_25 : decode cX8_under 25 = .ok (.ifCond .eq 7, 3) := by decide +kernel
theorem dX8_under_28 : decode cX8_under 28 = .ok (.iconst 1, 1) := by decide +kernel
theorem dX8_under_29 : decode cX8_under 29 = .ok (.goto 4, 3) := by decide +kernel
theorem dX8_under_32 : decode cX8_under 32 = .ok (.iconst 0, 1) := by decide +kernel
theorem dX8_under_33 : decode cX8_under 33 = .ok (.ireturn, 1) := by decide +kernel
theorem dX8_member_0 : decode cX8_member 0 = .ok (.aload_n 0, 1) := by decide +kernel
theorem dX8_member_1 : decode cX8_member 1 = .ok (.iload_n 1, 1) := by decide +kernel
theorem dX8_member_2 : decode cX8_member 2 = .ok (.invokevirtual 374, 3) := by decide +kernel
theorem dX8_member_5 : decode cX8_member 5 = .ok (.ifCond .ne 6, 3) := by decide +kernel
theorem dX8_member_8 : decode cX8_member 8 = .ok (.bipush (-11), 2) := by decide +kernel
theorem dX8_member_10 : decode cX8_member 10 = .ok (.ireturn, 1) := by decide +kernel
theorem dX8_member_11 : decode cX8_member 11 = .ok (.iload_n 2, 1) := by decide +kernel
theorem dX8_member_12 : decode cX8_member 12 = .ok (.ifCond .ne 16, 3) := by decide +kernel
theorem dX8_member_15 : decode cX8_member 15 = .ok (.aload_n 0, 1) := by decide +kernel
theorem dX8_member_16 : decode cX8_member 16 = .ok (.getfield 122, 3) := by decide +kernel
theorem dX8_member_19 : decode cX8_member 19 = .ok (.aload_n 0, 1) := by decide +kernel
theorem dX8_member_20 : decode cX8_member 20 = .ok (.iload_n 1, 1) := by decide +kernel
theorem dX8_member_21 : decode cX8_member 21 = .ok (.invokevirtual 218, 3) := by decide +kernel
theorem dX8_member_24 : decode cX8_member 24 = .ok (.iaload, 1) := by decide +kernel
theorem dX8_member_25 : decode cX8_member 25 = .ok (.goto 59, 3) := by decide +kernel
theorem dX8_member_28 : decode cX8_member 28 = .ok (.iload_n 2, 1) := by decide +kernel
theorem dX8_member_29 : decode cX8_member 29 = .ok (.iconst 1, 1) := by decide +kernel
theorem dX8_member_30 : decode cX8_member 30 = .ok (.if_icmp .ne 16, 3) := by decide +kernel
theorem dX8_member_33 : decode cX8_member 33 = .ok (.aload_n 0, 1) := by decide +kernel
theorem dX8_member_34 : decode cX8_member 34 = .ok (.getfield 128, 3) := by decide +kernel
theorem dX8_member_37 : decode cX8_member 37 = .ok (.aload_n 0, 1) := by decide +kernel
theorem dX8_member_38 : decode cX8_member 38 = .ok (.iload_n 1, 1) := by decide +kernel
theorem dX8_member_39 : decode cX8_member 39 = .ok (.invokevirtual 218, 3) := by decide +kernel
theorem dX8_member_42 : decode cX8_member 42 = .ok (.iaload, 1) := by decide +kernel
theorem dX8_member_43 : decode cX8_member 43 = .ok (.goto 41, 3) := by decide +kernel
theorem dX8_member_46 : decode cX8_member 46 = .ok (.iload_n 2, 1) := by decide +kernel
theorem dX8_member_47 : decode cX8_member 47 = .ok (.iconst 2, 1) := by decide +kernel
theorem dX8_member_48 : decode cX8_member 48 = .ok (.if_icmp .ne 16, 3) := by decide +kernel
theorem dX8_member_51 : decode cX8_member 51 = .ok (.aload_n 0, 1) := by decide +kernel
theorem dX8_member_52 : decode cX8_member 52 = .ok (.getfield 131, 3) := by decide +kernel
theorem dX8_member_55 : decode cX8_member 55 = .ok (.aload_n 0, 1) := by decide +kernel
theorem dX8_member_56 : decode cX8_member 56 = .ok (.iload_n 1, 1) := by decide +kernel
theorem dX8_member_57 : decode cX8_member 57 = .ok (.invokevirtual 218, 3) := by decide +kernel
theorem dX8_member_60 : decode cX8_member 60 = .ok (.iaload, 1) := by decide +kernel
theorem dX8_member_61 : decode cX8_member 61 = .ok (.goto 23, 3) := by decide +kernel
theorem dX8_member_64 : decode cX8_member 64 = .ok (.iload_n 2, 1) := by decide +kernel
theorem dX8_member_65 : decode cX8_member 65 = .ok (.iconst 3, 1) := by decide +kernel
theorem dX8_member_66 : decode cX8_member 66 = .ok (.if_icmp .ne 16, 3) := by decide +kernel
theorem dX8_member_69 : decode cX8_member 69 = .ok (.aload_n 0, 1) := by decide +kernel
theorem dX8_member_70 : decode cX8_member 70 = .ok (.getfield 134, 3) := by decide +kernel
theorem dX8_member_73 : decode cX8_member 73 = .ok (.aload_n 0, 1) := by decide +kernel
theorem dX8_member_74 : decode cX8_member 74 = .ok (.iload_n 1, 1) := by decide +kernel
theorem dX8_member_75 : decode cX8_member 75 = .ok (.invokevirtual 218, 3) := by decide +kernel
theorem dX8_member_78 : decode cX8_member 78 = .ok (.iaload, 1) := by decide +kernel
theorem dX8_member_79 : decode cX8_member 79 = .ok (.goto 5, 3) := by decide +kernel
theorem dX8_member_82 : decode cX8_member 82 = .ok (.bipush (-12), 2) := by decide +kernel
theorem dX8_member_84 : decode cX8_member 84 = .ok (.ireturn, 1) := by decide +kernel
theorem dX8_seen_0 : decode cX8_seen 0 = .ok (.aload_n 0, 1) := by decide +kernel
theorem dX8_seen_1 : decode cX8_seen 1 = .ok (.iload_n 1, 1) := by decide +kernel
theorem dX8_seen_2 : decode cX8_seen 2 = .ok (.invokevirtual 371, 3) := by decide +kernel
theorem dX8_seen_5 : decode cX8_seen 5 = .ok (.ifCond .eq 11, 3) := by decide +kernel
theorem dX8_seen_8 : decode cX8_seen 8 = .ok (.aload_n 0, 1) := by decide +kernel
theorem dX8_seen_9 : decode cX8_seen 9 = .ok (.iload_n 2, 1) := by decide +kernel
theorem dX8_seen_10 : decode cX8_seen 10 = .ok (.invokevirtual 374, 3) := by decide +kernel
theorem dX8_seen_13 : decode cX8_seen 13 = .ok (.ifCond .ne 6, 3) := by decide +kernel
theorem dX8_seen_16 : decode cX8_seen 16 = .ok (.bipush (-11), 2) := by decide +kernel
theorem dX8_seen_18 : decode cX8_seen 18 = .ok (.ireturn, 1) := by decide +kernel
theorem dX8_seen_19 : decode cX8_seen 19 = .ok (.iload_n 3, 1) := by decide +kernel
theorem dX8_seen_20 : decode cX8_seen 20 = .ok (.iconst 0, 1) := by decide +kernel
theorem dX8_seen_21 : decode cX8_seen 21 = .ok (.iconst 2, 1) := by decide +kernel
theorem dX8_seen_22 : decode cX8_seen 22 = .ok (.invokestatic 165, 3) := by decide +kernel
theorem dX8_seen_25 : decode cX8_seen 25 = .ok (.ifCond .ne 6, 3) := by decide +kernel
theorem dX8_seen_28 : decode cX8_seen 28 = .ok (.bipush (-12), 2) := by decide +kernel
theorem dX8_seen_30 : decode cX8_seen 30 = .ok (.ireturn, 1) := by decide +kernel
theorem dX8_seen_31 : decode cX8_seen 31 = .ok (.iload_n 3, 1) := by decide +kernel
theorem dX8_seen_32 : decode cX8_seen 32 = .ok (.iconst 2, 1) := by decide +kernel
theorem dX8_seen_33 : decode cX8_seen 33 = .ok (.if_icmp .ge 17, 3) := by decide +kernel
theorem dX8_seen_36 : decode cX8_seen 36 = .ok (.iload_n 3, 1) := by decide +kernel
theorem dX8_seen_37 : decode cX8_seen 37 = .ok (.aload_n 0, 1) := by decide +kernel
theorem dX8_seen_38 : decode cX8_seen 38 = .ok (.getfield 134, 3) := by decide +kernel
theorem dX8_seen_41 : decode cX8_seen 41 = .ok (.aload_n 0, 1) := by decide +kernel
theorem dX8_seen_42 : decode cX8_seen 42 = .ok (.iload_n 2, 1) := by decide +kernel
theorem dX8_seen_43 : decode cX8_seen 43 = .ok (.invokevirtual 218, 3) := by decide +kernel
theorem dX8_seen_46 : decode cX8_seen 46 = .ok (.iaload, 1) := by decide +kernel
theorem dX8_seen_47 : decode cX8_seen 47 = .ok (.if_icmp .ge 21, 3) := by decide +kernel
theorem dX8_seen_50 : decode cX8_seen 50 = .ok (.aload_n 0, 1) := by decide +kernel
theorem dX8_seen_51 : decode cX8_seen 51 = .ok (.iload_n 1, 1) := by decide +kernel
theorem dX8_seen_52 : decode cX8_seen 52 = .ok (.aload_n 0, 1) := by decide +kernel
theorem dX8_seen_53 : decode cX8_seen 53 = .ok (.getfield 122, 3) := by decide +kernel
theorem dX8_seen_56 : decode cX8_seen 56 = .ok (.aload_n 0, 1) := by decide +kernel
theorem dX8_seen_57 : decode cX8_seen 57 = .ok (.iload_n 2, 1) := by decide +kernel
theorem dX8_seen_58 : decode cX8_seen 58 = .ok (.invokevirtual 218, 3) := by decide +kernel
theorem dX8_seen_61 : decode cX8_seen 61 = .ok (.iaload, 1) := by decide +kernel
theorem dX8_seen_62 : decode cX8_seen 62 = .ok (.invokevirtual 335, 3) := by decide +kernel
theorem dX8_seen_65 : decode cX8_seen 65 = .ok (.ifCond .ne 8, 3) := by decide +kernel
theorem dX8_seen_68 : decode cX8_seen 68 = .ok (.bipush (-13), 2) := by decide +kernel
theorem dX8_seen_70 : decode cX8_seen 70 = .ok (.goto 10, 3) := by decide +kernel
theorem dX8_seen_73 : decode cX8_seen 73 = .ok (.aload_n 0, 1) := by decide +kernel
theorem dX8_seen_74 : decode cX8_seen 74 = .ok (.iload_n 1, 1) := by decide +kernel
theorem dX8_seen_75 : decode cX8_seen 75 = .ok (.iload_n 2, 1) := by decide +kernel
theorem dX8_seen_76 : decode cX8_seen 76 = .ok (.iload_n 3, 1) := by decide +kernel
theorem dX8_seen_77 : decode cX8_seen 77 = .ok (.invokevirtual 229, 3) := by decide +kernel
theorem dX8_seen_80 : decode cX8_seen 80 = .ok (.ireturn, 1) := by decide +kernel
theorem dX8_erased_0 : decode cX8_erased 0 = .ok (.aload_n 0, 1) := by decide +kernel
theorem dX8_erased_1 : decode cX8_erased 1 = .ok (.iload_n 1, 1) := by decide +kernel
theorem dX8_erased_2 : decode cX8_erased 2 = .ok (.invokevirtual 374, 3) := by decide +kernel
theorem dX8_erased_5 : decode cX8_erased 5 = .ok (.ifCond .ne 6, 3) := by decide +kernel
theorem dX8_erased_8 : decode cX8_erased 8 = .ok (.bipush (-11), 2) := by decide +kernel
theorem dX8_erased_10 : decode cX8_erased 10 = .ok (.ireturn, 1) := by decide +kernel
theorem dX8_erased_11 : decode cX8_erased 11 = .ok (.iload_n 2, 1) := by decide +kernel
theorem dX8_erased_12 : decode cX8_erased 12 = .ok (.iconst 0, 1) := by decide +kernel
theorem dX8_erased_13 : decode cX8_erased 13 = .ok (.iconst 2, 1) := by decide +kernel
theorem dX8_erased_14 : decode cX8_erased 14 = .ok (.invokestatic 165, 3) := by decide +kernel
theorem dX8_erased_17 : decode cX8_erased 17 = .ok (.ifCond .ne 6, 3) := by decide +kernel
theorem dX8_erased_20 : decode cX8_erased 20 = .ok (.bipush (-12), 2) := by decide +kernel
theorem dX8_erased_22 : decode cX8_erased 22 = .ok (.ireturn, 1) := by decide +kernel
theorem dX8_erased_23 : decode cX8_erased 23 = .ok (.iload_n 2, 1) := by decide +kernel
theorem dX8_erased_24 : decode cX8_erased 24 = .ok (.iconst 2, 1) := by decide +kernel
theorem dX8_erased_25 : decode cX8_erased 25 = .ok (.if_icmp .ge 22, 3) := by decide +kernel
theorem dX8_erased_28 : decode cX8_erased 28 = .ok (.iload_n 2, 1) := by decide +kernel
theorem dX8_erased_29 : decode cX8_erased 29 = .ok (.aload_n 0, 1) := by decide +kernel
theorem dX8_erased_30 : decode cX8_erased 30 = .ok (.getfield 134, 3) := by decide +kernel
theorem dX8_erased_33 : decode cX8_erased 33 = .ok (.aload_n 0, 1) := by decide +kernel
theorem dX8_erased_34 : decode cX8_erased 34 = .ok (.iload_n 1, 1) := by decide +kernel
theorem dX8_erased_35 : decode cX8_erased 35 = .ok (.invokevirtual 218, 3) := by decide +kernel
theorem dX8_erased_38 : decode cX8_erased 38 = .ok (.iaload, 1) := by decide +kernel
theorem dX8_erased_39 : decode cX8_erased 39 = .ok (.if_icmp .lt 8, 3) := by decide +kernel
theorem dX8_erased_42 : decode cX8_erased 42 = .ok (.bipush (-13), 2) := by decide +kernel
theorem dX8_erased_44 : decode cX8_erased 44 = .ok (.goto 9, 3) := by decide +kernel
theorem dX8_erased_47 : decode cX8_erased 47 = .ok (.aload_n 0, 1) := by decide +kernel
theorem dX8_erased_48 : decode cX8_erased 48 = .ok (.iload_n 1, 1) := by decide +kernel
theorem dX8_erased_49 : decode cX8_erased 49 = .ok (.iload_n 2, 1) := by decide +kernel
theorem dX8_erased_50 : decode cX8_erased 50 = .ok (.invokevirtual 232, 3) := by decide +kernel
theorem dX8_erased_53 : decode cX8_erased 53 = .ok (.ireturn, 1) := by decide +kernel
theorem dX8_overrides_0 : decode cX8_overrides 0 = .ok (.aload_n 0, 1) := by decide +kernel
theorem dX8_overrides_1 : decode cX8_overrides 1 = .ok (.iload_n 1, 1) := by decide +kernel
theorem dX8_overrides_2 : decode cX8_overrides 2 = .ok (.invokevirtual 374, 3) := by decide +kernel
theorem dX8_overrides_5 : decode cX8_overrides 5 = .ok (.ifCond .eq 11, 3) := by decide +kernel
theorem dX8_overrides_8 : decode cX8_overrides 8 = .ok (.aload_n 0, 1) := by decide +kernel
theorem dX8_overrides_9 : decode cX8_overrides 9 = .ok (.iload_n 2, 1) := by decide +kernel
theorem dX8_overrides_10 : decode cX8_overrides 10 = .ok (.invokevirtual 374, 3) := by decide +kernel
theorem dX8_overrides_13 : decode cX8_overrides 13 = .ok (.ifCond .ne 6, 3) := by decide +kernel
theorem dX8_overrides_16 : decode cX8_overrides 16 = .ok (.bipush (-11), 2) := by decide +kernel
theorem dX8_overrides_18 : decode cX8_overrides 18 = .ok (.ireturn, 1) := by decide +kernel
theorem dX8_overrides_19 : decode cX8_overrides 19 = .ok (.aload_n 0, 1) := by decide +kernel
theorem dX8_overrides_20 : decode cX8_overrides 20 = .ok (.iload_n 1, 1) := by decide +kernel
theorem dX8_overrides_21 : decode cX8_overrides 21 = .ok (.iload_n 2, 1) := by decide +kernel
theorem dX8_overrides_22 : decode cX8_overrides 22 = .ok (.invokevirtual 329, 3) := by decide +kernel
theorem dX8_overrides_25 : decode cX8_overrides 25 = .ok (.ifCond .eq 7, 3) := by decide +kernel
theorem dX8_overrides_28 : decode cX8_overrides 28 = .ok (.iconst 1, 1) := by decide +kernel
theorem dX8_overrides_29 : decode cX8_overrides 29 = .ok (.goto 4, 3) := by decide +kernel
theorem dX8_overrides_32 : decode cX8_overrides 32 = .ok (.iconst 0, 1) := by decide +kernel
theorem dX8_overrides_33 : decode cX8_overrides 33 = .ok (.ireturn, 1) := by decide +kernel
theorem dX8_bridge_0 : decode cX8_bridge 0 = .ok (.aload_n 0, 1) := by decide +kernel
theorem dX8_bridge_1 : decode cX8_bridge 1 = .ok (.iload_n 1, 1) := by decide +kernel
theorem dX8_bridge_2 : decode cX8_bridge 2 = .ok (.invokevirtual 371, 3) := by decide +kernel
theorem dX8_bridge_5 : decode cX8_bridge 5 = .ok (.ifCond .ne 6, 3) := by decide +kernel
theorem dX8_bridge_8 : decode cX8_bridge 8 = .ok (.bipush (-11), 2) := by decide +kernel
theorem dX8_bridge_10 : decode cX8_bridge 10 = .ok (.ireturn, 1) := by decide +kernel
theorem dX8_bridge_11 : decode cX8_bridge 11 = .ok (.iload_n 3, 1) := by decide +kernel
theorem dX8_bridge_12 : decode cX8_bridge 12 = .ok (.iconst 0, 1) := by decide +kernel
theorem dX8_bridge_13 : decode cX8_bridge 13 = .ok (.iconst 4, 1) := by decide +kernel
theorem dX8_bridge_14 : decode cX8_bridge 14 = .ok (.invokestatic 165, 3) := by decide +kernel
theorem dX8_bridge_17 : decode cX8_bridge 17 = .ok (.ifCond .ne 6, 3) := by decide +kernel
theorem dX8_bridge_20 : decode cX8_bridge 20 = .ok (.bipush (-12), 2) := by decide +kernel
theorem dX8_bridge_22 : decode cX8_bridge 22 = .ok (.ireturn, 1) := by decide +kernel
theorem dX8_bridge_23 : decode cX8_bridge 23 = .ok (.iload_n 2, 1) := by decide +kernel
theorem dX8_bridge_24 : decode cX8_bridge 24 = .ok (.iconst 0, 1) := by decide +kernel
theorem dX8_bridge_25 : decode cX8_bridge 25 = .ok (.aload_n 0, 1) := by decide +kernel
theorem dX8_bridge_26 : decode cX8_bridge 26 = .ok (.getfield 119, 3) := by decide +kernel
theorem dX8_bridge_29 : decode cX8_bridge 29 = .ok (.aload_n 0, 1) := by decide +kernel
theorem dX8_bridge_30 : decode cX8_bridge 30 = .ok (.iload_n 1, 1) := by decide +kernel
theorem dX8_bridge_31 : decode cX8_bridge 31 = .ok (.invokevirtual 214, 3) := by decide +kernel
theorem dX8_bridge_34 : decode cX8_bridge 34 = .ok (.iaload, 1) := by decide +kernel
theorem dX8_bridge_35 : decode cX8_bridge 35 = .ok (.iconst 1, 1) := by decide +kernel
theorem dX8_bridge_36 : decode cX8_bridge 36 = .ok (.isub, 1) := by decide +kernel
theorem dX8_bridge_37 : decode cX8_bridge 37 = .ok (.invokestatic 165, 3) := by decide +kernel
theorem dX8_bridge_40 : decode cX8_bridge 40 = .ok (.ifCond .ne 6, 3) := by decide +kernel
theorem dX8_bridge_43 : decode cX8_bridge 43 = .ok (.bipush (-13), 2) := by decide +kernel
theorem dX8_bridge_45 : decode cX8_bridge 45 = .ok (.ireturn, 1) := by decide +kernel
theorem dX8_bridge_46 : decode cX8_bridge 46 = .ok (.sipush 7200, 3) := by decide +kernel
theorem dX8_bridge_49 : decode cX8_bridge 49 = .ok (.aload_n 0, 1) := by decide +kernel
theorem dX8_bridge_50 : decode cX8_bridge 50 = .ok (.getfield 208, 3) := by decide +kernel
theorem dX8_bridge_53 : decode cX8_bridge 53 = .ok (.imul, 1) := by decide +kernel
theorem dX8_bridge_54 : decode cX8_bridge 54 = .ok (.aload_n 0, 1) := by decide +kernel
theorem dX8_bridge_55 : decode cX8_bridge 55 = .ok (.getfield 116, 3) := by decide +kernel
theorem dX8_bridge_58 : decode cX8_bridge 58 = .ok (.aload_n 0, 1) := by decide +kernel
theorem dX8_bridge_59 : decode cX8_bridge 59 = .ok (.iload_n 1, 1) := by decide +kernel
theorem dX8_bridge_60 : decode cX8_bridge 60 = .ok (.invokevirtual 214, 3) := by decide +kernel
theorem dX8_bridge_63 : decode cX8_bridge 63 = .ok (.iaload, 1) := by decide +kernel
theorem dX8_bridge_64 : decode cX8_bridge 64 = .ok (.iadd, 1) := by decide +kernel
theorem dX8_bridge_65 : decode cX8_bridge 65 = .ok (.iload_n 2, 1) := by decide +kernel
theorem dX8_bridge_66 : decode cX8_bridge 66 = .ok (.iadd, 1) := by decide +kernel
theorem dX8_bridge_67 : decode cX8_bridge 67 = .ok (.istore 4, 2) := by decide +kernel
theorem dX8_bridge_69 : decode cX8_bridge 69 = .ok (.aload_n 0, 1) := by decide +kernel
theorem dX8_bridge_70 : decode cX8_bridge 70 = .ok (.getfield 146, 3) := by decide +kernel
theorem dX8_bridge_73 : decode cX8_bridge 73 = .ok (.iload 4, 2) := by decide +kernel
theorem dX8_bridge_75 : decode cX8_bridge 75 = .ok (.iaload, 1) := by decide +kernel
theorem dX8_bridge_76 : decode cX8_bridge 76 = .ok (.istore 5, 2) := by decide +kernel
theorem dX8_bridge_78 : decode cX8_bridge 78 = .ok (.iload_n 3, 1) := by decide +kernel
theorem dX8_bridge_79 : decode cX8_bridge 79 = .ok (.iconst 2, 1) := by decide +kernel
theorem dX8_bridge_80 : decode cX8_bridge 80 = .ok (.if_icmp .ge 20, 3) := by decide +kernel
theorem dX8_bridge_83 : decode cX8_bridge 83 = .ok (.iload_n 3, 1) := by decide +kernel
theorem dX8_bridge_84 : decode cX8_bridge 84 = .ok (.ifCond .ne 13, 3) := by decide +kernel
theorem dX8_bridge_87 : decode cX8_bridge 87 = .ok (.aload_n 0, 1) := by decide +kernel
theorem dX8_bridge_88 : decode cX8_bridge 88 = .ok (.getfield 143, 3) := by decide +kernel
theorem dX8_bridge_91 : decode cX8_bridge 91 = .ok (.iload 4, 2) := by decide +kernel
theorem dX8_bridge_93 : decode cX8_bridge 93 = .ok (.iaload, 1) := by decide +kernel
theorem dX8_bridge_94 : decode cX8_bridge 94 = .ok (.goto 5, 3) := by decide +kernel
theorem dX8_bridge_97 : decode cX8_bridge 97 = .ok (.iload 5, 2) := by decide +kernel
theorem dX8_bridge_99 : decode cX8_bridge 99 = .ok (.ireturn, 1) := by decide +kernel
theorem dX8_bridge_100 : decode cX8_bridge 100 = .ok (.iload_n 3, 1) := by decide +kernel
theorem dX8_bridge_101 : decode cX8_bridge 101 = .ok (.iconst 4, 1) := by decide +kernel
theorem dX8_bridge_102 : decode cX8_bridge 102 = .ok (.if_icmp .ne 13, 3) := by decide +kernel
theorem dX8_bridge_105 : decode cX8_bridge 105 = .ok (.aload_n 0, 1) := by decide +kernel
theorem dX8_bridge_106 : decode cX8_bridge 106 = .ok (.iload 5, 2) := by decide +kernel
theorem dX8_bridge_108 : decode cX8_bridge 108 = .ok (.iconst 2, 1) := by decide +kernel
theorem dX8_bridge_109 : decode cX8_bridge 109 = .ok (.invokevirtual 232, 3) := by decide +kernel
theorem dX8_bridge_112 : decode cX8_bridge 112 = .ok (.goto 34, 3) := by decide +kernel
theorem dX8_bridge_115 : decode cX8_bridge 115 = .ok (.iload_n 3, 1) := by decide +kernel
theorem dX8_bridge_116 : decode cX8_bridge 116 = .ok (.iconst 2, 1) := by decide +kernel
theorem dX8_bridge_117 : decode cX8_bridge 117 = .ok (.isub, 1) := by decide +kernel
theorem dX8_bridge_118 : decode cX8_bridge 118 = .ok (.aload_n 0, 1) := by decide +kernel
theorem dX8_bridge_119 : decode cX8_bridge 119 = .ok (.getfield 134, 3) := by decide +kernel
theorem dX8_bridge_122 : decode cX8_bridge 122 = .ok (.aload_n 0, 1) := by decide +kernel
theorem dX8_bridge_123 : decode cX8_bridge 123 = .ok (.iload 5, 2) := by decide +kernel
theorem dX8_bridge_125 : decode cX8_bridge 125 = .ok (.invokevirtual 218, 3) := by decide +kernel
theorem dX8_bridge_128 : decode cX8_bridge 128 = .ok (.iaload, 1) := by decide +kernel
theorem dX8_bridge_129 : decode cX8_bridge 129 = .ok (.if_icmp .ge 15, 3) := by decide +kernel
theorem dX8_bridge_132 : decode cX8_bridge 132 = .ok (.aload_n 0, 1) := by decide +kernel
theorem dX8_bridge_133 : decode cX8_bridge 133 = .ok (.iload 5, 2) := by decide +kernel
theorem dX8_bridge_135 : decode cX8_bridge 135 = .ok (.iload_n 3, 1) := by decide +kernel
theorem dX8_bridge_136 : decode cX8_bridge 136 = .ok (.iconst 2, 1) := by decide +kernel
theorem dX8_bridge_137 : decode cX8_bridge 137 = .ok (.isub, 1) := by decide +kernel
theorem dX8_bridge_138 : decode cX8_bridge 138 = .ok (.invokevirtual 232, 3) := by decide +kernel
theorem dX8_bridge_141 : decode cX8_bridge 141 = .ok (.goto 5, 3) := by decide +kernel
theorem dX8_bridge_144 : decode cX8_bridge 144 = .ok (.bipush (-13), 2) := by decide +kernel
theorem dX8_bridge_146 : decode cX8_bridge 146 = .ok (.ireturn, 1) := by decide +kernel
theorem dX8_same_0 : decode cX8_same 0 = .ok (.aload_n 0, 1) := by decide +kernel
theorem dX8_same_1 : decode cX8_same 1 = .ok (.iload_n 1, 1) := by decide +kernel
theorem dX8_same_2 : decode cX8_same 2 = .ok (.invokevirtual 371, 3) := by decide +kernel
theorem dX8_same_5 : decode cX8_same 5 = .ok (.ifCond .eq 11, 3) := by decide +kernel
theorem dX8_same_8 : decode cX8_same 8 = .ok (.aload_n 0, 1) := by decide +kernel
theorem dX8_same_9 : decode cX8_same 9 = .ok (.iload_n 2, 1) := by decide +kernel
theorem dX8_same_10 : decode cX8_same 10 = .ok (.invokevirtual 371, 3) := by decide +kernel
theorem dX8_same_13 : decode cX8_same 13 = .ok (.ifCond .ne 6, 3) := by decide +kernel
theorem dX8_same_16 : decode cX8_same 16 = .ok (.bipush (-11), 2) := by decide +kernel
theorem dX8_same_18 : decode cX8_same 18 = .ok (.ireturn, 1) := by decide +kernel
theorem dX8_same_19 : decode cX8_same 19 = .ok (.iload_n 3, 1) := by decide +kernel
theorem dX8_same_20 : decode cX8_same 20 = .ok (.ifCond .eq 29, 3) := by decide +kernel
theorem dX8_same_23 : decode cX8_same 23 = .ok (.aload_n 0, 1) := by decide +kernel
theorem dX8_same_24 : decode cX8_same 24 = .ok (.getfield 73, 3) := by decide +kernel
theorem dX8_same_27 : decode cX8_same 27 = .ok (.aload_n 0, 1) := by decide +kernel
theorem dX8_same_28 : decode cX8_same 28 = .ok (.iload_n 1, 1) := by decide +kernel
theorem dX8_same_29 : decode cX8_same 29 = .ok (.invokevirtual 214, 3) := by decide +kernel
theorem dX8_same_32 : decode cX8_same 32 = .ok (.iaload, 1) := by decide +kernel
theorem dX8_same_33 : decode cX8_same 33 = .ok (.aload_n 0, 1) := by decide +kernel
theorem dX8_same_34 : decode cX8_same 34 = .ok (.getfield 73, 3) := by decide +kernel
theorem dX8_same_37 : decode cX8_same 37 = .ok (.aload_n 0, 1) := by decide +kernel
theorem dX8_same_38 : decode cX8_same 38 = .ok (.iload_n 2, 1) := by decide +kernel
theorem dX8_same_39 : decode cX8_same 39 = .ok (.invokevirtual 214, 3) := by decide +kernel
theorem dX8_same_42 : decode cX8_same 42 = .ok (.iaload, 1) := by decide +kernel
theorem dX8_same_43 : decode cX8_same 43 = .ok (.if_icmp .ne 19, 3) := by decide +kernel
theorem dX8_same_46 : decode cX8_same 46 = .ok (.goto 12, 3) := by decide +kernel
theorem dX8_same_49 : decode cX8_same 49 = .ok (.aload_n 0, 1) := by decide +kernel
theorem dX8_same_50 : decode cX8_same 50 = .ok (.iload_n 1, 1) := by decide +kernel
theorem dX8_same_51 : decode cX8_same 51 = .ok (.iload_n 2, 1) := by decide +kernel
theorem dX8_same_52 : decode cX8_same 52 = .ok (.invokevirtual 258, 3) := by decide +kernel
theorem dX8_same_55 : decode cX8_same 55 = .ok (.ifCond .eq 7, 3) := by decide +kernel
theorem dX8_same_58 : decode cX8_same 58 = .ok (.iconst 1, 1) := by decide +kernel
theorem dX8_same_59 : decode cX8_same 59 = .ok (.goto 4, 3) := by decide +kernel
theorem dX8_same_62 : decode cX8_same 62 = .ok (.iconst 0, 1) := by decide +kernel
theorem dX8_same_63 : decode cX8_same 63 = .ok (.ireturn, 1) := by decide +kernel
theorem dX8_soughtBy_0 : decode cX8_soughtBy 0 = .ok (.iload_n 1, 1) := by decide +kernel
theorem dX8_soughtBy_1 : decode cX8_soughtBy 1 = .ok (.sipush 1000, 3) := by decide +kernel
theorem dX8_soughtBy_4 : decode cX8_soughtBy 4 = .ok (.if_icmp .ge 7, 3) := by decide +kernel
theorem dX8_soughtBy_7 : decode cX8_soughtBy 7 = .ok (.iload_n 1, 1) := by decide +kernel
theorem dX8_soughtBy_8 : decode cX8_soughtBy 8 = .ok (.goto 22, 3) := by decide +kernel
theorem dX8_soughtBy_11 : decode cX8_soughtBy 11 = .ok (.aload_n 0, 1) := by decide +kernel
theorem dX8_soughtBy_12 : decode cX8_soughtBy 12 = .ok (.getfield 146, 3) := by decide +kernel
theorem dX8_soughtBy_15 : decode cX8_soughtBy 15 = .ok (.sipush 7200, 3) := by decide +kernel
theorem dX8_soughtBy_18 : decode cX8_soughtBy 18 = .ok (.aload_n 0, 1) := by decide +kernel
theorem dX8_soughtBy_19 : decode cX8_soughtBy 19 = .ok (.getfield 208, 3) := by decide +kernel
theorem dX8_soughtBy_22 : decode cX8_soughtBy 22 = .ok (.imul, 1) := by decide +kernel
theorem dX8_soughtBy_23 : decode cX8_soughtBy 23 = .ok (.iload_n 1, 1) := by decide +kernel
theorem dX8_soughtBy_24 : decode cX8_soughtBy 24 = .ok (.iadd, 1) := by decide +kernel
theorem dX8_soughtBy_25 : decode cX8_soughtBy 25 = .ok (.sipush 1000, 3) := by decide +kernel
theorem dX8_soughtBy_28 : decode cX8_soughtBy 28 = .ok (.isub, 1) := by decide +kernel
theorem dX8_soughtBy_29 : decode cX8_soughtBy 29 = .ok (.iaload, 1) := by decide +kernel
theorem dX8_soughtBy_30 : decode cX8_soughtBy 30 = .ok (.ireturn, 1) := by decide +kernel
theorem dX8_memberOf_0 : decode cX8_memberOf 0 = .ok (.iload_n 1, 1) := by decide +kernel
theorem dX8_memberOf_1 : decode cX8_memberOf 1 = .ok (.sipush 1000, 3) := by decide +kernel
theorem dX8_memberOf_4 : decode cX8_memberOf 4 = .ok (.if_icmp .ge 7, 3) := by decide +kernel
theorem dX8_memberOf_7 : decode cX8_memberOf 7 = .ok (.iload_n 1, 1) := by decide +kernel
theorem dX8_memberOf_8 : decode cX8_memberOf 8 = .ok (.goto 22, 3) := by decide +kernel
theorem dX8_memberOf_11 : decode cX8_memberOf 11 = .ok (.aload_n 0, 1) := by decide +kernel
theorem dX8_memberOf_12 : decode cX8_memberOf 12 = .ok (.getfield 143, 3) := by decide +kernel
theorem dX8_memberOf_15 : decode cX8_memberOf 15 = .ok (.sipush 7200, 3) := by decide +kernel
theorem dX8_memberOf_18 : decode cX8_memberOf 18 = .ok (.aload_n 0, 1) := by decide +kernel
theorem dX8_memberOf_19 : decode cX8_memberOf 19 = .ok (.getfield 208, 3) := by decide +kernel
theorem dX8_memberOf_22 : decode cX8_memberOf 22 = .ok (.imul, 1) := by decide +kernel
theorem dX8_memberOf_23 : decode cX8_memberOf 23 = .ok (.iload_n 1, 1) := by decide +kernel
theorem dX8_memberOf_24 : decode cX8_memberOf 24 = .ok (.iadd, 1) := by decide +kernel
theorem dX8_memberOf_25 : decode cX8_memberOf 25 = .ok (.sipush 1000, 3) := by decide +kernel
theorem dX8_memberOf_28 : decode cX8_memberOf 28 = .ok (.isub, 1) := by decide +kernel
theorem dX8_memberOf_29 : decode cX8_memberOf 29 = .ok (.iaload, 1) := by decide +kernel
theorem dX8_memberOf_30 : decode cX8_memberOf 30 = .ok (.ireturn, 1) := by decide +kernel
theorem dX8_shapeOf_0 : decode cX8_shapeOf 0 = .ok (.iload_n 1, 1) := by decide +kernel
theorem dX8_shapeOf_1 : decode cX8_shapeOf 1 = .ok (.sipush 1000, 3) := by decide +kernel
theorem dX8_shapeOf_4 : decode cX8_shapeOf 4 = .ok (.if_icmp .ge 16, 3) := by decide +kernel
theorem dX8_shapeOf_7 : decode cX8_shapeOf 7 = .ok (.aload_n 0, 1) := by decide +kernel
theorem dX8_shapeOf_8 : decode cX8_shapeOf 8 = .ok (.getfield 131, 3) := by decide +kernel
theorem dX8_shapeOf_11 : decode cX8_shapeOf 11 = .ok (.aload_n 0, 1) := by decide +kernel
theorem dX8_shapeOf_12 : decode cX8_shapeOf 12 = .ok (.iload_n 1, 1) := by decide +kernel
theorem dX8_shapeOf_13 : decode cX8_shapeOf 13 = .ok (.invokevirtual 218, 3) := by decide +kernel
theorem dX8_shapeOf_16 : decode cX8_shapeOf 16 = .ok (.iaload, 1) := by decide +kernel
theorem dX8_shapeOf_17 : decode cX8_shapeOf 17 = .ok (.goto 4, 3) := by decide +kernel
theorem dX8_shapeOf_20 : decode cX8_shapeOf 20 = .ok (.iconst 0, 1) := by decide +kernel
theorem dX8_shapeOf_21 : decode cX8_shapeOf 21 = .ok (.ireturn, 1) := by decide +kernel
theorem dX8_accessOf_0 : decode cX8_accessOf 0 = .ok (.aload_n 0, 1) := by decide +kernel
theorem dX8_accessOf_1 : decode cX8_accessOf 1 = .ok (.getfield 128, 3) := by decide +kernel
theorem dX8_accessOf_4 : decode cX8_accessOf 4 = .ok (.aload_n 0, 1) := by decide +kernel
theorem dX8_accessOf_5 : decode cX8_accessOf 5 = .ok (.aload_n 0, 1) := by decide +kernel
theorem dX8_accessOf_6 : decode cX8_accessOf 6 = .ok (.iload_n 1, 1) := by decide +kernel
theorem dX8_accessOf_7 : decode cX8_accessOf 7 = .ok (.invokevirtual 377, 3) := by decide +kernel
theorem dX8_accessOf_10 : decode cX8_accessOf 10 = .ok (.invokevirtual 218, 3) := by decide +kernel
theorem dX8_accessOf_13 : decode cX8_accessOf 13 = .ok (.iaload, 1) := by decide +kernel
theorem dX8_accessOf_14 : decode cX8_accessOf 14 = .ok (.ireturn, 1) := by decide +kernel
theorem dX8_ownerOf_0 : decode cX8_ownerOf 0 = .ok (.aload_n 0, 1) := by decide +kernel
theorem dX8_ownerOf_1 : decode cX8_ownerOf 1 = .ok (.getfield 122, 3) := by decide +kernel
theorem dX8_ownerOf_4 : decode cX8_ownerOf 4 = .ok (.aload_n 0, 1) := by decide +kernel
theorem dX8_ownerOf_5 : decode cX8_ownerOf 5 = .ok (.aload_n 0, 1) := by decide +kernel
theorem dX8_ownerOf_6 : decode cX8_ownerOf 6 = .ok (.iload_n 1, 1) := by decide +kernel
theorem dX8_ownerOf_7 : decode cX8_ownerOf 7 = .ok (.invokevirtual 377, 3) := by decide +kernel
theorem dX8_ownerOf_10 : decode cX8_ownerOf 10 = .ok (.invokevirtual 218, 3) := by decide +kernel
theorem dX8_ownerOf_13 : decode cX8_ownerOf 13 = .ok (.iaload, 1) := by decide +kernel
theorem dX8_ownerOf_14 : decode cX8_ownerOf 14 = .ok (.ireturn, 1) := by decide +kernel
theorem dX8_isPlain_0 : decode cX8_isPlain 0 = .ok (.aload_n 0, 1) := by decide +kernel
theorem dX8_isPlain_1 : decode cX8_isPlain 1 = .ok (.iload_n 1, 1) := by decide +kernel
theorem dX8_isPlain_2 : decode cX8_isPlain 2 = .ok (.invokevirtual 380, 3) := by decide +kernel
theorem dX8_isPlain_5 : decode cX8_isPlain 5 = .ok (.iconst 1, 1) := by decide +kernel
theorem dX8_isPlain_6 : decode cX8_isPlain 6 = .ok (.if_icmp .eq 15, 3) := by decide +kernel
theorem dX8_isPlain_9 : decode cX8_isPlain 9 = .ok (.aload_n 0, 1) := by decide +kernel
theorem dX8_isPlain_10 : decode cX8_isPlain 10 = .ok (.iload_n 1, 1) := by decide +kernel
theorem dX8_isPlain_11 : decode cX8_isPlain 11 = .ok (.invokevirtual 383, 3) := by decide +kernel
theorem dX8_isPlain_14 : decode cX8_isPlain 14 = .ok (.ifCond .eq 7, 3) := by decide +kernel
theorem dX8_isPlain_17 : decode cX8_isPlain 17 = .ok (.iconst 1, 1) := by decide +kernel
theorem dX8_isPlain_18 : decode cX8_isPlain 18 = .ok (.goto 4, 3) := by decide +kernel
theorem dX8_isPlain_21 : decode cX8_isPlain 21 = .ok (.iconst 0, 1) := by decide +kernel
theorem dX8_isPlain_22 : decode cX8_isPlain 22 = .ok (.ireturn, 1) := by decide +kernel
theorem dX8_toldAs_0 : decode cX8_toldAs 0 = .ok (.iload_n 1, 1) := by decide +kernel
theorem dX8_toldAs_1 : decode cX8_toldAs 1 = .ok (.sipush 1000, 3) := by decide +kernel
theorem dX8_toldAs_4 : decode cX8_toldAs 4 = .ok (.if_icmp .ge 7, 3) := by decide +kernel
theorem dX8_toldAs_7 : decode cX8_toldAs 7 = .ok (.iload_n 1, 1) := by decide +kernel
theorem dX8_toldAs_8 : decode cX8_toldAs 8 = .ok (.goto 12, 3) := by decide +kernel
theorem dX8_toldAs_11 : decode cX8_toldAs 11 = .ok (.sipush 1000, 3) := by decide +kernel
theorem dX8_toldAs_14 : decode cX8_toldAs 14 = .ok (.aload_n 0, 1) := by decide +kernel
theorem dX8_toldAs_15 : decode cX8_toldAs 15 = .ok (.iload_n 1, 1) := by decide +kernel
theorem dX8_toldAs_16 : decode cX8_toldAs 16 = .ok (.invokevirtual 377, 3) := by decide +kernel
theorem dX8_toldAs_19 : decode cX8_toldAs 19 = .ok (.iadd, 1) := by decide +kernel
theorem dX8_toldAs_20 : decode cX8_toldAs 20 = .ok (.ireturn, 1) := by decide +kernel
theorem dX8_methodIn_0 : decode cX8_methodIn 0 = .ok (.aload_n 0, 1) := by decide +kernel
theorem dX8_methodIn_1 : decode cX8_methodIn 1 = .ok (.iload_n 1, 1) := by decide +kernel
theorem dX8_methodIn_2 : decode cX8_methodIn 2 = .ok (.invokevirtual 214, 3) := by decide +kernel
theorem dX8_methodIn_5 : decode cX8_methodIn 5 = .ok (.istore_n 3, 1) := by decide +kernel
theorem dX8_methodIn_6 : decode cX8_methodIn 6 = .ok (.aload_n 0, 1) := by decide +kernel
theorem dX8_methodIn_7 : decode cX8_methodIn 7 = .ok (.getfield 110, 3) := by decide +kernel
theorem dX8_methodIn_10 : decode cX8_methodIn 10 = .ok (.iload_n 3, 1) := by decide +kernel
theorem dX8_methodIn_11 : decode cX8_methodIn 11 = .ok (.iaload, 1) := by decide +kernel
theorem dX8_methodIn_12 : decode cX8_methodIn 12 = .ok (.istore 4, 2) := by decide +kernel
theorem dX8_methodIn_14 : decode cX8_methodIn 14 = .ok (.iload 4, 2) := by decide +kernel
theorem dX8_methodIn_16 : decode cX8_methodIn 16 = .ok (.aload_n 0, 1) := by decide +kernel
theorem dX8_methodIn_17 : decode cX8_methodIn 17 = .ok (.getfield 110, 3) := by decide +kernel
theorem dX8_methodIn_20 : decode cX8_methodIn 20 = .ok (.iload_n 3, 1) := by decide +kernel
theorem dX8_methodIn_21 : decode cX8_methodIn 21 = .ok (.iaload, 1) := by decide +kernel
theorem dX8_methodIn_22 : decode cX8_methodIn 22 = .ok (.aload_n 0, 1) := by decide +kernel
theorem dX8_methodIn_23 : decode cX8_methodIn 23 = .ok (.getfield 113, 3) := by decide +kernel
theorem dX8_methodIn_26 : decode cX8_methodIn 26 = .ok (.iload_n 3, 1) := by decide +kernel
theorem dX8_methodIn_27 : decode cX8_methodIn 27 = .ok (.iaload, 1) := by decide +kernel
theorem dX8_methodIn_28 : decode cX8_methodIn 28 = .ok (.iadd, 1) := by decide +kernel
theorem dX8_methodIn_29 : decode cX8_methodIn 29 = .ok (.if_icmp .ge 22, 3) := by decide +kernel
theorem dX8_methodIn_32 : decode cX8_methodIn 32 = .ok (.aload_n 0, 1) := by decide +kernel
theorem dX8_methodIn_33 : decode cX8_methodIn 33 = .ok (.iload 4, 2) := by decide +kernel
theorem dX8_methodIn_35 : decode cX8_methodIn 35 = .ok (.iload_n 2, 1) := by decide +kernel
theorem dX8_methodIn_36 : decode cX8_methodIn 36 = .ok (.invokevirtual 347, 3) := by decide +kernel
theorem dX8_methodIn_39 : decode cX8_methodIn 39 = .ok (.ifCond .eq 6, 3) := by decide +kernel
theorem dX8_methodIn_42 : decode cX8_methodIn 42 = .ok (.iload 4, 2) := by decide +kernel
theorem dX8_methodIn_44 : decode cX8_methodIn 44 = .ok (.ireturn, 1) := by decide +kernel
theorem dX8_methodIn_45 : decode cX8_methodIn 45 = .ok (.iinc 4 1, 3) := by decide +kernel
theorem dX8_methodIn_48 : decode cX8_methodIn 48 = .ok (.goto (-34), 3) := by decide +kernel
theorem dX8_methodIn_51 : decode cX8_methodIn 51 = .ok (.iconst 0, 1) := by decide +kernel
theorem dX8_methodIn_52 : decode cX8_methodIn 52 = .ok (.istore 4, 2) := by decide +kernel
theorem dX8_methodIn_54 : decode cX8_methodIn 54 = .ok (.iload 4, 2) := by decide +kernel
theorem dX8_methodIn_56 : decode cX8_methodIn 56 = .ok (.aload_n 0, 1) := by decide +kernel
theorem dX8_methodIn_57 : decode cX8_methodIn 57 = .ok (.getfield 119, 3) := by decide +kernel
theorem dX8_methodIn_60 : decode cX8_methodIn 60 = .ok (.iload_n 3, 1) := by decide +kernel
theorem dX8_methodIn_61 : decode cX8_methodIn 61 = .ok (.iaload, 1) := by decide +kernel
theorem dX8_methodIn_62 : decode cX8_methodIn 62 = .ok (.if_icmp .ge 51, 3) := by decide +kernel
theorem dX8_methodIn_65 : decode cX8_methodIn 65 = .ok (.aload_n 0, 1) := by decide +kernel
theorem dX8_methodIn_66 : decode cX8_methodIn 66 = .ok (.getfield 116, 3) := by decide +kernel
theorem dX8_methodIn_69 : decode cX8_methodIn 69 = .ok (.iload_n 3, 1) := by decide +kernel
theorem dX8_methodIn_70 : decode cX8_methodIn 70 = .ok (.iaload, 1) := by decide +kernel
theorem dX8_methodIn_71 : decode cX8_methodIn 71 = .ok (.iload 4, 2) := by decide +kernel
theorem dX8_methodIn_73 : decode cX8_methodIn 73 = .ok (.iadd, 1) := by decide +kernel
theorem dX8_methodIn_74 : decode cX8_methodIn 74 = .ok (.istore 5, 2) := by decide +kernel
theorem dX8_methodIn_76 : decode cX8_methodIn 76 = .ok (.aload_n 0, 1) := by decide +kernel
theorem dX8_methodIn_77 : decode cX8_methodIn 77 = .ok (.aload_n 0, 1) := by decide +kernel
theorem dX8_methodIn_78 : decode cX8_methodIn 78 = .ok (.getfield 146, 3) := by decide +kernel
theorem dX8_methodIn_81 : decode cX8_methodIn 81 = .ok (.sipush 7200, 3) := by decide +kernel
theorem dX8_methodIn_84 : decode cX8_methodIn 84 = .ok (.aload_n 0, 1) := by decide +kernel
theorem dX8_methodIn_85 : decode cX8_methodIn 85 = .ok (.getfield 208, 3) := by decide +kernel
theorem dX8_methodIn_88 : decode cX8_methodIn 88 = .ok (.imul, 1) := by decide +kernel
theorem dX8_methodIn_89 : decode cX8_methodIn 89 = .ok (.iload 5, 2) := by decide +kernel
theorem dX8_methodIn_91 : decode cX8_methodIn 91 = .ok (.iadd, 1) := by decide +kernel
theorem dX8_methodIn_92 : decode cX8_methodIn 92 = .ok (.iaload, 1) := by decide +kernel
theorem dX8_methodIn_93 : decode cX8_methodIn 93 = .ok (.iload_n 2, 1) := by decide +kernel
theorem dX8_methodIn_94 : decode cX8_methodIn 94 = .ok (.invokevirtual 347, 3) := by decide +kernel
theorem dX8_methodIn_97 : decode cX8_methodIn 97 = .ok (.ifCond .eq 10, 3) := by decide +kernel
theorem dX8_methodIn_100 : decode cX8_methodIn 100 = .ok (.sipush 1000, 3) := by decide +kernel
theorem dX8_methodIn_103 : decode cX8_methodIn 103 = .ok (.iload 5, 2) := by decide +kernel
theorem dX8_methodIn_105 : decode cX8_methodIn 105 = .ok (.iadd, 1) := by decide +kernel
theorem dX8_methodIn_106 : decode cX8_methodIn 106 = .ok (.ireturn, 1) := by decide +kernel
theorem dX8_methodIn_107 : decode cX8_methodIn 107 = .ok (.iinc 4 1, 3) := by decide +kernel
theorem dX8_methodIn_110 : decode cX8_methodIn 110 = .ok (.goto (-56), 3) := by decide +kernel
theorem dX8_methodIn_113 : decode cX8_methodIn 113 = .ok (.iconst (-1), 1) := by decide +kernel
theorem dX8_methodIn_114 : decode cX8_methodIn 114 = .ok (.ireturn, 1) := by decide +kernel
theorem dX8_findSpecific_0 : decode cX8_findSpecific 0 = .ok (.aload_n 0, 1) := by decide +kernel
theorem dX8_findSpecific_1 : decode cX8_findSpecific 1 = .ok (.iconst 0, 1) := by decide +kernel
theorem dX8_findSpecific_2 : decode cX8_findSpecific 2 = .ok (.putfield 386, 3) := by decide +kernel
theorem dX8_findSpecific_5 : decode cX8_findSpecific 5 = .ok (.aload_n 0, 1) := by decide +kernel
theorem dX8_findSpecific_6 : decode cX8_findSpecific 6 = .ok (.iconst 0, 1) := by decide +kernel
theorem dX8_findSpecific_7 : decode cX8_findSpecific 7 = .ok (.putfield 389, 3) := by decide +kernel
theorem dX8_findSpecific_10 : decode cX8_findSpecific 10 = .ok (.iconst 0, 1) := by decide +kernel
theorem dX8_findSpecific_11 : decode cX8_findSpecific 11 = .ok (.istore_n 3, 1) := by decide +kernel
theorem dX8_findSpecific_12 : decode cX8_findSpecific 12 = .ok (.iload_n 3, 1) := by decide +kernel
theorem dX8_findSpecific_13 : decode cX8_findSpecific 13 = .ok (.aload_n 0, 1) := by decide +kernel
theorem dX8_findSpecific_14 : decode cX8_findSpecific 14 = .ok (.getfield 97, 3) := by decide +kernel
theorem dX8_findSpecific_17 : decode cX8_findSpecific 17 = .ok (.aload_n 0, 1) := by decide +kernel
theorem dX8_findSpecific_18 : decode cX8_findSpecific 18 = .ok (.iload_n 1, 1) := by decide +kernel
theorem dX8_findSpecific_19 : decode cX8_findSpecific 19 = .ok (.invokevirtual 214, 3) := by decide +kernel
theorem dX8_findSpecific_22 : decode cX8_findSpecific 22 = .ok (.iaload, 1) := by decide +kernel
theorem dX8_findSpecific_23 : decode cX8_findSpecific 23 = .ok (.if_icmp .ge 89, 3) := by decide +kernel
theorem dX8_findSpecific_26 : decode cX8_findSpecific 26 = .ok (.aload_n 0, 1) := by decide +kernel
theorem dX8_findSpecific_27 : decode cX8_findSpecific 27 = .ok (.getfield 100, 3) := by decide +kernel
theorem dX8_findSpecific_30 : decode cX8_findSpecific 30 = .ok (.bipush 24, 2) := by decide +kernel
theorem dX8_findSpecific_32 : decode cX8_findSpecific 32 = .ok (.aload_n 0, 1) := by decide +kernel
theorem dX8_findSpecific_33 : decode cX8_findSpecific 33 = .ok (.iload_n 1, 1) := by decide +kernel
theorem dX8_findSpecific_34 : decode cX8_findSpecific 34 = .ok (.invokevirtual 214, 3) := by decide +kernel
theorem dX8_findSpecific_37 : decode cX8_findSpecific 37 = .ok (.imul, 1) := by decide +kernel
theorem dX8_findSpecific_38 : decode cX8_findSpecific 38 = .ok (.iload_n 3, 1) := by decide +kernel
theorem dX8_findSpecific_39 : decode cX8_findSpecific 39 = .ok (.iadd, 1) := by decide +kernel
theorem dX8_findSpecific_40 : decode cX8_findSpecific 40 = .ok (.iaload, 1) := by decide +kernel
theorem dX8_findSpecific_41 : decode cX8_findSpecific 41 = .ok (.istore 4, 2) := by decide +kernel
theorem dX8_findSpecific_43 : decode cX8_findSpecific 43 = .ok (.aload_n 0, 1) := by decide +kernel
theorem dX8_findSpecific_44 : decode cX8_findSpecific 44 = .ok (.getfield 70, 3) := by decide +kernel
theorem dX8_findSpecific_47 : decode cX8_findSpecific 47 = .ok (.aload_n 0, 1) := by decide +kernel
theorem dX8_findSpecific_48 : decode cX8_findSpecific 48 = .ok (.iload 4, 2) := by decide +kernel
theorem dX8_findSpecific_50 : decode cX8_findSpecific 50 = .ok (.invokevirtual 214, 3) := by decide +kernel
theorem dX8_findSpecific_53 : decode cX8_findSpecific 53 = .ok (.iaload, 1) := by decide +kernel
theorem dX8_findSpecific_54 : decode cX8_findSpecific 54 = .ok (.iconst 2, 1) := by decide +kernel
theorem dX8_findSpecific_55 : decode cX8_findSpecific 55 = .ok (.if_icmp .ne 13, 3) := by decide +kernel
theorem dX8_findSpecific_58 : decode cX8_findSpecific 58 = .ok (.aload_n 0, 1) := by decide +kernel
theorem dX8_findSpecific_59 : decode cX8_findSpecific 59 = .ok (.iload 4, 2) := by decide +kernel
theorem dX8_findSpecific_61 : decode cX8_findSpecific 61 = .ok (.iload_n 2, 1) := by decide +kernel
theorem dX8_findSpecific_62 : decode cX8_findSpecific 62 = .ok (.invokevirtual 392, 3) := by decide +kernel
theorem dX8_findSpecific_65 : decode cX8_findSpecific 65 = .ok (.goto 4, 3) := by decide +kernel
theorem dX8_findSpecific_68 : decode cX8_findSpecific 68 = .ok (.iconst (-1), 1) := by decide +kernel
theorem dX8_findSpecific_69 : decode cX8_findSpecific 69 = .ok (.istore 5, 2) := by decide +kernel
theorem dX8_findSpecific_71 : decode cX8_findSpecific 71 = .ok (.iload 5, 2) := by decide +kernel
theorem dX8_findSpecific_73 : decode cX8_findSpecific 73 = .ok (.ifCond .lt 33, 3) := by decide +kernel
theorem dX8_findSpecific_76 : decode cX8_findSpecific 76 = .ok (.aload_n 0, 1) := by decide +kernel
theorem dX8_findSpecific_77 : decode cX8_findSpecific 77 = .ok (.iload 5, 2) := by decide +kernel
theorem dX8_findSpecific_79 : decode cX8_findSpecific 79 = .ok (.invokevirtual 395, 3) := by decide +kernel
theorem dX8_findSpecific_82 : decode cX8_findSpecific 82 = .ok (.ifCond .eq 24, 3) := by decide +kernel
theorem dX8_findSpecific_85 : decode cX8_findSpecific 85 = .ok (.aload_n 0, 1) := by decide +kernel
theorem dX8_findSpecific_86 : decode cX8_findSpecific 86 = .ok (.getfield 149, 3) := by decide +kernel
theorem dX8_findSpecific_89 : decode cX8_findSpecific 89 = .ok (.aload_n 0, 1) := by decide +kernel
theorem dX8_findSpecific_90 : decode cX8_findSpecific 90 = .ok (.getfield 386, 3) := by decide +kernel
theorem dX8_findSpecific_93 : decode cX8_findSpecific 93 = .ok (.iload 5, 2) := by decide +kernel
theorem dX8_findSpecific_95 : decode cX8_findSpecific 95 = .ok (.iastore, 1) := by decide +kernel
theorem dX8_findSpecific_96 : decode cX8_findSpecific 96 = .ok (.aload_n 0, 1) := by decide +kernel
theorem dX8_findSpecific_97 : decode cX8_findSpecific 97 = .ok (.dup, 1) := by decide +kernel
theorem dX8_findSpecific_98 : decode cX8_findSpecific 98 = .ok (.getfield 386, 3) := by decide +kernel
theorem dX8_findSpecific_101 : decode cX8_findSpecific 101 = .ok (.iconst 1, 1) := by decide +kernel
theorem dX8_findSpecific_102 : decode cX8_findSpecific 102 = .ok (.iadd, 1) := by decide +kernel
theorem dX8_findSpecific_103 : decode cX8_findSpecific 103 = .ok (.putfield 386, 3) := by decide +kernel
theorem dX8_findSpecific_106 : decode cX8_findSpecific 106 = .ok (.iinc 3 1, 3) := by decide +kernel
theorem dX8_findSpecific_109 : decode cX8_findSpecific 109 = .ok (.goto (-97), 3) := by decide +kernel
theorem dX8_findSpecific_112 : decode cX8_findSpecific 112 = .ok (.iconst 0, 1) := by decide +kernel
theorem dX8_findSpecific_113 : decode cX8_findSpecific 113 = .ok (.istore_n 3, 1) := by decide +kernel
theorem dX8_findSpecific_114 : decode cX8_findSpecific 114 = .ok (.iload_n 3, 1) := by decide +kernel
theorem dX8_findSpecific_115 : decode cX8_findSpecific 115 = .ok (.aload_n 0, 1) := by decide +kernel
theorem dX8_findSpecific_116 : decode cX8_findSpecific 116 = .ok (.getfield 386, 3) := by decide +kernel
theorem dX8_findSpecific_119 : decode cX8_findSpecific 119 = .ok (.if_icmp .ge 106, 3) := by decide +kernel
theorem dX8_findSpecific_122 : decode cX8_findSpecific 122 = .ok (.iconst 1, 1) := by decide +kernel
theorem dX8_findSpecific_123 : decode cX8_findSpecific 123 = .ok (.istore 4, 2) := by decide +kernel
theorem dX8_findSpecific_125 : decode cX8_findSpecific 125 = .ok (.iconst 0, 1) := by decide +kernel
theorem dX8_findSpecific_126 : decode cX8_findSpecific 126 = .ok (.istore 5, 2) := by decide +kernel
theorem dX8_findSpecific_128 : decode cX8_findSpecific 128 = .ok (.iload 5, 2) := by decide +kernel
theorem dX8_findSpecific_130 : decode cX8_findSpecific 130 = .ok (.aload_n 0, 1) := by decide +kernel
theorem dX8_findSpecific_131 : decode cX8_findSpecific 131 = .ok (.getfield 386, 3) := by decide +kernel
theorem dX8_findSpecific_134 : decode cX8_findSpecific 134 = .ok (.if_icmp .ge 55, 3) := by decide +kernel
theorem dX8_findSpecific_137 : decode cX8_findSpecific 137 = .ok (.iload 4, 2) := by decide +kernel
theorem dX8_findSpecific_139 : decode cX8_findSpecific 139 = .ok (.ifCond .eq 41, 3) := by decide +kernel
theorem dX8_findSpecific_142 : decode cX8_findSpecific 142 = .ok (.iload_n 3, 1) := by decide +kernel
theorem dX8_findSpecific_143 : decode cX8_findSpecific 143 = .ok (.iload 5, 2) := by decide +kernel
theorem dX8_findSpecific_145 : decode cX8_findSpecific 145 = .ok (.if_icmp .eq 31, 3) := by decide +kernel
theorem dX8_findSpecific_148 : decode cX8_findSpecific 148 = .ok (.aload_n 0, 1) := by decide +kernel
theorem dX8_findSpecific_149 : decode cX8_findSpecific 149 = .ok (.aload_n 0, 1) := by decide +kernel
theorem dX8_findSpecific_150 : decode cX8_findSpecific 150 = .ok (.aload_n 0, 1) := by decide +kernel
theorem dX8_findSpecific_151 : decode cX8_findSpecific 151 = .ok (.getfield 149, 3) := by decide +kernel
theorem dX8_findSpecific_154 : decode cX8_findSpecific 154 = .ok (.iload 5, 2) := by decide +kernel
theorem dX8_findSpecific_156 : decode cX8_findSpecific 156 = .ok (.iaload, 1) := by decide +kernel
theorem dX8_findSpecific_157 : decode cX8_findSpecific 157 = .ok (.invokevirtual 398, 3) := by decide +kernel
theorem dX8_findSpecific_160 : decode cX8_findSpecific 160 = .ok (.aload_n 0, 1) := by decide +kernel
theorem dX8_findSpecific_161 : decode cX8_findSpecific 161 = .ok (.aload_n 0, 1) := by decide +kernel
theorem dX8_findSpecific_162 : decode cX8_findSpecific 162 = .ok (.getfield 149, 3) := by decide +kernel
theorem dX8_findSpecific_165 : decode cX8_findSpecific 165 = .ok (.iload_n 3, 1) := by decide +kernel
theorem dX8_findSpecific_166 : decode cX8_findSpecific 166 = .ok (.iaload, 1) := by decide +kernel
theorem dX8_findSpecific_167 : decode cX8_findSpecific 167 = .ok (.invokevirtual 398, 3) := by decide +kernel
theorem dX8_findSpecific_170 : decode cX8_findSpecific 170 = .ok (.invokevirtual 335, 3) := by decide +kernel
theorem dX8_findSpecific_173 : decode cX8_findSpecific 173 = .ok (.ifCond .ne 7, 3) := by decide +kernel
theorem dX8_findSpecific_176 : decode cX8_findSpecific 176 = .ok (.iconst 1, 1) := by decide +kernel
theorem dX8_findSpecific_177 : decode cX8_findSpecific 177 = .ok (.goto 4, 3) := by decide +kernel
theorem dX8_findSpecific_180 : decode cX8_findSpecific 180 = .ok (.iconst 0, 1) := by decide +kernel
theorem dX8_findSpecific_181 : decode cX8_findSpecific 181 = .ok (.istore 4, 2) := by decide +kernel
theorem dX8_findSpecific_183 : decode cX8_findSpecific 183 = .ok (.iinc 5 1, 3) := by decide +kernel
theorem dX8_findSpecific_186 : decode cX8_findSpecific 186 = .ok (.goto (-58), 3) := by decide +kernel
theorem dX8_findSpecific_189 : decode cX8_findSpecific 189 = .ok (.iload 4, 2) := by decide +kernel
theorem dX8_findSpecific_191 : decode cX8_findSpecific 191 = .ok (.ifCond .eq 28, 3) := by decide +kernel
theorem dX8_findSpecific_194 : decode cX8_findSpecific 194 = .ok (.aload_n 0, 1) := by decide +kernel
theorem dX8_findSpecific_195 : decode cX8_findSpecific 195 = .ok (.getfield 152, 3) := by decide +kernel
theorem dX8_findSpecific_198 : decode cX8_findSpecific 198 = .ok (.aload_n 0, 1) := by decide +kernel
theorem dX8_findSpecific_199 : decode cX8_findSpecific 199 = .ok (.getfield 389, 3) := by decide +kernel
theorem dX8_findSpecific_202 : decode cX8_findSpecific 202 = .ok (.aload_n 0, 1) := by decide +kernel
theorem dX8_findSpecific_203 : decode cX8_findSpecific 203 = .ok (.getfield 149, 3) := by decide +kernel
theorem dX8_findSpecific_206 : decode cX8_findSpecific 206 = .ok (.iload_n 3, 1) := by decide +kernel
theorem dX8_findSpecific_207 : decode cX8_findSpecific 207 = .ok (.iaload, 1) := by decide +kernel
theorem dX8_findSpecific_208 : decode cX8_findSpecific 208 = .ok (.iastore, 1) := by decide +kernel
theorem dX8_findSpecific_209 : decode cX8_findSpecific 209 = .ok (.aload_n 0, 1) := by decide +kernel
theorem dX8_findSpecific_210 : decode cX8_findSpecific 210 = .ok (.dup, 1) := by decide +kernel
theorem dX8_findSpecific_211 : decode cX8_findSpecific 211 = .ok (.getfield 389, 3) := by decide +kernel
theorem dX8_findSpecific_214 : decode cX8_findSpecific 214 = .ok (.iconst 1, 1) := by decide +kernel
theorem dX8_findSpecific_215 : decode cX8_findSpecific 215 = .ok (.iadd, 1) := by decide +kernel
theorem dX8_findSpecific_216 : decode cX8_findSpecific 216 = .ok (.putfield 389, 3) := by decide +kernel
theorem dX8_findSpecific_219 : decode cX8_findSpecific 219 = .ok (.iinc 3 1, 3) := by decide +kernel
theorem dX8_findSpecific_222 : decode cX8_findSpecific 222 = .ok (.goto (-108), 3) := by decide +kernel
theorem dX8_findSpecific_225 : decode cX8_findSpecific 225 = .ok (.return_, 1) := by decide +kernel
theorem dX8_countBodies_0 : decode cX8_countBodies 0 = .ok (.aload_n 0, 1) := by decide +kernel
theorem dX8_countBodies_1 : decode cX8_countBodies 1 = .ok (.iconst 0, 1) := by decide +kernel
theorem dX8_countBodies_2 : decode cX8_countBodies 2 = .ok (.putfield 401, 3) := by decide +kernel
theorem dX8_countBodies_5 : decode cX8_countBodies 5 = .ok (.aload_n 0, 1) := by decide +kernel
theorem dX8_countBodies_6 : decode cX8_countBodies 6 = .ok (.iconst (-1), 1) := by decide +kernel
theorem dX8_countBodies_7 : decode cX8_countBodies 7 = .ok (.putfield 404, 3) := by decide +kernel
theorem dX8_countBodies_10 : decode cX8_countBodies 10 = .ok (.iconst 0, 1) := by decide +kernel
theorem dX8_countBodies_11 : decode cX8_countBodies 11 = .ok (.istore_n 1, 1) := by decide +kernel
theorem dX8_countBodies_12 : decode cX8_countBodies 12 = .ok (.iload_n 1, 1) := by decide +kernel
theorem dX8_countBodies_13 : decode cX8_countBodies 13 = .ok (.aload_n 0, 1) := by decide +kernel
theorem dX8_countBodies_14 : decode cX8_countBodies 14 = .ok (.getfield 389, 3) := by decide +kernel
theorem dX8_countBodies_17 : decode cX8_countBodies 17 = .ok (.if_icmp .ge 43, 3) := by decide +kernel
theorem dX8_countBodies_20 : decode cX8_countBodies 20 = .ok (.aload_n 0, 1) := by decide +kernel
theorem dX8_countBodies_21 : decode cX8_countBodies 21 = .ok (.aload_n 0, 1) := by decide +kernel
theorem dX8_countBodies_22 : decode cX8_countBodies 22 = .ok (.getfield 152, 3) := by decide +kernel
theorem dX8_countBodies_25 : decode cX8_countBodies 25 = .ok (.iload_n 1, 1) := by decide +kernel
theorem dX8_countBodies_26 : decode cX8_countBodies 26 = .ok (.iaload, 1) := by decide +kernel
theorem dX8_countBodies_27 : decode cX8_countBodies 27 = .ok (.invokevirtual 380, 3) := by decide +kernel
theorem dX8_countBodies_30 : decode cX8_countBodies 30 = .ok (.iconst 2, 1) := by decide +kernel
theorem dX8_countBodies_31 : decode cX8_countBodies 31 = .ok (.if_icmp .eq 23, 3) := by decide +kernel
theorem dX8_countBodies_34 : decode cX8_countBodies 34 = .ok (.aload_n 0, 1) := by decide +kernel
theorem dX8_countBodies_35 : decode cX8_countBodies 35 = .ok (.dup, 1) := by decide +kernel
theorem dX8_countBodies_36 : decode cX8_countBodies 36 = .ok (.getfield 401, 3) := by decide +kernel
theorem dX8_countBodies_39 : decode cX8_countBodies 39 = .ok (.iconst 1, 1) := by decide +kernel
theorem dX8_countBodies_40 : decode cX8_countBodies 40 = .ok (.iadd, 1) := by decide +kernel
theorem dX8_countBodies_41 : decode cX8_countBodies 41 = .ok (.putfield 401, 3) := by decide +kernel
theorem dX8_countBodies_44 : decode cX8_countBodies 44 = .ok (.aload_n 0, 1) := by decide +kernel
theorem dX8_countBodies_45 : decode cX8_countBodies 45 = .ok (.aload_n 0, 1) := by decide +kernel
theorem dX8_countBodies_46 : decode cX8_countBodies 46 = .ok (.getfield 152, 3) := by decide +kernel
theorem dX8_countBodies_49 : decode cX8_countBodies 49 = .ok (.iload_n 1, 1) := by decide +kernel
theorem dX8_countBodies_50 : decode cX8_countBodies 50 = .ok (.iaload, 1) := by decide +kernel
theorem dX8_countBodies_51 : decode cX8_countBodies 51 = .ok (.putfield 404, 3) := by decide +kernel
theorem dX8_countBodies_54 : decode cX8_countBodies 54 = .ok (.iinc 1 1, 3) := by decide +kernel
theorem dX8_countBodies_57 : decode cX8_countBodies 57 = .ok (.goto (-45), 3) := by decide +kernel
theorem dX8_countBodies_60 : decode cX8_countBodies 60 = .ok (.return_, 1) := by decide +kernel
theorem dX8_lookedUp_0 : decode cX8_lookedUp 0 = .ok (.iload_n 1, 1) := by decide +kernel
theorem dX8_lookedUp_1 : decode cX8_lookedUp 1 = .ok (.istore_n 3, 1) := by decide +kernel
theorem dX8_lookedUp_2 : decode cX8_lookedUp 2 = .ok (.iload_n 3, 1) := by decide +kernel
theorem dX8_lookedUp_3 : decode cX8_lookedUp 3 = .ok (.bipush (-13), 2) := by decide +kernel
theorem dX8_lookedUp_5 : decode cX8_lookedUp 5 = .ok (.if_icmp .eq 33, 3) := by decide +kernel
theorem dX8_lookedUp_8 : decode cX8_lookedUp 8 = .ok (.aload_n 0, 1) := by decide +kernel
theorem dX8_lookedUp_9 : decode cX8_lookedUp 9 = .ok (.iload_n 3, 1) := by decide +kernel
theorem dX8_lookedUp_10 : decode cX8_lookedUp 10 = .ok (.iload_n 2, 1) := by decide +kernel
theorem dX8_lookedUp_11 : decode cX8_lookedUp 11 = .ok (.invokevirtual 392, 3) := by decide +kernel
theorem dX8_lookedUp_14 : decode cX8_lookedUp 14 = .ok (.istore 4, 2) := by decide +kernel
theorem dX8_lookedUp_16 : decode cX8_lookedUp 16 = .ok (.iload 4, 2) := by decide +kernel
theorem dX8_lookedUp_18 : decode cX8_lookedUp 18 = .ok (.ifCond .lt 6, 3) := by decide +kernel
theorem dX8_lookedUp_21 : decode cX8_lookedUp 21 = .ok (.iload 4, 2) := by decide +kernel
theorem dX8_lookedUp_23 : decode cX8_lookedUp 23 = .ok (.ireturn, 1) := by decide +kernel
theorem dX8_lookedUp_24 : decode cX8_lookedUp 24 = .ok (.aload_n 0, 1) := by decide +kernel
theorem dX8_lookedUp_25 : decode cX8_lookedUp 25 = .ok (.getfield 94, 3) := by decide +kernel
theorem dX8_lookedUp_28 : decode cX8_lookedUp 28 = .ok (.aload_n 0, 1) := by decide +kernel
theorem dX8_lookedUp_29 : decode cX8_lookedUp 29 = .ok (.iload_n 3, 1) := by decide +kernel
theorem dX8_lookedUp_30 : decode cX8_lookedUp 30 = .ok (.invokevirtual 214, 3) := by decide +kernel
theorem dX8_lookedUp_33 : decode cX8_lookedUp 33 = .ok (.iaload, 1) := by decide +kernel
theorem dX8_lookedUp_34 : decode cX8_lookedUp 34 = .ok (.istore_n 3, 1) := by decide +kernel
theorem dX8_lookedUp_35 : decode cX8_lookedUp 35 = .ok (.goto (-33), 3) := by decide +kernel
theorem dX8_lookedUp_38 : decode cX8_lookedUp 38 = .ok (.aload_n 0, 1) := by decide +kernel
theorem dX8_lookedUp_39 : decode cX8_lookedUp 39 = .ok (.iload_n 1, 1) := by decide +kernel
theorem dX8_lookedUp_40 : decode cX8_lookedUp 40 = .ok (.iload_n 2, 1) := by decide +kernel
theorem dX8_lookedUp_41 : decode cX8_lookedUp 41 = .ok (.invokevirtual 407, 3) := by decide +kernel
theorem dX8_lookedUp_44 : decode cX8_lookedUp 44 = .ok (.aload_n 0, 1) := by decide +kernel
theorem dX8_lookedUp_45 : decode cX8_lookedUp 45 = .ok (.invokevirtual 410, 3) := by decide +kernel
theorem dX8_lookedUp_48 : decode cX8_lookedUp 48 = .ok (.aload_n 0, 1) := by decide +kernel
theorem dX8_lookedUp_49 : decode cX8_lookedUp 49 = .ok (.getfield 386, 3) := by decide +kernel
theorem dX8_lookedUp_52 : decode cX8_lookedUp 52 = .ok (.ifCond .ne 7, 3) := by decide +kernel
theorem dX8_lookedUp_55 : decode cX8_lookedUp 55 = .ok (.iconst (-1), 1) := by decide +kernel
theorem dX8_lookedUp_56 : decode cX8_lookedUp 56 = .ok (.goto 24, 3) := by decide +kernel
theorem dX8_lookedUp_59 : decode cX8_lookedUp 59 = .ok (.aload_n 0, 1) := by decide +kernel
theorem dX8_lookedUp_60 : decode cX8_lookedUp 60 = .ok (.getfield 401, 3) := by decide +kernel
theorem dX8_lookedUp_63 : decode cX8_lookedUp 63 = .ok (.iconst 1, 1) := by decide +kernel
theorem dX8_lookedUp_64 : decode cX8_lookedUp 64 = .ok (.if_icmp .ne 10, 3) := by decide +kernel
theorem dX8_lookedUp_67 : decode cX8_lookedUp 67 = .ok (.aload_n 0, 1) := by decide +kernel
theorem dX8_lookedUp_68 : decode cX8_lookedUp 68 = .ok (.getfield 404, 3) := by decide +kernel
theorem dX8_lookedUp_71 : decode cX8_lookedUp 71 = .ok (.goto 9, 3) := by decide +kernel
theorem dX8_lookedUp_74 : decode cX8_lookedUp 74 = .ok (.aload_n 0, 1) := by decide +kernel
theorem dX8_lookedUp_75 : decode cX8_lookedUp 75 = .ok (.getfield 149, 3) := by decide +kernel
theorem dX8_lookedUp_78 : decode cX8_lookedUp 78 = .ok (.iconst 0, 1) := by decide +kernel
theorem dX8_lookedUp_79 : decode cX8_lookedUp 79 = .ok (.iaload, 1) := by decide +kernel
theorem dX8_lookedUp_80 : decode cX8_lookedUp 80 = .ok (.ireturn, 1) := by decide +kernel
theorem dX8_mayHave_0 : decode cX8_mayHave 0 = .ok (.aload_n 0, 1) := by decide +kernel
theorem dX8_mayHave_1 : decode cX8_mayHave 1 = .ok (.iload_n 3, 1) := by decide +kernel
theorem dX8_mayHave_2 : decode cX8_mayHave 2 = .ok (.invokevirtual 398, 3) := by decide +kernel
theorem dX8_mayHave_5 : decode cX8_mayHave 5 = .ok (.istore 5, 2) := by decide +kernel
theorem dX8_mayHave_7 : decode cX8_mayHave 7 = .ok (.aload_n 0, 1) := by decide +kernel
theorem dX8_mayHave_8 : decode cX8_mayHave 8 = .ok (.iload_n 3, 1) := by decide +kernel
theorem dX8_mayHave_9 : decode cX8_mayHave 9 = .ok (.invokevirtual 383, 3) := by decide +kernel
theorem dX8_mayHave_12 : decode cX8_mayHave 12 = .ok (.istore 6, 2) := by decide +kernel
theorem dX8_mayHave_14 : decode cX8_mayHave 14 = .ok (.iload 6, 2) := by decide +kernel
theorem dX8_mayHave_16 : decode cX8_mayHave 16 = .ok (.iconst 3, 1) := by decide +kernel
theorem dX8_mayHave_17 : decode cX8_mayHave 17 = .ok (.if_icmp .ne 5, 3) := by decide +kernel
theorem dX8_mayHave_20 : decode cX8_mayHave 20 = .ok (.iconst 1, 1) := by decide +kernel
theorem dX8_mayHave_21 : decode cX8_mayHave 21 = .ok (.ireturn, 1) := by decide +kernel
theorem dX8_mayHave_22 : decode cX8_mayHave 22 = .ok (.iload 6, 2) := by decide +kernel
theorem dX8_mayHave_24 : decode cX8_mayHave 24 = .ok (.ifCond .ne 33, 3) := by decide +kernel
theorem dX8_mayHave_27 : decode cX8_mayHave 27 = .ok (.aload_n 0, 1) := by decide +kernel
theorem dX8_mayHave_28 : decode cX8_mayHave 28 = .ok (.getfield 73, 3) := by decide +kernel
theorem dX8_mayHave_31 : decode cX8_mayHave 31 = .ok (.aload_n 0, 1) := by decide +kernel
theorem dX8_mayHave_32 : decode cX8_mayHave 32 = .ok (.iload_n 1, 1) := by decide +kernel
theorem dX8_mayHave_33 : decode cX8_mayHave 33 = .ok (.invokevirtual 214, 3) := by decide +kernel
theorem dX8_mayHave_36 : decode cX8_mayHave 36 = .ok (.iaload, 1) := by decide +kernel
theorem dX8_mayHave_37 : decode cX8_mayHave 37 = .ok (.aload_n 0, 1) := by decide +kernel
theorem dX8_mayHave_38 : decode cX8_mayHave 38 = .ok (.getfield 73, 3) := by decide +kernel
theorem dX8_mayHave_41 : decode cX8_mayHave 41 = .ok (.aload_n 0, 1) := by decide +kernel
theorem dX8_mayHave_42 : decode cX8_mayHave 42 = .ok (.iload 5, 2) := by decide +kernel
theorem dX8_mayHave_44 : decode cX8_mayHave 44 = .ok (.invokevirtual 214, 3) := by decide +kernel
theorem dX8_mayHave_47 : decode cX8_mayHave 47 = .ok (.iaload, 1) := by decide +kernel
theorem dX8_mayHave_48 : decode cX8_mayHave 48 = .ok (.if_icmp .ne 7, 3) := by decide +kernel
theorem dX8_mayHave_51 : decode cX8_mayHave 51 = .ok (.iconst 1, 1) := by decide +kernel
theorem dX8_mayHave_52 : decode cX8_mayHave 52 = .ok (.goto 4, 3) := by decide +kernel
theorem dX8_mayHave_55 : decode cX8_mayHave 55 = .ok (.iconst 0, 1) := by decide +kernel
theorem dX8_mayHave_56 : decode cX8_mayHave 56 = .ok (.ireturn, 1) := by decide +kernel
theorem dX8_mayHave_57 : decode cX8_mayHave 57 = .ok (.aload_n 0, 1) := by decide +kernel
theorem dX8_mayHave_58 : decode cX8_mayHave 58 = .ok (.iload_n 1, 1) := by decide +kernel
theorem dX8_mayHave_59 : decode cX8_mayHave 59 = .ok (.iload 5, 2) := by decide +kernel
theorem dX8_mayHave_61 : decode cX8_mayHave 61 = .ok (.invokevirtual 258, 3) := by decide +kernel
theorem dX8_mayHave_64 : decode cX8_mayHave 64 = .ok (.ifCond .eq 5, 3) := by decide +kernel
theorem dX8_mayHave_67 : decode cX8_mayHave 67 = .ok (.iconst 1, 1) := by decide +kernel
theorem dX8_mayHave_68 : decode cX8_mayHave 68 = .ok (.ireturn, 1) := by decide +kernel
theorem dX8_mayHave_69 : decode cX8_mayHave 69 = .ok (.iload 6, 2) := by decide +kernel
theorem dX8_mayHave_71 : decode cX8_mayHave 71 = .ok (.iconst 1, 1) := by decide +kernel
theorem dX8_mayHave_72 : decode cX8_mayHave 72 = .ok (.if_icmp .eq 13, 3) := by decide +kernel
theorem dX8_mayHave_75 : decode cX8_mayHave 75 = .ok (.aload_n 0, 1) := by decide +kernel
theorem dX8_mayHave_76 : decode cX8_mayHave 76 = .ok (.iload_n 1, 1) := by decide +kernel
theorem dX8_mayHave_77 : decode cX8_mayHave 77 = .ok (.iload 5, 2) := by decide +kernel
theorem dX8_mayHave_79 : decode cX8_mayHave 79 = .ok (.invokevirtual 335, 3) := by decide +kernel
theorem dX8_mayHave_82 : decode cX8_mayHave 82 = .ok (.ifCond .ne 5, 3) := by decide +kernel
theorem dX8_mayHave_85 : decode cX8_mayHave 85 = .ok (.iconst 0, 1) := by decide +kernel
theorem dX8_mayHave_86 : decode cX8_mayHave 86 = .ok (.ireturn, 1) := by decide +kernel
theorem dX8_mayHave_87 : decode cX8_mayHave 87 = .ok (.aload_n 0, 1) := by decide +kernel
theorem dX8_mayHave_88 : decode cX8_mayHave 88 = .ok (.iload_n 3, 1) := by decide +kernel
theorem dX8_mayHave_89 : decode cX8_mayHave 89 = .ok (.invokevirtual 380, 3) := by decide +kernel
theorem dX8_mayHave_92 : decode cX8_mayHave 92 = .ok (.iconst 1, 1) := by decide +kernel
theorem dX8_mayHave_93 : decode cX8_mayHave 93 = .ok (.if_icmp .eq 31, 3) := by decide +kernel
theorem dX8_mayHave_96 : decode cX8_mayHave 96 = .ok (.aload_n 0, 1) := by decide +kernel
theorem dX8_mayHave_97 : decode cX8_mayHave 97 = .ok (.iload_n 2, 1) := by decide +kernel
theorem dX8_mayHave_98 : decode cX8_mayHave 98 = .ok (.iload_n 1, 1) := by decide +kernel
theorem dX8_mayHave_99 : decode cX8_mayHave 99 = .ok (.invokevirtual 335, 3) := by decide +kernel
theorem dX8_mayHave_102 : decode cX8_mayHave 102 = .ok (.ifCond .ne 12, 3) := by decide +kernel
theorem dX8_mayHave_105 : decode cX8_mayHave 105 = .ok (.aload_n 0, 1) := by decide +kernel
theorem dX8_mayHave_106 : decode cX8_mayHave 106 = .ok (.iload_n 1, 1) := by decide +kernel
theorem dX8_mayHave_107 : decode cX8_mayHave 107 = .ok (.iload_n 2, 1) := by decide +kernel
theorem dX8_mayHave_108 : decode cX8_mayHave 108 = .ok (.invokevirtual 335, 3) := by decide +kernel
theorem dX8_mayHave_111 : decode cX8_mayHave 111 = .ok (.ifCond .eq 17, 3) := by decide +kernel
theorem dX8_mayHave_114 : decode cX8_mayHave 114 = .ok (.aload_n 0, 1) := by decide +kernel
theorem dX8_mayHave_115 : decode cX8_mayHave 115 = .ok (.iload 4, 2) := by decide +kernel
theorem dX8_mayHave_117 : decode cX8_mayHave 117 = .ok (.iload_n 1, 1) := by decide +kernel
theorem dX8_mayHave_118 : decode cX8_mayHave 118 = .ok (.invokevirtual 335, 3) := by decide +kernel
theorem dX8_mayHave_121 : decode cX8_mayHave 121 = .ok (.ifCond .eq 7, 3) := by decide +kernel
theorem dX8_mayHave_124 : decode cX8_mayHave 124 = .ok (.iconst 1, 1) := by decide +kernel
theorem dX8_mayHave_125 : decode cX8_mayHave 125 = .ok (.goto 4, 3) := by decide +kernel
theorem dX8_mayHave_128 : decode cX8_mayHave 128 = .ok (.iconst 0, 1) := by decide +kernel
theorem dX8_mayHave_129 : decode cX8_mayHave 129 = .ok (.ireturn, 1) := by decide +kernel
theorem dX8_findCan_0 : decode cX8_findCan 0 = .ok (.iconst 1, 1) := by decide +kernel
theorem dX8_findCan_1 : decode cX8_findCan 1 = .ok (.istore_n 1, 1) := by decide +kernel
theorem dX8_findCan_2 : decode cX8_findCan 2 = .ok (.iload_n 1, 1) := by decide +kernel
theorem dX8_findCan_3 : decode cX8_findCan 3 = .ok (.aload_n 0, 1) := by decide +kernel
theorem dX8_findCan_4 : decode cX8_findCan 4 = .ok (.getfield 413, 3) := by decide +kernel
theorem dX8_findCan_7 : decode cX8_findCan 7 = .ok (.if_icmp .ge 151, 3) := by decide +kernel
theorem dX8_findCan_10 : decode cX8_findCan 10 = .ok (.iconst 0, 1) := by decide +kernel
theorem dX8_findCan_11 : decode cX8_findCan 11 = .ok (.istore_n 2, 1) := by decide +kernel
theorem dX8_findCan_12 : decode cX8_findCan 12 = .ok (.iload_n 2, 1) := by decide +kernel
theorem dX8_findCan_13 : decode cX8_findCan 13 = .ok (.iload_n 1, 1) := by decide +kernel
theorem dX8_findCan_14 : decode cX8_findCan 14 = .ok (.iadd, 1) := by decide +kernel
theorem dX8_findCan_15 : decode cX8_findCan 15 = .ok (.aload_n 0, 1) := by decide +kernel
theorem dX8_findCan_16 : decode cX8_findCan 16 = .ok (.getfield 413, 3) := by decide +kernel
theorem dX8_findCan_19 : decode cX8_findCan 19 = .ok (.if_icmp .ge 133, 3) := by decide +kernel
theorem dX8_findCan_22 : decode cX8_findCan 22 = .ok (.iload_n 2, 1) := by decide +kernel
theorem dX8_findCan_23 : decode cX8_findCan 23 = .ok (.iload_n 1, 1) := by decide +kernel
theorem dX8_findCan_24 : decode cX8_findCan 24 = .ok (.iadd, 1) := by decide +kernel
theorem dX8_findCan_25 : decode cX8_findCan 25 = .ok (.istore_n 3, 1) := by decide +kernel
theorem dX8_findCan_26 : decode cX8_findCan 26 = .ok (.aload_n 0, 1) := by decide +kernel
theorem dX8_findCan_27 : decode cX8_findCan 27 = .ok (.aload_n 0, 1) := by decide +kernel
theorem dX8_findCan_28 : decode cX8_findCan 28 = .ok (.getfield 155, 3) := by decide +kernel
theorem dX8_findCan_31 : decode cX8_findCan 31 = .ok (.iload_n 3, 1) := by decide +kernel
theorem dX8_findCan_32 : decode cX8_findCan 32 = .ok (.iaload, 1) := by decide +kernel
theorem dX8_findCan_33 : decode cX8_findCan 33 = .ok (.invokevirtual 383, 3) := by decide +kernel
theorem dX8_findCan_36 : decode cX8_findCan 36 = .ok (.iconst 1, 1) := by decide +kernel
theorem dX8_findCan_37 : decode cX8_findCan 37 = .ok (.if_icmp .gt 30, 3) := by decide +kernel
theorem dX8_findCan_40 : decode cX8_findCan 40 = .ok (.aload_n 0, 1) := by decide +kernel
theorem dX8_findCan_41 : decode cX8_findCan 41 = .ok (.aload_n 0, 1) := by decide +kernel
theorem dX8_findCan_42 : decode cX8_findCan 42 = .ok (.aload_n 0, 1) := by decide +kernel
theorem dX8_findCan_43 : decode cX8_findCan 43 = .ok (.getfield 155, 3) := by decide +kernel
theorem dX8_findCan_46 : decode cX8_findCan 46 = .ok (.iload_n 2, 1) := by decide +kernel
theorem dX8_findCan_47 : decode cX8_findCan 47 = .ok (.iaload, 1) := by decide +kernel
theorem dX8_findCan_48 : decode cX8_findCan 48 = .ok (.invokevirtual 398, 3) := by decide +kernel
theorem dX8_findCan_51 : decode cX8_findCan 51 = .ok (.aload_n 0, 1) := by decide +kernel
theorem dX8_findCan_52 : decode cX8_findCan 52 = .ok (.aload_n 0, 1) := by decide +kernel
theorem dX8_findCan_53 : decode cX8_findCan 53 = .ok (.getfield 155, 3) := by decide +kernel
theorem dX8_findCan_56 : decode cX8_findCan 56 = .ok (.iload_n 3, 1) := by decide +kernel
theorem dX8_findCan_57 : decode cX8_findCan 57 = .ok (.iaload, 1) := by decide +kernel
theorem dX8_findCan_58 : decode cX8_findCan 58 = .ok (.invokevirtual 398, 3) := by decide +kernel
theorem dX8_findCan_61 : decode cX8_findCan 61 = .ok (.invokevirtual 258, 3) := by decide +kernel
theorem dX8_findCan_64 : decode cX8_findCan 64 = .ok (.ifCond .eq 7, 3) := by decide +kernel
theorem dX8_findCan_67 : decode cX8_findCan 67 = .ok (.iconst 1, 1) := by decide +kernel
theorem dX8_findCan_68 : decode cX8_findCan 68 = .ok (.goto 4, 3) := by decide +kernel
theorem dX8_findCan_71 : decode cX8_findCan 71 = .ok (.iconst 0, 1) := by decide +kernel
theorem dX8_findCan_72 : decode cX8_findCan 72 = .ok (.istore 4, 2) := by decide +kernel
theorem dX8_findCan_74 : decode cX8_findCan 74 = .ok (.iload_n 2, 1) := by decide +kernel
theorem dX8_findCan_75 : decode cX8_findCan 75 = .ok (.iconst 1, 1) := by decide +kernel
theorem dX8_findCan_76 : decode cX8_findCan 76 = .ok (.iadd, 1) := by decide +kernel
theorem dX8_findCan_77 : decode cX8_findCan 77 = .ok (.istore 5, 2) := by decide +kernel
theorem dX8_findCan_79 : decode cX8_findCan 79 = .ok (.iload 5, 2) := by decide +kernel
theorem dX8_findCan_81 : decode cX8_findCan 81 = .ok (.iload_n 3, 1) := by decide +kernel
theorem dX8_findCan_82 : decode cX8_findCan 82 = .ok (.if_icmp .ge 51, 3) := by decide +kernel
theorem dX8_findCan_85 : decode cX8_findCan 85 = .ok (.iload 4, 2) := by decide +kernel
theorem dX8_findCan_87 : decode cX8_findCan 87 = .ok (.ifCond .ne 46, 3) := by decide +kernel
theorem dX8_findCan_90 : decode cX8_findCan 90 = .ok (.aload_n 0, 1) := by decide +kernel
theorem dX8_findCan_91 : decode cX8_findCan 91 = .ok (.getfield 158, 3) := by decide +kernel
theorem dX8_findCan_94 : decode cX8_findCan 94 = .ok (.bipush 24, 2) := by decide +kernel
theorem dX8_findCan_96 : decode cX8_findCan 96 = .ok (.iload 5, 2) := by decide +kernel
theorem dX8_findCan_98 : decode cX8_findCan 98 = .ok (.imul, 1) := by decide +kernel
theorem dX8_findCan_99 : decode cX8_findCan 99 = .ok (.iload_n 3, 1) := by decide +kernel
theorem dX8_findCan_100 : decode cX8_findCan 100 = .ok (.iadd, 1) := by decide +kernel
theorem dX8_findCan_101 : decode cX8_findCan 101 = .ok (.baload, 1) := by decide +kernel
theorem dX8_findCan_102 : decode cX8_findCan 102 = .ok (.ifCond .eq 22, 3) := by decide +kernel
theorem dX8_findCan_105 : decode cX8_findCan 105 = .ok (.aload_n 0, 1) := by decide +kernel
theorem dX8_findCan_106 : decode cX8_findCan 106 = .ok (.getfield 158, 3) := by decide +kernel
theorem dX8_findCan_109 : decode cX8_findCan 109 = .ok (.bipush 24, 2) := by decide +kernel
theorem dX8_findCan_111 : decode cX8_findCan 111 = .ok (.iload_n 2, 1) := by decide +kernel
theorem dX8_findCan_112 : decode cX8_findCan 112 = .ok (.imul, 1) := by decide +kernel
theorem dX8_findCan_113 : decode cX8_findCan 113 = .ok (.iload 5, 2) := by decide +kernel
theorem dX8_findCan_115 : decode cX8_findCan 115 = .ok (.iadd, 1) := by decide +kernel
theorem dX8_findCan_116 : decode cX8_findCan 116 = .ok (.baload, 1) := by decide +kernel
theorem dX8_findCan_117 : decode cX8_findCan 117 = .ok (.ifCond .eq 7, 3) := by decide +kernel
theorem dX8_findCan_120 : decode cX8_findCan 120 = .ok (.iconst 1, 1) := by decide +kernel
theorem dX8_findCan_121 : decode cX8_findCan 121 = .ok (.goto 4, 3) := by decide +kernel
theorem dX8_findCan_124 : decode cX8_findCan 124 = .ok (.iconst 0, 1) := by decide +kernel
theorem dX8_findCan_125 : decode cX8_findCan 125 = .ok (.istore 4, 2) := by decide +kernel
theorem dX8_findCan_127 : decode cX8_findCan 127 = .ok (.iinc 5 1, 3) := by decide +kernel
theorem dX8_findCan_130 : decode cX8_findCan 130 = .ok (.goto (-51), 3) := by decide +kernel
theorem dX8_findCan_133 : decode cX8_findCan 133 = .ok (.aload_n 0, 1) := by decide +kernel
theorem dX8_findCan_134 : decode cX8_findCan 134 = .ok (.getfield 158, 3) := by decide +kernel
theorem dX8_findCan_137 : decode cX8_findCan 137 = .ok (.bipush 24, 2) := by decide +kernel
theorem dX8_findCan_139 : decode cX8_findCan 139 = .ok (.iload_n 2, 1) := by decide +kernel
theorem dX8_findCan_140 : decode cX8_findCan 140 = .ok (.imul, 1) := by decide +kernel
theorem dX8_findCan_141 : decode cX8_findCan 141 = .ok (.iload_n 3, 1) := by decide +kernel
theorem dX8_findCan_142 : decode cX8_findCan 142 = .ok (.iadd, 1) := by decide +kernel
theorem dX8_findCan_143 : decode cX8_findCan 143 = .ok (.iload 4, 2) := by decide +kernel
theorem dX8_findCan_145 : decode cX8_findCan 145 = .ok (.bastore, 1) := by decide +kernel
theorem dX8_findCan_146 : decode cX8_findCan 146 = .ok (.iinc 2 1, 3) := by decide +kernel
theorem dX8_findCan_149 : decode cX8_findCan 149 = .ok (.goto (-137), 3) := by decide +kernel
theorem dX8_findCan_152 : decode cX8_findCan 152 = .ok (.iinc 1 1, 3) := by decide +kernel
theorem dX8_findCan_155 : decode cX8_findCan 155 = .ok (.goto (-153), 3) := by decide +kernel
theorem dX8_findCan_158 : decode cX8_findCan 158 = .ok (.return_, 1) := by decide +kernel
theorem dX8_runs_0 : decode cX8_runs 0 = .ok (.aload_n 0, 1) := by decide +kernel
theorem dX8_runs_1 : decode cX8_runs 1 = .ok (.iload_n 1, 1) := by decide +kernel
theorem dX8_runs_2 : decode cX8_runs 2 = .ok (.invokevirtual 380, 3) := by decide +kernel
theorem dX8_runs_5 : decode cX8_runs 5 = .ok (.iconst 2, 1) := by decide +kernel
theorem dX8_runs_6 : decode cX8_runs 6 = .ok (.if_icmp .ne 8, 3) := by decide +kernel
theorem dX8_runs_9 : decode cX8_runs 9 = .ok (.bipush (-4), 2) := by decide +kernel
theorem dX8_runs_11 : decode cX8_runs 11 = .ok (.goto 4, 3) := by decide +kernel
theorem dX8_runs_14 : decode cX8_runs 14 = .ok (.iload_n 1, 1) := by decide +kernel
theorem dX8_runs_15 : decode cX8_runs 15 = .ok (.ireturn, 1) := by decide +kernel
theorem dX8_selected_0 : decode cX8_selected 0 = .ok (.aload_n 0, 1) := by decide +kernel
theorem dX8_selected_1 : decode cX8_selected 1 = .ok (.iload_n 1, 1) := by decide +kernel
theorem dX8_selected_2 : decode cX8_selected 2 = .ok (.invokevirtual 383, 3) := by decide +kernel
theorem dX8_selected_5 : decode cX8_selected 5 = .ok (.ifCond .ne 5, 3) := by decide +kernel
theorem dX8_selected_8 : decode cX8_selected 8 = .ok (.iload_n 1, 1) := by decide +kernel
theorem dX8_selected_9 : decode cX8_selected 9 = .ok (.ireturn, 1) := by decide +kernel
theorem dX8_selected_10 : decode cX8_selected 10 = .ok (.aload_n 0, 1) := by decide +kernel
theorem dX8_selected_11 : decode cX8_selected 11 = .ok (.getfield 70, 3) := by decide +kernel
theorem dX8_selected_14 : decode cX8_selected 14 = .ok (.aload_n 0, 1) := by decide +kernel
theorem dX8_selected_15 : decode cX8_selected 15 = .ok (.aload_n 0, 1) := by decide +kernel
theorem dX8_selected_16 : decode cX8_selected 16 = .ok (.iload_n 1, 1) := by decide +kernel
theorem dX8_selected_17 : decode cX8_selected 17 = .ok (.invokevirtual 398, 3) := by decide +kernel
theorem dX8_selected_20 : decode cX8_selected 20 = .ok (.invokevirtual 214, 3) := by decide +kernel
theorem dX8_selected_23 : decode cX8_selected 23 = .ok (.iaload, 1) := by decide +kernel
theorem dX8_selected_24 : decode cX8_selected 24 = .ok (.iconst 2, 1) := by decide +kernel
theorem dX8_selected_25 : decode cX8_selected 25 = .ok (.if_icmp .ne 7, 3) := by decide +kernel
theorem dX8_selected_28 : decode cX8_selected 28 = .ok (.iconst 1, 1) := by decide +kernel
theorem dX8_selected_29 : decode cX8_selected 29 = .ok (.goto 4, 3) := by decide +kernel
theorem dX8_selected_32 : decode cX8_selected 32 = .ok (.iconst 0, 1) := by decide +kernel
theorem dX8_selected_33 : decode cX8_selected 33 = .ok (.istore_n 3, 1) := by decide +kernel
theorem dX8_selected_34 : decode cX8_selected 34 = .ok (.aload_n 0, 1) := by decide +kernel
theorem dX8_selected_35 : decode cX8_selected 35 = .ok (.iconst 0, 1) := by decide +kernel
theorem dX8_selected_36 : decode cX8_selected 36 = .ok (.putfield 413, 3) := by decide +kernel
theorem dX8_selected_39 : decode cX8_selected 39 = .ok (.iconst 0, 1) := by decide +kernel
theorem dX8_selected_40 : decode cX8_selected 40 = .ok (.istore 4, 2) := by decide +kernel
theorem dX8_selected_42 : decode cX8_selected 42 = .ok (.iload_n 2, 1) := by decide +kernel
theorem dX8_selected_43 : decode cX8_selected 43 = .ok (.istore 5, 2) := by decide +kernel
theorem dX8_selected_45 : decode cX8_selected 45 = .ok (.iload 5, 2) := by decide +kernel
theorem dX8_selected_47 : decode cX8_selected 47 = .ok (.bipush (-13), 2) := by decide +kernel
theorem dX8_selected_49 : decode cX8_selected 49 = .ok (.if_icmp .eq 85, 3) := by decide +kernel
theorem dX8_selected_52 : decode cX8_selected 52 = .ok (.iload 4, 2) := by decide +kernel
theorem dX8_selected_54 : decode cX8_selected 54 = .ok (.ifCond .ne 80, 3) := by decide +kernel
theorem dX8_selected_57 : decode cX8_selected 57 = .ok (.aload_n 0, 1) := by decide +kernel
theorem dX8_selected_58 : decode cX8_selected 58 = .ok (.iload 5, 2) := by decide +kernel
theorem dX8_selected_60 : decode cX8_selected 60 = .ok (.aload_n 0, 1) := by decide +kernel
theorem dX8_selected_61 : decode cX8_selected 61 = .ok (.iload_n 1, 1) := by decide +kernel
theorem dX8_selected_62 : decode cX8_selected 62 = .ok (.invokevirtual 416, 3) := by decide +kernel
theorem dX8_selected_65 : decode cX8_selected 65 = .ok (.invokevirtual 392, 3) := by decide +kernel
theorem dX8_selected_68 : decode cX8_selected 68 = .ok (.istore 6, 2) := by decide +kernel
theorem dX8_selected_70 : decode cX8_selected 70 = .ok (.iload 6, 2) := by decide +kernel
theorem dX8_selected_72 : decode cX8_selected 72 = .ok (.ifCond .lt 46, 3) := by decide +kernel
theorem dX8_selected_75 : decode cX8_selected 75 = .ok (.aload_n 0, 1) := by decide +kernel
theorem dX8_selected_76 : decode cX8_selected 76 = .ok (.iload 6, 2) := by decide +kernel
theorem dX8_selected_78 : decode cX8_selected 78 = .ok (.invokevirtual 395, 3) := by decide +kernel
theorem dX8_selected_81 : decode cX8_selected 81 = .ok (.ifCond .eq 37, 3) := by decide +kernel
theorem dX8_selected_84 : decode cX8_selected 84 = .ok (.aload_n 0, 1) := by decide +kernel
theorem dX8_selected_85 : decode cX8_selected 85 = .ok (.getfield 155, 3) := by decide +kernel
theorem dX8_selected_88 : decode cX8_selected 88 = .ok (.aload_n 0, 1) := by decide +kernel
theorem dX8_selected_89 : decode cX8_selected 89 = .ok (.getfield 413, 3) := by decide +kernel
theorem dX8_selected_92 : decode cX8_selected 92 = .ok (.iload 6, 2) := by decide +kernel
theorem dX8_selected_94 : decode cX8_selected 94 = .ok (.iastore, 1) := by decide +kernel
theorem dX8_selected_95 : decode cX8_selected 95 = .ok (.aload_n 0, 1) := by decide +kernel
theorem dX8_selected_96 : decode cX8_selected 96 = .ok (.dup, 1) := by decide +kernel
theorem dX8_selected_97 : decode cX8_selected 97 = .ok (.getfield 413, 3) := by decide +kernel
theorem dX8_selected_100 : decode cX8_selected 100 = .ok (.iconst 1, 1) := by decide +kernel
theorem dX8_selected_101 : decode cX8_selected 101 = .ok (.iadd, 1) := by decide +kernel
theorem dX8_selected_102 : decode cX8_selected 102 = .ok (.putfield 413, 3) := by decide +kernel
theorem dX8_selected_105 : decode cX8_selected 105 = .ok (.iload 6, 2) := by decide +kernel
theorem dX8_selected_107 : decode cX8_selected 107 = .ok (.iload_n 1, 1) := by decide +kernel
theorem dX8_selected_108 : decode cX8_selected 108 = .ok (.if_icmp .ne 7, 3) := by decide +kernel
theorem dX8_selected_111 : decode cX8_selected 111 = .ok (.iconst 1, 1) := by decide +kernel
theorem dX8_selected_112 : decode cX8_selected 112 = .ok (.goto 4, 3) := by decide +kernel
theorem dX8_selected_115 : decode cX8_selected 115 = .ok (.iconst 0, 1) := by decide +kernel
theorem dX8_selected_116 : decode cX8_selected 116 = .ok (.istore 4, 2) := by decide +kernel
theorem dX8_selected_118 : decode cX8_selected 118 = .ok (.aload_n 0, 1) := by decide +kernel
theorem dX8_selected_119 : decode cX8_selected 119 = .ok (.getfield 94, 3) := by decide +kernel
theorem dX8_selected_122 : decode cX8_selected 122 = .ok (.aload_n 0, 1) := by decide +kernel
theorem dX8_selected_123 : decode cX8_selected 123 = .ok (.iload 5, 2) := by decide +kernel
theorem dX8_selected_125 : decode cX8_selected 125 = .ok (.invokevirtual 214, 3) := by decide +kernel
theorem dX8_selected_128 : decode cX8_selected 128 = .ok (.iaload, 1) := by decide +kernel
theorem dX8_selected_129 : decode cX8_selected 129 = .ok (.istore 5, 2) := by decide +kernel
theorem dX8_selected_131 : decode cX8_selected 131 = .ok (.goto (-86), 3) := by decide +kernel
theorem dX8_selected_134 : decode cX8_selected 134 = .ok (.iload_n 3, 1) := by decide +kernel
theorem dX8_selected_135 : decode cX8_selected 135 = .ok (.ifCond .eq 21, 3) := by decide +kernel
theorem dX8_selected_138 : decode cX8_selected 138 = .ok (.aload_n 0, 1) := by decide +kernel
theorem dX8_selected_139 : decode cX8_selected 139 = .ok (.getfield 413, 3) := by decide +kernel
theorem dX8_selected_142 : decode cX8_selected 142 = .ok (.ifCond .le 14, 3) := by decide +kernel
theorem dX8_selected_145 : decode cX8_selected 145 = .ok (.aload_n 0, 1) := by decide +kernel
theorem dX8_selected_146 : decode cX8_selected 146 = .ok (.aload_n 0, 1) := by decide +kernel
theorem dX8_selected_147 : decode cX8_selected 147 = .ok (.getfield 155, 3) := by decide +kernel
theorem dX8_selected_150 : decode cX8_selected 150 = .ok (.iconst 0, 1) := by decide +kernel
theorem dX8_selected_151 : decode cX8_selected 151 = .ok (.iaload, 1) := by decide +kernel
theorem dX8_selected_152 : decode cX8_selected 152 = .ok (.invokevirtual 419, 3) := by decide +kernel
theorem dX8_selected_155 : decode cX8_selected 155 = .ok (.ireturn, 1) := by decide +kernel
theorem dX8_selected_156 : decode cX8_selected 156 = .ok (.iload_n 3, 1) := by decide +kernel
theorem dX8_selected_157 : decode cX8_selected 157 = .ok (.ifCond .ne 78, 3) := by decide +kernel
theorem dX8_selected_160 : decode cX8_selected 160 = .ok (.aload_n 0, 1) := by decide +kernel
theorem dX8_selected_161 : decode cX8_selected 161 = .ok (.invokevirtual 422, 3) := by decide +kernel
theorem dX8_selected_164 : decode cX8_selected 164 = .ok (.iconst 0, 1) := by decide +kernel
theorem dX8_selected_165 : decode cX8_selected 165 = .ok (.istore 5, 2) := by decide +kernel
theorem dX8_selected_167 : decode cX8_selected 167 = .ok (.iload 5, 2) := by decide +kernel
theorem dX8_selected_169 : decode cX8_selected 169 = .ok (.aload_n 0, 1) := by decide +kernel
theorem dX8_selected_170 : decode cX8_selected 170 = .ok (.getfield 413, 3) := by decide +kernel
theorem dX8_selected_173 : decode cX8_selected 173 = .ok (.if_icmp .ge 62, 3) := by decide +kernel
theorem dX8_selected_176 : decode cX8_selected 176 = .ok (.iload 5, 2) := by decide +kernel
theorem dX8_selected_178 : decode cX8_selected 178 = .ok (.aload_n 0, 1) := by decide +kernel
theorem dX8_selected_179 : decode cX8_selected 179 = .ok (.getfield 413, 3) := by decide +kernel
theorem dX8_selected_182 : decode cX8_selected 182 = .ok (.iconst 1, 1) := by decide +kernel
theorem dX8_selected_183 : decode cX8_selected 183 = .ok (.isub, 1) := by decide +kernel
theorem dX8_selected_184 : decode cX8_selected 184 = .ok (.if_icmp .ne 8, 3) := by decide +kernel
theorem dX8_selected_187 : decode cX8_selected 187 = .ok (.iload 4, 2) := by decide +kernel
theorem dX8_selected_189 : decode cX8_selected 189 = .ok (.ifCond .ne 28, 3) := by decide +kernel
theorem dX8_selected_192 : decode cX8_selected 192 = .ok (.iload 4, 2) := by decide +kernel
theorem dX8_selected_194 : decode cX8_selected 194 = .ok (.ifCond .eq 35, 3) := by decide +kernel
theorem dX8_selected_197 : decode cX8_selected 197 = .ok (.aload_n 0, 1) := by decide +kernel
theorem dX8_selected_198 : decode cX8_selected 198 = .ok (.getfield 158, 3) := by decide +kernel
theorem dX8_selected_201 : decode cX8_selected 201 = .ok (.bipush 24, 2) := by decide +kernel
theorem dX8_selected_203 : decode cX8_selected 203 = .ok (.iload 5, 2) := by decide +kernel
theorem dX8_selected_205 : decode cX8_selected 205 = .ok (.imul, 1) := by decide +kernel
theorem dX8_selected_206 : decode cX8_selected 206 = .ok (.aload_n 0, 1) := by decide +kernel
theorem dX8_selected_207 : decode cX8_selected 207 = .ok (.getfield 413, 3) := by decide +kernel
theorem dX8_selected_210 : decode cX8_selected 210 = .ok (.iadd, 1) := by decide +kernel
theorem dX8_selected_211 : decode cX8_selected 211 = .ok (.iconst 1, 1) := by decide +kernel
theorem dX8_selected_212 : decode cX8_selected 212 = .ok (.isub, 1) := by decide +kernel
theorem dX8_selected_213 : decode cX8_selected 213 = .ok (.baload, 1) := by decide +kernel
theorem dX8_selected_214 : decode cX8_selected 214 = .ok (.ifCond .eq 15, 3) := by decide +kernel
theorem dX8_selected_217 : decode cX8_selected 217 = .ok (.aload_n 0, 1) := by decide +kernel
theorem dX8_selected_218 : decode cX8_selected 218 = .ok (.aload_n 0, 1) := by decide +kernel
theorem dX8_selected_219 : decode cX8_selected 219 = .ok (.getfield 155, 3) := by decide +kernel
theorem dX8_selected_222 : decode cX8_selected 222 = .ok (.iload 5, 2) := by decide +kernel
theorem dX8_selected_224 : decode cX8_selected 224 = .ok (.iaload, 1) := by decide +kernel
theorem dX8_selected_225 : decode cX8_selected 225 = .ok (.invokevirtual 419, 3) := by decide +kernel
theorem dX8_selected_228 : decode cX8_selected 228 = .ok (.ireturn, 1) := by decide +kernel
theorem dX8_selected_229 : decode cX8_selected 229 = .ok (.iinc 5 1, 3) := by decide +kernel
theorem dX8_selected_232 : decode cX8_selected 232 = .ok (.goto (-65), 3) := by decide +kernel
theorem dX8_selected_235 : decode cX8_selected 235 = .ok (.aload_n 0, 1) := by decide +kernel
theorem dX8_selected_236 : decode cX8_selected 236 = .ok (.iload_n 2, 1) := by decide +kernel
theorem dX8_selected_237 : decode cX8_selected 237 = .ok (.aload_n 0, 1) := by decide +kernel
theorem dX8_selected_238 : decode cX8_selected 238 = .ok (.iload_n 1, 1) := by decide +kernel
theorem dX8_selected_239 : decode cX8_selected 239 = .ok (.invokevirtual 416, 3) := by decide +kernel
theorem dX8_selected_242 : decode cX8_selected 242 = .ok (.invokevirtual 407, 3) := by decide +kernel
theorem dX8_selected_245 : decode cX8_selected 245 = .ok (.aload_n 0, 1) := by decide +kernel
theorem dX8_selected_246 : decode cX8_selected 246 = .ok (.invokevirtual 410, 3) := by decide +kernel
theorem dX8_selected_249 : decode cX8_selected 249 = .ok (.aload_n 0, 1) := by decide +kernel
theorem dX8_selected_250 : decode cX8_selected 250 = .ok (.getfield 401, 3) := by decide +kernel
theorem dX8_selected_253 : decode cX8_selected 253 = .ok (.iconst 1, 1) := by decide +kernel
theorem dX8_selected_254 : decode cX8_selected 254 = .ok (.if_icmp .ne 10, 3) := by decide +kernel
theorem dX8_selected_257 : decode cX8_selected 257 = .ok (.aload_n 0, 1) := by decide +kernel
theorem dX8_selected_258 : decode cX8_selected 258 = .ok (.getfield 404, 3) := by decide +kernel
theorem dX8_selected_261 : decode cX8_selected 261 = .ok (.goto 17, 3) := by decide +kernel
theorem dX8_selected_264 : decode cX8_selected 264 = .ok (.aload_n 0, 1) := by decide +kernel
theorem dX8_selected_265 : decode cX8_selected 265 = .ok (.getfield 401, 3) := by decide +kernel
theorem dX8_selected_268 : decode cX8_selected 268 = .ok (.ifCond .ne 8, 3) := by decide +kernel
theorem dX8_selected_271 : decode cX8_selected 271 = .ok (.bipush (-4), 2) := by decide +kernel
theorem dX8_selected_273 : decode cX8_selected 273 = .ok (.goto 5, 3) := by decide +kernel
theorem dX8_selected_276 : decode cX8_selected 276 = .ok (.bipush (-3), 2) := by decide +kernel
theorem dX8_selected_278 : decode cX8_selected 278 = .ok (.ireturn, 1) := by decide +kernel
theorem dX8_runOf_0 : decode cX8_runOf 0 = .ok (.iload_n 3, 1) := by decide +kernel
theorem dX8_runOf_1 : decode cX8_runOf 1 = .ok (.ifCond .eq 12, 3) := by decide +kernel
theorem dX8_runOf_4 : decode cX8_runOf 4 = .ok (.aload_n 0, 1) := by decide +kernel
theorem dX8_runOf_5 : decode cX8_runOf 5 = .ok (.iload_n 1, 1) := by decide +kernel
theorem dX8_runOf_6 : decode cX8_runOf 6 = .ok (.iload_n 2, 1) := by decide +kernel
theorem dX8_runOf_7 : decode cX8_runOf 7 = .ok (.invokevirtual 425, 3) := by decide +kernel
theorem dX8_runOf_10 : decode cX8_runOf 10 = .ok (.goto 8, 3) := by decide +kernel
theorem dX8_runOf_13 : decode cX8_runOf 13 = .ok (.aload_n 0, 1) := by decide +kernel
theorem dX8_runOf_14 : decode cX8_runOf 14 = .ok (.iload_n 1, 1) := by decide +kernel
theorem dX8_runOf_15 : decode cX8_runOf 15 = .ok (.invokevirtual 419, 3) := by decide +kernel
theorem dX8_runOf_18 : decode cX8_runOf 18 = .ok (.istore 4, 2) := by decide +kernel
theorem dX8_runOf_20 : decode cX8_runOf 20 = .ok (.iload 4, 2) := by decide +kernel
theorem dX8_runOf_22 : decode cX8_runOf 22 = .ok (.sipush 1000, 3) := by decide +kernel
theorem dX8_runOf_25 : decode cX8_runOf 25 = .ok (.if_icmp .lt 41, 3) := by decide +kernel
theorem dX8_runOf_28 : decode cX8_runOf 28 = .ok (.aload_n 0, 1) := by decide +kernel
theorem dX8_runOf_29 : decode cX8_runOf 29 = .ok (.getfield 428, 3) := by decide +kernel
theorem dX8_runOf_32 : decode cX8_runOf 32 = .ok (.bipush 8, 2) := by decide +kernel
theorem dX8_runOf_34 : decode cX8_runOf 34 = .ok (.if_icmp .ne 6, 3) := by decide +kernel
theorem dX8_runOf_37 : decode cX8_runOf 37 = .ok (.bipush (-7), 2) := by decide +kernel
theorem dX8_runOf_39 : decode cX8_runOf 39 = .ok (.ireturn, 1) := by decide +kernel
theorem dX8_runOf_40 : decode cX8_runOf 40 = .ok (.aload_n 0, 1) := by decide +kernel
theorem dX8_runOf_41 : decode cX8_runOf 41 = .ok (.dup, 1) := by decide +kernel
theorem dX8_runOf_42 : decode cX8_runOf 42 = .ok (.getfield 428, 3) := by decide +kernel
theorem dX8_runOf_45 : decode cX8_runOf 45 = .ok (.iconst 1, 1) := by decide +kernel
theorem dX8_runOf_46 : decode cX8_runOf 46 = .ok (.iadd, 1) := by decide +kernel
theorem dX8_runOf_47 : decode cX8_runOf 47 = .ok (.putfield 428, 3) := by decide +kernel
theorem dX8_runOf_50 : decode cX8_runOf 50 = .ok (.aload_n 0, 1) := by decide +kernel
theorem dX8_runOf_51 : decode cX8_runOf 51 = .ok (.aload_n 0, 1) := by decide +kernel
theorem dX8_runOf_52 : decode cX8_runOf 52 = .ok (.iload 4, 2) := by decide +kernel
theorem dX8_runOf_54 : decode cX8_runOf 54 = .ok (.invokevirtual 377, 3) := by decide +kernel
theorem dX8_runOf_57 : decode cX8_runOf 57 = .ok (.iload_n 2, 1) := by decide +kernel
theorem dX8_runOf_58 : decode cX8_runOf 58 = .ok (.invokevirtual 425, 3) := by decide +kernel
theorem dX8_runOf_61 : decode cX8_runOf 61 = .ok (.istore 4, 2) := by decide +kernel
theorem dX8_runOf_63 : decode cX8_runOf 63 = .ok (.goto (-43), 3) := by decide +kernel
theorem dX8_runOf_66 : decode cX8_runOf 66 = .ok (.iload 4, 2) := by decide +kernel
theorem dX8_runOf_68 : decode cX8_runOf 68 = .ok (.ireturn, 1) := by decide +kernel
theorem dX8_isRef_0 : decode cX8_isRef 0 = .ok (.iconst 0, 1) := by decide +kernel
theorem dX8_isRef_1 : decode cX8_isRef 1 = .ok (.istore_n 3, 1) := by decide +kernel
theorem dX8_isRef_2 : decode cX8_isRef 2 = .ok (.iconst 0, 1) := by decide +kernel
theorem dX8_isRef_3 : decode cX8_isRef 3 = .ok (.istore 4, 2) := by decide +kernel
theorem dX8_isRef_5 : decode cX8_isRef 5 = .ok (.iload 4, 2) := by decide +kernel
theorem dX8_isRef_7 : decode cX8_isRef 7 = .ok (.aload_n 0, 1) := by decide +kernel
theorem dX8_isRef_8 : decode cX8_isRef 8 = .ok (.getfield 85, 3) := by decide +kernel
theorem dX8_isRef_11 : decode cX8_isRef 11 = .ok (.aload_n 0, 1) := by decide +kernel
theorem dX8_isRef_12 : decode cX8_isRef 12 = .ok (.iload_n 1, 1) := by decide +kernel
theorem dX8_isRef_13 : decode cX8_isRef 13 = .ok (.invokevirtual 214, 3) := by decide +kernel
theorem dX8_isRef_16 : decode cX8_isRef 16 = .ok (.iaload, 1) := by decide +kernel
theorem dX8_isRef_17 : decode cX8_isRef 17 = .ok (.if_icmp .ge 38, 3) := by decide +kernel
theorem dX8_isRef_20 : decode cX8_isRef 20 = .ok (.iload_n 3, 1) := by decide +kernel
theorem dX8_isRef_21 : decode cX8_isRef 21 = .ok (.ifCond .ne 22, 3) := by decide +kernel
theorem dX8_isRef_24 : decode cX8_isRef 24 = .ok (.aload_n 0, 1) := by decide +kernel
theorem dX8_isRef_25 : decode cX8_isRef 25 = .ok (.getfield 88, 3) := by decide +kernel
theorem dX8_isRef_28 : decode cX8_isRef 28 = .ok (.iconst 5, 1) := by decide +kernel
theorem dX8_isRef_29 : decode cX8_isRef 29 = .ok (.aload_n 0, 1) := by decide +kernel
theorem dX8_isRef_30 : decode cX8_isRef 30 = .ok (.iload_n 1, 1) := by decide +kernel
theorem dX8_isRef_31 : decode cX8_isRef 31 = .ok (.invokevirtual 214, 3) := by decide +kernel
theorem dX8_isRef_34 : decode cX8_isRef 34 = .ok (.imul, 1) := by decide +kernel
theorem dX8_isRef_35 : decode cX8_isRef 35 = .ok (.iload 4, 2) := by decide +kernel
theorem dX8_isRef_37 : decode cX8_isRef 37 = .ok (.iadd, 1) := by decide +kernel
theorem dX8_isRef_38 : decode cX8_isRef 38 = .ok (.iaload, 1) := by decide +kernel
theorem dX8_isRef_39 : decode cX8_isRef 39 = .ok (.iload_n 2, 1) := by decide +kernel
theorem dX8_isRef_40 : decode cX8_isRef 40 = .ok (.if_icmp .ne 7, 3) := by decide +kernel
theorem dX8_isRef_43 : decode cX8_isRef 43 = .ok (.iconst 1, 1) := by decide +kernel
theorem dX8_isRef_44 : decode cX8_isRef 44 = .ok (.goto 4, 3) := by decide +kernel
theorem dX8_isRef_47 : decode cX8_isRef 47 = .ok (.iconst 0, 1) := by decide +kernel
theorem dX8_isRef_48 : decode cX8_isRef 48 = .ok (.istore_n 3, 1) := by decide +kernel
theorem dX8_isRef_49 : decode cX8_isRef 49 = .ok (.iinc 4 1, 3) := by decide +kernel
theorem dX8_isRef_52 : decode cX8_isRef 52 = .ok (.goto (-47), 3) := by decide +kernel
theorem dX8_isRef_55 : decode cX8_isRef 55 = .ok (.iload_n 3, 1) := by decide +kernel
theorem dX8_isRef_56 : decode cX8_isRef 56 = .ok (.ireturn, 1) := by decide +kernel
theorem dX8_ruled_0 : decode cX8_ruled 0 = .ok (.aload_n 0, 1) := by decide +kernel
theorem dX8_ruled_1 : decode cX8_ruled 1 = .ok (.iconst 0, 1) := by decide +kernel
theorem dX8_ruled_2 : decode cX8_ruled 2 = .ok (.putfield 428, 3) := by decide +kernel
theorem dX8_ruled_5 : decode cX8_ruled 5 = .ok (.aload_n 0, 1) := by decide +kernel
theorem dX8_ruled_6 : decode cX8_ruled 6 = .ok (.getfield 70, 3) := by decide +kernel
theorem dX8_ruled_9 : decode cX8_ruled 9 = .ok (.aload_n 0, 1) := by decide +kernel
theorem dX8_ruled_10 : decode cX8_ruled 10 = .ok (.iload_n 3, 1) := by decide +kernel
theorem dX8_ruled_11 : decode cX8_ruled 11 = .ok (.invokevirtual 214, 3) := by decide +kernel
theorem dX8_ruled_14 : decode cX8_ruled 14 = .ok (.iaload, 1) := by decide +kernel
theorem dX8_ruled_15 : decode cX8_ruled 15 = .ok (.iconst 2, 1) := by decide +kernel
theorem dX8_ruled_16 : decode cX8_ruled 16 = .ok (.if_icmp .ne 7, 3) := by decide +kernel
theorem dX8_ruled_19 : decode cX8_ruled 19 = .ok (.iconst 1, 1) := by decide +kernel
theorem dX8_ruled_20 : decode cX8_ruled 20 = .ok (.goto 4, 3) := by decide +kernel
theorem dX8_ruled_23 : decode cX8_ruled 23 = .ok (.iconst 0, 1) := by decide +kernel
theorem dX8_ruled_24 : decode cX8_ruled 24 = .ok (.istore 6, 2) := by decide +kernel
theorem dX8_ruled_26 : decode cX8_ruled 26 = .ok (.iload_n 1, 1) := by decide +kernel
theorem dX8_ruled_27 : decode cX8_ruled 27 = .ok (.ifCond .ne 8, 3) := by decide +kernel
theorem dX8_ruled_30 : decode cX8_ruled 30 = .ok (.iload 6, 2) := by decide +kernel
theorem dX8_ruled_32 : decode cX8_ruled 32 = .ok (.ifCond .ne 32, 3) := by decide +kernel
theorem dX8_ruled_35 : decode cX8_ruled 35 = .ok (.iload_n 1, 1) := by decide +kernel
theorem dX8_ruled_36 : decode cX8_ruled 36 = .ok (.iconst 1, 1) := by decide +kernel
theorem dX8_ruled_37 : decode cX8_ruled 37 = .ok (.if_icmp .ne 8, 3) := by decide +kernel
theorem dX8_ruled_40 : decode cX8_ruled 40 = .ok (.iload 6, 2) := by decide +kernel
theorem dX8_ruled_42 : decode cX8_ruled 42 = .ok (.ifCond .eq 22, 3) := by decide +kernel
theorem dX8_ruled_45 : decode cX8_ruled 45 = .ok (.iload_n 1, 1) := by decide +kernel
theorem dX8_ruled_46 : decode cX8_ruled 46 = .ok (.iconst 2, 1) := by decide +kernel
theorem dX8_ruled_47 : decode cX8_ruled 47 = .ok (.if_icmp .ne 20, 3) := by decide +kernel
theorem dX8_ruled_50 : decode cX8_ruled 50 = .ok (.iload 6, 2) := by decide +kernel
theorem dX8_ruled_52 : decode cX8_ruled 52 = .ok (.ifCond .eq 15, 3) := by decide +kernel
theorem dX8_ruled_55 : decode cX8_ruled 55 = .ok (.aload_n 0, 1) := by decide +kernel
theorem dX8_ruled_56 : decode cX8_ruled 56 = .ok (.iload_n 2, 1) := by decide +kernel
theorem dX8_ruled_57 : decode cX8_ruled 57 = .ok (.iload_n 3, 1) := by decide +kernel
theorem dX8_ruled_58 : decode cX8_ruled 58 = .ok (.invokevirtual 431, 3) := by decide +kernel
theorem dX8_ruled_61 : decode cX8_ruled 61 = .ok (.ifCond .ne 6, 3) := by decide +kernel
theorem dX8_ruled_64 : decode cX8_ruled 64 = .ok (.bipush (-5), 2) := by decide +kernel
theorem dX8_ruled_66 : decode cX8_ruled 66 = .ok (.ireturn, 1) := by decide +kernel
theorem dX8_ruled_67 : decode cX8_ruled 67 = .ok (.iload_n 1, 1) := by decide +kernel
theorem dX8_ruled_68 : decode cX8_ruled 68 = .ok (.iconst 2, 1) := by decide +kernel
theorem dX8_ruled_69 : decode cX8_ruled 69 = .ok (.if_icmp .ne 30, 3) := by decide +kernel
theorem dX8_ruled_72 : decode cX8_ruled 72 = .ok (.iload 6, 2) := by decide +kernel
theorem dX8_ruled_74 : decode cX8_ruled 74 = .ok (.ifCond .ne 25, 3) := by decide +kernel
theorem dX8_ruled_77 : decode cX8_ruled 77 = .ok (.aload_n 0, 1) := by decide +kernel
theorem dX8_ruled_78 : decode cX8_ruled 78 = .ok (.getfield 103, 3) := by decide +kernel
theorem dX8_ruled_81 : decode cX8_ruled 81 = .ok (.bipush 24, 2) := by decide +kernel
theorem dX8_ruled_83 : decode cX8_ruled 83 = .ok (.aload_n 0, 1) := by decide +kernel
theorem dX8_ruled_84 : decode cX8_ruled 84 = .ok (.iload_n 2, 1) := by decide +kernel
theorem dX8_ruled_85 : decode cX8_ruled 85 = .ok (.invokevirtual 214, 3) := by decide +kernel
theorem dX8_ruled_88 : decode cX8_ruled 88 = .ok (.imul, 1) := by decide +kernel
theorem dX8_ruled_89 : decode cX8_ruled 89 = .ok (.iload_n 3, 1) := by decide +kernel
theorem dX8_ruled_90 : decode cX8_ruled 90 = .ok (.iadd, 1) := by decide +kernel
theorem dX8_ruled_91 : decode cX8_ruled 91 = .ok (.baload, 1) := by decide +kernel
theorem dX8_ruled_92 : decode cX8_ruled 92 = .ok (.ifCond .eq 7, 3) := by decide +kernel
theorem dX8_ruled_95 : decode cX8_ruled 95 = .ok (.iconst 1, 1) := by decide +kernel
theorem dX8_ruled_96 : decode cX8_ruled 96 = .ok (.goto 4, 3) := by decide +kernel
theorem dX8_ruled_99 : decode cX8_ruled 99 = .ok (.iconst 0, 1) := by decide +kernel
theorem dX8_ruled_100 : decode cX8_ruled 100 = .ok (.istore 7, 2) := by decide +kernel
theorem dX8_ruled_102 : decode cX8_ruled 102 = .ok (.aload_n 0, 1) := by decide +kernel
theorem dX8_ruled_103 : decode cX8_ruled 103 = .ok (.iload 7, 2) := by decide +kernel
theorem dX8_ruled_105 : decode cX8_ruled 105 = .ok (.ifCond .eq 16, 3) := by decide +kernel
theorem dX8_ruled_108 : decode cX8_ruled 108 = .ok (.aload_n 0, 1) := by decide +kernel
theorem dX8_ruled_109 : decode cX8_ruled 109 = .ok (.getfield 94, 3) := by decide +kernel
theorem dX8_ruled_112 : decode cX8_ruled 112 = .ok (.aload_n 0, 1) := by decide +kernel
theorem dX8_ruled_113 : decode cX8_ruled 113 = .ok (.iload_n 2, 1) := by decide +kernel
theorem dX8_ruled_114 : decode cX8_ruled 114 = .ok (.invokevirtual 214, 3) := by decide +kernel
theorem dX8_ruled_117 : decode cX8_ruled 117 = .ok (.iaload, 1) := by decide +kernel
theorem dX8_ruled_118 : decode cX8_ruled 118 = .ok (.goto 4, 3) := by decide +kernel
theorem dX8_ruled_121 : decode cX8_ruled 121 = .ok (.iload_n 3, 1) := by decide +kernel
theorem dX8_ruled_122 : decode cX8_ruled 122 = .ok (.iload 4, 2) := by decide +kernel
theorem dX8_ruled_124 : decode cX8_ruled 124 = .ok (.invokevirtual 434, 3) := by decide +kernel
theorem dX8_ruled_127 : decode cX8_ruled 127 = .ok (.istore 8, 2) := by decide +kernel
theorem dX8_ruled_129 : decode cX8_ruled 129 = .ok (.iload 8, 2) := by decide +kernel
theorem dX8_ruled_131 : decode cX8_ruled 131 = .ok (.ifCond .ge 5, 3) := by decide +kernel
theorem dX8_ruled_134 : decode cX8_ruled 134 = .ok (.iconst (-1), 1) := by decide +kernel
theorem dX8_ruled_135 : decode cX8_ruled 135 = .ok (.ireturn, 1) := by decide +kernel
theorem dX8_ruled_136 : decode cX8_ruled 136 = .ok (.aload_n 0, 1) := by decide +kernel
theorem dX8_ruled_137 : decode cX8_ruled 137 = .ok (.iload_n 2, 1) := by decide +kernel
theorem dX8_ruled_138 : decode cX8_ruled 138 = .ok (.iload_n 3, 1) := by decide +kernel
theorem dX8_ruled_139 : decode cX8_ruled 139 = .ok (.iload 8, 2) := by decide +kernel
theorem dX8_ruled_141 : decode cX8_ruled 141 = .ok (.iload_n 1, 1) := by decide +kernel
theorem dX8_ruled_142 : decode cX8_ruled 142 = .ok (.iconst 3, 1) := by decide +kernel
theorem dX8_ruled_143 : decode cX8_ruled 143 = .ok (.if_icmp .ne 7, 3) := by decide +kernel
theorem dX8_ruled_146 : decode cX8_ruled 146 = .ok (.iload_n 2, 1) := by decide +kernel
theorem dX8_ruled_147 : decode cX8_ruled 147 = .ok (.goto 5, 3) := by decide +kernel
theorem dX8_ruled_150 : decode cX8_ruled 150 = .ok (.iload 5, 2) := by decide +kernel
theorem dX8_ruled_152 : decode cX8_ruled 152 = .ok (.invokevirtual 437, 3) := by decide +kernel
theorem dX8_ruled_155 : decode cX8_ruled 155 = .ok (.ifCond .ne 6, 3) := by decide +kernel
theorem dX8_ruled_158 : decode cX8_ruled 158 = .ok (.bipush (-2), 2) := by decide +kernel
theorem dX8_ruled_160 : decode cX8_ruled 160 = .ok (.ireturn, 1) := by decide +kernel
theorem dX8_ruled_161 : decode cX8_ruled 161 = .ok (.aload_n 0, 1) := by decide +kernel
theorem dX8_ruled_162 : decode cX8_ruled 162 = .ok (.iload 8, 2) := by decide +kernel
theorem dX8_ruled_164 : decode cX8_ruled 164 = .ok (.invokevirtual 380, 3) := by decide +kernel
theorem dX8_ruled_167 : decode cX8_ruled 167 = .ok (.iconst 1, 1) := by decide +kernel
theorem dX8_ruled_168 : decode cX8_ruled 168 = .ok (.if_icmp .ne 7, 3) := by decide +kernel
theorem dX8_ruled_171 : decode cX8_ruled 171 = .ok (.iconst 1, 1) := by decide +kernel
theorem dX8_ruled_172 : decode cX8_ruled 172 = .ok (.goto 4, 3) := by decide +kernel
theorem dX8_ruled_175 : decode cX8_ruled 175 = .ok (.iconst 0, 1) := by decide +kernel
theorem dX8_ruled_176 : decode cX8_ruled 176 = .ok (.iload_n 1, 1) := by decide +kernel
theorem dX8_ruled_177 : decode cX8_ruled 177 = .ok (.iconst 3, 1) := by decide +kernel
theorem dX8_ruled_178 : decode cX8_ruled 178 = .ok (.if_icmp .ne 7, 3) := by decide +kernel
theorem dX8_ruled_181 : decode cX8_ruled 181 = .ok (.iconst 1, 1) := by decide +kernel
theorem dX8_ruled_182 : decode cX8_ruled 182 = .ok (.goto 4, 3) := by decide +kernel
theorem dX8_ruled_185 : decode cX8_ruled 185 = .ok (.iconst 0, 1) := by decide +kernel
theorem dX8_ruled_186 : decode cX8_ruled 186 = .ok (.if_icmp .eq 6, 3) := by decide +kernel
theorem dX8_ruled_189 : decode cX8_ruled 189 = .ok (.bipush (-5), 2) := by decide +kernel
theorem dX8_ruled_191 : decode cX8_ruled 191 = .ok (.ireturn, 1) := by decide +kernel
theorem dX8_ruled_192 : decode cX8_ruled 192 = .ok (.iload_n 1, 1) := by decide +kernel
theorem dX8_ruled_193 : decode cX8_ruled 193 = .ok (.iconst 3, 1) := by decide +kernel
theorem dX8_ruled_194 : decode cX8_ruled 194 = .ok (.if_icmp .eq 71, 3) := by decide +kernel
theorem dX8_ruled_197 : decode cX8_ruled 197 = .ok (.iload_n 1, 1) := by decide +kernel
theorem dX8_ruled_198 : decode cX8_ruled 198 = .ok (.iconst 2, 1) := by decide +kernel
theorem dX8_ruled_199 : decode cX8_ruled 199 = .ok (.if_icmp .ne 35, 3) := by decide +kernel
theorem dX8_ruled_202 : decode cX8_ruled 202 = .ok (.aload_n 0, 1) := by decide +kernel
theorem dX8_ruled_203 : decode cX8_ruled 203 = .ok (.iload 5, 2) := by decide +kernel
theorem dX8_ruled_205 : decode cX8_ruled 205 = .ok (.iload_n 2, 1) := by decide +kernel
theorem dX8_ruled_206 : decode cX8_ruled 206 = .ok (.invokevirtual 335, 3) := by decide +kernel
theorem dX8_ruled_209 : decode cX8_ruled 209 = .ok (.ifCond .eq 21, 3) := by decide +kernel
theorem dX8_ruled_212 : decode cX8_ruled 212 = .ok (.iload_n 2, 1) := by decide +kernel
theorem dX8_ruled_213 : decode cX8_ruled 213 = .ok (.iload_n 3, 1) := by decide +kernel
theorem dX8_ruled_214 : decode cX8_ruled 214 = .ok (.if_icmp .eq 16, 3) := by decide +kernel
theorem dX8_ruled_217 : decode cX8_ruled 217 = .ok (.aload_n 0, 1) := by decide +kernel
theorem dX8_ruled_218 : decode cX8_ruled 218 = .ok (.iload_n 2, 1) := by decide +kernel
theorem dX8_ruled_219 : decode cX8_ruled 219 = .ok (.iload_n 3, 1) := by decide +kernel
theorem dX8_ruled_220 : decode cX8_ruled 220 = .ok (.invokevirtual 335, 3) := by decide +kernel
theorem dX8_ruled_223 : decode cX8_ruled 223 = .ok (.ifCond .eq 7, 3) := by decide +kernel
theorem dX8_ruled_226 : decode cX8_ruled 226 = .ok (.iconst 1, 1) := by decide +kernel
theorem dX8_ruled_227 : decode cX8_ruled 227 = .ok (.goto 14, 3) := by decide +kernel
theorem dX8_ruled_230 : decode cX8_ruled 230 = .ok (.iconst 0, 1) := by decide +kernel
theorem dX8_ruled_231 : decode cX8_ruled 231 = .ok (.goto 10, 3) := by decide +kernel
theorem dX8_ruled_234 : decode cX8_ruled 234 = .ok (.aload_n 0, 1) := by decide +kernel
theorem dX8_ruled_235 : decode cX8_ruled 235 = .ok (.iload 5, 2) := by decide +kernel
theorem dX8_ruled_237 : decode cX8_ruled 237 = .ok (.iload_n 3, 1) := by decide +kernel
theorem dX8_ruled_238 : decode cX8_ruled 238 = .ok (.invokevirtual 335, 3) := by decide +kernel
theorem dX8_ruled_241 : decode cX8_ruled 241 = .ok (.istore 9, 2) := by decide +kernel
theorem dX8_ruled_243 : decode cX8_ruled 243 = .ok (.aload_n 0, 1) := by decide +kernel
theorem dX8_ruled_244 : decode cX8_ruled 244 = .ok (.getfield 70, 3) := by decide +kernel
theorem dX8_ruled_247 : decode cX8_ruled 247 = .ok (.aload_n 0, 1) := by decide +kernel
theorem dX8_ruled_248 : decode cX8_ruled 248 = .ok (.iload 5, 2) := by decide +kernel
theorem dX8_ruled_250 : decode cX8_ruled 250 = .ok (.invokevirtual 214, 3) := by decide +kernel
theorem dX8_ruled_253 : decode cX8_ruled 253 = .ok (.iaload, 1) := by decide +kernel
theorem dX8_ruled_254 : decode cX8_ruled 254 = .ok (.ifCond .ne 8, 3) := by decide +kernel
theorem dX8_ruled_257 : decode cX8_ruled 257 = .ok (.iload 9, 2) := by decide +kernel
theorem dX8_ruled_259 : decode cX8_ruled 259 = .ok (.ifCond .ne 6, 3) := by decide +kernel
theorem dX8_ruled_262 : decode cX8_ruled 262 = .ok (.bipush (-6), 2) := by decide +kernel
theorem dX8_ruled_264 : decode cX8_ruled 264 = .ok (.ireturn, 1) := by decide +kernel
theorem dX8_ruled_265 : decode cX8_ruled 265 = .ok (.aload_n 0, 1) := by decide +kernel
theorem dX8_ruled_266 : decode cX8_ruled 266 = .ok (.iload 8, 2) := by decide +kernel
theorem dX8_ruled_268 : decode cX8_ruled 268 = .ok (.iload 5, 2) := by decide +kernel
theorem dX8_ruled_270 : decode cX8_ruled 270 = .ok (.iload_n 1, 1) := by decide +kernel
theorem dX8_ruled_271 : decode cX8_ruled 271 = .ok (.iconst 2, 1) := by decide +kernel
theorem dX8_ruled_272 : decode cX8_ruled 272 = .ok (.if_icmp .ge 7, 3) := by decide +kernel
theorem dX8_ruled_275 : decode cX8_ruled 275 = .ok (.iconst 1, 1) := by decide +kernel
theorem dX8_ruled_276 : decode cX8_ruled 276 = .ok (.goto 4, 3) := by decide +kernel
theorem dX8_ruled_279 : decode cX8_ruled 279 = .ok (.iconst 0, 1) := by decide +kernel
theorem dX8_ruled_280 : decode cX8_ruled 280 = .ok (.invokevirtual 440, 3) := by decide +kernel
theorem dX8_ruled_283 : decode cX8_ruled 283 = .ok (.ireturn, 1) := by decide +kernel
theorem dX8_lookup_0 : decode cX8_lookup 0 = .ok (.aload_n 0, 1) := by decide +kernel
theorem dX8_lookup_1 : decode cX8_lookup 1 = .ok (.iload_n 1, 1) := by decide +kernel
theorem dX8_lookup_2 : decode cX8_lookup 2 = .ok (.invokevirtual 371, 3) := by decide +kernel
theorem dX8_lookup_5 : decode cX8_lookup 5 = .ok (.ifCond .eq 11, 3) := by decide +kernel
theorem dX8_lookup_8 : decode cX8_lookup 8 = .ok (.aload_n 0, 1) := by decide +kernel
theorem dX8_lookup_9 : decode cX8_lookup 9 = .ok (.iload_n 2, 1) := by decide +kernel
theorem dX8_lookup_10 : decode cX8_lookup 10 = .ok (.invokevirtual 374, 3) := by decide +kernel
theorem dX8_lookup_13 : decode cX8_lookup 13 = .ok (.ifCond .ne 6, 3) := by decide +kernel
theorem dX8_lookup_16 : decode cX8_lookup 16 = .ok (.bipush (-11), 2) := by decide +kernel
theorem dX8_lookup_18 : decode cX8_lookup 18 = .ok (.ireturn, 1) := by decide +kernel
theorem dX8_lookup_19 : decode cX8_lookup 19 = .ok (.aload_n 0, 1) := by decide +kernel
theorem dX8_lookup_20 : decode cX8_lookup 20 = .ok (.iload_n 1, 1) := by decide +kernel
theorem dX8_lookup_21 : decode cX8_lookup 21 = .ok (.iload_n 2, 1) := by decide +kernel
theorem dX8_lookup_22 : decode cX8_lookup 22 = .ok (.invokevirtual 434, 3) := by decide +kernel
theorem dX8_lookup_25 : decode cX8_lookup 25 = .ok (.istore_n 3, 1) := by decide +kernel
theorem dX8_lookup_26 : decode cX8_lookup 26 = .ok (.iload_n 3, 1) := by decide +kernel
theorem dX8_lookup_27 : decode cX8_lookup 27 = .ok (.ifCond .ge 7, 3) := by decide +kernel
theorem dX8_lookup_30 : decode cX8_lookup 30 = .ok (.iconst (-1), 1) := by decide +kernel
theorem dX8_lookup_31 : decode cX8_lookup 31 = .ok (.goto 8, 3) := by decide +kernel
theorem dX8_lookup_34 : decode cX8_lookup 34 = .ok (.aload_n 0, 1) := by decide +kernel
theorem dX8_lookup_35 : decode cX8_lookup 35 = .ok (.iload_n 3, 1) := by decide +kernel
theorem dX8_lookup_36 : decode cX8_lookup 36 = .ok (.invokevirtual 444, 3) := by decide +kernel
theorem dX8_lookup_39 : decode cX8_lookup 39 = .ok (.ireturn, 1) := by decide +kernel
theorem dX8_specific_0 : decode cX8_specific 0 = .ok (.aload_n 0, 1) := by decide +kernel
theorem dX8_specific_1 : decode cX8_specific 1 = .ok (.iload_n 1, 1) := by decide +kernel
theorem dX8_specific_2 : decode cX8_specific 2 = .ok (.invokevirtual 371, 3) := by decide +kernel
theorem dX8_specific_5 : decode cX8_specific 5 = .ok (.ifCond .eq 11, 3) := by decide +kernel
theorem dX8_specific_8 : decode cX8_specific 8 = .ok (.aload_n 0, 1) := by decide +kernel
theorem dX8_specific_9 : decode cX8_specific 9 = .ok (.iload_n 2, 1) := by decide +kernel
theorem dX8_specific_10 : decode cX8_specific 10 = .ok (.invokevirtual 374, 3) := by decide +kernel
theorem dX8_specific_13 : decode cX8_specific 13 = .ok (.ifCond .ne 6, 3) := by decide +kernel
theorem dX8_specific_16 : decode cX8_specific 16 = .ok (.bipush (-11), 2) := by decide +kernel
theorem dX8_specific_18 : decode cX8_specific 18 = .ok (.ireturn, 1) := by decide +kernel
theorem dX8_specific_19 : decode cX8_specific 19 = .ok (.aload_n 0, 1) := by decide +kernel
theorem dX8_specific_20 : decode cX8_specific 20 = .ok (.getfield 70, 3) := by decide +kernel
theorem dX8_specific_23 : decode cX8_specific 23 = .ok (.aload_n 0, 1) := by decide +kernel
theorem dX8_specific_24 : decode cX8_specific 24 = .ok (.iload_n 1, 1) := by decide +kernel
theorem dX8_specific_25 : decode cX8_specific 25 = .ok (.invokevirtual 214, 3) := by decide +kernel
theorem dX8_specific_28 : decode cX8_specific 28 = .ok (.iaload, 1) := by decide +kernel
theorem dX8_specific_29 : decode cX8_specific 29 = .ok (.iconst 2, 1) := by decide +kernel
theorem dX8_specific_30 : decode cX8_specific 30 = .ok (.if_icmp .ne 12, 3) := by decide +kernel
theorem dX8_specific_33 : decode cX8_specific 33 = .ok (.aload_n 0, 1) := by decide +kernel
theorem dX8_specific_34 : decode cX8_specific 34 = .ok (.iload_n 1, 1) := by decide +kernel
theorem dX8_specific_35 : decode cX8_specific 35 = .ok (.iload_n 2, 1) := by decide +kernel
theorem dX8_specific_36 : decode cX8_specific 36 = .ok (.invokevirtual 392, 3) := by decide +kernel
theorem dX8_specific_39 : decode cX8_specific 39 = .ok (.goto 4, 3) := by decide +kernel
theorem dX8_specific_42 : decode cX8_specific 42 = .ok (.iconst (-1), 1) := by decide +kernel
theorem dX8_specific_43 : decode cX8_specific 43 = .ok (.istore 4, 2) := by decide +kernel
theorem dX8_specific_45 : decode cX8_specific 45 = .ok (.iload 4, 2) := by decide +kernel
theorem dX8_specific_47 : decode cX8_specific 47 = .ok (.ifCond .lt 19, 3) := by decide +kernel
theorem dX8_specific_50 : decode cX8_specific 50 = .ok (.iload_n 3, 1) := by decide +kernel
theorem dX8_specific_51 : decode cX8_specific 51 = .ok (.ifCond .ne 12, 3) := by decide +kernel
theorem dX8_specific_54 : decode cX8_specific 54 = .ok (.aload_n 0, 1) := by decide +kernel
theorem dX8_specific_55 : decode cX8_specific 55 = .ok (.iload 4, 2) := by decide +kernel
theorem dX8_specific_57 : decode cX8_specific 57 = .ok (.invokevirtual 444, 3) := by decide +kernel
theorem dX8_specific_60 : decode cX8_specific 60 = .ok (.goto 5, 3) := by decide +kernel
theorem dX8_specific_63 : decode cX8_specific 63 = .ok (.bipush (-13), 2) := by decide +kernel
theorem dX8_specific_65 : decode cX8_specific 65 = .ok (.ireturn, 1) := by decide +kernel
theorem dX8_specific_66 : decode cX8_specific 66 = .ok (.aload_n 0, 1) := by decide +kernel
theorem dX8_specific_67 : decode cX8_specific 67 = .ok (.iload_n 1, 1) := by decide +kernel
theorem dX8_specific_68 : decode cX8_specific 68 = .ok (.iload_n 2, 1) := by decide +kernel
theorem dX8_specific_69 : decode cX8_specific 69 = .ok (.invokevirtual 407, 3) := by decide +kernel
theorem dX8_specific_72 : decode cX8_specific 72 = .ok (.iload_n 3, 1) := by decide +kernel
theorem dX8_specific_73 : decode cX8_specific 73 = .ok (.iconst 0, 1) := by decide +kernel
theorem dX8_specific_74 : decode cX8_specific 74 = .ok (.aload_n 0, 1) := by decide +kernel
theorem dX8_specific_75 : decode cX8_specific 75 = .ok (.getfield 389, 3) := by decide +kernel
theorem dX8_specific_78 : decode cX8_specific 78 = .ok (.iconst 1, 1) := by decide +kernel
theorem dX8_specific_79 : decode cX8_specific 79 = .ok (.isub, 1) := by decide +kernel
theorem dX8_specific_80 : decode cX8_specific 80 = .ok (.invokestatic 165, 3) := by decide +kernel
theorem dX8_specific_83 : decode cX8_specific 83 = .ok (.ifCond .eq 16, 3) := by decide +kernel
theorem dX8_specific_86 : decode cX8_specific 86 = .ok (.aload_n 0, 1) := by decide +kernel
theorem dX8_specific_87 : decode cX8_specific 87 = .ok (.aload_n 0, 1) := by decide +kernel
theorem dX8_specific_88 : decode cX8_specific 88 = .ok (.getfield 152, 3) := by decide +kernel
theorem dX8_specific_91 : decode cX8_specific 91 = .ok (.iload_n 3, 1) := by decide +kernel
theorem dX8_specific_92 : decode cX8_specific 92 = .ok (.iaload, 1) := by decide +kernel
theorem dX8_specific_93 : decode cX8_specific 93 = .ok (.invokevirtual 444, 3) := by decide +kernel
theorem dX8_specific_96 : decode cX8_specific 96 = .ok (.goto 5, 3) := by decide +kernel
theorem dX8_specific_99 : decode cX8_specific 99 = .ok (.bipush (-13), 2) := by decide +kernel
theorem dX8_specific_101 : decode cX8_specific 101 = .ok (.ireturn, 1) := by decide +kernel
theorem dX8_may_0 : decode cX8_may 0 = .ok (.aload_n 0, 1) := by decide +kernel
theorem dX8_may_1 : decode cX8_may 1 = .ok (.iload_n 1, 1) := by decide +kernel
theorem dX8_may_2 : decode cX8_may 2 = .ok (.invokevirtual 371, 3) := by decide +kernel
theorem dX8_may_5 : decode cX8_may 5 = .ok (.ifCond .eq 28, 3) := by decide +kernel
theorem dX8_may_8 : decode cX8_may 8 = .ok (.aload_n 0, 1) := by decide +kernel
theorem dX8_may_9 : decode cX8_may 9 = .ok (.iload_n 2, 1) := by decide +kernel
theorem dX8_may_10 : decode cX8_may 10 = .ok (.invokevirtual 371, 3) := by decide +kernel
theorem dX8_may_13 : decode cX8_may 13 = .ok (.ifCond .eq 20, 3) := by decide +kernel
theorem dX8_may_16 : decode cX8_may 16 = .ok (.aload_n 0, 1) := by decide +kernel
theorem dX8_may_17 : decode cX8_may 17 = .ok (.iload_n 3, 1) := by decide +kernel
theorem dX8_may_18 : decode cX8_may 18 = .ok (.invokevirtual 374, 3) := by decide +kernel
theorem dX8_may_21 : decode cX8_may 21 = .ok (.ifCond .eq 12, 3) := by decide +kernel
theorem dX8_may_24 : decode cX8_may 24 = .ok (.aload_n 0, 1) := by decide +kernel
theorem dX8_may_25 : decode cX8_may 25 = .ok (.iload 4, 2) := by decide +kernel
theorem dX8_may_27 : decode cX8_may 27 = .ok (.invokevirtual 371, 3) := by decide +kernel
theorem dX8_may_30 : decode cX8_may 30 = .ok (.ifCond .ne 6, 3) := by decide +kernel
theorem dX8_may_33 : decode cX8_may 33 = .ok (.bipush (-11), 2) := by decide +kernel
theorem dX8_may_35 : decode cX8_may 35 = .ok (.ireturn, 1) := by decide +kernel
theorem dX8_may_36 : decode cX8_may 36 = .ok (.aload_n 0, 1) := by decide +kernel
theorem dX8_may_37 : decode cX8_may 37 = .ok (.iload_n 2, 1) := by decide +kernel
theorem dX8_may_38 : decode cX8_may 38 = .ok (.iload_n 3, 1) := by decide +kernel
theorem dX8_may_39 : decode cX8_may 39 = .ok (.invokevirtual 434, 3) := by decide +kernel
theorem dX8_may_42 : decode cX8_may 42 = .ok (.istore 5, 2) := by decide +kernel
theorem dX8_may_44 : decode cX8_may 44 = .ok (.iload 5, 2) := by decide +kernel
theorem dX8_may_46 : decode cX8_may 46 = .ok (.ifCond .ge 7, 3) := by decide +kernel
theorem dX8_may_49 : decode cX8_may 49 = .ok (.iconst (-1), 1) := by decide +kernel
theorem dX8_may_50 : decode cX8_may 50 = .ok (.goto 21, 3) := by decide +kernel
theorem dX8_may_53 : decode cX8_may 53 = .ok (.aload_n 0, 1) := by decide +kernel
theorem dX8_may_54 : decode cX8_may 54 = .ok (.iload_n 1, 1) := by decide +kernel
theorem dX8_may_55 : decode cX8_may 55 = .ok (.iload_n 2, 1) := by decide +kernel
theorem dX8_may_56 : decode cX8_may 56 = .ok (.iload 5, 2) := by decide +kernel
theorem dX8_may_58 : decode cX8_may 58 = .ok (.iload 4, 2) := by decide +kernel
theorem dX8_may_60 : decode cX8_may 60 = .ok (.invokevirtual 437, 3) := by decide +kernel
theorem dX8_may_63 : decode cX8_may 63 = .ok (.ifCond .eq 7, 3) := by decide +kernel
theorem dX8_may_66 : decode cX8_may 66 = .ok (.iconst 1, 1) := by decide +kernel
theorem dX8_may_67 : decode cX8_may 67 = .ok (.goto 4, 3) := by decide +kernel
theorem dX8_may_70 : decode cX8_may 70 = .ok (.iconst 0, 1) := by decide +kernel
theorem dX8_may_71 : decode cX8_may 71 = .ok (.ireturn, 1) := by decide +kernel
theorem dX8_rule_0 : decode cX8_rule 0 = .ok (.aload_n 0, 1) := by decide +kernel
theorem dX8_rule_1 : decode cX8_rule 1 = .ok (.iload_n 2, 1) := by decide +kernel
theorem dX8_rule_2 : decode cX8_rule 2 = .ok (.invokevirtual 371, 3) := by decide +kernel
theorem dX8_rule_5 : decode cX8_rule 5 = .ok (.ifCond .eq 34, 3) := by decide +kernel
theorem dX8_rule_8 : decode cX8_rule 8 = .ok (.aload_n 0, 1) := by decide +kernel
theorem dX8_rule_9 : decode cX8_rule 9 = .ok (.iload_n 3, 1) := by decide +kernel
theorem dX8_rule_10 : decode cX8_rule 10 = .ok (.invokevirtual 371, 3) := by decide +kernel
theorem dX8_rule_13 : decode cX8_rule 13 = .ok (.ifCond .eq 26, 3) := by decide +kernel
theorem dX8_rule_16 : decode cX8_rule 16 = .ok (.aload_n 0, 1) := by decide +kernel
theorem dX8_rule_17 : decode cX8_rule 17 = .ok (.iload 4, 2) := by decide +kernel
theorem dX8_rule_19 : decode cX8_rule 19 = .ok (.invokevirtual 374, 3) := by decide +kernel
theorem dX8_rule_22 : decode cX8_rule 22 = .ok (.ifCond .eq 17, 3) := by decide +kernel
theorem dX8_rule_25 : decode cX8_rule 25 = .ok (.iload_n 1, 1) := by decide +kernel
theorem dX8_rule_26 : decode cX8_rule 26 = .ok (.iconst 3, 1) := by decide +kernel
theorem dX8_rule_27 : decode cX8_rule 27 = .ok (.if_icmp .eq 15, 3) := by decide +kernel
theorem dX8_rule_30 : decode cX8_rule 30 = .ok (.aload_n 0, 1) := by decide +kernel
theorem dX8_rule_31 : decode cX8_rule 31 = .ok (.iload 5, 2) := by decide +kernel
theorem dX8_rule_33 : decode cX8_rule 33 = .ok (.invokevirtual 371, 3) := by decide +kernel
theorem dX8_rule_36 : decode cX8_rule 36 = .ok (.ifCond .ne 6, 3) := by decide +kernel
theorem dX8_rule_39 : decode cX8_rule 39 = .ok (.bipush (-11), 2) := by decide +kernel
theorem dX8_rule_41 : decode cX8_rule 41 = .ok (.ireturn, 1) := by decide +kernel
theorem dX8_rule_42 : decode cX8_rule 42 = .ok (.iload_n 1, 1) := by decide +kernel
theorem dX8_rule_43 : decode cX8_rule 43 = .ok (.iconst 0, 1) := by decide +kernel
theorem dX8_rule_44 : decode cX8_rule 44 = .ok (.iconst 3, 1) := by decide +kernel
theorem dX8_rule_45 : decode cX8_rule 45 = .ok (.invokestatic 165, 3) := by decide +kernel
theorem dX8_rule_48 : decode cX8_rule 48 = .ok (.ifCond .ne 6, 3) := by decide +kernel
theorem dX8_rule_51 : decode cX8_rule 51 = .ok (.bipush (-12), 2) := by decide +kernel
theorem dX8_rule_53 : decode cX8_rule 53 = .ok (.ireturn, 1) := by decide +kernel
theorem dX8_rule_54 : decode cX8_rule 54 = .ok (.aload_n 0, 1) := by decide +kernel
theorem dX8_rule_55 : decode cX8_rule 55 = .ok (.iload_n 1, 1) := by decide +kernel
theorem dX8_rule_56 : decode cX8_rule 56 = .ok (.iload_n 2, 1) := by decide +kernel
theorem dX8_rule_57 : decode cX8_rule 57 = .ok (.iload_n 3, 1) := by decide +kernel
theorem dX8_rule_58 : decode cX8_rule 58 = .ok (.iload 4, 2) := by decide +kernel
theorem dX8_rule_60 : decode cX8_rule 60 = .ok (.iload 5, 2) := by decide +kernel
theorem dX8_rule_62 : decode cX8_rule 62 = .ok (.invokevirtual 447, 3) := by decide +kernel
theorem dX8_rule_65 : decode cX8_rule 65 = .ok (.istore 6, 2) := by decide +kernel
theorem dX8_rule_67 : decode cX8_rule 67 = .ok (.aload_n 0, 1) := by decide +kernel
theorem dX8_rule_68 : decode cX8_rule 68 = .ok (.aload_n 0, 1) := by decide +kernel
theorem dX8_rule_69 : decode cX8_rule 69 = .ok (.getfield 428, 3) := by decide +kernel
theorem dX8_rule_72 : decode cX8_rule 72 = .ok (.putfield 451, 3) := by decide +kernel
theorem dX8_rule_75 : decode cX8_rule 75 = .ok (.iload 6, 2) := by decide +kernel
theorem dX8_rule_77 : decode cX8_rule 77 = .ok (.ireturn, 1) := by decide +kernel
theorem dX8_hops_0 : decode cX8_hops 0 = .ok (.aload_n 0, 1) := by decide +kernel
theorem dX8_hops_1 : decode cX8_hops 1 = .ok (.getfield 451, 3) := by decide +kernel
theorem dX8_hops_4 : decode cX8_hops 4 = .ok (.ireturn, 1) := by decide +kernel
theorem dX8_outcomes_0 : decode cX8_outcomes 0 = .ok (.iconst 0, 1) := by decide +kernel
theorem dX8_outcomes_1 : decode cX8_outcomes 1 = .ok (.istore 4, 2) := by decide +kernel
theorem dX8_outcomes_3 : decode cX8_outcomes 3 = .ok (.iconst 0, 1) := by decide +kernel
theorem dX8_outcomes_4 : decode cX8_outcomes 4 = .ok (.istore 5, 2) := by decide +kernel
theorem dX8_outcomes_6 : decode cX8_outcomes 6 = .ok (.iload 5, 2) := by decide +kernel
theorem dX8_outcomes_8 : decode cX8_outcomes 8 = .ok (.aload_n 0, 1) := by decide +kernel
theorem dX8_outcomes_9 : decode cX8_outcomes 9 = .ok (.getfield 49, 3) := by decide +kernel
theorem dX8_outcomes_12 : decode cX8_outcomes 12 = .ok (.aload_n 0, 1) := by decide +kernel
theorem dX8_outcomes_13 : decode cX8_outcomes 13 = .ok (.getfield 208, 3) := by decide +kernel
theorem dX8_outcomes_16 : decode cX8_outcomes 16 = .ok (.iaload, 1) := by decide +kernel
theorem dX8_outcomes_17 : decode cX8_outcomes 17 = .ok (.if_icmp .ge 117, 3) := by decide +kernel
theorem dX8_outcomes_20 : decode cX8_outcomes 20 = .ok (.aload_n 0, 1) := by decide +kernel
theorem dX8_outcomes_21 : decode cX8_outcomes 21 = .ok (.getfield 122, 3) := by decide +kernel
theorem dX8_outcomes_24 : decode cX8_outcomes 24 = .ok (.aload_n 0, 1) := by decide +kernel
theorem dX8_outcomes_25 : decode cX8_outcomes 25 = .ok (.iload 5, 2) := by decide +kernel
theorem dX8_outcomes_27 : decode cX8_outcomes 27 = .ok (.invokevirtual 218, 3) := by decide +kernel
theorem dX8_outcomes_30 : decode cX8_outcomes 30 = .ok (.iaload, 1) := by decide +kernel
theorem dX8_outcomes_31 : decode cX8_outcomes 31 = .ok (.istore 6, 2) := by decide +kernel
theorem dX8_outcomes_33 : decode cX8_outcomes 33 = .ok (.aload_n 0, 1) := by decide +kernel
theorem dX8_outcomes_34 : decode cX8_outcomes 34 = .ok (.iload_n 1, 1) := by decide +kernel
theorem dX8_outcomes_35 : decode cX8_outcomes 35 = .ok (.iload 6, 2) := by decide +kernel
theorem dX8_outcomes_37 : decode cX8_outcomes 37 = .ok (.invokevirtual 335, 3) := by decide +kernel
theorem dX8_outcomes_40 : decode cX8_outcomes 40 = .ok (.ifCond .eq 88, 3) := by decide +kernel
theorem dX8_outcomes_43 : decode cX8_outcomes 43 = .ok (.iload_n 3, 1) := by decide +kernel
theorem dX8_outcomes_44 : decode cX8_outcomes 44 = .ok (.ifCond .eq 22, 3) := by decide +kernel
theorem dX8_outcomes_47 : decode cX8_outcomes 47 = .ok (.aload_n 0, 1) := by decide +kernel
theorem dX8_outcomes_48 : decode cX8_outcomes 48 = .ok (.getfield 131, 3) := by decide +kernel
theorem dX8_outcomes_51 : decode cX8_outcomes 51 = .ok (.aload_n 0, 1) := by decide +kernel
theorem dX8_outcomes_52 : decode cX8_outcomes 52 = .ok (.iload 5, 2) := by decide +kernel
theorem dX8_outcomes_54 : decode cX8_outcomes 54 = .ok (.invokevirtual 218, 3) := by decide +kernel
theorem dX8_outcomes_57 : decode cX8_outcomes 57 = .ok (.iaload, 1) := by decide +kernel
theorem dX8_outcomes_58 : decode cX8_outcomes 58 = .ok (.iconst 1, 1) := by decide +kernel
theorem dX8_outcomes_59 : decode cX8_outcomes 59 = .ok (.if_icmp .ne 7, 3) := by decide +kernel
theorem dX8_outcomes_62 : decode cX8_outcomes 62 = .ok (.iconst 3, 1) := by decide +kernel
theorem dX8_outcomes_63 : decode cX8_outcomes 63 = .ok (.goto 23, 3) := by decide +kernel
theorem dX8_outcomes_66 : decode cX8_outcomes 66 = .ok (.aload_n 0, 1) := by decide +kernel
theorem dX8_outcomes_67 : decode cX8_outcomes 67 = .ok (.getfield 70, 3) := by decide +kernel
theorem dX8_outcomes_70 : decode cX8_outcomes 70 = .ok (.aload_n 0, 1) := by decide +kernel
theorem dX8_outcomes_71 : decode cX8_outcomes 71 = .ok (.iload 6, 2) := by decide +kernel
theorem dX8_outcomes_73 : decode cX8_outcomes 73 = .ok (.invokevirtual 214, 3) := by decide +kernel
theorem dX8_outcomes_76 : decode cX8_outcomes 76 = .ok (.iaload, 1) := by decide +kernel
theorem dX8_outcomes_77 : decode cX8_outcomes 77 = .ok (.iconst 2, 1) := by decide +kernel
theorem dX8_outcomes_78 : decode cX8_outcomes 78 = .ok (.if_icmp .ne 7, 3) := by decide +kernel
theorem dX8_outcomes_81 : decode cX8_outcomes 81 = .ok (.iconst 1, 1) := by decide +kernel
theorem dX8_outcomes_82 : decode cX8_outcomes 82 = .ok (.goto 4, 3) := by decide +kernel
theorem dX8_outcomes_85 : decode cX8_outcomes 85 = .ok (.iconst 0, 1) := by decide +kernel
theorem dX8_outcomes_86 : decode cX8_outcomes 86 = .ok (.istore 7, 2) := by decide +kernel
theorem dX8_outcomes_88 : decode cX8_outcomes 88 = .ok (.aload_n 0, 1) := by decide +kernel
theorem dX8_outcomes_89 : decode cX8_outcomes 89 = .ok (.iload 7, 2) := by decide +kernel
theorem dX8_outcomes_91 : decode cX8_outcomes 91 = .ok (.iload 6, 2) := by decide +kernel
theorem dX8_outcomes_93 : decode cX8_outcomes 93 = .ok (.iload 6, 2) := by decide +kernel
theorem dX8_outcomes_95 : decode cX8_outcomes 95 = .ok (.iload 5, 2) := by decide +kernel
theorem dX8_outcomes_97 : decode cX8_outcomes 97 = .ok (.iload_n 1, 1) := by decide +kernel
theorem dX8_outcomes_98 : decode cX8_outcomes 98 = .ok (.invokevirtual 447, 3) := by decide +kernel
theorem dX8_outcomes_101 : decode cX8_outcomes 101 = .ok (.istore 8, 2) := by decide +kernel
theorem dX8_outcomes_103 : decode cX8_outcomes 103 = .ok (.iload 4, 2) := by decide +kernel
theorem dX8_outcomes_105 : decode cX8_outcomes 105 = .ok (.iload 8, 2) := by decide +kernel
theorem dX8_outcomes_107 : decode cX8_outcomes 107 = .ok (.iload_n 2, 1) := by decide +kernel
theorem dX8_outcomes_108 : decode cX8_outcomes 108 = .ok (.if_icmp .eq 12, 3) := by decide +kernel
theorem dX8_outcomes_111 : decode cX8_outcomes 111 = .ok (.iload_n 2, 1) := by decide +kernel
theorem dX8_outcomes_112 : decode cX8_outcomes 112 = .ok (.ifCond .ne 12, 3) := by decide +kernel
theorem dX8_outcomes_115 : decode cX8_outcomes 115 = .ok (.iload 8, 2) := by decide +kernel
theorem dX8_outcomes_117 : decode cX8_outcomes 117 = .ok (.ifCond .lt 7, 3) := by decide +kernel
theorem dX8_outcomes_120 : decode cX8_outcomes 120 = .ok (.iconst 1, 1) := by decide +kernel
theorem dX8_outcomes_121 : decode cX8_outcomes 121 = .ok (.goto 4, 3) := by decide +kernel
theorem dX8_outcomes_124 : decode cX8_outcomes 124 = .ok (.iconst 0, 1) := by decide +kernel
theorem dX8_outcomes_125 : decode cX8_outcomes 125 = .ok (.iadd, 1) := by decide +kernel
theorem dX8_outcomes_126 : decode cX8_outcomes 126 = .ok (.istore 4, 2) := by decide +kernel
theorem dX8_outcomes_128 : decode cX8_outcomes 128 = .ok (.iinc 5 1, 3) := by decide +kernel
theorem dX8_outcomes_131 : decode cX8_outcomes 131 = .ok (.goto (-125), 3) := by decide +kernel
theorem dX8_outcomes_134 : decode cX8_outcomes 134 = .ok (.iload 4, 2) := by decide +kernel
theorem dX8_outcomes_136 : decode cX8_outcomes 136 = .ok (.ireturn, 1) := by decide +kernel
theorem dX8_conflicts_0 : decode cX8_conflicts 0 = .ok (.aload_n 0, 1) := by decide +kernel
theorem dX8_conflicts_1 : decode cX8_conflicts 1 = .ok (.iload_n 1, 1) := by decide +kernel
theorem dX8_conflicts_2 : decode cX8_conflicts 2 = .ok (.invokevirtual 371, 3) := by decide +kernel
theorem dX8_conflicts_5 : decode cX8_conflicts 5 = .ok (.ifCond .ne 6, 3) := by decide +kernel
theorem dX8_conflicts_8 : decode cX8_conflicts 8 = .ok (.bipush (-11), 2) := by decide +kernel
theorem dX8_conflicts_10 : decode cX8_conflicts 10 = .ok (.ireturn, 1) := by decide +kernel
theorem dX8_conflicts_11 : decode cX8_conflicts 11 = .ok (.aload_n 0, 1) := by decide +kernel
theorem dX8_conflicts_12 : decode cX8_conflicts 12 = .ok (.getfield 70, 3) := by decide +kernel
theorem dX8_conflicts_15 : decode cX8_conflicts 15 = .ok (.aload_n 0, 1) := by decide +kernel
theorem dX8_conflicts_16 : decode cX8_conflicts 16 = .ok (.iload_n 1, 1) := by decide +kernel
theorem dX8_conflicts_17 : decode cX8_conflicts 17 = .ok (.invokevirtual 214, 3) := by decide +kernel
theorem dX8_conflicts_20 : decode cX8_conflicts 20 = .ok (.iaload, 1) := by decide +kernel
theorem dX8_conflicts_21 : decode cX8_conflicts 21 = .ok (.ifCond .eq 8, 3) := by decide +kernel
theorem dX8_conflicts_24 : decode cX8_conflicts 24 = .ok (.bipush (-13), 2) := by decide +kernel
theorem dX8_conflicts_26 : decode cX8_conflicts 26 = .ok (.goto 11, 3) := by decide +kernel
theorem dX8_conflicts_29 : decode cX8_conflicts 29 = .ok (.aload_n 0, 1) := by decide +kernel
theorem dX8_conflicts_30 : decode cX8_conflicts 30 = .ok (.iload_n 1, 1) := by decide +kernel
theorem dX8_conflicts_31 : decode cX8_conflicts 31 = .ok (.bipush (-3), 2) := by decide +kernel
theorem dX8_conflicts_33 : decode cX8_conflicts 33 = .ok (.iconst 0, 1) := by decide +kernel
theorem dX8_conflicts_34 : decode cX8_conflicts 34 = .ok (.invokevirtual 454, 3) := by decide +kernel
theorem dX8_conflicts_37 : decode cX8_conflicts 37 = .ok (.ireturn, 1) := by decide +kernel
theorem dX8_tally_0 : decode cX8_tally 0 = .ok (.aload_n 0, 1) := by decide +kernel
theorem dX8_tally_1 : decode cX8_tally 1 = .ok (.iload_n 1, 1) := by decide +kernel
theorem dX8_tally_2 : decode cX8_tally 2 = .ok (.invokevirtual 371, 3) := by decide +kernel
theorem dX8_tally_5 : decode cX8_tally 5 = .ok (.ifCond .ne 6, 3) := by decide +kernel
theorem dX8_tally_8 : decode cX8_tally 8 = .ok (.bipush (-11), 2) := by decide +kernel
theorem dX8_tally_10 : decode cX8_tally 10 = .ok (.ireturn, 1) := by decide +kernel
theorem dX8_tally_11 : decode cX8_tally 11 = .ok (.iload_n 2, 1) := by decide +kernel
theorem dX8_tally_12 : decode cX8_tally 12 = .ok (.bipush (-7), 2) := by decide +kernel
theorem dX8_tally_14 : decode cX8_tally 14 = .ok (.iconst 0, 1) := by decide +kernel
theorem dX8_tally_15 : decode cX8_tally 15 = .ok (.invokestatic 165, 3) := by decide +kernel
theorem dX8_tally_18 : decode cX8_tally 18 = .ok (.ifCond .ne 6, 3) := by decide +kernel
theorem dX8_tally_21 : decode cX8_tally 21 = .ok (.bipush (-12), 2) := by decide +kernel
theorem dX8_tally_23 : decode cX8_tally 23 = .ok (.ireturn, 1) := by decide +kernel
theorem dX8_tally_24 : decode cX8_tally 24 = .ok (.aload_n 0, 1) := by decide +kernel
theorem dX8_tally_25 : decode cX8_tally 25 = .ok (.getfield 70, 3) := by decide +kernel
theorem dX8_tally_28 : decode cX8_tally 28 = .ok (.aload_n 0, 1) := by decide +kernel
theorem dX8_tally_29 : decode cX8_tally 29 = .ok (.iload_n 1, 1) := by decide +kernel
theorem dX8_tally_30 : decode cX8_tally 30 = .ok (.invokevirtual 214, 3) := by decide +kernel
theorem dX8_tally_33 : decode cX8_tally 33 = .ok (.iaload, 1) := by decide +kernel
theorem dX8_tally_34 : decode cX8_tally 34 = .ok (.ifCond .eq 8, 3) := by decide +kernel
theorem dX8_tally_37 : decode cX8_tally 37 = .ok (.bipush (-13), 2) := by decide +kernel
theorem dX8_tally_39 : decode cX8_tally 39 = .ok (.goto 10, 3) := by decide +kernel
theorem dX8_tally_42 : decode cX8_tally 42 = .ok (.aload_n 0, 1) := by decide +kernel
theorem dX8_tally_43 : decode cX8_tally 43 = .ok (.iload_n 1, 1) := by decide +kernel
theorem dX8_tally_44 : decode cX8_tally 44 = .ok (.iload_n 2, 1) := by decide +kernel
theorem dX8_tally_45 : decode cX8_tally 45 = .ok (.iconst 1, 1) := by decide +kernel
theorem dX8_tally_46 : decode cX8_tally 46 = .ok (.invokevirtual 454, 3) := by decide +kernel
theorem dX8_tally_49 : decode cX8_tally 49 = .ok (.ireturn, 1) := by decide +kernel
theorem dX8_told_0 : decode cX8_told 0 = .ok (.aload_n 0, 1) := by decide +kernel
theorem dX8_told_1 : decode cX8_told 1 = .ok (.aload_n 0, 1) := by decide +kernel
theorem dX8_told_2 : decode cX8_told 2 = .ok (.getfield 211, 3) := by decide +kernel
theorem dX8_told_5 : decode cX8_told 5 = .ok (.putfield 208, 3) := by decide +kernel
theorem dX8_told_8 : decode cX8_told 8 = .ok (.iload_n 1, 1) := by decide +kernel
theorem dX8_told_9 : decode cX8_told 9 = .ok (.tableswitch 80 0 4 #[35, 45, 55, 65, 75], 35) := by decide +kernel
theorem dX8_told_44 : decode cX8_told 44 = .ok (.aload_n 0, 1) := by decide +kernel
theorem dX8_told_45 : decode cX8_told 45 = .ok (.getfield 45, 3) := by decide +kernel
theorem dX8_told_48 : decode cX8_told 48 = .ok (.aload_n 0, 1) := by decide +kernel
theorem dX8_told_49 : decode cX8_told 49 = .ok (.getfield 208, 3) := by decide +kernel
theorem dX8_told_52 : decode cX8_told 52 = .ok (.iaload, 1) := by decide +kernel
theorem dX8_told_53 : decode cX8_told 53 = .ok (.ireturn, 1) := by decide +kernel
theorem dX8_told_54 : decode cX8_told 54 = .ok (.aload_n 0, 1) := by decide +kernel
theorem dX8_told_55 : decode cX8_told 55 = .ok (.getfield 49, 3) := by decide +kernel
theorem dX8_told_58 : decode cX8_told 58 = .ok (.aload_n 0, 1) := by decide +kernel
theorem dX8_told_59 : decode cX8_told 59 = .ok (.getfield 208, 3) := by decide +kernel
theorem dX8_told_62 : decode cX8_told 62 = .ok (.iaload, 1) := by decide +kernel
theorem dX8_told_63 : decode cX8_told 63 = .ok (.ireturn, 1) := by decide +kernel
theorem dX8_told_64 : decode cX8_told 64 = .ok (.aload_n 0, 1) := by decide +kernel
theorem dX8_told_65 : decode cX8_told 65 = .ok (.getfield 52, 3) := by decide +kernel
theorem dX8_told_68 : decode cX8_told 68 = .ok (.aload_n 0, 1) := by decide +kernel
theorem dX8_told_69 : decode cX8_told 69 = .ok (.getfield 208, 3) := by decide +kernel
theorem dX8_told_72 : decode cX8_told 72 = .ok (.iaload, 1) := by decide +kernel
theorem dX8_told_73 : decode cX8_told 73 = .ok (.ireturn, 1) := by decide +kernel
theorem dX8_told_74 : decode cX8_told 74 = .ok (.aload_n 0, 1) := by decide +kernel
theorem dX8_told_75 : decode cX8_told 75 = .ok (.getfield 55, 3) := by decide +kernel
theorem dX8_told_78 : decode cX8_told 78 = .ok (.aload_n 0, 1) := by decide +kernel
theorem dX8_told_79 : decode cX8_told 79 = .ok (.getfield 208, 3) := by decide +kernel
theorem dX8_told_82 : decode cX8_told 82 = .ok (.iaload, 1) := by decide +kernel
theorem dX8_told_83 : decode cX8_told 83 = .ok (.ireturn, 1) := by decide +kernel
theorem dX8_told_84 : decode cX8_told 84 = .ok (.aload_n 0, 1) := by decide +kernel
theorem dX8_told_85 : decode cX8_told 85 = .ok (.getfield 161, 3) := by decide +kernel
theorem dX8_told_88 : decode cX8_told 88 = .ok (.ireturn, 1) := by decide +kernel
theorem dX8_told_89 : decode cX8_told 89 = .ok (.bipush (-12), 2) := by decide +kernel
theorem dX8_told_91 : decode cX8_told 91 = .ok (.ireturn, 1) := by decide +kernel
