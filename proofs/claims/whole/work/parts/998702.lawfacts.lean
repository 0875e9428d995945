/-! the law: its own rows of the tables, its instructions, printed by program -/
def R_law : String := "CallCourtLaw"
theorem dL_0 : decode code 0 = .ok (.new 7, 3) := by decide +kernel
theorem dL_3 : decode code 3 = .ok (.dup, 1) := by decide +kernel
theorem dL_4 : decode code 4 = .ok (.invokespecial 9, 3) := by decide +kernel
theorem dL_7 : decode code 7 = .ok (.astore_n 1, 1) := by decide +kernel
theorem dL_8 : decode code 8 = .ok (.new 10, 3) := by decide +kernel
theorem dL_11 : decode code 11 = .ok (.dup, 1) := by decide +kernel
theorem dL_12 : decode code 12 = .ok (.invokespecial 12, 3) := by decide +kernel
theorem dL_15 : decode code 15 = .ok (.astore_n 2, 1) := by decide +kernel
theorem dL_16 : decode code 16 = .ok (.iconst 0, 1) := by decide +kernel
theorem dL_17 : decode code 17 = .ok (.istore_n 3, 1) := by decide +kernel
theorem dL_18 : decode code 18 = .ok (.iload_n 3, 1) := by decide +kernel
theorem dL_19 : decode code 19 = .ok (.aload_n 0, 1) := by decide +kernel
theorem dL_20 : decode code 20 = .ok (.arraylength, 1) := by decide +kernel
theorem dL_21 : decode code 21 = .ok (.bipush 6, 2) := by decide +kernel
theorem dL_23 : decode code 23 = .ok (.isub, 1) := by decide +kernel
theorem dL_24 : decode code 24 = .ok (.if_icmp .gt 853, 3) := by decide +kernel
theorem dL_27 : decode code 27 = .ok (.aload_n 0, 1) := by decide +kernel
theorem dL_28 : decode code 28 = .ok (.iload_n 3, 1) := by decide +kernel
theorem dL_29 : decode code 29 = .ok (.iaload, 1) := by decide +kernel
theorem dL_30 : decode code 30 = .ok (.bipush 31, 2) := by decide +kernel
theorem dL_32 : decode code 32 = .ok (.iand, 1) := by decide +kernel
theorem dL_33 : decode code 33 = .ok (.tableswitch 838 0 20 #[99, 162, 185, 198, 211, 244, 277, 310, 343, 386, 419, 452, 495, 554, 587, 630, 683, 746, 759, 782, 815], 99) := by decide +kernel
theorem dL_132 : decode code 132 = .ok (.aload_n 1, 1) := by decide +kernel
theorem dL_133 : decode code 133 = .ok (.aload_n 0, 1) := by decide +kernel
theorem dL_134 : decode code 134 = .ok (.iload_n 3, 1) := by decide +kernel
theorem dL_135 : decode code 135 = .ok (.iconst 1, 1) := by decide +kernel
theorem dL_136 : decode code 136 = .ok (.iadd, 1) := by decide +kernel
theorem dL_137 : decode code 137 = .ok (.iaload, 1) := by decide +kernel
theorem dL_138 : decode code 138 = .ok (.aload_n 0, 1) := by decide +kernel
theorem dL_139 : decode code 139 = .ok (.iload_n 3, 1) := by decide +kernel
theorem dL_140 : decode code 140 = .ok (.iconst 2, 1) := by decide +kernel
theorem dL_141 : decode code 141 = .ok (.iadd, 1) := by decide +kernel
theorem dL_142 : decode code 142 = .ok (.iaload, 1) := by decide +kernel
theorem dL_143 : decode code 143 = .ok (.aload_n 0, 1) := by decide +kernel
theorem dL_144 : decode code 144 = .ok (.iload_n 3, 1) := by decide +kernel
theorem dL_145 : decode code 145 = .ok (.iconst 3, 1) := by decide +kernel
theorem dL_146 : decode code 146 = .ok (.iadd, 1) := by decide +kernel
theorem dL_147 : decode code 147 = .ok (.iaload, 1) := by decide +kernel
theorem dL_148 : decode code 148 = .ok (.aload_n 0, 1) := by decide +kernel
theorem dL_149 : decode code 149 = .ok (.iload_n 3, 1) := by decide +kernel
theorem dL_150 : decode code 150 = .ok (.iconst 4, 1) := by decide +kernel
theorem dL_151 : decode code 151 = .ok (.iadd, 1) := by decide +kernel
theorem dL_152 : decode code 152 = .ok (.iaload, 1) := by decide +kernel
theorem dL_153 : decode code 153 = .ok (.aload_n 0, 1) := by decide +kernel
theorem dL_154 : decode code 154 = .ok (.iload_n 3, 1) := by decide +kernel
theorem dL_155 : decode code 155 = .ok (.iconst 5, 1) := by decide +kernel
theorem dL_156 : decode code 156 = .ok (.iadd, 1) := by decide +kernel
theorem dL_157 : decode code 157 = .ok (.iaload, 1) := by decide +kernel
theorem dL_158 : decode code 158 = .ok (.invokevirtual 13, 3) := by decide +kernel
theorem dL_161 : decode code 161 = .ok (.aload_n 2, 1) := by decide +kernel
theorem dL_162 : decode code 162 = .ok (.aload_n 0, 1) := by decide +kernel
theorem dL_163 : decode code 163 = .ok (.iload_n 3, 1) := by decide +kernel
theorem dL_164 : decode code 164 = .ok (.iconst 1, 1) := by decide +kernel
theorem dL_165 : decode code 165 = .ok (.iadd, 1) := by decide +kernel
theorem dL_166 : decode code 166 = .ok (.iaload, 1) := by decide +kernel
theorem dL_167 : decode code 167 = .ok (.aload_n 0, 1) := by decide +kernel
theorem dL_168 : decode code 168 = .ok (.iload_n 3, 1) := by decide +kernel
theorem dL_169 : decode code 169 = .ok (.iconst 2, 1) := by decide +kernel
theorem dL_170 : decode code 170 = .ok (.iadd, 1) := by decide +kernel
theorem dL_171 : decode code 171 = .ok (.iaload, 1) := by decide +kernel
theorem dL_172 : decode code 172 = .ok (.aload_n 0, 1) := by decide +kernel
theorem dL_173 : decode code 173 = .ok (.iload_n 3, 1) := by decide +kernel
theorem dL_174 : decode code 174 = .ok (.iconst 3, 1) := by decide +kernel
theorem dL_175 : decode code 175 = .ok (.iadd, 1) := by decide +kernel
theorem dL_176 : decode code 176 = .ok (.iaload, 1) := by decide +kernel
theorem dL_177 : decode code 177 = .ok (.aload_n 0, 1) := by decide +kernel
theorem dL_178 : decode code 178 = .ok (.iload_n 3, 1) := by decide +kernel
theorem dL_179 : decode code 179 = .ok (.iconst 4, 1) := by decide +kernel
theorem dL_180 : decode code 180 = .ok (.iadd, 1) := by decide +kernel
theorem dL_181 : decode code 181 = .ok (.iaload, 1) := by decide +kernel
theorem dL_182 : decode code 182 = .ok (.aload_n 0, 1) := by decide +kernel
theorem dL_183 : decode code 183 = .ok (.iload_n 3, 1) := by decide +kernel
theorem dL_184 : decode code 184 = .ok (.iconst 5, 1) := by decide +kernel
theorem dL_185 : decode code 185 = .ok (.iadd, 1) := by decide +kernel
theorem dL_186 : decode code 186 = .ok (.iaload, 1) := by decide +kernel
theorem dL_187 : decode code 187 = .ok (.invokevirtual 17, 3) := by decide +kernel
theorem dL_190 : decode code 190 = .ok (.if_icmp .eq 681, 3) := by decide +kernel
theorem dL_193 : decode code 193 = .ok (.iconst 0, 1) := by decide +kernel
theorem dL_194 : decode code 194 = .ok (.ireturn, 1) := by decide +kernel
theorem dL_195 : decode code 195 = .ok (.aload_n 1, 1) := by decide +kernel
theorem dL_196 : decode code 196 = .ok (.aload_n 0, 1) := by decide +kernel
theorem dL_197 : decode code 197 = .ok (.iload_n 3, 1) := by decide +kernel
theorem dL_198 : decode code 198 = .ok (.iconst 1, 1) := by decide +kernel
theorem dL_199 : decode code 199 = .ok (.iadd, 1) := by decide +kernel
theorem dL_200 : decode code 200 = .ok (.iaload, 1) := by decide +kernel
theorem dL_201 : decode code 201 = .ok (.invokevirtual 18, 3) := by decide +kernel
theorem dL_204 : decode code 204 = .ok (.aload_n 2, 1) := by decide +kernel
theorem dL_205 : decode code 205 = .ok (.aload_n 0, 1) := by decide +kernel
theorem dL_206 : decode code 206 = .ok (.iload_n 3, 1) := by decide +kernel
theorem dL_207 : decode code 207 = .ok (.iconst 1, 1) := by decide +kernel
theorem dL_208 : decode code 208 = .ok (.iadd, 1) := by decide +kernel
theorem dL_209 : decode code 209 = .ok (.iaload, 1) := by decide +kernel
theorem dL_210 : decode code 210 = .ok (.invokevirtual 22, 3) := by decide +kernel
theorem dL_213 : decode code 213 = .ok (.if_icmp .eq 658, 3) := by decide +kernel
theorem dL_216 : decode code 216 = .ok (.iconst 0, 1) := by decide +kernel
theorem dL_217 : decode code 217 = .ok (.ireturn, 1) := by decide +kernel
theorem dL_218 : decode code 218 = .ok (.aload_n 1, 1) := by decide +kernel
theorem dL_219 : decode code 219 = .ok (.invokevirtual 23, 3) := by decide +kernel
theorem dL_222 : decode code 222 = .ok (.aload_n 2, 1) := by decide +kernel
theorem dL_223 : decode code 223 = .ok (.invokevirtual 27, 3) := by decide +kernel
theorem dL_226 : decode code 226 = .ok (.if_icmp .eq 645, 3) := by decide +kernel
theorem dL_229 : decode code 229 = .ok (.iconst 0, 1) := by decide +kernel
theorem dL_230 : decode code 230 = .ok (.ireturn, 1) := by decide +kernel
theorem dL_231 : decode code 231 = .ok (.aload_n 1, 1) := by decide +kernel
theorem dL_232 : decode code 232 = .ok (.invokevirtual 28, 3) := by decide +kernel
theorem dL_235 : decode code 235 = .ok (.aload_n 2, 1) := by decide +kernel
theorem dL_236 : decode code 236 = .ok (.invokevirtual 31, 3) := by decide +kernel
theorem dL_239 : decode code 239 = .ok (.if_icmp .eq 632, 3) := by decide +kernel
theorem dL_242 : decode code 242 = .ok (.iconst 0, 1) := by decide +kernel
theorem dL_243 : decode code 243 = .ok (.ireturn, 1) := by decide +kernel
theorem dL_244 : decode code 244 = .ok (.aload_n 1, 1) := by decide +kernel
theorem dL_245 : decode code 245 = .ok (.aload_n 0, 1) := by decide +kernel
theorem dL_246 : decode code 246 = .ok (.iload_n 3, 1) := by decide +kernel
theorem dL_247 : decode code 247 = .ok (.iconst 1, 1) := by decide +kernel
theorem dL_248 : decode code 248 = .ok (.iadd, 1) := by decide +kernel
theorem dL_249 : decode code 249 = .ok (.iaload, 1) := by decide +kernel
theorem dL_250 : decode code 250 = .ok (.aload_n 0, 1) := by decide +kernel
theorem dL_251 : decode code 251 = .ok (.iload_n 3, 1) := by decide +kernel
theorem dL_252 : decode code 252 = .ok (.iconst 2, 1) := by decide +kernel
theorem dL_253 : decode code 253 = .ok (.iadd, 1) := by decide +kernel
theorem dL_254 : decode code 254 = .ok (.iaload, 1) := by decide +kernel
theorem dL_255 : decode code 255 = .ok (.invokevirtual 32, 3) := by decide +kernel
theorem dL_258 : decode code 258 = .ok (.aload_n 2, 1) := by decide +kernel
theorem dL_259 : decode code 259 = .ok (.aload_n 0, 1) := by decide +kernel
theorem dL_260 : decode code 260 = .ok (.iload_n 3, 1) := by decide +kernel
theorem dL_261 : decode code 261 = .ok (.iconst 1, 1) := by decide +kernel
theorem dL_262 : decode code 262 = .ok (.iadd, 1) := by decide +kernel
theorem dL_263 : decode code 263 = .ok (.iaload, 1) := by decide +kernel
theorem dL_264 : decode code 264 = .ok (.aload_n 0, 1) := by decide +kernel
theorem dL_265 : decode code 265 = .ok (.iload_n 3, 1) := by decide +kernel
theorem dL_266 : decode code 266 = .ok (.iconst 2, 1) := by decide +kernel
theorem dL_267 : decode code 267 = .ok (.iadd, 1) := by decide +kernel
theorem dL_268 : decode code 268 = .ok (.iaload, 1) := by decide +kernel
theorem dL_269 : decode code 269 = .ok (.invokevirtual 36, 3) := by decide +kernel
theorem dL_272 : decode code 272 = .ok (.if_icmp .eq 599, 3) := by decide +kernel
theorem dL_275 : decode code 275 = .ok (.iconst 0, 1) := by decide +kernel
theorem dL_276 : decode code 276 = .ok (.ireturn, 1) := by decide +kernel
theorem dL_277 : decode code 277 = .ok (.aload_n 1, 1) := by decide +kernel
theorem dL_278 : decode code 278 = .ok (.aload_n 0, 1) := by decide +kernel
theorem dL_279 : decode code 279 = .ok (.iload_n 3, 1) := by decide +kernel
theorem dL_280 : decode code 280 = .ok (.iconst 1, 1) := by decide +kernel
theorem dL_281 : decode code 281 = .ok (.iadd, 1) := by decide +kernel
theorem dL_282 : decode code 282 = .ok (.iaload, 1) := by decide +kernel
theorem dL_283 : decode code 283 = .ok (.aload_n 0, 1) := by decide +kernel
theorem dL_284 : decode code 284 = .ok (.iload_n 3, 1) := by decide +kernel
theorem dL_285 : decode code 285 = .ok (.iconst 2, 1) := by decide +kernel
theorem dL_286 : decode code 286 = .ok (.iadd, 1) := by decide +kernel
theorem dL_287 : decode code 287 = .ok (.iaload, 1) := by decide +kernel
theorem dL_288 : decode code 288 = .ok (.invokevirtual 37, 3) := by decide +kernel
theorem dL_291 : decode code 291 = .ok (.aload_n 2, 1) := by decide +kernel
theorem dL_292 : decode code 292 = .ok (.aload_n 0, 1) := by decide +kernel
theorem dL_293 : decode code 293 = .ok (.iload_n 3, 1) := by decide +kernel
theorem dL_294 : decode code 294 = .ok (.iconst 1, 1) := by decide +kernel
theorem dL_295 : decode code 295 = .ok (.iadd, 1) := by decide +kernel
theorem dL_296 : decode code 296 = .ok (.iaload, 1) := by decide +kernel
theorem dL_297 : decode code 297 = .ok (.aload_n 0, 1) := by decide +kernel
theorem dL_298 : decode code 298 = .ok (.iload_n 3, 1) := by decide +kernel
theorem dL_299 : decode code 299 = .ok (.iconst 2, 1) := by decide +kernel
theorem dL_300 : decode code 300 = .ok (.iadd, 1) := by decide +kernel
theorem dL_301 : decode code 301 = .ok (.iaload, 1) := by decide +kernel
theorem dL_302 : decode code 302 = .ok (.invokevirtual 40, 3) := by decide +kernel
theorem dL_305 : decode code 305 = .ok (.if_icmp .eq 566, 3) := by decide +kernel
theorem dL_308 : decode code 308 = .ok (.iconst 0, 1) := by decide +kernel
theorem dL_309 : decode code 309 = .ok (.ireturn, 1) := by decide +kernel
theorem dL_310 : decode code 310 = .ok (.aload_n 1, 1) := by decide +kernel
theorem dL_311 : decode code 311 = .ok (.aload_n 0, 1) := by decide +kernel
theorem dL_312 : decode code 312 = .ok (.iload_n 3, 1) := by decide +kernel
theorem dL_313 : decode code 313 = .ok (.iconst 1, 1) := by decide +kernel
theorem dL_314 : decode code 314 = .ok (.iadd, 1) := by decide +kernel
theorem dL_315 : decode code 315 = .ok (.iaload, 1) := by decide +kernel
theorem dL_316 : decode code 316 = .ok (.aload_n 0, 1) := by decide +kernel
theorem dL_317 : decode code 317 = .ok (.iload_n 3, 1) := by decide +kernel
theorem dL_318 : decode code 318 = .ok (.iconst 2, 1) := by decide +kernel
theorem dL_319 : decode code 319 = .ok (.iadd, 1) := by decide +kernel
theorem dL_320 : decode code 320 = .ok (.iaload, 1) := by decide +kernel
theorem dL_321 : decode code 321 = .ok (.invokevirtual 41, 3) := by decide +kernel
theorem dL_324 : decode code 324 = .ok (.aload_n 2, 1) := by decide +kernel
theorem dL_325 : decode code 325 = .ok (.aload_n 0, 1) := by decide +kernel
theorem dL_326 : decode code 326 = .ok (.iload_n 3, 1) := by decide +kernel
theorem dL_327 : decode code 327 = .ok (.iconst 1, 1) := by decide +kernel
theorem dL_328 : decode code 328 = .ok (.iadd, 1) := by decide +kernel
theorem dL_329 : decode code 329 = .ok (.iaload, 1) := by decide +kernel
theorem dL_330 : decode code 330 = .ok (.aload_n 0, 1) := by decide +kernel
theorem dL_331 : decode code 331 = .ok (.iload_n 3, 1) := by decide +kernel
theorem dL_332 : decode code 332 = .ok (.iconst 2, 1) := by decide +kernel
theorem dL_333 : decode code 333 = .ok (.iadd, 1) := by decide +kernel
theorem dL_334 : decode code 334 = .ok (.iaload, 1) := by decide +kernel
theorem dL_335 : decode code 335 = .ok (.invokevirtual 44, 3) := by decide +kernel
theorem dL_338 : decode code 338 = .ok (.if_icmp .eq 533, 3) := by decide +kernel
theorem dL_341 : decode code 341 = .ok (.iconst 0, 1) := by decide +kernel
theorem dL_342 : decode code 342 = .ok (.ireturn, 1) := by decide +kernel
theorem dL_343 : decode code 343 = .ok (.aload_n 1, 1) := by decide +kernel
theorem dL_344 : decode code 344 = .ok (.aload_n 0, 1) := by decide +kernel
theorem dL_345 : decode code 345 = .ok (.iload_n 3, 1) := by decide +kernel
theorem dL_346 : decode code 346 = .ok (.iconst 1, 1) := by decide +kernel
theorem dL_347 : decode code 347 = .ok (.iadd, 1) := by decide +kernel
theorem dL_348 : decode code 348 = .ok (.iaload, 1) := by decide +kernel
theorem dL_349 : decode code 349 = .ok (.aload_n 0, 1) := by decide +kernel
theorem dL_350 : decode code 350 = .ok (.iload_n 3, 1) := by decide +kernel
theorem dL_351 : decode code 351 = .ok (.iconst 2, 1) := by decide +kernel
theorem dL_352 : decode code 352 = .ok (.iadd, 1) := by decide +kernel
theorem dL_353 : decode code 353 = .ok (.iaload, 1) := by decide +kernel
theorem dL_354 : decode code 354 = .ok (.invokevirtual 45, 3) := by decide +kernel
theorem dL_357 : decode code 357 = .ok (.aload_n 2, 1) := by decide +kernel
theorem dL_358 : decode code 358 = .ok (.aload_n 0, 1) := by decide +kernel
theorem dL_359 : decode code 359 = .ok (.iload_n 3, 1) := by decide +kernel
theorem dL_360 : decode code 360 = .ok (.iconst 1, 1) := by decide +kernel
theorem dL_361 : decode code 361 = .ok (.iadd, 1) := by decide +kernel
theorem dL_362 : decode code 362 = .ok (.iaload, 1) := by decide +kernel
theorem dL_363 : decode code 363 = .ok (.aload_n 0, 1) := by decide +kernel
theorem dL_364 : decode code 364 = .ok (.iload_n 3, 1) := by decide +kernel
theorem dL_365 : decode code 365 = .ok (.iconst 2, 1) := by decide +kernel
theorem dL_366 : decode code 366 = .ok (.iadd, 1) := by decide +kernel
theorem dL_367 : decode code 367 = .ok (.iaload, 1) := by decide +kernel
theorem dL_368 : decode code 368 = .ok (.invokevirtual 48, 3) := by decide +kernel
theorem dL_371 : decode code 371 = .ok (.if_icmp .eq 500, 3) := by decide +kernel
theorem dL_374 : decode code 374 = .ok (.iconst 0, 1) := by decide +kernel
theorem dL_375 : decode code 375 = .ok (.ireturn, 1) := by decide +kernel
theorem dL_376 : decode code 376 = .ok (.aload_n 1, 1) := by decide +kernel
theorem dL_377 : decode code 377 = .ok (.aload_n 0, 1) := by decide +kernel
theorem dL_378 : decode code 378 = .ok (.iload_n 3, 1) := by decide +kernel
theorem dL_379 : decode code 379 = .ok (.iconst 1, 1) := by decide +kernel
theorem dL_380 : decode code 380 = .ok (.iadd, 1) := by decide +kernel
theorem dL_381 : decode code 381 = .ok (.iaload, 1) := by decide +kernel
theorem dL_382 : decode code 382 = .ok (.aload_n 0, 1) := by decide +kernel
theorem dL_383 : decode code 383 = .ok (.iload_n 3, 1) := by decide +kernel
theorem dL_384 : decode code 384 = .ok (.iconst 2, 1) := by decide +kernel
theorem dL_385 : decode code 385 = .ok (.iadd, 1) := by decide +kernel
theorem dL_386 : decode code 386 = .ok (.iaload, 1) := by decide +kernel
theorem dL_387 : decode code 387 = .ok (.aload_n 0, 1) := by decide +kernel
theorem dL_388 : decode code 388 = .ok (.iload_n 3, 1) := by decide +kernel
theorem dL_389 : decode code 389 = .ok (.iconst 3, 1) := by decide +kernel
theorem dL_390 : decode code 390 = .ok (.iadd, 1) := by decide +kernel
theorem dL_391 : decode code 391 = .ok (.iaload, 1) := by decide +kernel
theorem dL_392 : decode code 392 = .ok (.invokevirtual 49, 3) := by decide +kernel
theorem dL_395 : decode code 395 = .ok (.aload_n 2, 1) := by decide +kernel
theorem dL_396 : decode code 396 = .ok (.aload_n 0, 1) := by decide +kernel
theorem dL_397 : decode code 397 = .ok (.iload_n 3, 1) := by decide +kernel
theorem dL_398 : decode code 398 = .ok (.iconst 1, 1) := by decide +kernel
theorem dL_399 : decode code 399 = .ok (.iadd, 1) := by decide +kernel
theorem dL_400 : decode code 400 = .ok (.iaload, 1) := by decide +kernel
theorem dL_401 : decode code 401 = .ok (.aload_n 0, 1) := by decide +kernel
theorem dL_402 : decode code 402 = .ok (.iload_n 3, 1) := by decide +kernel
theorem dL_403 : decode code 403 = .ok (.iconst 2, 1) := by decide +kernel
theorem dL_404 : decode code 404 = .ok (.iadd, 1) := by decide +kernel
theorem dL_405 : decode code 405 = .ok (.iaload, 1) := by decide +kernel
theorem dL_406 : decode code 406 = .ok (.aload_n 0, 1) := by decide +kernel
theorem dL_407 : decode code 407 = .ok (.iload_n 3, 1) := by decide +kernel
theorem dL_408 : decode code 408 = .ok (.iconst 3, 1) := by decide +kernel
theorem dL_409 : decode code 409 = .ok (.iadd, 1) := by decide +kernel
theorem dL_410 : decode code 410 = .ok (.iaload, 1) := by decide +kernel
theorem dL_411 : decode code 411 = .ok (.invokevirtual 53, 3) := by decide +kernel
theorem dL_414 : decode code 414 = .ok (.if_icmp .eq 457, 3) := by decide +kernel
theorem dL_417 : decode code 417 = .ok (.iconst 0, 1) := by decide +kernel
theorem dL_418 : decode code 418 = .ok (.ireturn, 1) := by decide +kernel
theorem dL_419 : decode code 419 = .ok (.aload_n 1, 1) := by decide +kernel
theorem dL_420 : decode code 420 = .ok (.aload_n 0, 1) := by decide +kernel
theorem dL_421 : decode code 421 = .ok (.iload_n 3, 1) := by decide +kernel
theorem dL_422 : decode code 422 = .ok (.iconst 1, 1) := by decide +kernel
theorem dL_423 : decode code 423 = .ok (.iadd, 1) := by decide +kernel
theorem dL_424 : decode code 424 = .ok (.iaload, 1) := by decide +kernel
theorem dL_425 : decode code 425 = .ok (.aload_n 0, 1) := by decide +kernel
theorem dL_426 : decode code 426 = .ok (.iload_n 3, 1) := by decide +kernel
theorem dL_427 : decode code 427 = .ok (.iconst 2, 1) := by decide +kernel
theorem dL_428 : decode code 428 = .ok (.iadd, 1) := by decide +kernel
theorem dL_429 : decode code 429 = .ok (.iaload, 1) := by decide +kernel
theorem dL_430 : decode code 430 = .ok (.invokevirtual 54, 3) := by decide +kernel
theorem dL_433 : decode code 433 = .ok (.aload_n 2, 1) := by decide +kernel
theorem dL_434 : decode code 434 = .ok (.aload_n 0, 1) := by decide +kernel
theorem dL_435 : decode code 435 = .ok (.iload_n 3, 1) := by decide +kernel
theorem dL_436 : decode code 436 = .ok (.iconst 1, 1) := by decide +kernel
theorem dL_437 : decode code 437 = .ok (.iadd, 1) := by decide +kernel
theorem dL_438 : decode code 438 = .ok (.iaload, 1) := by decide +kernel
theorem dL_439 : decode code 439 = .ok (.aload_n 0, 1) := by decide +kernel
theorem dL_440 : decode code 440 = .ok (.iload_n 3, 1) := by decide +kernel
theorem dL_441 : decode code 441 = .ok (.iconst 2, 1) := by decide +kernel
theorem dL_442 : decode code 442 = .ok (.iadd, 1) := by decide +kernel
theorem dL_443 : decode code 443 = .ok (.iaload, 1) := by decide +kernel
theorem dL_444 : decode code 444 = .ok (.invokevirtual 57, 3) := by decide +kernel
theorem dL_447 : decode code 447 = .ok (.if_icmp .eq 424, 3) := by decide +kernel
theorem dL_450 : decode code 450 = .ok (.iconst 0, 1) := by decide +kernel
theorem dL_451 : decode code 451 = .ok (.ireturn, 1) := by decide +kernel
theorem dL_452 : decode code 452 = .ok (.aload_n 1, 1) := by decide +kernel
theorem dL_453 : decode code 453 = .ok (.aload_n 0, 1) := by decide +kernel
theorem dL_454 : decode code 454 = .ok (.iload_n 3, 1) := by decide +kernel
theorem dL_455 : decode code 455 = .ok (.iconst 1, 1) := by decide +kernel
theorem dL_456 : decode code 456 = .ok (.iadd, 1) := by decide +kernel
theorem dL_457 : decode code 457 = .ok (.iaload, 1) := by decide +kernel
theorem dL_458 : decode code 458 = .ok (.aload_n 0, 1) := by decide +kernel
theorem dL_459 : decode code 459 = .ok (.iload_n 3, 1) := by decide +kernel
theorem dL_460 : decode code 460 = .ok (.iconst 2, 1) := by decide +kernel
theorem dL_461 : decode code 461 = .ok (.iadd, 1) := by decide +kernel
theorem dL_462 : decode code 462 = .ok (.iaload, 1) := by decide +kernel
theorem dL_463 : decode code 463 = .ok (.invokevirtual 58, 3) := by decide +kernel
theorem dL_466 : decode code 466 = .ok (.aload_n 2, 1) := by decide +kernel
theorem dL_467 : decode code 467 = .ok (.aload_n 0, 1) := by decide +kernel
theorem dL_468 : decode code 468 = .ok (.iload_n 3, 1) := by decide +kernel
theorem dL_469 : decode code 469 = .ok (.iconst 1, 1) := by decide +kernel
theorem dL_470 : decode code 470 = .ok (.iadd, 1) := by decide +kernel
theorem dL_471 : decode code 471 = .ok (.iaload, 1) := by decide +kernel
theorem dL_472 : decode code 472 = .ok (.aload_n 0, 1) := by decide +kernel
theorem dL_473 : decode code 473 = .ok (.iload_n 3, 1) := by decide +kernel
theorem dL_474 : decode code 474 = .ok (.iconst 2, 1) := by decide +kernel
theorem dL_475 : decode code 475 = .ok (.iadd, 1) := by decide +kernel
theorem dL_476 : decode code 476 = .ok (.iaload, 1) := by decide +kernel
theorem dL_477 : decode code 477 = .ok (.invokevirtual 61, 3) := by decide +kernel
theorem dL_480 : decode code 480 = .ok (.if_icmp .eq 391, 3) := by decide +kernel
theorem dL_483 : decode code 483 = .ok (.iconst 0, 1) := by decide +kernel
theorem dL_484 : decode code 484 = .ok (.ireturn, 1) := by decide +kernel
theorem dL_485 : decode code 485 = .ok (.aload_n 1, 1) := by decide +kernel
theorem dL_486 : decode code 486 = .ok (.aload_n 0, 1) := by decide +kernel
theorem dL_487 : decode code 487 = .ok (.iload_n 3, 1) := by decide +kernel
theorem dL_488 : decode code 488 = .ok (.iconst 1, 1) := by decide +kernel
theorem dL_489 : decode code 489 = .ok (.iadd, 1) := by decide +kernel
theorem dL_490 : decode code 490 = .ok (.iaload, 1) := by decide +kernel
theorem dL_491 : decode code 491 = .ok (.aload_n 0, 1) := by decide +kernel
theorem dL_492 : decode code 492 = .ok (.iload_n 3, 1) := by decide +kernel
theorem dL_493 : decode code 493 = .ok (.iconst 2, 1) := by decide +kernel
theorem dL_494 : decode code 494 = .ok (.iadd, 1) := by decide +kernel
theorem dL_495 : decode code 495 = .ok (.iaload, 1) := by decide +kernel
theorem dL_496 : decode code 496 = .ok (.aload_n 0, 1) := by decide +kernel
theorem dL_497 : decode code 497 = .ok (.iload_n 3, 1) := by decide +kernel
theorem dL_498 : decode code 498 = .ok (.iconst 3, 1) := by decide +kernel
theorem dL_499 : decode code 499 = .ok (.iadd, 1) := by decide +kernel
theorem dL_500 : decode code 500 = .ok (.iaload, 1) := by decide +kernel
theorem dL_501 : decode code 501 = .ok (.invokevirtual 62, 3) := by decide +kernel
theorem dL_504 : decode code 504 = .ok (.aload_n 2, 1) := by decide +kernel
theorem dL_505 : decode code 505 = .ok (.aload_n 0, 1) := by decide +kernel
theorem dL_506 : decode code 506 = .ok (.iload_n 3, 1) := by decide +kernel
theorem dL_507 : decode code 507 = .ok (.iconst 1, 1) := by decide +kernel
theorem dL_508 : decode code 508 = .ok (.iadd, 1) := by decide +kernel
theorem dL_509 : decode code 509 = .ok (.iaload, 1) := by decide +kernel
theorem dL_510 : decode code 510 = .ok (.aload_n 0, 1) := by decide +kernel
theorem dL_511 : decode code 511 = .ok (.iload_n 3, 1) := by decide +kernel
theorem dL_512 : decode code 512 = .ok (.iconst 2, 1) := by decide +kernel
theorem dL_513 : decode code 513 = .ok (.iadd, 1) := by decide +kernel
theorem dL_514 : decode code 514 = .ok (.iaload, 1) := by decide +kernel
theorem dL_515 : decode code 515 = .ok (.aload_n 0, 1) := by decide +kernel
theorem dL_516 : decode code 516 = .ok (.iload_n 3, 1) := by decide +kernel
theorem dL_517 : decode code 517 = .ok (.iconst 3, 1) := by decide +kernel
theorem dL_518 : decode code 518 = .ok (.iadd, 1) := by decide +kernel
theorem dL_519 : decode code 519 = .ok (.iaload, 1) := by decide +kernel
theorem dL_520 : decode code 520 = .ok (.invokevirtual 65, 3) := by decide +kernel
theorem dL_523 : decode code 523 = .ok (.if_icmp .eq 348, 3) := by decide +kernel
theorem dL_526 : decode code 526 = .ok (.iconst 0, 1) := by decide +kernel
theorem dL_527 : decode code 527 = .ok (.ireturn, 1) := by decide +kernel
theorem dL_528 : decode code 528 = .ok (.aload_n 1, 1) := by decide +kernel
theorem dL_529 : decode code 529 = .ok (.aload_n 0, 1) := by decide +kernel
theorem dL_530 : decode code 530 = .ok (.iload_n 3, 1) := by decide +kernel
theorem dL_531 : decode code 531 = .ok (.iconst 1, 1) := by decide +kernel
theorem dL_532 : decode code 532 = .ok (.iadd, 1) := by decide +kernel
theorem dL_533 : decode code 533 = .ok (.iaload, 1) := by decide +kernel
theorem dL_534 : decode code 534 = .ok (.aload_n 0, 1) := by decide +kernel
theorem dL_535 : decode code 535 = .ok (.iload_n 3, 1) := by decide +kernel
theorem dL_536 : decode code 536 = .ok (.iconst 2, 1) := by decide +kernel
theorem dL_537 : decode code 537 = .ok (.iadd, 1) := by decide +kernel
theorem dL_538 : decode code 538 = .ok (.iaload, 1) := by decide +kernel
theorem dL_539 : decode code 539 = .ok (.aload_n 0, 1) := by decide +kernel
theorem dL_540 : decode code 540 = .ok (.iload_n 3, 1) := by decide +kernel
theorem dL_541 : decode code 541 = .ok (.iconst 3, 1) := by decide +kernel
theorem dL_542 : decode code 542 = .ok (.iadd, 1) := by decide +kernel
theorem dL_543 : decode code 543 = .ok (.iaload, 1) := by decide +kernel
theorem dL_544 : decode code 544 = .ok (.ifCond .eq 7, 3) := by decide +kernel
theorem dL_547 : decode code 547 = .ok (.iconst 1, 1) := by decide +kernel
theorem dL_548 : decode code 548 = .ok (.goto 4, 3) := by decide +kernel
theorem dL_551 : decode code 551 = .ok (.iconst 0, 1) := by decide +kernel
theorem dL_552 : decode code 552 = .ok (.invokevirtual 66, 3) := by decide +kernel
theorem dL_555 : decode code 555 = .ok (.aload_n 2, 1) := by decide +kernel
theorem dL_556 : decode code 556 = .ok (.aload_n 0, 1) := by decide +kernel
theorem dL_557 : decode code 557 = .ok (.iload_n 3, 1) := by decide +kernel
theorem dL_558 : decode code 558 = .ok (.iconst 1, 1) := by decide +kernel
theorem dL_559 : decode code 559 = .ok (.iadd, 1) := by decide +kernel
theorem dL_560 : decode code 560 = .ok (.iaload, 1) := by decide +kernel
theorem dL_561 : decode code 561 = .ok (.aload_n 0, 1) := by decide +kernel
theorem dL_562 : decode code 562 = .ok (.iload_n 3, 1) := by decide +kernel
theorem dL_563 : decode code 563 = .ok (.iconst 2, 1) := by decide +kernel
theorem dL_564 : decode code 564 = .ok (.iadd, 1) := by decide +kernel
theorem dL_565 : decode code 565 = .ok (.iaload, 1) := by decide +kernel
theorem dL_566 : decode code 566 = .ok (.aload_n 0, 1) := by decide +kernel
theorem dL_567 : decode code 567 = .ok (.iload_n 3, 1) := by decide +kernel
theorem dL_568 : decode code 568 = .ok (.iconst 3, 1) := by decide +kernel
theorem dL_569 : decode code 569 = .ok (.iadd, 1) := by decide +kernel
theorem dL_570 : decode code 570 = .ok (.iaload, 1) := by decide +kernel
theorem dL_571 : decode code 571 = .ok (.ifCond .eq 7, 3) := by decide +kernel
theorem dL_574 : decode code 574 = .ok (.iconst 1, 1) := by decide +kernel
theorem dL_575 : decode code 575 = .ok (.goto 4, 3) := by decide +kernel
theorem dL_578 : decode code 578 = .ok (.iconst 0, 1) := by decide +kernel
theorem dL_579 : decode code 579 = .ok (.invokevirtual 70, 3) := by decide +kernel
theorem dL_582 : decode code 582 = .ok (.if_icmp .eq 289, 3) := by decide +kernel
theorem dL_585 : decode code 585 = .ok (.iconst 0, 1) := by decide +kernel
theorem dL_586 : decode code 586 = .ok (.ireturn, 1) := by decide +kernel
theorem dL_587 : decode code 587 = .ok (.aload_n 1, 1) := by decide +kernel
theorem dL_588 : decode code 588 = .ok (.aload_n 0, 1) := by decide +kernel
theorem dL_589 : decode code 589 = .ok (.iload_n 3, 1) := by decide +kernel
theorem dL_590 : decode code 590 = .ok (.iconst 1, 1) := by decide +kernel
theorem dL_591 : decode code 591 = .ok (.iadd, 1) := by decide +kernel
theorem dL_592 : decode code 592 = .ok (.iaload, 1) := by decide +kernel
theorem dL_593 : decode code 593 = .ok (.aload_n 0, 1) := by decide +kernel
theorem dL_594 : decode code 594 = .ok (.iload_n 3, 1) := by decide +kernel
theorem dL_595 : decode code 595 = .ok (.iconst 2, 1) := by decide +kernel
theorem dL_596 : decode code 596 = .ok (.iadd, 1) := by decide +kernel
theorem dL_597 : decode code 597 = .ok (.iaload, 1) := by decide +kernel
theorem dL_598 : decode code 598 = .ok (.invokevirtual 71, 3) := by decide +kernel
theorem dL_601 : decode code 601 = .ok (.aload_n 2, 1) := by decide +kernel
theorem dL_602 : decode code 602 = .ok (.aload_n 0, 1) := by decide +kernel
theorem dL_603 : decode code 603 = .ok (.iload_n 3, 1) := by decide +kernel
theorem dL_604 : decode code 604 = .ok (.iconst 1, 1) := by decide +kernel
theorem dL_605 : decode code 605 = .ok (.iadd, 1) := by decide +kernel
theorem dL_606 : decode code 606 = .ok (.iaload, 1) := by decide +kernel
theorem dL_607 : decode code 607 = .ok (.aload_n 0, 1) := by decide +kernel
theorem dL_608 : decode code 608 = .ok (.iload_n 3, 1) := by decide +kernel
theorem dL_609 : decode code 609 = .ok (.iconst 2, 1) := by decide +kernel
theorem dL_610 : decode code 610 = .ok (.iadd, 1) := by decide +kernel
theorem dL_611 : decode code 611 = .ok (.iaload, 1) := by decide +kernel
theorem dL_612 : decode code 612 = .ok (.invokevirtual 74, 3) := by decide +kernel
theorem dL_615 : decode code 615 = .ok (.if_icmp .eq 256, 3) := by decide +kernel
theorem dL_618 : decode code 618 = .ok (.iconst 0, 1) := by decide +kernel
theorem dL_619 : decode code 619 = .ok (.ireturn, 1) := by decide +kernel
theorem dL_620 : decode code 620 = .ok (.aload_n 1, 1) := by decide +kernel
theorem dL_621 : decode code 621 = .ok (.aload_n 0, 1) := by decide +kernel
theorem dL_622 : decode code 622 = .ok (.iload_n 3, 1) := by decide +kernel
theorem dL_623 : decode code 623 = .ok (.iconst 1, 1) := by decide +kernel
theorem dL_624 : decode code 624 = .ok (.iadd, 1) := by decide +kernel
theorem dL_625 : decode code 625 = .ok (.iaload, 1) := by decide +kernel
theorem dL_626 : decode code 626 = .ok (.aload_n 0, 1) := by decide +kernel
theorem dL_627 : decode code 627 = .ok (.iload_n 3, 1) := by decide +kernel
theorem dL_628 : decode code 628 = .ok (.iconst 2, 1) := by decide +kernel
theorem dL_629 : decode code 629 = .ok (.iadd, 1) := by decide +kernel
theorem dL_630 : decode code 630 = .ok (.iaload, 1) := by decide +kernel
theorem dL_631 : decode code 631 = .ok (.aload_n 0, 1) := by decide +kernel
theorem dL_632 : decode code 632 = .ok (.iload_n 3, 1) := by decide +kernel
theorem dL_633 : decode code 633 = .ok (.iconst 3, 1) := by decide +kernel
theorem dL_634 : decode code 634 = .ok (.iadd, 1) := by decide +kernel
theorem dL_635 : decode code 635 = .ok (.iaload, 1) := by decide +kernel
theorem dL_636 : decode code 636 = .ok (.invokevirtual 75, 3) := by decide +kernel
theorem dL_639 : decode code 639 = .ok (.aload_n 2, 1) := by decide +kernel
theorem dL_640 : decode code 640 = .ok (.aload_n 0, 1) := by decide +kernel
theorem dL_641 : decode code 641 = .ok (.iload_n 3, 1) := by decide +kernel
theorem dL_642 : decode code 642 = .ok (.iconst 1, 1) := by decide +kernel
theorem dL_643 : decode code 643 = .ok (.iadd, 1) := by decide +kernel
theorem dL_644 : decode code 644 = .ok (.iaload, 1) := by decide +kernel
theorem dL_645 : decode code 645 = .ok (.aload_n 0, 1) := by decide +kernel
theorem dL_646 : decode code 646 = .ok (.iload_n 3, 1) := by decide +kernel
theorem dL_647 : decode code 647 = .ok (.iconst 2, 1) := by decide +kernel
theorem dL_648 : decode code 648 = .ok (.iadd, 1) := by decide +kernel
theorem dL_649 : decode code 649 = .ok (.iaload, 1) := by decide +kernel
theorem dL_650 : decode code 650 = .ok (.aload_n 0, 1) := by decide +kernel
theorem dL_651 : decode code 651 = .ok (.iload_n 3, 1) := by decide +kernel
theorem dL_652 : decode code 652 = .ok (.iconst 3, 1) := by decide +kernel
theorem dL_653 : decode code 653 = .ok (.iadd, 1) := by decide +kernel
theorem dL_654 : decode code 654 = .ok (.iaload, 1) := by decide +kernel
theorem dL_655 : decode code 655 = .ok (.invokevirtual 78, 3) := by decide +kernel
theorem dL_658 : decode code 658 = .ok (.if_icmp .eq 213, 3) := by decide +kernel
theorem dL_661 : decode code 661 = .ok (.iconst 0, 1) := by decide +kernel
theorem dL_662 : decode code 662 = .ok (.ireturn, 1) := by decide +kernel
theorem dL_663 : decode code 663 = .ok (.aload_n 1, 1) := by decide +kernel
theorem dL_664 : decode code 664 = .ok (.aload_n 0, 1) := by decide +kernel
theorem dL_665 : decode code 665 = .ok (.iload_n 3, 1) := by decide +kernel
theorem dL_666 : decode code 666 = .ok (.iconst 1, 1) := by decide +kernel
theorem dL_667 : decode code 667 = .ok (.iadd, 1) := by decide +kernel
theorem dL_668 : decode code 668 = .ok (.iaload, 1) := by decide +kernel
theorem dL_669 : decode code 669 = .ok (.aload_n 0, 1) := by decide +kernel
theorem dL_670 : decode code 670 = .ok (.iload_n 3, 1) := by decide +kernel
theorem dL_671 : decode code 671 = .ok (.iconst 2, 1) := by decide +kernel
theorem dL_672 : decode code 672 = .ok (.iadd, 1) := by decide +kernel
theorem dL_673 : decode code 673 = .ok (.iaload, 1) := by decide +kernel
theorem dL_674 : decode code 674 = .ok (.aload_n 0, 1) := by decide +kernel
theorem dL_675 : decode code 675 = .ok (.iload_n 3, 1) := by decide +kernel
theorem dL_676 : decode code 676 = .ok (.iconst 3, 1) := by decide +kernel
theorem dL_677 : decode code 677 = .ok (.iadd, 1) := by decide +kernel
theorem dL_678 : decode code 678 = .ok (.iaload, 1) := by decide +kernel
theorem dL_679 : decode code 679 = .ok (.aload_n 0, 1) := by decide +kernel
theorem dL_680 : decode code 680 = .ok (.iload_n 3, 1) := by decide +kernel
theorem dL_681 : decode code 681 = .ok (.iconst 4, 1) := by decide +kernel
theorem dL_682 : decode code 682 = .ok (.iadd, 1) := by decide +kernel
theorem dL_683 : decode code 683 = .ok (.iaload, 1) := by decide +kernel
theorem dL_684 : decode code 684 = .ok (.invokevirtual 79, 3) := by decide +kernel
theorem dL_687 : decode code 687 = .ok (.aload_n 2, 1) := by decide +kernel
theorem dL_688 : decode code 688 = .ok (.aload_n 0, 1) := by decide +kernel
theorem dL_689 : decode code 689 = .ok (.iload_n 3, 1) := by decide +kernel
theorem dL_690 : decode code 690 = .ok (.iconst 1, 1) := by decide +kernel
theorem dL_691 : decode code 691 = .ok (.iadd, 1) := by decide +kernel
theorem dL_692 : decode code 692 = .ok (.iaload, 1) := by decide +kernel
theorem dL_693 : decode code 693 = .ok (.aload_n 0, 1) := by decide +kernel
theorem dL_694 : decode code 694 = .ok (.iload_n 3, 1) := by decide +kernel
theorem dL_695 : decode code 695 = .ok (.iconst 2, 1) := by decide +kernel
theorem dL_696 : decode code 696 = .ok (.iadd, 1) := by decide +kernel
theorem dL_697 : decode code 697 = .ok (.iaload, 1) := by decide +kernel
theorem dL_698 : decode code 698 = .ok (.aload_n 0, 1) := by decide +kernel
theorem dL_699 : decode code 699 = .ok (.iload_n 3, 1) := by decide +kernel
theorem dL_700 : decode code 700 = .ok (.iconst 3, 1) := by decide +kernel
theorem dL_701 : decode code 701 = .ok (.iadd, 1) := by decide +kernel
theorem dL_702 : decode code 702 = .ok (.iaload, 1) := by decide +kernel
theorem dL_703 : decode code 703 = .ok (.aload_n 0, 1) := by decide +kernel
theorem dL_704 : decode code 704 = .ok (.iload_n 3, 1) := by decide +kernel
theorem dL_705 : decode code 705 = .ok (.iconst 4, 1) := by decide +kernel
theorem dL_706 : decode code 706 = .ok (.iadd, 1) := by decide +kernel
theorem dL_707 : decode code 707 = .ok (.iaload, 1) := by decide +kernel
theorem dL_708 : decode code 708 = .ok (.invokevirtual 83, 3) := by decide +kernel
theorem dL_711 : decode code 711 = .ok (.if_icmp .eq 160, 3) := by decide +kernel
theorem dL_714 : decode code 714 = .ok (.iconst 0, 1) := by decide +kernel
theorem dL_715 : decode code 715 = .ok (.ireturn, 1) := by decide +kernel
theorem dL_716 : decode code 716 = .ok (.aload_n 1, 1) := by decide +kernel
theorem dL_717 : decode code 717 = .ok (.aload_n 0, 1) := by decide +kernel
theorem dL_718 : decode code 718 = .ok (.iload_n 3, 1) := by decide +kernel
theorem dL_719 : decode code 719 = .ok (.iconst 1, 1) := by decide +kernel
theorem dL_720 : decode code 720 = .ok (.iadd, 1) := by decide +kernel
theorem dL_721 : decode code 721 = .ok (.iaload, 1) := by decide +kernel
theorem dL_722 : decode code 722 = .ok (.aload_n 0, 1) := by decide +kernel
theorem dL_723 : decode code 723 = .ok (.iload_n 3, 1) := by decide +kernel
theorem dL_724 : decode code 724 = .ok (.iconst 2, 1) := by decide +kernel
theorem dL_725 : decode code 725 = .ok (.iadd, 1) := by decide +kernel
theorem dL_726 : decode code 726 = .ok (.iaload, 1) := by decide +kernel
theorem dL_727 : decode code 727 = .ok (.aload_n 0, 1) := by decide +kernel
theorem dL_728 : decode code 728 = .ok (.iload_n 3, 1) := by decide +kernel
theorem dL_729 : decode code 729 = .ok (.iconst 3, 1) := by decide +kernel
theorem dL_730 : decode code 730 = .ok (.iadd, 1) := by decide +kernel
theorem dL_731 : decode code 731 = .ok (.iaload, 1) := by decide +kernel
theorem dL_732 : decode code 732 = .ok (.aload_n 0, 1) := by decide +kernel
theorem dL_733 : decode code 733 = .ok (.iload_n 3, 1) := by decide +kernel
theorem dL_734 : decode code 734 = .ok (.iconst 4, 1) := by decide +kernel
theorem dL_735 : decode code 735 = .ok (.iadd, 1) := by decide +kernel
theorem dL_736 : decode code 736 = .ok (.iaload, 1) := by decide +kernel
theorem dL_737 : decode code 737 = .ok (.aload_n 0, 1) := by decide +kernel
theorem dL_738 : decode code 738 = .ok (.iload_n 3, 1) := by decide +kernel
theorem dL_739 : decode code 739 = .ok (.iconst 5, 1) := by decide +kernel
theorem dL_740 : decode code 740 = .ok (.iadd, 1) := by decide +kernel
theorem dL_741 : decode code 741 = .ok (.iaload, 1) := by decide +kernel
theorem dL_742 : decode code 742 = .ok (.invokevirtual 84, 3) := by decide +kernel
theorem dL_745 : decode code 745 = .ok (.aload_n 2, 1) := by decide +kernel
theorem dL_746 : decode code 746 = .ok (.aload_n 0, 1) := by decide +kernel
theorem dL_747 : decode code 747 = .ok (.iload_n 3, 1) := by decide +kernel
theorem dL_748 : decode code 748 = .ok (.iconst 1, 1) := by decide +kernel
theorem dL_749 : decode code 749 = .ok (.iadd, 1) := by decide +kernel
theorem dL_750 : decode code 750 = .ok (.iaload, 1) := by decide +kernel
theorem dL_751 : decode code 751 = .ok (.aload_n 0, 1) := by decide +kernel
theorem dL_752 : decode code 752 = .ok (.iload_n 3, 1) := by decide +kernel
theorem dL_753 : decode code 753 = .ok (.iconst 2, 1) := by decide +kernel
theorem dL_754 : decode code 754 = .ok (.iadd, 1) := by decide +kernel
theorem dL_755 : decode code 755 = .ok (.iaload, 1) := by decide +kernel
theorem dL_756 : decode code 756 = .ok (.aload_n 0, 1) := by decide +kernel
theorem dL_757 : decode code 757 = .ok (.iload_n 3, 1) := by decide +kernel
theorem dL_758 : decode code 758 = .ok (.iconst 3, 1) := by decide +kernel
theorem dL_759 : decode code 759 = .ok (.iadd, 1) := by decide +kernel
theorem dL_760 : decode code 760 = .ok (.iaload, 1) := by decide +kernel
theorem dL_761 : decode code 761 = .ok (.aload_n 0, 1) := by decide +kernel
theorem dL_762 : decode code 762 = .ok (.iload_n 3, 1) := by decide +kernel
theorem dL_763 : decode code 763 = .ok (.iconst 4, 1) := by decide +kernel
theorem dL_764 : decode code 764 = .ok (.iadd, 1) := by decide +kernel
theorem dL_765 : decode code 765 = .ok (.iaload, 1) := by decide +kernel
theorem dL_766 : decode code 766 = .ok (.aload_n 0, 1) := by decide +kernel
theorem dL_767 : decode code 767 = .ok (.iload_n 3, 1) := by decide +kernel
theorem dL_768 : decode code 768 = .ok (.iconst 5, 1) := by decide +kernel
theorem dL_769 : decode code 769 = .ok (.iadd, 1) := by decide +kernel
theorem dL_770 : decode code 770 = .ok (.iaload, 1) := by decide +kernel
theorem dL_771 : decode code 771 = .ok (.invokevirtual 87, 3) := by decide +kernel
theorem dL_774 : decode code 774 = .ok (.if_icmp .eq 97, 3) := by decide +kernel
theorem dL_777 : decode code 777 = .ok (.iconst 0, 1) := by decide +kernel
theorem dL_778 : decode code 778 = .ok (.ireturn, 1) := by decide +kernel
theorem dL_779 : decode code 779 = .ok (.aload_n 1, 1) := by decide +kernel
theorem dL_780 : decode code 780 = .ok (.invokevirtual 88, 3) := by decide +kernel
theorem dL_783 : decode code 783 = .ok (.aload_n 2, 1) := by decide +kernel
theorem dL_784 : decode code 784 = .ok (.invokevirtual 91, 3) := by decide +kernel
theorem dL_787 : decode code 787 = .ok (.if_icmp .eq 84, 3) := by decide +kernel
theorem dL_790 : decode code 790 = .ok (.iconst 0, 1) := by decide +kernel
theorem dL_791 : decode code 791 = .ok (.ireturn, 1) := by decide +kernel
theorem dL_792 : decode code 792 = .ok (.aload_n 1, 1) := by decide +kernel
theorem dL_793 : decode code 793 = .ok (.aload_n 0, 1) := by decide +kernel
theorem dL_794 : decode code 794 = .ok (.iload_n 3, 1) := by decide +kernel
theorem dL_795 : decode code 795 = .ok (.iconst 1, 1) := by decide +kernel
theorem dL_796 : decode code 796 = .ok (.iadd, 1) := by decide +kernel
theorem dL_797 : decode code 797 = .ok (.iaload, 1) := by decide +kernel
theorem dL_798 : decode code 798 = .ok (.invokevirtual 92, 3) := by decide +kernel
theorem dL_801 : decode code 801 = .ok (.aload_n 2, 1) := by decide +kernel
theorem dL_802 : decode code 802 = .ok (.aload_n 0, 1) := by decide +kernel
theorem dL_803 : decode code 803 = .ok (.iload_n 3, 1) := by decide +kernel
theorem dL_804 : decode code 804 = .ok (.iconst 1, 1) := by decide +kernel
theorem dL_805 : decode code 805 = .ok (.iadd, 1) := by decide +kernel
theorem dL_806 : decode code 806 = .ok (.iaload, 1) := by decide +kernel
theorem dL_807 : decode code 807 = .ok (.invokevirtual 95, 3) := by decide +kernel
theorem dL_810 : decode code 810 = .ok (.if_icmp .eq 61, 3) := by decide +kernel
theorem dL_813 : decode code 813 = .ok (.iconst 0, 1) := by decide +kernel
theorem dL_814 : decode code 814 = .ok (.ireturn, 1) := by decide +kernel
theorem dL_815 : decode code 815 = .ok (.aload_n 1, 1) := by decide +kernel
theorem dL_816 : decode code 816 = .ok (.aload_n 0, 1) := by decide +kernel
theorem dL_817 : decode code 817 = .ok (.iload_n 3, 1) := by decide +kernel
theorem dL_818 : decode code 818 = .ok (.iconst 1, 1) := by decide +kernel
theorem dL_819 : decode code 819 = .ok (.iadd, 1) := by decide +kernel
theorem dL_820 : decode code 820 = .ok (.iaload, 1) := by decide +kernel
theorem dL_821 : decode code 821 = .ok (.aload_n 0, 1) := by decide +kernel
theorem dL_822 : decode code 822 = .ok (.iload_n 3, 1) := by decide +kernel
theorem dL_823 : decode code 823 = .ok (.iconst 2, 1) := by decide +kernel
theorem dL_824 : decode code 824 = .ok (.iadd, 1) := by decide +kernel
theorem dL_825 : decode code 825 = .ok (.iaload, 1) := by decide +kernel
theorem dL_826 : decode code 826 = .ok (.invokevirtual 96, 3) := by decide +kernel
theorem dL_829 : decode code 829 = .ok (.aload_n 2, 1) := by decide +kernel
theorem dL_830 : decode code 830 = .ok (.aload_n 0, 1) := by decide +kernel
theorem dL_831 : decode code 831 = .ok (.iload_n 3, 1) := by decide +kernel
theorem dL_832 : decode code 832 = .ok (.iconst 1, 1) := by decide +kernel
theorem dL_833 : decode code 833 = .ok (.iadd, 1) := by decide +kernel
theorem dL_834 : decode code 834 = .ok (.iaload, 1) := by decide +kernel
theorem dL_835 : decode code 835 = .ok (.aload_n 0, 1) := by decide +kernel
theorem dL_836 : decode code 836 = .ok (.iload_n 3, 1) := by decide +kernel
theorem dL_837 : decode code 837 = .ok (.iconst 2, 1) := by decide +kernel
theorem dL_838 : decode code 838 = .ok (.iadd, 1) := by decide +kernel
theorem dL_839 : decode code 839 = .ok (.iaload, 1) := by decide +kernel
theorem dL_840 : decode code 840 = .ok (.invokevirtual 99, 3) := by decide +kernel
theorem dL_843 : decode code 843 = .ok (.if_icmp .eq 28, 3) := by decide +kernel
theorem dL_846 : decode code 846 = .ok (.iconst 0, 1) := by decide +kernel
theorem dL_847 : decode code 847 = .ok (.ireturn, 1) := by decide +kernel
theorem dL_848 : decode code 848 = .ok (.aload_n 1, 1) := by decide +kernel
theorem dL_849 : decode code 849 = .ok (.aload_n 0, 1) := by decide +kernel
theorem dL_850 : decode code 850 = .ok (.iload_n 3, 1) := by decide +kernel
theorem dL_851 : decode code 851 = .ok (.iconst 1, 1) := by decide +kernel
theorem dL_852 : decode code 852 = .ok (.iadd, 1) := by decide +kernel
theorem dL_853 : decode code 853 = .ok (.iaload, 1) := by decide +kernel
theorem dL_854 : decode code 854 = .ok (.invokevirtual 100, 3) := by decide +kernel
theorem dL_857 : decode code 857 = .ok (.aload_n 2, 1) := by decide +kernel
theorem dL_858 : decode code 858 = .ok (.aload_n 0, 1) := by decide +kernel
theorem dL_859 : decode code 859 = .ok (.iload_n 3, 1) := by decide +kernel
theorem dL_860 : decode code 860 = .ok (.iconst 1, 1) := by decide +kernel
theorem dL_861 : decode code 861 = .ok (.iadd, 1) := by decide +kernel
theorem dL_862 : decode code 862 = .ok (.iaload, 1) := by decide +kernel
theorem dL_863 : decode code 863 = .ok (.invokevirtual 103, 3) := by decide +kernel
theorem dL_866 : decode code 866 = .ok (.if_icmp .eq 5, 3) := by decide +kernel
theorem dL_869 : decode code 869 = .ok (.iconst 0, 1) := by decide +kernel
theorem dL_870 : decode code 870 = .ok (.ireturn, 1) := by decide +kernel
theorem dL_871 : decode code 871 = .ok (.iinc 3 6, 3) := by decide +kernel
theorem dL_874 : decode code 874 = .ok (.goto (-856), 3) := by decide +kernel
theorem dL_877 : decode code 877 = .ok (.iconst 1, 1) := by decide +kernel
theorem dL_878 : decode code 878 = .ok (.ireturn, 1) := by decide +kernel
theorem lz_cl7 : Cond.classLink R_law 7 RX7 ∈ wT := wu (wtab_1 (List.mem_of_getElem? (i := 11) (by decide +kernel))) rfl
theorem lz_cl8 : Cond.classLink R_law 10 RX8 ∈ wT := wu (wtab_5 (List.mem_of_getElem? (i := 19) (by decide +kernel))) rfl
theorem lz_ml7 : Cond.methodLink R_law 9 yX7_init ∈ wT := wu (wtab_1 (List.mem_of_getElem? (i := 13) (by decide +kernel))) rfl
theorem lz_ml8 : Cond.methodLink R_law 12 yX8_init ∈ wT := wu (wtab_5 (List.mem_of_getElem? (i := 21) (by decide +kernel))) rfl
theorem lz_ao1 : Cond.arrayOver (.object "CallCourt$Type") ∈ lw_tbl := List.mem_append_right _ (wtab_1 (List.mem_of_getElem? (i := 26) (by decide +kernel)))
theorem lz_ao2 : Cond.arrayOver (.object "CallCourt$Member") ∈ lw_tbl := List.mem_append_right _ (wtab_1 (List.mem_of_getElem? (i := 28) (by decide +kernel)))
theorem lz_ls : Cond.laysStatic "CallCourt" "WORDS" "[J" ∈ lw_tbl := List.mem_append_right _ (wtab_2 (List.mem_of_getElem? (i := 215) (by decide +kernel)))
theorem wc_X7_feed : Cond.code yX7_feed cX7_feed 6 (some .int) ∈ wT := wu (wtab_2 (List.mem_of_getElem? (i := 180) (by rfl))) rfl
theorem wd_X7_feed : yX7_feed.cls ≠ "java/lang/invoke/MethodHandle" ∧ yX7_feed.cls ≠ "java/lang/invoke/VarHandle" ∧ (parseMethodDescriptor yX7_feed.desc).map (fun d => d.parameters.length) = some 5 := ⟨by decide +kernel, by decide +kernel, by decide +kernel⟩
theorem wi_X7_feed : Cond.instanceMethod yX7_feed ∈ wT := wu (wtab_2 (List.mem_of_getElem? (i := 178) (by decide +kernel))) rfl
theorem wz_X7_feed : Cond.selects RX7 yX7_feed yX7_feed ∈ wT := wu (wtab_2 (List.mem_of_getElem? (i := 179) (by decide +kernel))) rfl
theorem ml_L_13 : ML R_law 13 yX7_feed cX7_feed 6 (some .int) 5 := ml_of (wu (wtab_2 (List.mem_of_getElem? (i := 177) (by decide +kernel))) rfl) wi_X7_feed wz_X7_feed wq_X7 wc_X7_feed wd_X7_feed
theorem wc_X8_feed : Cond.code yX8_feed cX8_feed 8 (some .int) ∈ wT := wu (wtab_5 (List.mem_of_getElem? (i := 223) (by rfl))) rfl
theorem wd_X8_feed : yX8_feed.cls ≠ "java/lang/invoke/MethodHandle" ∧ yX8_feed.cls ≠ "java/lang/invoke/VarHandle" ∧ (parseMethodDescriptor yX8_feed.desc).map (fun d => d.parameters.length) = some 5 := ⟨by decide +kernel, by decide +kernel, by decide +kernel⟩
theorem wi_X8_feed : Cond.instanceMethod yX8_feed ∈ wT := wu (wtab_5 (List.mem_of_getElem? (i := 221) (by decide +kernel))) rfl
theorem wz_X8_feed : Cond.selects RX8 yX8_feed yX8_feed ∈ wT := wu (wtab_5 (List.mem_of_getElem? (i := 222) (by decide +kernel))) rfl
theorem ml_L_17 : ML R_law 17 yX8_feed cX8_feed 8 (some .int) 5 := ml_of (wu (wtab_5 (List.mem_of_getElem? (i := 220) (by decide +kernel))) rfl) wi_X8_feed wz_X8_feed wq_X8 wc_X8_feed wd_X8_feed
theorem wc_X7_trim : Cond.code yX7_trim cX7_trim 2 (some .int) ∈ wT := wu (wtab_2 (List.mem_of_getElem? (i := 188) (by rfl))) rfl
theorem wd_X7_trim : yX7_trim.cls ≠ "java/lang/invoke/MethodHandle" ∧ yX7_trim.cls ≠ "java/lang/invoke/VarHandle" ∧ (parseMethodDescriptor yX7_trim.desc).map (fun d => d.parameters.length) = some 1 := ⟨by decide +kernel, by decide +kernel, by decide +kernel⟩
theorem wi_X7_trim : Cond.instanceMethod yX7_trim ∈ wT := wu (wtab_2 (List.mem_of_getElem? (i := 186) (by decide +kernel))) rfl
theorem wz_X7_trim : Cond.selects RX7 yX7_trim yX7_trim ∈ wT := wu (wtab_2 (List.mem_of_getElem? (i := 187) (by decide +kernel))) rfl
theorem ml_L_18 : ML R_law 18 yX7_trim cX7_trim 2 (some .int) 1 := ml_of (wu (wtab_2 (List.mem_of_getElem? (i := 185) (by decide +kernel))) rfl) wi_X7_trim wz_X7_trim wq_X7 wc_X7_trim wd_X7_trim
theorem wc_X8_trim : Cond.code yX8_trim cX8_trim 2 (some .int) ∈ wT := wu (wtab_5 (List.mem_of_getElem? (i := 227) (by rfl))) rfl
theorem wd_X8_trim : yX8_trim.cls ≠ "java/lang/invoke/MethodHandle" ∧ yX8_trim.cls ≠ "java/lang/invoke/VarHandle" ∧ (parseMethodDescriptor yX8_trim.desc).map (fun d => d.parameters.length) = some 1 := ⟨by decide +kernel, by decide +kernel, by decide +kernel⟩
theorem wi_X8_trim : Cond.instanceMethod yX8_trim ∈ wT := wu (wtab_5 (List.mem_of_getElem? (i := 225) (by decide +kernel))) rfl
theorem wz_X8_trim : Cond.selects RX8 yX8_trim yX8_trim ∈ wT := wu (wtab_5 (List.mem_of_getElem? (i := 226) (by decide +kernel))) rfl
theorem ml_L_22 : ML R_law 22 yX8_trim cX8_trim 2 (some .int) 1 := ml_of (wu (wtab_5 (List.mem_of_getElem? (i := 224) (by decide +kernel))) rfl) wi_X8_trim wz_X8_trim wq_X8 wc_X8_trim wd_X8_trim
theorem wc_X7_compile : Cond.code yX7_compile cX7_compile 3 (some .int) ∈ wT := wu (wtab_2 (List.mem_of_getElem? (i := 192) (by rfl))) rfl
theorem wd_X7_compile : yX7_compile.cls ≠ "java/lang/invoke/MethodHandle" ∧ yX7_compile.cls ≠ "java/lang/invoke/VarHandle" ∧ (parseMethodDescriptor yX7_compile.desc).map (fun d => d.parameters.length) = some 0 := ⟨by decide +kernel, by decide +kernel, by decide +kernel⟩
theorem wi_X7_compile : Cond.instanceMethod yX7_compile ∈ wT := wu (wtab_2 (List.mem_of_getElem? (i := 190) (by decide +kernel))) rfl
theorem wz_X7_compile : Cond.selects RX7 yX7_compile yX7_compile ∈ wT := wu (wtab_2 (List.mem_of_getElem? (i := 191) (by decide +kernel))) rfl
theorem ml_L_23 : ML R_law 23 yX7_compile cX7_compile 3 (some .int) 0 := ml_of (wu (wtab_2 (List.mem_of_getElem? (i := 189) (by decide +kernel))) rfl) wi_X7_compile wz_X7_compile wq_X7 wc_X7_compile wd_X7_compile
theorem wc_X8_compile : Cond.code yX8_compile cX8_compile 1 (some .int) ∈ wT := wu (wtab_5 (List.mem_of_getElem? (i := 234) (by rfl))) rfl
theorem wd_X8_compile : yX8_compile.cls ≠ "java/lang/invoke/MethodHandle" ∧ yX8_compile.cls ≠ "java/lang/invoke/VarHandle" ∧ (parseMethodDescriptor yX8_compile.desc).map (fun d => d.parameters.length) = some 0 := ⟨by decide +kernel, by decide +kernel, by decide +kernel⟩
theorem wi_X8_compile : Cond.instanceMethod yX8_compile ∈ wT := wu (wtab_5 (List.mem_of_getElem? (i := 232) (by decide +kernel))) rfl
theorem wz_X8_compile : Cond.selects RX8 yX8_compile yX8_compile ∈ wT := wu (wtab_5 (List.mem_of_getElem? (i := 233) (by decide +kernel))) rfl
theorem ml_L_27 : ML R_law 27 yX8_compile cX8_compile 1 (some .int) 0 := ml_of (wu (wtab_5 (List.mem_of_getElem? (i := 231) (by decide +kernel))) rfl) wi_X8_compile wz_X8_compile wq_X8 wc_X8_compile wd_X8_compile
theorem wc_X7_fault : Cond.code yX7_fault cX7_fault 1 (some .int) ∈ wT := wu (wtab_4 (List.mem_of_getElem? (i := 59) (by rfl))) rfl
theorem wd_X7_fault : yX7_fault.cls ≠ "java/lang/invoke/MethodHandle" ∧ yX7_fault.cls ≠ "java/lang/invoke/VarHandle" ∧ (parseMethodDescriptor yX7_fault.desc).map (fun d => d.parameters.length) = some 0 := ⟨by decide +kernel, by decide +kernel, by decide +kernel⟩
theorem wi_X7_fault : Cond.instanceMethod yX7_fault ∈ wT := wu (wtab_4 (List.mem_of_getElem? (i := 57) (by decide +kernel))) rfl
theorem wz_X7_fault : Cond.selects RX7 yX7_fault yX7_fault ∈ wT := wu (wtab_4 (List.mem_of_getElem? (i := 58) (by decide +kernel))) rfl
theorem ml_L_28 : ML R_law 28 yX7_fault cX7_fault 1 (some .int) 0 := ml_of (wu (wtab_4 (List.mem_of_getElem? (i := 56) (by decide +kernel))) rfl) wi_X7_fault wz_X7_fault wq_X7 wc_X7_fault wd_X7_fault
theorem wc_X8_fault : Cond.code yX8_fault cX8_fault 1 (some .int) ∈ wT := wu (wtab_6 (List.mem_of_getElem? (i := 199) (by rfl))) rfl
theorem wd_X8_fault : yX8_fault.cls ≠ "java/lang/invoke/MethodHandle" ∧ yX8_fault.cls ≠ "java/lang/invoke/VarHandle" ∧ (parseMethodDescriptor yX8_fault.desc).map (fun d => d.parameters.length) = some 0 := ⟨by decide +kernel, by decide +kernel, by decide +kernel⟩
theorem wi_X8_fault : Cond.instanceMethod yX8_fault ∈ wT := wu (wtab_6 (List.mem_of_getElem? (i := 197) (by decide +kernel))) rfl
theorem wz_X8_fault : Cond.selects RX8 yX8_fault yX8_fault ∈ wT := wu (wtab_6 (List.mem_of_getElem? (i := 198) (by decide +kernel))) rfl
theorem ml_L_31 : ML R_law 31 yX8_fault cX8_fault 1 (some .int) 0 := ml_of (wu (wtab_6 (List.mem_of_getElem? (i := 196) (by decide +kernel))) rfl) wi_X8_fault wz_X8_fault wq_X8 wc_X8_fault wd_X8_fault
theorem wc_X7_type : Cond.code yX7_type cX7_type 4 (some .int) ∈ wT := wu (wtab_4 (List.mem_of_getElem? (i := 63) (by rfl))) rfl
theorem wd_X7_type : yX7_type.cls ≠ "java/lang/invoke/MethodHandle" ∧ yX7_type.cls ≠ "java/lang/invoke/VarHandle" ∧ (parseMethodDescriptor yX7_type.desc).map (fun d => d.parameters.length) = some 2 := ⟨by decide +kernel, by decide +kernel, by decide +kernel⟩
theorem wi_X7_type : Cond.instanceMethod yX7_type ∈ wT := wu (wtab_4 (List.mem_of_getElem? (i := 61) (by decide +kernel))) rfl
theorem wz_X7_type : Cond.selects RX7 yX7_type yX7_type ∈ wT := wu (wtab_4 (List.mem_of_getElem? (i := 62) (by decide +kernel))) rfl
theorem ml_L_32 : ML R_law 32 yX7_type cX7_type 4 (some .int) 2 := ml_of (wu (wtab_4 (List.mem_of_getElem? (i := 60) (by decide +kernel))) rfl) wi_X7_type wz_X7_type wq_X7 wc_X7_type wd_X7_type
theorem wc_X8_type : Cond.code yX8_type cX8_type 4 (some .int) ∈ wT := wu (wtab_6 (List.mem_of_getElem? (i := 203) (by rfl))) rfl
theorem wd_X8_type : yX8_type.cls ≠ "java/lang/invoke/MethodHandle" ∧ yX8_type.cls ≠ "java/lang/invoke/VarHandle" ∧ (parseMethodDescriptor yX8_type.desc).map (fun d => d.parameters.length) = some 2 := ⟨by decide +kernel, by decide +kernel, by decide +kernel⟩
theorem wi_X8_type : Cond.instanceMethod yX8_type ∈ wT := wu (wtab_6 (List.mem_of_getElem? (i := 201) (by decide +kernel))) rfl
theorem wz_X8_type : Cond.selects RX8 yX8_type yX8_type ∈ wT := wu (wtab_6 (List.mem_of_getElem? (i := 202) (by decide +kernel))) rfl
theorem ml_L_36 : ML R_law 36 yX8_type cX8_type 4 (some .int) 2 := ml_of (wu (wtab_6 (List.mem_of_getElem? (i := 200) (by decide +kernel))) rfl) wi_X8_type wz_X8_type wq_X8 wc_X8_type wd_X8_type
theorem wc_X7_above : Cond.code yX7_above cX7_above 4 (some .int) ∈ wT := wu (wtab_4 (List.mem_of_getElem? (i := 71) (by rfl))) rfl
theorem wd_X7_above : yX7_above.cls ≠ "java/lang/invoke/MethodHandle" ∧ yX7_above.cls ≠ "java/lang/invoke/VarHandle" ∧ (parseMethodDescriptor yX7_above.desc).map (fun d => d.parameters.length) = some 2 := ⟨by decide +kernel, by decide +kernel, by decide +kernel⟩
theorem wi_X7_above : Cond.instanceMethod yX7_above ∈ wT := wu (wtab_4 (List.mem_of_getElem? (i := 69) (by decide +kernel))) rfl
theorem wz_X7_above : Cond.selects RX7 yX7_above yX7_above ∈ wT := wu (wtab_4 (List.mem_of_getElem? (i := 70) (by decide +kernel))) rfl
theorem ml_L_37 : ML R_law 37 yX7_above cX7_above 4 (some .int) 2 := ml_of (wu (wtab_4 (List.mem_of_getElem? (i := 68) (by decide +kernel))) rfl) wi_X7_above wz_X7_above wq_X7 wc_X7_above wd_X7_above
theorem wc_X8_above : Cond.code yX8_above cX8_above 3 (some .int) ∈ wT := wu (wtab_6 (List.mem_of_getElem? (i := 211) (by rfl))) rfl
theorem wd_X8_above : yX8_above.cls ≠ "java/lang/invoke/MethodHandle" ∧ yX8_above.cls ≠ "java/lang/invoke/VarHandle" ∧ (parseMethodDescriptor yX8_above.desc).map (fun d => d.parameters.length) = some 2 := ⟨by decide +kernel, by decide +kernel, by decide +kernel⟩
theorem wi_X8_above : Cond.instanceMethod yX8_above ∈ wT := wu (wtab_6 (List.mem_of_getElem? (i := 209) (by decide +kernel))) rfl
theorem wz_X8_above : Cond.selects RX8 yX8_above yX8_above ∈ wT := wu (wtab_6 (List.mem_of_getElem? (i := 210) (by decide +kernel))) rfl
theorem ml_L_40 : ML R_law 40 yX8_above cX8_above 3 (some .int) 2 := ml_of (wu (wtab_6 (List.mem_of_getElem? (i := 208) (by decide +kernel))) rfl) wi_X8_above wz_X8_above wq_X8 wc_X8_above wd_X8_above
theorem wc_X7_under : Cond.code yX7_under cX7_under 3 (some .int) ∈ wT := wu (wtab_4 (List.mem_of_getElem? (i := 75) (by rfl))) rfl
theorem wd_X7_under : yX7_under.cls ≠ "java/lang/invoke/MethodHandle" ∧ yX7_under.cls ≠ "java/lang/invoke/VarHandle" ∧ (parseMethodDescriptor yX7_under.desc).map (fun d => d.parameters.length) = some 2 := ⟨by decide +kernel, by decide +kernel, by decide +kernel⟩
theorem wi_X7_under : Cond.instanceMethod yX7_under ∈ wT := wu (wtab_4 (List.mem_of_getElem? (i := 73) (by decide +kernel))) rfl
theorem wz_X7_under : Cond.selects RX7 yX7_under yX7_under ∈ wT := wu (wtab_4 (List.mem_of_getElem? (i := 74) (by decide +kernel))) rfl
theorem ml_L_41 : ML R_law 41 yX7_under cX7_under 3 (some .int) 2 := ml_of (wu (wtab_4 (List.mem_of_getElem? (i := 72) (by decide +kernel))) rfl) wi_X7_under wz_X7_under wq_X7 wc_X7_under wd_X7_under
theorem wc_X8_under : Cond.code yX8_under cX8_under 3 (some .int) ∈ wT := wu (wtab_6 (List.mem_of_getElem? (i := 215) (by rfl))) rfl
theorem wd_X8_under : yX8_under.cls ≠ "java/lang/invoke/MethodHandle" ∧ yX8_under.cls ≠ "java/lang/invoke/VarHandle" ∧ (parseMethodDescriptor yX8_under.desc).map (fun d => d.parameters.length) = some 2 := ⟨by decide +kernel, by decide +kernel, by decide +kernel⟩
theorem wi_X8_under : Cond.instanceMethod yX8_under ∈ wT := wu (wtab_6 (List.mem_of_getElem? (i := 213) (by decide +kernel))) rfl
theorem wz_X8_under : Cond.selects RX8 yX8_under yX8_under ∈ wT := wu (wtab_6 (List.mem_of_getElem? (i := 214) (by decide +kernel))) rfl
theorem ml_L_44 : ML R_law 44 yX8_under cX8_under 3 (some .int) 2 := ml_of (wu (wtab_6 (List.mem_of_getElem? (i := 212) (by decide +kernel))) rfl) wi_X8_under wz_X8_under wq_X8 wc_X8_under wd_X8_under
theorem wc_X7_member : Cond.code yX7_member cX7_member 4 (some .int) ∈ wT := wu (wtab_4 (List.mem_of_getElem? (i := 83) (by rfl))) rfl
theorem wd_X7_member : yX7_member.cls ≠ "java/lang/invoke/MethodHandle" ∧ yX7_member.cls ≠ "java/lang/invoke/VarHandle" ∧ (parseMethodDescriptor yX7_member.desc).map (fun d => d.parameters.length) = some 2 := ⟨by decide +kernel, by decide +kernel, by decide +kernel⟩
theorem wi_X7_member : Cond.instanceMethod yX7_member ∈ wT := wu (wtab_4 (List.mem_of_getElem? (i := 81) (by decide +kernel))) rfl
theorem wz_X7_member : Cond.selects RX7 yX7_member yX7_member ∈ wT := wu (wtab_4 (List.mem_of_getElem? (i := 82) (by decide +kernel))) rfl
theorem ml_L_45 : ML R_law 45 yX7_member cX7_member 4 (some .int) 2 := ml_of (wu (wtab_4 (List.mem_of_getElem? (i := 80) (by decide +kernel))) rfl) wi_X7_member wz_X7_member wq_X7 wc_X7_member wd_X7_member
theorem wc_X8_member : Cond.code yX8_member cX8_member 3 (some .int) ∈ wT := wu (wtab_6 (List.mem_of_getElem? (i := 219) (by rfl))) rfl
theorem wd_X8_member : yX8_member.cls ≠ "java/lang/invoke/MethodHandle" ∧ yX8_member.cls ≠ "java/lang/invoke/VarHandle" ∧ (parseMethodDescriptor yX8_member.desc).map (fun d => d.parameters.length) = some 2 := ⟨by decide +kernel, by decide +kernel, by decide +kernel⟩
theorem wi_X8_member : Cond.instanceMethod yX8_member ∈ wT := wu (wtab_6 (List.mem_of_getElem? (i := 217) (by decide +kernel))) rfl
theorem wz_X8_member : Cond.selects RX8 yX8_member yX8_member ∈ wT := wu (wtab_6 (List.mem_of_getElem? (i := 218) (by decide +kernel))) rfl
theorem ml_L_48 : ML R_law 48 yX8_member cX8_member 3 (some .int) 2 := ml_of (wu (wtab_6 (List.mem_of_getElem? (i := 216) (by decide +kernel))) rfl) wi_X8_member wz_X8_member wq_X8 wc_X8_member wd_X8_member
theorem wc_X7_seen : Cond.code yX7_seen cX7_seen 5 (some .int) ∈ wT := wu (wtab_4 (List.mem_of_getElem? (i := 91) (by rfl))) rfl
theorem wd_X7_seen : yX7_seen.cls ≠ "java/lang/invoke/MethodHandle" ∧ yX7_seen.cls ≠ "java/lang/invoke/VarHandle" ∧ (parseMethodDescriptor yX7_seen.desc).map (fun d => d.parameters.length) = some 3 := ⟨by decide +kernel, by decide +kernel, by decide +kernel⟩
theorem wi_X7_seen : Cond.instanceMethod yX7_seen ∈ wT := wu (wtab_4 (List.mem_of_getElem? (i := 89) (by decide +kernel))) rfl
theorem wz_X7_seen : Cond.selects RX7 yX7_seen yX7_seen ∈ wT := wu (wtab_4 (List.mem_of_getElem? (i := 90) (by decide +kernel))) rfl
theorem ml_L_49 : ML R_law 49 yX7_seen cX7_seen 5 (some .int) 3 := ml_of (wu (wtab_4 (List.mem_of_getElem? (i := 88) (by decide +kernel))) rfl) wi_X7_seen wz_X7_seen wq_X7 wc_X7_seen wd_X7_seen
theorem wc_X8_seen : Cond.code yX8_seen cX8_seen 4 (some .int) ∈ wT := wu (wtab_6 (List.mem_of_getElem? (i := 227) (by rfl))) rfl
theorem wd_X8_seen : yX8_seen.cls ≠ "java/lang/invoke/MethodHandle" ∧ yX8_seen.cls ≠ "java/lang/invoke/VarHandle" ∧ (parseMethodDescriptor yX8_seen.desc).map (fun d => d.parameters.length) = some 3 := ⟨by decide +kernel, by decide +kernel, by decide +kernel⟩
theorem wi_X8_seen : Cond.instanceMethod yX8_seen ∈ wT := wu (wtab_6 (List.mem_of_getElem? (i := 225) (by decide +kernel))) rfl
theorem wz_X8_seen : Cond.selects RX8 yX8_seen yX8_seen ∈ wT := wu (wtab_6 (List.mem_of_getElem? (i := 226) (by decide +kernel))) rfl
theorem ml_L_53 : ML R_law 53 yX8_seen cX8_seen 4 (some .int) 3 := ml_of (wu (wtab_6 (List.mem_of_getElem? (i := 224) (by decide +kernel))) rfl) wi_X8_seen wz_X8_seen wq_X8 wc_X8_seen wd_X8_seen
theorem wc_X7_erased : Cond.code yX7_erased cX7_erased 3 (some .int) ∈ wT := wu (wtab_4 (List.mem_of_getElem? (i := 96) (by rfl))) rfl
theorem wd_X7_erased : yX7_erased.cls ≠ "java/lang/invoke/MethodHandle" ∧ yX7_erased.cls ≠ "java/lang/invoke/VarHandle" ∧ (parseMethodDescriptor yX7_erased.desc).map (fun d => d.parameters.length) = some 2 := ⟨by decide +kernel, by decide +kernel, by decide +kernel⟩
theorem wi_X7_erased : Cond.instanceMethod yX7_erased ∈ wT := wu (wtab_4 (List.mem_of_getElem? (i := 94) (by decide +kernel))) rfl
theorem wz_X7_erased : Cond.selects RX7 yX7_erased yX7_erased ∈ wT := wu (wtab_4 (List.mem_of_getElem? (i := 95) (by decide +kernel))) rfl
theorem ml_L_54 : ML R_law 54 yX7_erased cX7_erased 3 (some .int) 2 := ml_of (wu (wtab_4 (List.mem_of_getElem? (i := 93) (by decide +kernel))) rfl) wi_X7_erased wz_X7_erased wq_X7 wc_X7_erased wd_X7_erased
theorem wc_X8_erased : Cond.code yX8_erased cX8_erased 3 (some .int) ∈ wT := wu (wtab_6 (List.mem_of_getElem? (i := 231) (by rfl))) rfl
theorem wd_X8_erased : yX8_erased.cls ≠ "java/lang/invoke/MethodHandle" ∧ yX8_erased.cls ≠ "java/lang/invoke/VarHandle" ∧ (parseMethodDescriptor yX8_erased.desc).map (fun d => d.parameters.length) = some 2 := ⟨by decide +kernel, by decide +kernel, by decide +kernel⟩
theorem wi_X8_erased : Cond.instanceMethod yX8_erased ∈ wT := wu (wtab_6 (List.mem_of_getElem? (i := 229) (by decide +kernel))) rfl
theorem wz_X8_erased : Cond.selects RX8 yX8_erased yX8_erased ∈ wT := wu (wtab_6 (List.mem_of_getElem? (i := 230) (by decide +kernel))) rfl
theorem ml_L_57 : ML R_law 57 yX8_erased cX8_erased 3 (some .int) 2 := ml_of (wu (wtab_6 (List.mem_of_getElem? (i := 228) (by decide +kernel))) rfl) wi_X8_erased wz_X8_erased wq_X8 wc_X8_erased wd_X8_erased
theorem wc_X7_overrides : Cond.code yX7_overrides cX7_overrides 3 (some .int) ∈ wT := wu (wtab_4 (List.mem_of_getElem? (i := 103) (by rfl))) rfl
theorem wd_X7_overrides : yX7_overrides.cls ≠ "java/lang/invoke/MethodHandle" ∧ yX7_overrides.cls ≠ "java/lang/invoke/VarHandle" ∧ (parseMethodDescriptor yX7_overrides.desc).map (fun d => d.parameters.length) = some 2 := ⟨by decide +kernel, by decide +kernel, by decide +kernel⟩
theorem wi_X7_overrides : Cond.instanceMethod yX7_overrides ∈ wT := wu (wtab_4 (List.mem_of_getElem? (i := 101) (by decide +kernel))) rfl
theorem wz_X7_overrides : Cond.selects RX7 yX7_overrides yX7_overrides ∈ wT := wu (wtab_4 (List.mem_of_getElem? (i := 102) (by decide +kernel))) rfl
theorem ml_L_58 : ML R_law 58 yX7_overrides cX7_overrides 3 (some .int) 2 := ml_of (wu (wtab_4 (List.mem_of_getElem? (i := 100) (by decide +kernel))) rfl) wi_X7_overrides wz_X7_overrides wq_X7 wc_X7_overrides wd_X7_overrides
theorem wc_X8_overrides : Cond.code yX8_overrides cX8_overrides 3 (some .int) ∈ wT := wu (wtab_6 (List.mem_of_getElem? (i := 235) (by rfl))) rfl
theorem wd_X8_overrides : yX8_overrides.cls ≠ "java/lang/invoke/MethodHandle" ∧ yX8_overrides.cls ≠ "java/lang/invoke/VarHandle" ∧ (parseMethodDescriptor yX8_overrides.desc).map (fun d => d.parameters.length) = some 2 := ⟨by decide +kernel, by decide +kernel, by decide +kernel⟩
theorem wi_X8_overrides : Cond.instanceMethod yX8_overrides ∈ wT := wu (wtab_6 (List.mem_of_getElem? (i := 233) (by decide +kernel))) rfl
theorem wz_X8_overrides : Cond.selects RX8 yX8_overrides yX8_overrides ∈ wT := wu (wtab_6 (List.mem_of_getElem? (i := 234) (by decide +kernel))) rfl
theorem ml_L_61 : ML R_law 61 yX8_overrides cX8_overrides 3 (some .int) 2 := ml_of (wu (wtab_6 (List.mem_of_getElem? (i := 232) (by decide +kernel))) rfl) wi_X8_overrides wz_X8_overrides wq_X8 wc_X8_overrides wd_X8_overrides
theorem wc_X7_bridge : Cond.code yX7_bridge cX7_bridge 7 (some .int) ∈ wT := wu (wtab_4 (List.mem_of_getElem? (i := 108) (by rfl))) rfl
theorem wd_X7_bridge : yX7_bridge.cls ≠ "java/lang/invoke/MethodHandle" ∧ yX7_bridge.cls ≠ "java/lang/invoke/VarHandle" ∧ (parseMethodDescriptor yX7_bridge.desc).map (fun d => d.parameters.length) = some 3 := ⟨by decide +kernel, by decide +kernel, by decide +kernel⟩
theorem wi_X7_bridge : Cond.instanceMethod yX7_bridge ∈ wT := wu (wtab_4 (List.mem_of_getElem? (i := 106) (by decide +kernel))) rfl
theorem wz_X7_bridge : Cond.selects RX7 yX7_bridge yX7_bridge ∈ wT := wu (wtab_4 (List.mem_of_getElem? (i := 107) (by decide +kernel))) rfl
theorem ml_L_62 : ML R_law 62 yX7_bridge cX7_bridge 7 (some .int) 3 := ml_of (wu (wtab_4 (List.mem_of_getElem? (i := 105) (by decide +kernel))) rfl) wi_X7_bridge wz_X7_bridge wq_X7 wc_X7_bridge wd_X7_bridge
theorem wc_X8_bridge : Cond.code yX8_bridge cX8_bridge 6 (some .int) ∈ wT := wu (wtab_6 (List.mem_of_getElem? (i := 239) (by rfl))) rfl
theorem wd_X8_bridge : yX8_bridge.cls ≠ "java/lang/invoke/MethodHandle" ∧ yX8_bridge.cls ≠ "java/lang/invoke/VarHandle" ∧ (parseMethodDescriptor yX8_bridge.desc).map (fun d => d.parameters.length) = some 3 := ⟨by decide +kernel, by decide +kernel, by decide +kernel⟩
theorem wi_X8_bridge : Cond.instanceMethod yX8_bridge ∈ wT := wu (wtab_6 (List.mem_of_getElem? (i := 237) (by decide +kernel))) rfl
theorem wz_X8_bridge : Cond.selects RX8 yX8_bridge yX8_bridge ∈ wT := wu (wtab_6 (List.mem_of_getElem? (i := 238) (by decide +kernel))) rfl
theorem ml_L_65 : ML R_law 65 yX8_bridge cX8_bridge 6 (some .int) 3 := ml_of (wu (wtab_6 (List.mem_of_getElem? (i := 236) (by decide +kernel))) rfl) wi_X8_bridge wz_X8_bridge wq_X8 wc_X8_bridge wd_X8_bridge
theorem wc_X7_same : Cond.code yX7_same cX7_same 4 (some .int) ∈ wT := wu (wtab_4 (List.mem_of_getElem? (i := 112) (by rfl))) rfl
theorem wd_X7_same : yX7_same.cls ≠ "java/lang/invoke/MethodHandle" ∧ yX7_same.cls ≠ "java/lang/invoke/VarHandle" ∧ (parseMethodDescriptor yX7_same.desc).map (fun d => d.parameters.length) = some 3 := ⟨by decide +kernel, by decide +kernel, by decide +kernel⟩
theorem wi_X7_same : Cond.instanceMethod yX7_same ∈ wT := wu (wtab_4 (List.mem_of_getElem? (i := 110) (by decide +kernel))) rfl
theorem wz_X7_same : Cond.selects RX7 yX7_same yX7_same ∈ wT := wu (wtab_4 (List.mem_of_getElem? (i := 111) (by decide +kernel))) rfl
theorem ml_L_66 : ML R_law 66 yX7_same cX7_same 4 (some .int) 3 := ml_of (wu (wtab_4 (List.mem_of_getElem? (i := 109) (by decide +kernel))) rfl) wi_X7_same wz_X7_same wq_X7 wc_X7_same wd_X7_same
theorem wc_X8_same : Cond.code yX8_same cX8_same 4 (some .int) ∈ wT := wu (wtab_7 (List.mem_of_getElem? (i := 3) (by rfl))) rfl
theorem wd_X8_same : yX8_same.cls ≠ "java/lang/invoke/MethodHandle" ∧ yX8_same.cls ≠ "java/lang/invoke/VarHandle" ∧ (parseMethodDescriptor yX8_same.desc).map (fun d => d.parameters.length) = some 3 := ⟨by decide +kernel, by decide +kernel, by decide +kernel⟩
theorem wi_X8_same : Cond.instanceMethod yX8_same ∈ wT := wu (wtab_7 (List.mem_of_getElem? (i := 1) (by decide +kernel))) rfl
theorem wz_X8_same : Cond.selects RX8 yX8_same yX8_same ∈ wT := wu (wtab_7 (List.mem_of_getElem? (i := 2) (by decide +kernel))) rfl
theorem ml_L_70 : ML R_law 70 yX8_same cX8_same 4 (some .int) 3 := ml_of (wu (wtab_7 (List.mem_of_getElem? (i := 0) (by decide +kernel))) rfl) wi_X8_same wz_X8_same wq_X8 wc_X8_same wd_X8_same
theorem wc_X7_lookup : Cond.code yX7_lookup cX7_lookup 3 (some .int) ∈ wT := wu (wtab_4 (List.mem_of_getElem? (i := 121) (by rfl))) rfl
theorem wd_X7_lookup : yX7_lookup.cls ≠ "java/lang/invoke/MethodHandle" ∧ yX7_lookup.cls ≠ "java/lang/invoke/VarHandle" ∧ (parseMethodDescriptor yX7_lookup.desc).map (fun d => d.parameters.length) = some 2 := ⟨by decide +kernel, by decide +kernel, by decide +kernel⟩
theorem wi_X7_lookup : Cond.instanceMethod yX7_lookup ∈ wT := wu (wtab_4 (List.mem_of_getElem? (i := 119) (by decide +kernel))) rfl
theorem wz_X7_lookup : Cond.selects RX7 yX7_lookup yX7_lookup ∈ wT := wu (wtab_4 (List.mem_of_getElem? (i := 120) (by decide +kernel))) rfl
theorem ml_L_71 : ML R_law 71 yX7_lookup cX7_lookup 3 (some .int) 2 := ml_of (wu (wtab_4 (List.mem_of_getElem? (i := 118) (by decide +kernel))) rfl) wi_X7_lookup wz_X7_lookup wq_X7 wc_X7_lookup wd_X7_lookup
theorem wc_X8_lookup : Cond.code yX8_lookup cX8_lookup 4 (some .int) ∈ wT := wu (wtab_7 (List.mem_of_getElem? (i := 7) (by rfl))) rfl
theorem wd_X8_lookup : yX8_lookup.cls ≠ "java/lang/invoke/MethodHandle" ∧ yX8_lookup.cls ≠ "java/lang/invoke/VarHandle" ∧ (parseMethodDescriptor yX8_lookup.desc).map (fun d => d.parameters.length) = some 2 := ⟨by decide +kernel, by decide +kernel, by decide +kernel⟩
theorem wi_X8_lookup : Cond.instanceMethod yX8_lookup ∈ wT := wu (wtab_7 (List.mem_of_getElem? (i := 5) (by decide +kernel))) rfl
theorem wz_X8_lookup : Cond.selects RX8 yX8_lookup yX8_lookup ∈ wT := wu (wtab_7 (List.mem_of_getElem? (i := 6) (by decide +kernel))) rfl
theorem ml_L_74 : ML R_law 74 yX8_lookup cX8_lookup 4 (some .int) 2 := ml_of (wu (wtab_7 (List.mem_of_getElem? (i := 4) (by decide +kernel))) rfl) wi_X8_lookup wz_X8_lookup wq_X8 wc_X8_lookup wd_X8_lookup
theorem wc_X7_specific : Cond.code yX7_specific cX7_specific 5 (some .int) ∈ wT := wu (wtab_4 (List.mem_of_getElem? (i := 165) (by rfl))) rfl
theorem wd_X7_specific : yX7_specific.cls ≠ "java/lang/invoke/MethodHandle" ∧ yX7_specific.cls ≠ "java/lang/invoke/VarHandle" ∧ (parseMethodDescriptor yX7_specific.desc).map (fun d => d.parameters.length) = some 3 := ⟨by decide +kernel, by decide +kernel, by decide +kernel⟩
theorem wi_X7_specific : Cond.instanceMethod yX7_specific ∈ wT := wu (wtab_4 (List.mem_of_getElem? (i := 163) (by decide +kernel))) rfl
theorem wz_X7_specific : Cond.selects RX7 yX7_specific yX7_specific ∈ wT := wu (wtab_4 (List.mem_of_getElem? (i := 164) (by decide +kernel))) rfl
theorem ml_L_75 : ML R_law 75 yX7_specific cX7_specific 5 (some .int) 3 := ml_of (wu (wtab_4 (List.mem_of_getElem? (i := 162) (by decide +kernel))) rfl) wi_X7_specific wz_X7_specific wq_X7 wc_X7_specific wd_X7_specific
theorem wc_X8_specific : Cond.code yX8_specific cX8_specific 5 (some .int) ∈ wT := wu (wtab_7 (List.mem_of_getElem? (i := 51) (by rfl))) rfl
theorem wd_X8_specific : yX8_specific.cls ≠ "java/lang/invoke/MethodHandle" ∧ yX8_specific.cls ≠ "java/lang/invoke/VarHandle" ∧ (parseMethodDescriptor yX8_specific.desc).map (fun d => d.parameters.length) = some 3 := ⟨by decide +kernel, by decide +kernel, by decide +kernel⟩
theorem wi_X8_specific : Cond.instanceMethod yX8_specific ∈ wT := wu (wtab_7 (List.mem_of_getElem? (i := 49) (by decide +kernel))) rfl
theorem wz_X8_specific : Cond.selects RX8 yX8_specific yX8_specific ∈ wT := wu (wtab_7 (List.mem_of_getElem? (i := 50) (by decide +kernel))) rfl
theorem ml_L_78 : ML R_law 78 yX8_specific cX8_specific 5 (some .int) 3 := ml_of (wu (wtab_7 (List.mem_of_getElem? (i := 48) (by decide +kernel))) rfl) wi_X8_specific wz_X8_specific wq_X8 wc_X8_specific wd_X8_specific
theorem wc_X7_may : Cond.code yX7_may cX7_may 6 (some .int) ∈ wT := wu (wtab_4 (List.mem_of_getElem? (i := 173) (by rfl))) rfl
theorem wd_X7_may : yX7_may.cls ≠ "java/lang/invoke/MethodHandle" ∧ yX7_may.cls ≠ "java/lang/invoke/VarHandle" ∧ (parseMethodDescriptor yX7_may.desc).map (fun d => d.parameters.length) = some 4 := ⟨by decide +kernel, by decide +kernel, by decide +kernel⟩
theorem wi_X7_may : Cond.instanceMethod yX7_may ∈ wT := wu (wtab_4 (List.mem_of_getElem? (i := 171) (by decide +kernel))) rfl
theorem wz_X7_may : Cond.selects RX7 yX7_may yX7_may ∈ wT := wu (wtab_4 (List.mem_of_getElem? (i := 172) (by decide +kernel))) rfl
theorem ml_L_79 : ML R_law 79 yX7_may cX7_may 6 (some .int) 4 := ml_of (wu (wtab_4 (List.mem_of_getElem? (i := 170) (by decide +kernel))) rfl) wi_X7_may wz_X7_may wq_X7 wc_X7_may wd_X7_may
theorem wc_X8_may : Cond.code yX8_may cX8_may 6 (some .int) ∈ wT := wu (wtab_7 (List.mem_of_getElem? (i := 55) (by rfl))) rfl
theorem wd_X8_may : yX8_may.cls ≠ "java/lang/invoke/MethodHandle" ∧ yX8_may.cls ≠ "java/lang/invoke/VarHandle" ∧ (parseMethodDescriptor yX8_may.desc).map (fun d => d.parameters.length) = some 4 := ⟨by decide +kernel, by decide +kernel, by decide +kernel⟩
theorem wi_X8_may : Cond.instanceMethod yX8_may ∈ wT := wu (wtab_7 (List.mem_of_getElem? (i := 53) (by decide +kernel))) rfl
theorem wz_X8_may : Cond.selects RX8 yX8_may yX8_may ∈ wT := wu (wtab_7 (List.mem_of_getElem? (i := 54) (by decide +kernel))) rfl
theorem ml_L_83 : ML R_law 83 yX8_may cX8_may 6 (some .int) 4 := ml_of (wu (wtab_7 (List.mem_of_getElem? (i := 52) (by decide +kernel))) rfl) wi_X8_may wz_X8_may wq_X8 wc_X8_may wd_X8_may
theorem wc_X7_rule : Cond.code yX7_rule cX7_rule 7 (some .int) ∈ wT := wu (wtab_4 (List.mem_of_getElem? (i := 188) (by rfl))) rfl
theorem wd_X7_rule : yX7_rule.cls ≠ "java/lang/invoke/MethodHandle" ∧ yX7_rule.cls ≠ "java/lang/invoke/VarHandle" ∧ (parseMethodDescriptor yX7_rule.desc).map (fun d => d.parameters.length) = some 5 := ⟨by decide +kernel, by decide +kernel, by decide +kernel⟩
theorem wi_X7_rule : Cond.instanceMethod yX7_rule ∈ wT := wu (wtab_4 (List.mem_of_getElem? (i := 186) (by decide +kernel))) rfl
theorem wz_X7_rule : Cond.selects RX7 yX7_rule yX7_rule ∈ wT := wu (wtab_4 (List.mem_of_getElem? (i := 187) (by decide +kernel))) rfl
theorem ml_L_84 : ML R_law 84 yX7_rule cX7_rule 7 (some .int) 5 := ml_of (wu (wtab_4 (List.mem_of_getElem? (i := 185) (by decide +kernel))) rfl) wi_X7_rule wz_X7_rule wq_X7 wc_X7_rule wd_X7_rule
theorem wc_X8_rule : Cond.code yX8_rule cX8_rule 7 (some .int) ∈ wT := wu (wtab_7 (List.mem_of_getElem? (i := 63) (by rfl))) rfl
theorem wd_X8_rule : yX8_rule.cls ≠ "java/lang/invoke/MethodHandle" ∧ yX8_rule.cls ≠ "java/lang/invoke/VarHandle" ∧ (parseMethodDescriptor yX8_rule.desc).map (fun d => d.parameters.length) = some 5 := ⟨by decide +kernel, by decide +kernel, by decide +kernel⟩
theorem wi_X8_rule : Cond.instanceMethod yX8_rule ∈ wT := wu (wtab_7 (List.mem_of_getElem? (i := 61) (by decide +kernel))) rfl
theorem wz_X8_rule : Cond.selects RX8 yX8_rule yX8_rule ∈ wT := wu (wtab_7 (List.mem_of_getElem? (i := 62) (by decide +kernel))) rfl
theorem ml_L_87 : ML R_law 87 yX8_rule cX8_rule 7 (some .int) 5 := ml_of (wu (wtab_7 (List.mem_of_getElem? (i := 60) (by decide +kernel))) rfl) wi_X8_rule wz_X8_rule wq_X8 wc_X8_rule wd_X8_rule
theorem wc_X7_hops : Cond.code yX7_hops cX7_hops 1 (some .int) ∈ wT := wu (wtab_4 (List.mem_of_getElem? (i := 238) (by rfl))) rfl
theorem wd_X7_hops : yX7_hops.cls ≠ "java/lang/invoke/MethodHandle" ∧ yX7_hops.cls ≠ "java/lang/invoke/VarHandle" ∧ (parseMethodDescriptor yX7_hops.desc).map (fun d => d.parameters.length) = some 0 := ⟨by decide +kernel, by decide +kernel, by decide +kernel⟩
theorem wi_X7_hops : Cond.instanceMethod yX7_hops ∈ wT := wu (wtab_4 (List.mem_of_getElem? (i := 236) (by decide +kernel))) rfl
theorem wz_X7_hops : Cond.selects RX7 yX7_hops yX7_hops ∈ wT := wu (wtab_4 (List.mem_of_getElem? (i := 237) (by decide +kernel))) rfl
theorem ml_L_88 : ML R_law 88 yX7_hops cX7_hops 1 (some .int) 0 := ml_of (wu (wtab_4 (List.mem_of_getElem? (i := 235) (by decide +kernel))) rfl) wi_X7_hops wz_X7_hops wq_X7 wc_X7_hops wd_X7_hops
theorem wc_X8_hops : Cond.code yX8_hops cX8_hops 1 (some .int) ∈ wT := wu (wtab_7 (List.mem_of_getElem? (i := 95) (by rfl))) rfl
theorem wd_X8_hops : yX8_hops.cls ≠ "java/lang/invoke/MethodHandle" ∧ yX8_hops.cls ≠ "java/lang/invoke/VarHandle" ∧ (parseMethodDescriptor yX8_hops.desc).map (fun d => d.parameters.length) = some 0 := ⟨by decide +kernel, by decide +kernel, by decide +kernel⟩
theorem wi_X8_hops : Cond.instanceMethod yX8_hops ∈ wT := wu (wtab_7 (List.mem_of_getElem? (i := 93) (by decide +kernel))) rfl
theorem wz_X8_hops : Cond.selects RX8 yX8_hops yX8_hops ∈ wT := wu (wtab_7 (List.mem_of_getElem? (i := 94) (by decide +kernel))) rfl
theorem ml_L_91 : ML R_law 91 yX8_hops cX8_hops 1 (some .int) 0 := ml_of (wu (wtab_7 (List.mem_of_getElem? (i := 92) (by decide +kernel))) rfl) wi_X8_hops wz_X8_hops wq_X8 wc_X8_hops wd_X8_hops
theorem wc_X7_conflicts : Cond.code yX7_conflicts cX7_conflicts 2 (some .int) ∈ wT := wu (wtab_5 (List.mem_of_getElem? (i := 2) (by rfl))) rfl
theorem wd_X7_conflicts : yX7_conflicts.cls ≠ "java/lang/invoke/MethodHandle" ∧ yX7_conflicts.cls ≠ "java/lang/invoke/VarHandle" ∧ (parseMethodDescriptor yX7_conflicts.desc).map (fun d => d.parameters.length) = some 1 := ⟨by decide +kernel, by decide +kernel, by decide +kernel⟩
theorem wi_X7_conflicts : Cond.instanceMethod yX7_conflicts ∈ wT := wu (wtab_5 (List.mem_of_getElem? (i := 0) (by decide +kernel))) rfl
theorem wz_X7_conflicts : Cond.selects RX7 yX7_conflicts yX7_conflicts ∈ wT := wu (wtab_5 (List.mem_of_getElem? (i := 1) (by decide +kernel))) rfl
theorem ml_L_92 : ML R_law 92 yX7_conflicts cX7_conflicts 2 (some .int) 1 := ml_of (wu (wtab_4 (List.mem_of_getElem? (i := 239) (by decide +kernel))) rfl) wi_X7_conflicts wz_X7_conflicts wq_X7 wc_X7_conflicts wd_X7_conflicts
theorem wc_X8_conflicts : Cond.code yX8_conflicts cX8_conflicts 2 (some .int) ∈ wT := wu (wtab_7 (List.mem_of_getElem? (i := 99) (by rfl))) rfl
theorem wd_X8_conflicts : yX8_conflicts.cls ≠ "java/lang/invoke/MethodHandle" ∧ yX8_conflicts.cls ≠ "java/lang/invoke/VarHandle" ∧ (parseMethodDescriptor yX8_conflicts.desc).map (fun d => d.parameters.length) = some 1 := ⟨by decide +kernel, by decide +kernel, by decide +kernel⟩
theorem wi_X8_conflicts : Cond.instanceMethod yX8_conflicts ∈ wT := wu (wtab_7 (List.mem_of_getElem? (i := 97) (by decide +kernel))) rfl
theorem wz_X8_conflicts : Cond.selects RX8 yX8_conflicts yX8_conflicts ∈ wT := wu (wtab_7 (List.mem_of_getElem? (i := 98) (by decide +kernel))) rfl
theorem ml_L_95 : ML R_law 95 yX8_conflicts cX8_conflicts 2 (some .int) 1 := ml_of (wu (wtab_7 (List.mem_of_getElem? (i := 96) (by decide +kernel))) rfl) wi_X8_conflicts wz_X8_conflicts wq_X8 wc_X8_conflicts wd_X8_conflicts
theorem wc_X7_tally : Cond.code yX7_tally cX7_tally 3 (some .int) ∈ wT := wu (wtab_5 (List.mem_of_getElem? (i := 14) (by rfl))) rfl
theorem wd_X7_tally : yX7_tally.cls ≠ "java/lang/invoke/MethodHandle" ∧ yX7_tally.cls ≠ "java/lang/invoke/VarHandle" ∧ (parseMethodDescriptor yX7_tally.desc).map (fun d => d.parameters.length) = some 2 := ⟨by decide +kernel, by decide +kernel, by decide +kernel⟩
theorem wi_X7_tally : Cond.instanceMethod yX7_tally ∈ wT := wu (wtab_5 (List.mem_of_getElem? (i := 12) (by decide +kernel))) rfl
theorem wz_X7_tally : Cond.selects RX7 yX7_tally yX7_tally ∈ wT := wu (wtab_5 (List.mem_of_getElem? (i := 13) (by decide +kernel))) rfl
theorem ml_L_96 : ML R_law 96 yX7_tally cX7_tally 3 (some .int) 2 := ml_of (wu (wtab_5 (List.mem_of_getElem? (i := 11) (by decide +kernel))) rfl) wi_X7_tally wz_X7_tally wq_X7 wc_X7_tally wd_X7_tally
theorem wc_X8_tally : Cond.code yX8_tally cX8_tally 3 (some .int) ∈ wT := wu (wtab_7 (List.mem_of_getElem? (i := 107) (by rfl))) rfl
theorem wd_X8_tally : yX8_tally.cls ≠ "java/lang/invoke/MethodHandle" ∧ yX8_tally.cls ≠ "java/lang/invoke/VarHandle" ∧ (parseMethodDescriptor yX8_tally.desc).map (fun d => d.parameters.length) = some 2 := ⟨by decide +kernel, by decide +kernel, by decide +kernel⟩
theorem wi_X8_tally : Cond.instanceMethod yX8_tally ∈ wT := wu (wtab_7 (List.mem_of_getElem? (i := 105) (by decide +kernel))) rfl
theorem wz_X8_tally : Cond.selects RX8 yX8_tally yX8_tally ∈ wT := wu (wtab_7 (List.mem_of_getElem? (i := 106) (by decide +kernel))) rfl
theorem ml_L_99 : ML R_law 99 yX8_tally cX8_tally 3 (some .int) 2 := ml_of (wu (wtab_7 (List.mem_of_getElem? (i := 104) (by decide +kernel))) rfl) wi_X8_tally wz_X8_tally wq_X8 wc_X8_tally wd_X8_tally
theorem wc_X7_told : Cond.code yX7_told cX7_told 2 (some .int) ∈ wT := wu (wtab_5 (List.mem_of_getElem? (i := 18) (by rfl))) rfl
theorem wd_X7_told : yX7_told.cls ≠ "java/lang/invoke/MethodHandle" ∧ yX7_told.cls ≠ "java/lang/invoke/VarHandle" ∧ (parseMethodDescriptor yX7_told.desc).map (fun d => d.parameters.length) = some 1 := ⟨by decide +kernel, by decide +kernel, by decide +kernel⟩
theorem wi_X7_told : Cond.instanceMethod yX7_told ∈ wT := wu (wtab_5 (List.mem_of_getElem? (i := 16) (by decide +kernel))) rfl
theorem wz_X7_told : Cond.selects RX7 yX7_told yX7_told ∈ wT := wu (wtab_5 (List.mem_of_getElem? (i := 17) (by decide +kernel))) rfl
theorem ml_L_100 : ML R_law 100 yX7_told cX7_told 2 (some .int) 1 := ml_of (wu (wtab_5 (List.mem_of_getElem? (i := 15) (by decide +kernel))) rfl) wi_X7_told wz_X7_told wq_X7 wc_X7_told wd_X7_told
theorem wc_X8_told : Cond.code yX8_told cX8_told 2 (some .int) ∈ wT := wu (wtab_7 (List.mem_of_getElem? (i := 111) (by rfl))) rfl
theorem wd_X8_told : yX8_told.cls ≠ "java/lang/invoke/MethodHandle" ∧ yX8_told.cls ≠ "java/lang/invoke/VarHandle" ∧ (parseMethodDescriptor yX8_told.desc).map (fun d => d.parameters.length) = some 1 := ⟨by decide +kernel, by decide +kernel, by decide +kernel⟩
theorem wi_X8_told : Cond.instanceMethod yX8_told ∈ wT := wu (wtab_7 (List.mem_of_getElem? (i := 109) (by decide +kernel))) rfl
theorem wz_X8_told : Cond.selects RX8 yX8_told yX8_told ∈ wT := wu (wtab_7 (List.mem_of_getElem? (i := 110) (by decide +kernel))) rfl
theorem ml_L_103 : ML R_law 103 yX8_told cX8_told 2 (some .int) 1 := ml_of (wu (wtab_7 (List.mem_of_getElem? (i := 108) (by decide +kernel))) rfl) wi_X8_told wz_X8_told wq_X8 wc_X8_told wd_X8_told
