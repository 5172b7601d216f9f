/-! PlanTextLaw.law([I)Z -/
abbrev y_La_law : MethodName := ⟨"PlanTextLaw", "law", "([I)Z"⟩
theorem d_La_law_0 : decode code 0 = .ok (.new 8, 3) := by decide +kernel
theorem d_La_law_3 : decode code 3 = .ok (.dup, 1) := by decide +kernel
theorem d_La_law_4 : decode code 4 = .ok (.invokespecial 59, 3) := by decide +kernel
theorem d_La_law_7 : decode code 7 = .ok (.astore_n 1, 1) := by decide +kernel
theorem d_La_law_8 : decode code 8 = .ok (.new 60, 3) := by decide +kernel
theorem d_La_law_11 : decode code 11 = .ok (.dup, 1) := by decide +kernel
theorem d_La_law_12 : decode code 12 = .ok (.invokespecial 62, 3) := by decide +kernel
theorem d_La_law_15 : decode code 15 = .ok (.astore_n 2, 1) := by decide +kernel
theorem d_La_law_16 : decode code 16 = .ok (.iconst 1, 1) := by decide +kernel
theorem d_La_law_17 : decode code 17 = .ok (.newarray .long, 2) := by decide +kernel
theorem d_La_law_19 : decode code 19 = .ok (.astore_n 3, 1) := by decide +kernel
theorem d_La_law_20 : decode code 20 = .ok (.iconst 0, 1) := by decide +kernel
theorem d_La_law_21 : decode code 21 = .ok (.istore 4, 2) := by decide +kernel
theorem d_La_law_23 : decode code 23 = .ok (.iload 4, 2) := by decide +kernel
theorem d_La_law_25 : decode code 25 = .ok (.aload_n 0, 1) := by decide +kernel
theorem d_La_law_26 : decode code 26 = .ok (.arraylength, 1) := by decide +kernel
theorem d_La_law_27 : decode code 27 = .ok (.bipush 6, 2) := by decide +kernel
theorem d_La_law_29 : decode code 29 = .ok (.isub, 1) := by decide +kernel
theorem d_La_law_30 : decode code 30 = .ok (.if_icmp .gt 937, 3) := by decide +kernel
theorem d_La_law_33 : decode code 33 = .ok (.aload_n 0, 1) := by decide +kernel
theorem d_La_law_34 : decode code 34 = .ok (.iload 4, 2) := by decide +kernel
theorem d_La_law_36 : decode code 36 = .ok (.iaload, 1) := by decide +kernel
theorem d_La_law_37 : decode code 37 = .ok (.bipush 15, 2) := by decide +kernel
theorem d_La_law_39 : decode code 39 = .ok (.iand, 1) := by decide +kernel
theorem d_La_law_40 : decode code 40 = .ok (.tableswitch 921 0 12 #[68, 168, 224, 237, 285, 389, 457, 549, 617, 685, 753, 809, 865], 68) := by decide +kernel
theorem d_La_law_108 : decode code 108 = .ok (.aload_n 1, 1) := by decide +kernel
theorem d_La_law_109 : decode code 109 = .ok (.aload_n 0, 1) := by decide +kernel
theorem d_La_law_110 : decode code 110 = .ok (.iload 4, 2) := by decide +kernel
theorem d_La_law_112 : decode code 112 = .ok (.iconst 1, 1) := by decide +kernel
theorem d_La_law_113 : decode code 113 = .ok (.iadd, 1) := by decide +kernel
theorem d_La_law_114 : decode code 114 = .ok (.iaload, 1) := by decide +kernel
theorem d_La_law_115 : decode code 115 = .ok (.i2l, 1) := by decide +kernel
theorem d_La_law_116 : decode code 116 = .ok (.bipush 32, 2) := by decide +kernel
theorem d_La_law_118 : decode code 118 = .ok (.lshl, 1) := by decide +kernel
theorem d_La_law_119 : decode code 119 = .ok (.aload_n 0, 1) := by decide +kernel
theorem d_La_law_120 : decode code 120 = .ok (.iload 4, 2) := by decide +kernel
theorem d_La_law_122 : decode code 122 = .ok (.iconst 2, 1) := by decide +kernel
theorem d_La_law_123 : decode code 123 = .ok (.iadd, 1) := by decide +kernel
theorem d_La_law_124 : decode code 124 = .ok (.iaload, 1) := by decide +kernel
theorem d_La_law_125 : decode code 125 = .ok (.i2l, 1) := by decide +kernel
theorem d_La_law_126 : decode code 126 = .ok (.ldc2_w 63, 3) := by decide +kernel
theorem d_La_law_129 : decode code 129 = .ok (.land, 1) := by decide +kernel
theorem d_La_law_130 : decode code 130 = .ok (.lor, 1) := by decide +kernel
theorem d_La_law_131 : decode code 131 = .ok (.aload_n 0, 1) := by decide +kernel
theorem d_La_law_132 : decode code 132 = .ok (.iload 4, 2) := by decide +kernel
theorem d_La_law_134 : decode code 134 = .ok (.iconst 3, 1) := by decide +kernel
theorem d_La_law_135 : decode code 135 = .ok (.iadd, 1) := by decide +kernel
theorem d_La_law_136 : decode code 136 = .ok (.iaload, 1) := by decide +kernel
theorem d_La_law_137 : decode code 137 = .ok (.aload_n 3, 1) := by decide +kernel
theorem d_La_law_138 : decode code 138 = .ok (.invokestatic 65, 3) := by decide +kernel
theorem d_La_law_141 : decode code 141 = .ok (.istore 5, 2) := by decide +kernel
theorem d_La_law_143 : decode code 143 = .ok (.aload_n 2, 1) := by decide +kernel
theorem d_La_law_144 : decode code 144 = .ok (.aload_n 0, 1) := by decide +kernel
theorem d_La_law_145 : decode code 145 = .ok (.iload 4, 2) := by decide +kernel
theorem d_La_law_147 : decode code 147 = .ok (.iconst 1, 1) := by decide +kernel
theorem d_La_law_148 : decode code 148 = .ok (.iadd, 1) := by decide +kernel
theorem d_La_law_149 : decode code 149 = .ok (.iaload, 1) := by decide +kernel
theorem d_La_law_150 : decode code 150 = .ok (.i2l, 1) := by decide +kernel
theorem d_La_law_151 : decode code 151 = .ok (.bipush 32, 2) := by decide +kernel
theorem d_La_law_153 : decode code 153 = .ok (.lshl, 1) := by decide +kernel
theorem d_La_law_154 : decode code 154 = .ok (.aload_n 0, 1) := by decide +kernel
theorem d_La_law_155 : decode code 155 = .ok (.iload 4, 2) := by decide +kernel
theorem d_La_law_157 : decode code 157 = .ok (.iconst 2, 1) := by decide +kernel
theorem d_La_law_158 : decode code 158 = .ok (.iadd, 1) := by decide +kernel
theorem d_La_law_159 : decode code 159 = .ok (.iaload, 1) := by decide +kernel
theorem d_La_law_160 : decode code 160 = .ok (.i2l, 1) := by decide +kernel
theorem d_La_law_161 : decode code 161 = .ok (.ldc2_w 63, 3) := by decide +kernel
theorem d_La_law_164 : decode code 164 = .ok (.land, 1) := by decide +kernel
theorem d_La_law_165 : decode code 165 = .ok (.lor, 1) := by decide +kernel
theorem d_La_law_166 : decode code 166 = .ok (.aload_n 0, 1) := by decide +kernel
theorem d_La_law_167 : decode code 167 = .ok (.iload 4, 2) := by decide +kernel
theorem d_La_law_169 : decode code 169 = .ok (.iconst 3, 1) := by decide +kernel
theorem d_La_law_170 : decode code 170 = .ok (.iadd, 1) := by decide +kernel
theorem d_La_law_171 : decode code 171 = .ok (.iaload, 1) := by decide +kernel
theorem d_La_law_172 : decode code 172 = .ok (.invokevirtual 70, 3) := by decide +kernel
theorem d_La_law_175 : decode code 175 = .ok (.istore 6, 2) := by decide +kernel
theorem d_La_law_177 : decode code 177 = .ok (.aload_n 2, 1) := by decide +kernel
theorem d_La_law_178 : decode code 178 = .ok (.invokevirtual 71, 3) := by decide +kernel
theorem d_La_law_181 : decode code 181 = .ok (.iload 5, 2) := by decide +kernel
theorem d_La_law_183 : decode code 183 = .ok (.if_icmp .eq 5, 3) := by decide +kernel
theorem d_La_law_186 : decode code 186 = .ok (.iconst 0, 1) := by decide +kernel
theorem d_La_law_187 : decode code 187 = .ok (.ireturn, 1) := by decide +kernel
theorem d_La_law_188 : decode code 188 = .ok (.iload 5, 2) := by decide +kernel
theorem d_La_law_190 : decode code 190 = .ok (.ifCond .ne 15, 3) := by decide +kernel
theorem d_La_law_193 : decode code 193 = .ok (.aload_n 3, 1) := by decide +kernel
theorem d_La_law_194 : decode code 194 = .ok (.iconst 0, 1) := by decide +kernel
theorem d_La_law_195 : decode code 195 = .ok (.laload, 1) := by decide +kernel
theorem d_La_law_196 : decode code 196 = .ok (.iload 6, 2) := by decide +kernel
theorem d_La_law_198 : decode code 198 = .ok (.i2l, 1) := by decide +kernel
theorem d_La_law_199 : decode code 199 = .ok (.lcmp, 1) := by decide +kernel
theorem d_La_law_200 : decode code 200 = .ok (.ifCond .eq 5, 3) := by decide +kernel
theorem d_La_law_203 : decode code 203 = .ok (.iconst 0, 1) := by decide +kernel
theorem d_La_law_204 : decode code 204 = .ok (.ireturn, 1) := by decide +kernel
theorem d_La_law_205 : decode code 205 = .ok (.goto 756, 3) := by decide +kernel
theorem d_La_law_208 : decode code 208 = .ok (.aload_n 1, 1) := by decide +kernel
theorem d_La_law_209 : decode code 209 = .ok (.aload_n 0, 1) := by decide +kernel
theorem d_La_law_210 : decode code 210 = .ok (.iload 4, 2) := by decide +kernel
theorem d_La_law_212 : decode code 212 = .ok (.iconst 1, 1) := by decide +kernel
theorem d_La_law_213 : decode code 213 = .ok (.iadd, 1) := by decide +kernel
theorem d_La_law_214 : decode code 214 = .ok (.iaload, 1) := by decide +kernel
theorem d_La_law_215 : decode code 215 = .ok (.aload_n 3, 1) := by decide +kernel
theorem d_La_law_216 : decode code 216 = .ok (.invokestatic 75, 3) := by decide +kernel
theorem d_La_law_219 : decode code 219 = .ok (.istore 5, 2) := by decide +kernel
theorem d_La_law_221 : decode code 221 = .ok (.aload_n 2, 1) := by decide +kernel
theorem d_La_law_222 : decode code 222 = .ok (.aload_n 0, 1) := by decide +kernel
theorem d_La_law_223 : decode code 223 = .ok (.iload 4, 2) := by decide +kernel
theorem d_La_law_225 : decode code 225 = .ok (.iconst 1, 1) := by decide +kernel
theorem d_La_law_226 : decode code 226 = .ok (.iadd, 1) := by decide +kernel
theorem d_La_law_227 : decode code 227 = .ok (.iaload, 1) := by decide +kernel
theorem d_La_law_228 : decode code 228 = .ok (.invokevirtual 78, 3) := by decide +kernel
theorem d_La_law_231 : decode code 231 = .ok (.istore 6, 2) := by decide +kernel
theorem d_La_law_233 : decode code 233 = .ok (.aload_n 2, 1) := by decide +kernel
theorem d_La_law_234 : decode code 234 = .ok (.invokevirtual 71, 3) := by decide +kernel
theorem d_La_law_237 : decode code 237 = .ok (.iload 5, 2) := by decide +kernel
theorem d_La_law_239 : decode code 239 = .ok (.if_icmp .eq 5, 3) := by decide +kernel
theorem d_La_law_242 : decode code 242 = .ok (.iconst 0, 1) := by decide +kernel
theorem d_La_law_243 : decode code 243 = .ok (.ireturn, 1) := by decide +kernel
theorem d_La_law_244 : decode code 244 = .ok (.iload 5, 2) := by decide +kernel
theorem d_La_law_246 : decode code 246 = .ok (.ifCond .ne 15, 3) := by decide +kernel
theorem d_La_law_249 : decode code 249 = .ok (.aload_n 3, 1) := by decide +kernel
theorem d_La_law_250 : decode code 250 = .ok (.iconst 0, 1) := by decide +kernel
theorem d_La_law_251 : decode code 251 = .ok (.laload, 1) := by decide +kernel
theorem d_La_law_252 : decode code 252 = .ok (.iload 6, 2) := by decide +kernel
theorem d_La_law_254 : decode code 254 = .ok (.i2l, 1) := by decide +kernel
theorem d_La_law_255 : decode code 255 = .ok (.lcmp, 1) := by decide +kernel
theorem d_La_law_256 : decode code 256 = .ok (.ifCond .eq 5, 3) := by decide +kernel
theorem d_La_law_259 : decode code 259 = .ok (.iconst 0, 1) := by decide +kernel
theorem d_La_law_260 : decode code 260 = .ok (.ireturn, 1) := by decide +kernel
theorem d_La_law_261 : decode code 261 = .ok (.goto 700, 3) := by decide +kernel
theorem d_La_law_264 : decode code 264 = .ok (.aload_n 1, 1) := by decide +kernel
theorem d_La_law_265 : decode code 265 = .ok (.invokevirtual 79, 3) := by decide +kernel
theorem d_La_law_268 : decode code 268 = .ok (.aload_n 2, 1) := by decide +kernel
theorem d_La_law_269 : decode code 269 = .ok (.invokevirtual 82, 3) := by decide +kernel
theorem d_La_law_272 : decode code 272 = .ok (.if_icmp .eq 689, 3) := by decide +kernel
theorem d_La_law_275 : decode code 275 = .ok (.iconst 0, 1) := by decide +kernel
theorem d_La_law_276 : decode code 276 = .ok (.ireturn, 1) := by decide +kernel
theorem d_La_law_277 : decode code 277 = .ok (.aload_n 1, 1) := by decide +kernel
theorem d_La_law_278 : decode code 278 = .ok (.aload_n 0, 1) := by decide +kernel
theorem d_La_law_279 : decode code 279 = .ok (.iload 4, 2) := by decide +kernel
theorem d_La_law_281 : decode code 281 = .ok (.iconst 1, 1) := by decide +kernel
theorem d_La_law_282 : decode code 282 = .ok (.iadd, 1) := by decide +kernel
theorem d_La_law_283 : decode code 283 = .ok (.iaload, 1) := by decide +kernel
theorem d_La_law_284 : decode code 284 = .ok (.aload_n 0, 1) := by decide +kernel
theorem d_La_law_285 : decode code 285 = .ok (.iload 4, 2) := by decide +kernel
theorem d_La_law_287 : decode code 287 = .ok (.iconst 2, 1) := by decide +kernel
theorem d_La_law_288 : decode code 288 = .ok (.iadd, 1) := by decide +kernel
theorem d_La_law_289 : decode code 289 = .ok (.iaload, 1) := by decide +kernel
theorem d_La_law_290 : decode code 290 = .ok (.invokestatic 83, 3) := by decide +kernel
theorem d_La_law_293 : decode code 293 = .ok (.istore 5, 2) := by decide +kernel
theorem d_La_law_295 : decode code 295 = .ok (.aload_n 2, 1) := by decide +kernel
theorem d_La_law_296 : decode code 296 = .ok (.aload_n 0, 1) := by decide +kernel
theorem d_La_law_297 : decode code 297 = .ok (.iload 4, 2) := by decide +kernel
theorem d_La_law_299 : decode code 299 = .ok (.iconst 1, 1) := by decide +kernel
theorem d_La_law_300 : decode code 300 = .ok (.iadd, 1) := by decide +kernel
theorem d_La_law_301 : decode code 301 = .ok (.iaload, 1) := by decide +kernel
theorem d_La_law_302 : decode code 302 = .ok (.aload_n 0, 1) := by decide +kernel
theorem d_La_law_303 : decode code 303 = .ok (.iload 4, 2) := by decide +kernel
theorem d_La_law_305 : decode code 305 = .ok (.iconst 2, 1) := by decide +kernel
theorem d_La_law_306 : decode code 306 = .ok (.iadd, 1) := by decide +kernel
theorem d_La_law_307 : decode code 307 = .ok (.iaload, 1) := by decide +kernel
theorem d_La_law_308 : decode code 308 = .ok (.invokevirtual 86, 3) := by decide +kernel
theorem d_La_law_311 : decode code 311 = .ok (.aload_n 2, 1) := by decide +kernel
theorem d_La_law_312 : decode code 312 = .ok (.invokevirtual 71, 3) := by decide +kernel
theorem d_La_law_315 : decode code 315 = .ok (.iload 5, 2) := by decide +kernel
theorem d_La_law_317 : decode code 317 = .ok (.if_icmp .eq 5, 3) := by decide +kernel
theorem d_La_law_320 : decode code 320 = .ok (.iconst 0, 1) := by decide +kernel
theorem d_La_law_321 : decode code 321 = .ok (.ireturn, 1) := by decide +kernel
theorem d_La_law_322 : decode code 322 = .ok (.goto 639, 3) := by decide +kernel
theorem d_La_law_325 : decode code 325 = .ok (.aload_n 1, 1) := by decide +kernel
theorem d_La_law_326 : decode code 326 = .ok (.aload_n 0, 1) := by decide +kernel
theorem d_La_law_327 : decode code 327 = .ok (.iload 4, 2) := by decide +kernel
theorem d_La_law_329 : decode code 329 = .ok (.iconst 1, 1) := by decide +kernel
theorem d_La_law_330 : decode code 330 = .ok (.iadd, 1) := by decide +kernel
theorem d_La_law_331 : decode code 331 = .ok (.iaload, 1) := by decide +kernel
theorem d_La_law_332 : decode code 332 = .ok (.aload_n 0, 1) := by decide +kernel
theorem d_La_law_333 : decode code 333 = .ok (.iload 4, 2) := by decide +kernel
theorem d_La_law_335 : decode code 335 = .ok (.iconst 2, 1) := by decide +kernel
theorem d_La_law_336 : decode code 336 = .ok (.iadd, 1) := by decide +kernel
theorem d_La_law_337 : decode code 337 = .ok (.iaload, 1) := by decide +kernel
theorem d_La_law_338 : decode code 338 = .ok (.aload_n 0, 1) := by decide +kernel
theorem d_La_law_339 : decode code 339 = .ok (.iload 4, 2) := by decide +kernel
theorem d_La_law_341 : decode code 341 = .ok (.iconst 3, 1) := by decide +kernel
theorem d_La_law_342 : decode code 342 = .ok (.iadd, 1) := by decide +kernel
theorem d_La_law_343 : decode code 343 = .ok (.iaload, 1) := by decide +kernel
theorem d_La_law_344 : decode code 344 = .ok (.aload_n 0, 1) := by decide +kernel
theorem d_La_law_345 : decode code 345 = .ok (.iload 4, 2) := by decide +kernel
theorem d_La_law_347 : decode code 347 = .ok (.iconst 4, 1) := by decide +kernel
theorem d_La_law_348 : decode code 348 = .ok (.iadd, 1) := by decide +kernel
theorem d_La_law_349 : decode code 349 = .ok (.iaload, 1) := by decide +kernel
theorem d_La_law_350 : decode code 350 = .ok (.aload_n 0, 1) := by decide +kernel
theorem d_La_law_351 : decode code 351 = .ok (.iload 4, 2) := by decide +kernel
theorem d_La_law_353 : decode code 353 = .ok (.iconst 5, 1) := by decide +kernel
theorem d_La_law_354 : decode code 354 = .ok (.iadd, 1) := by decide +kernel
theorem d_La_law_355 : decode code 355 = .ok (.iaload, 1) := by decide +kernel
theorem d_La_law_356 : decode code 356 = .ok (.aload_n 3, 1) := by decide +kernel
theorem d_La_law_357 : decode code 357 = .ok (.invokestatic 87, 3) := by decide +kernel
theorem d_La_law_360 : decode code 360 = .ok (.istore 5, 2) := by decide +kernel
theorem d_La_law_362 : decode code 362 = .ok (.aload_n 2, 1) := by decide +kernel
theorem d_La_law_363 : decode code 363 = .ok (.aload_n 0, 1) := by decide +kernel
theorem d_La_law_364 : decode code 364 = .ok (.iload 4, 2) := by decide +kernel
theorem d_La_law_366 : decode code 366 = .ok (.iconst 1, 1) := by decide +kernel
theorem d_La_law_367 : decode code 367 = .ok (.iadd, 1) := by decide +kernel
theorem d_La_law_368 : decode code 368 = .ok (.iaload, 1) := by decide +kernel
theorem d_La_law_369 : decode code 369 = .ok (.aload_n 0, 1) := by decide +kernel
theorem d_La_law_370 : decode code 370 = .ok (.iload 4, 2) := by decide +kernel
theorem d_La_law_372 : decode code 372 = .ok (.iconst 2, 1) := by decide +kernel
theorem d_La_law_373 : decode code 373 = .ok (.iadd, 1) := by decide +kernel
theorem d_La_law_374 : decode code 374 = .ok (.iaload, 1) := by decide +kernel
theorem d_La_law_375 : decode code 375 = .ok (.aload_n 0, 1) := by decide +kernel
theorem d_La_law_376 : decode code 376 = .ok (.iload 4, 2) := by decide +kernel
theorem d_La_law_378 : decode code 378 = .ok (.iconst 3, 1) := by decide +kernel
theorem d_La_law_379 : decode code 379 = .ok (.iadd, 1) := by decide +kernel
theorem d_La_law_380 : decode code 380 = .ok (.iaload, 1) := by decide +kernel
theorem d_La_law_381 : decode code 381 = .ok (.aload_n 0, 1) := by decide +kernel
theorem d_La_law_382 : decode code 382 = .ok (.iload 4, 2) := by decide +kernel
theorem d_La_law_384 : decode code 384 = .ok (.iconst 4, 1) := by decide +kernel
theorem d_La_law_385 : decode code 385 = .ok (.iadd, 1) := by decide +kernel
theorem d_La_law_386 : decode code 386 = .ok (.iaload, 1) := by decide +kernel
theorem d_La_law_387 : decode code 387 = .ok (.aload_n 0, 1) := by decide +kernel
theorem d_La_law_388 : decode code 388 = .ok (.iload 4, 2) := by decide +kernel
theorem d_La_law_390 : decode code 390 = .ok (.iconst 5, 1) := by decide +kernel
theorem d_La_law_391 : decode code 391 = .ok (.iadd, 1) := by decide +kernel
theorem d_La_law_392 : decode code 392 = .ok (.iaload, 1) := by decide +kernel
theorem d_La_law_393 : decode code 393 = .ok (.invokevirtual 90, 3) := by decide +kernel
theorem d_La_law_396 : decode code 396 = .ok (.istore 6, 2) := by decide +kernel
theorem d_La_law_398 : decode code 398 = .ok (.aload_n 2, 1) := by decide +kernel
theorem d_La_law_399 : decode code 399 = .ok (.invokevirtual 71, 3) := by decide +kernel
theorem d_La_law_402 : decode code 402 = .ok (.iload 5, 2) := by decide +kernel
theorem d_La_law_404 : decode code 404 = .ok (.if_icmp .eq 5, 3) := by decide +kernel
theorem d_La_law_407 : decode code 407 = .ok (.iconst 0, 1) := by decide +kernel
theorem d_La_law_408 : decode code 408 = .ok (.ireturn, 1) := by decide +kernel
theorem d_La_law_409 : decode code 409 = .ok (.iload 5, 2) := by decide +kernel
theorem d_La_law_411 : decode code 411 = .ok (.ifCond .ne 15, 3) := by decide +kernel
theorem d_La_law_414 : decode code 414 = .ok (.aload_n 3, 1) := by decide +kernel
theorem d_La_law_415 : decode code 415 = .ok (.iconst 0, 1) := by decide +kernel
theorem d_La_law_416 : decode code 416 = .ok (.laload, 1) := by decide +kernel
theorem d_La_law_417 : decode code 417 = .ok (.iload 6, 2) := by decide +kernel
theorem d_La_law_419 : decode code 419 = .ok (.i2l, 1) := by decide +kernel
theorem d_La_law_420 : decode code 420 = .ok (.lcmp, 1) := by decide +kernel
theorem d_La_law_421 : decode code 421 = .ok (.ifCond .eq 5, 3) := by decide +kernel
theorem d_La_law_424 : decode code 424 = .ok (.iconst 0, 1) := by decide +kernel
theorem d_La_law_425 : decode code 425 = .ok (.ireturn, 1) := by decide +kernel
theorem d_La_law_426 : decode code 426 = .ok (.goto 535, 3) := by decide +kernel
theorem d_La_law_429 : decode code 429 = .ok (.aload_n 1, 1) := by decide +kernel
theorem d_La_law_430 : decode code 430 = .ok (.aload_n 0, 1) := by decide +kernel
theorem d_La_law_431 : decode code 431 = .ok (.iload 4, 2) := by decide +kernel
theorem d_La_law_433 : decode code 433 = .ok (.iconst 1, 1) := by decide +kernel
theorem d_La_law_434 : decode code 434 = .ok (.iadd, 1) := by decide +kernel
theorem d_La_law_435 : decode code 435 = .ok (.iaload, 1) := by decide +kernel
theorem d_La_law_436 : decode code 436 = .ok (.aload_n 0, 1) := by decide +kernel
theorem d_La_law_437 : decode code 437 = .ok (.iload 4, 2) := by decide +kernel
theorem d_La_law_439 : decode code 439 = .ok (.iconst 2, 1) := by decide +kernel
theorem d_La_law_440 : decode code 440 = .ok (.iadd, 1) := by decide +kernel
theorem d_La_law_441 : decode code 441 = .ok (.iaload, 1) := by decide +kernel
theorem d_La_law_442 : decode code 442 = .ok (.aload_n 3, 1) := by decide +kernel
theorem d_La_law_443 : decode code 443 = .ok (.invokestatic 91, 3) := by decide +kernel
theorem d_La_law_446 : decode code 446 = .ok (.istore 5, 2) := by decide +kernel
theorem d_La_law_448 : decode code 448 = .ok (.aload_n 2, 1) := by decide +kernel
theorem d_La_law_449 : decode code 449 = .ok (.aload_n 0, 1) := by decide +kernel
theorem d_La_law_450 : decode code 450 = .ok (.iload 4, 2) := by decide +kernel
theorem d_La_law_452 : decode code 452 = .ok (.iconst 1, 1) := by decide +kernel
theorem d_La_law_453 : decode code 453 = .ok (.iadd, 1) := by decide +kernel
theorem d_La_law_454 : decode code 454 = .ok (.iaload, 1) := by decide +kernel
theorem d_La_law_455 : decode code 455 = .ok (.aload_n 0, 1) := by decide +kernel
theorem d_La_law_456 : decode code 456 = .ok (.iload 4, 2) := by decide +kernel
theorem d_La_law_458 : decode code 458 = .ok (.iconst 2, 1) := by decide +kernel
theorem d_La_law_459 : decode code 459 = .ok (.iadd, 1) := by decide +kernel
theorem d_La_law_460 : decode code 460 = .ok (.iaload, 1) := by decide +kernel
theorem d_La_law_461 : decode code 461 = .ok (.invokevirtual 94, 3) := by decide +kernel
theorem d_La_law_464 : decode code 464 = .ok (.istore 6, 2) := by decide +kernel
theorem d_La_law_466 : decode code 466 = .ok (.aload_n 2, 1) := by decide +kernel
theorem d_La_law_467 : decode code 467 = .ok (.invokevirtual 71, 3) := by decide +kernel
theorem d_La_law_470 : decode code 470 = .ok (.iload 5, 2) := by decide +kernel
theorem d_La_law_472 : decode code 472 = .ok (.if_icmp .eq 5, 3) := by decide +kernel
theorem d_La_law_475 : decode code 475 = .ok (.iconst 0, 1) := by decide +kernel
theorem d_La_law_476 : decode code 476 = .ok (.ireturn, 1) := by decide +kernel
theorem d_La_law_477 : decode code 477 = .ok (.iload 5, 2) := by decide +kernel
theorem d_La_law_479 : decode code 479 = .ok (.ifCond .ne 15, 3) := by decide +kernel
theorem d_La_law_482 : decode code 482 = .ok (.aload_n 3, 1) := by decide +kernel
theorem d_La_law_483 : decode code 483 = .ok (.iconst 0, 1) := by decide +kernel
theorem d_La_law_484 : decode code 484 = .ok (.laload, 1) := by decide +kernel
theorem d_La_law_485 : decode code 485 = .ok (.iload 6, 2) := by decide +kernel
theorem d_La_law_487 : decode code 487 = .ok (.i2l, 1) := by decide +kernel
theorem d_La_law_488 : decode code 488 = .ok (.lcmp, 1) := by decide +kernel
theorem d_La_law_489 : decode code 489 = .ok (.ifCond .eq 5, 3) := by decide +kernel
theorem d_La_law_492 : decode code 492 = .ok (.iconst 0, 1) := by decide +kernel
theorem d_La_law_493 : decode code 493 = .ok (.ireturn, 1) := by decide +kernel
theorem d_La_law_494 : decode code 494 = .ok (.goto 467, 3) := by decide +kernel
theorem d_La_law_497 : decode code 497 = .ok (.aload_n 1, 1) := by decide +kernel
theorem d_La_law_498 : decode code 498 = .ok (.aload_n 0, 1) := by decide +kernel
theorem d_La_law_499 : decode code 499 = .ok (.iload 4, 2) := by decide +kernel
theorem d_La_law_501 : decode code 501 = .ok (.iconst 1, 1) := by decide +kernel
theorem d_La_law_502 : decode code 502 = .ok (.iadd, 1) := by decide +kernel
theorem d_La_law_503 : decode code 503 = .ok (.iaload, 1) := by decide +kernel
theorem d_La_law_504 : decode code 504 = .ok (.aload_n 0, 1) := by decide +kernel
theorem d_La_law_505 : decode code 505 = .ok (.iload 4, 2) := by decide +kernel
theorem d_La_law_507 : decode code 507 = .ok (.iconst 2, 1) := by decide +kernel
theorem d_La_law_508 : decode code 508 = .ok (.iadd, 1) := by decide +kernel
theorem d_La_law_509 : decode code 509 = .ok (.iaload, 1) := by decide +kernel
theorem d_La_law_510 : decode code 510 = .ok (.aload_n 0, 1) := by decide +kernel
theorem d_La_law_511 : decode code 511 = .ok (.iload 4, 2) := by decide +kernel
theorem d_La_law_513 : decode code 513 = .ok (.iconst 3, 1) := by decide +kernel
theorem d_La_law_514 : decode code 514 = .ok (.iadd, 1) := by decide +kernel
theorem d_La_law_515 : decode code 515 = .ok (.iaload, 1) := by decide +kernel
theorem d_La_law_516 : decode code 516 = .ok (.aload_n 0, 1) := by decide +kernel
theorem d_La_law_517 : decode code 517 = .ok (.iload 4, 2) := by decide +kernel
theorem d_La_law_519 : decode code 519 = .ok (.iconst 4, 1) := by decide +kernel
theorem d_La_law_520 : decode code 520 = .ok (.iadd, 1) := by decide +kernel
theorem d_La_law_521 : decode code 521 = .ok (.iaload, 1) := by decide +kernel
theorem d_La_law_522 : decode code 522 = .ok (.aload_n 3, 1) := by decide +kernel
theorem d_La_law_523 : decode code 523 = .ok (.invokestatic 95, 3) := by decide +kernel
theorem d_La_law_526 : decode code 526 = .ok (.istore 5, 2) := by decide +kernel
theorem d_La_law_528 : decode code 528 = .ok (.aload_n 2, 1) := by decide +kernel
theorem d_La_law_529 : decode code 529 = .ok (.aload_n 0, 1) := by decide +kernel
theorem d_La_law_530 : decode code 530 = .ok (.iload 4, 2) := by decide +kernel
theorem d_La_law_532 : decode code 532 = .ok (.iconst 1, 1) := by decide +kernel
theorem d_La_law_533 : decode code 533 = .ok (.iadd, 1) := by decide +kernel
theorem d_La_law_534 : decode code 534 = .ok (.iaload, 1) := by decide +kernel
theorem d_La_law_535 : decode code 535 = .ok (.aload_n 0, 1) := by decide +kernel
theorem d_La_law_536 : decode code 536 = .ok (.iload 4, 2) := by decide +kernel
theorem d_La_law_538 : decode code 538 = .ok (.iconst 2, 1) := by decide +kernel
theorem d_La_law_539 : decode code 539 = .ok (.iadd, 1) := by decide +kernel
theorem d_La_law_540 : decode code 540 = .ok (.iaload, 1) := by decide +kernel
theorem d_La_law_541 : decode code 541 = .ok (.aload_n 0, 1) := by decide +kernel
theorem d_La_law_542 : decode code 542 = .ok (.iload 4, 2) := by decide +kernel
theorem d_La_law_544 : decode code 544 = .ok (.iconst 3, 1) := by decide +kernel
theorem d_La_law_545 : decode code 545 = .ok (.iadd, 1) := by decide +kernel
theorem d_La_law_546 : decode code 546 = .ok (.iaload, 1) := by decide +kernel
theorem d_La_law_547 : decode code 547 = .ok (.aload_n 0, 1) := by decide +kernel
theorem d_La_law_548 : decode code 548 = .ok (.iload 4, 2) := by decide +kernel
theorem d_La_law_550 : decode code 550 = .ok (.iconst 4, 1) := by decide +kernel
theorem d_La_law_551 : decode code 551 = .ok (.iadd, 1) := by decide +kernel
theorem d_La_law_552 : decode code 552 = .ok (.iaload, 1) := by decide +kernel
theorem d_La_law_553 : decode code 553 = .ok (.invokevirtual 98, 3) := by decide +kernel
theorem d_La_law_556 : decode code 556 = .ok (.istore 6, 2) := by decide +kernel
theorem d_La_law_558 : decode code 558 = .ok (.aload_n 2, 1) := by decide +kernel
theorem d_La_law_559 : decode code 559 = .ok (.invokevirtual 71, 3) := by decide +kernel
theorem d_La_law_562 : decode code 562 = .ok (.iload 5, 2) := by decide +kernel
theorem d_La_law_564 : decode code 564 = .ok (.if_icmp .eq 5, 3) := by decide +kernel
theorem d_La_law_567 : decode code 567 = .ok (.iconst 0, 1) := by decide +kernel
theorem d_La_law_568 : decode code 568 = .ok (.ireturn, 1) := by decide +kernel
theorem d_La_law_569 : decode code 569 = .ok (.iload 5, 2) := by decide +kernel
theorem d_La_law_571 : decode code 571 = .ok (.ifCond .ne 15, 3) := by decide +kernel
theorem d_La_law_574 : decode code 574 = .ok (.aload_n 3, 1) := by decide +kernel
theorem d_La_law_575 : decode code 575 = .ok (.iconst 0, 1) := by decide +kernel
theorem d_La_law_576 : decode code 576 = .ok (.laload, 1) := by decide +kernel
theorem d_La_law_577 : decode code 577 = .ok (.iload 6, 2) := by decide +kernel
theorem d_La_law_579 : decode code 579 = .ok (.i2l, 1) := by decide +kernel
theorem d_La_law_580 : decode code 580 = .ok (.lcmp, 1) := by decide +kernel
theorem d_La_law_581 : decode code 581 = .ok (.ifCond .eq 5, 3) := by decide +kernel
theorem d_La_law_584 : decode code 584 = .ok (.iconst 0, 1) := by decide +kernel
theorem d_La_law_585 : decode code 585 = .ok (.ireturn, 1) := by decide +kernel
theorem d_La_law_586 : decode code 586 = .ok (.goto 375, 3) := by decide +kernel
theorem d_La_law_589 : decode code 589 = .ok (.aload_n 1, 1) := by decide +kernel
theorem d_La_law_590 : decode code 590 = .ok (.aload_n 0, 1) := by decide +kernel
theorem d_La_law_591 : decode code 591 = .ok (.iload 4, 2) := by decide +kernel
theorem d_La_law_593 : decode code 593 = .ok (.iconst 1, 1) := by decide +kernel
theorem d_La_law_594 : decode code 594 = .ok (.iadd, 1) := by decide +kernel
theorem d_La_law_595 : decode code 595 = .ok (.iaload, 1) := by decide +kernel
theorem d_La_law_596 : decode code 596 = .ok (.aload_n 0, 1) := by decide +kernel
theorem d_La_law_597 : decode code 597 = .ok (.iload 4, 2) := by decide +kernel
theorem d_La_law_599 : decode code 599 = .ok (.iconst 2, 1) := by decide +kernel
theorem d_La_law_600 : decode code 600 = .ok (.iadd, 1) := by decide +kernel
theorem d_La_law_601 : decode code 601 = .ok (.iaload, 1) := by decide +kernel
theorem d_La_law_602 : decode code 602 = .ok (.aload_n 3, 1) := by decide +kernel
theorem d_La_law_603 : decode code 603 = .ok (.invokestatic 99, 3) := by decide +kernel
theorem d_La_law_606 : decode code 606 = .ok (.istore 5, 2) := by decide +kernel
theorem d_La_law_608 : decode code 608 = .ok (.aload_n 2, 1) := by decide +kernel
theorem d_La_law_609 : decode code 609 = .ok (.aload_n 0, 1) := by decide +kernel
theorem d_La_law_610 : decode code 610 = .ok (.iload 4, 2) := by decide +kernel
theorem d_La_law_612 : decode code 612 = .ok (.iconst 1, 1) := by decide +kernel
theorem d_La_law_613 : decode code 613 = .ok (.iadd, 1) := by decide +kernel
theorem d_La_law_614 : decode code 614 = .ok (.iaload, 1) := by decide +kernel
theorem d_La_law_615 : decode code 615 = .ok (.aload_n 0, 1) := by decide +kernel
theorem d_La_law_616 : decode code 616 = .ok (.iload 4, 2) := by decide +kernel
theorem d_La_law_618 : decode code 618 = .ok (.iconst 2, 1) := by decide +kernel
theorem d_La_law_619 : decode code 619 = .ok (.iadd, 1) := by decide +kernel
theorem d_La_law_620 : decode code 620 = .ok (.iaload, 1) := by decide +kernel
theorem d_La_law_621 : decode code 621 = .ok (.invokevirtual 101, 3) := by decide +kernel
theorem d_La_law_624 : decode code 624 = .ok (.istore 6, 2) := by decide +kernel
theorem d_La_law_626 : decode code 626 = .ok (.aload_n 2, 1) := by decide +kernel
theorem d_La_law_627 : decode code 627 = .ok (.invokevirtual 71, 3) := by decide +kernel
theorem d_La_law_630 : decode code 630 = .ok (.iload 5, 2) := by decide +kernel
theorem d_La_law_632 : decode code 632 = .ok (.if_icmp .eq 5, 3) := by decide +kernel
theorem d_La_law_635 : decode code 635 = .ok (.iconst 0, 1) := by decide +kernel
theorem d_La_law_636 : decode code 636 = .ok (.ireturn, 1) := by decide +kernel
theorem d_La_law_637 : decode code 637 = .ok (.iload 5, 2) := by decide +kernel
theorem d_La_law_639 : decode code 639 = .ok (.ifCond .ne 15, 3) := by decide +kernel
theorem d_La_law_642 : decode code 642 = .ok (.aload_n 3, 1) := by decide +kernel
theorem d_La_law_643 : decode code 643 = .ok (.iconst 0, 1) := by decide +kernel
theorem d_La_law_644 : decode code 644 = .ok (.laload, 1) := by decide +kernel
theorem d_La_law_645 : decode code 645 = .ok (.iload 6, 2) := by decide +kernel
theorem d_La_law_647 : decode code 647 = .ok (.i2l, 1) := by decide +kernel
theorem d_La_law_648 : decode code 648 = .ok (.lcmp, 1) := by decide +kernel
theorem d_La_law_649 : decode code 649 = .ok (.ifCond .eq 5, 3) := by decide +kernel
theorem d_La_law_652 : decode code 652 = .ok (.iconst 0, 1) := by decide +kernel
theorem d_La_law_653 : decode code 653 = .ok (.ireturn, 1) := by decide +kernel
theorem d_La_law_654 : decode code 654 = .ok (.goto 307, 3) := by decide +kernel
theorem d_La_law_657 : decode code 657 = .ok (.aload_n 1, 1) := by decide +kernel
theorem d_La_law_658 : decode code 658 = .ok (.aload_n 0, 1) := by decide +kernel
theorem d_La_law_659 : decode code 659 = .ok (.iload 4, 2) := by decide +kernel
theorem d_La_law_661 : decode code 661 = .ok (.iconst 1, 1) := by decide +kernel
theorem d_La_law_662 : decode code 662 = .ok (.iadd, 1) := by decide +kernel
theorem d_La_law_663 : decode code 663 = .ok (.iaload, 1) := by decide +kernel
theorem d_La_law_664 : decode code 664 = .ok (.aload_n 0, 1) := by decide +kernel
theorem d_La_law_665 : decode code 665 = .ok (.iload 4, 2) := by decide +kernel
theorem d_La_law_667 : decode code 667 = .ok (.iconst 2, 1) := by decide +kernel
theorem d_La_law_668 : decode code 668 = .ok (.iadd, 1) := by decide +kernel
theorem d_La_law_669 : decode code 669 = .ok (.iaload, 1) := by decide +kernel
theorem d_La_law_670 : decode code 670 = .ok (.aload_n 3, 1) := by decide +kernel
theorem d_La_law_671 : decode code 671 = .ok (.invokestatic 102, 3) := by decide +kernel
theorem d_La_law_674 : decode code 674 = .ok (.istore 5, 2) := by decide +kernel
theorem d_La_law_676 : decode code 676 = .ok (.aload_n 2, 1) := by decide +kernel
theorem d_La_law_677 : decode code 677 = .ok (.aload_n 0, 1) := by decide +kernel
theorem d_La_law_678 : decode code 678 = .ok (.iload 4, 2) := by decide +kernel
theorem d_La_law_680 : decode code 680 = .ok (.iconst 1, 1) := by decide +kernel
theorem d_La_law_681 : decode code 681 = .ok (.iadd, 1) := by decide +kernel
theorem d_La_law_682 : decode code 682 = .ok (.iaload, 1) := by decide +kernel
theorem d_La_law_683 : decode code 683 = .ok (.aload_n 0, 1) := by decide +kernel
theorem d_La_law_684 : decode code 684 = .ok (.iload 4, 2) := by decide +kernel
theorem d_La_law_686 : decode code 686 = .ok (.iconst 2, 1) := by decide +kernel
theorem d_La_law_687 : decode code 687 = .ok (.iadd, 1) := by decide +kernel
theorem d_La_law_688 : decode code 688 = .ok (.iaload, 1) := by decide +kernel
theorem d_La_law_689 : decode code 689 = .ok (.invokevirtual 104, 3) := by decide +kernel
theorem d_La_law_692 : decode code 692 = .ok (.istore 6, 2) := by decide +kernel
theorem d_La_law_694 : decode code 694 = .ok (.aload_n 2, 1) := by decide +kernel
theorem d_La_law_695 : decode code 695 = .ok (.invokevirtual 71, 3) := by decide +kernel
theorem d_La_law_698 : decode code 698 = .ok (.iload 5, 2) := by decide +kernel
theorem d_La_law_700 : decode code 700 = .ok (.if_icmp .eq 5, 3) := by decide +kernel
theorem d_La_law_703 : decode code 703 = .ok (.iconst 0, 1) := by decide +kernel
theorem d_La_law_704 : decode code 704 = .ok (.ireturn, 1) := by decide +kernel
theorem d_La_law_705 : decode code 705 = .ok (.iload 5, 2) := by decide +kernel
theorem d_La_law_707 : decode code 707 = .ok (.ifCond .ne 15, 3) := by decide +kernel
theorem d_La_law_710 : decode code 710 = .ok (.aload_n 3, 1) := by decide +kernel
theorem d_La_law_711 : decode code 711 = .ok (.iconst 0, 1) := by decide +kernel
theorem d_La_law_712 : decode code 712 = .ok (.laload, 1) := by decide +kernel
theorem d_La_law_713 : decode code 713 = .ok (.iload 6, 2) := by decide +kernel
theorem d_La_law_715 : decode code 715 = .ok (.i2l, 1) := by decide +kernel
theorem d_La_law_716 : decode code 716 = .ok (.lcmp, 1) := by decide +kernel
theorem d_La_law_717 : decode code 717 = .ok (.ifCond .eq 5, 3) := by decide +kernel
theorem d_La_law_720 : decode code 720 = .ok (.iconst 0, 1) := by decide +kernel
theorem d_La_law_721 : decode code 721 = .ok (.ireturn, 1) := by decide +kernel
theorem d_La_law_722 : decode code 722 = .ok (.goto 239, 3) := by decide +kernel
theorem d_La_law_725 : decode code 725 = .ok (.aload_n 1, 1) := by decide +kernel
theorem d_La_law_726 : decode code 726 = .ok (.aload_n 0, 1) := by decide +kernel
theorem d_La_law_727 : decode code 727 = .ok (.iload 4, 2) := by decide +kernel
theorem d_La_law_729 : decode code 729 = .ok (.iconst 1, 1) := by decide +kernel
theorem d_La_law_730 : decode code 730 = .ok (.iadd, 1) := by decide +kernel
theorem d_La_law_731 : decode code 731 = .ok (.iaload, 1) := by decide +kernel
theorem d_La_law_732 : decode code 732 = .ok (.aload_n 0, 1) := by decide +kernel
theorem d_La_law_733 : decode code 733 = .ok (.iload 4, 2) := by decide +kernel
theorem d_La_law_735 : decode code 735 = .ok (.iconst 2, 1) := by decide +kernel
theorem d_La_law_736 : decode code 736 = .ok (.iadd, 1) := by decide +kernel
theorem d_La_law_737 : decode code 737 = .ok (.iaload, 1) := by decide +kernel
theorem d_La_law_738 : decode code 738 = .ok (.aload_n 3, 1) := by decide +kernel
theorem d_La_law_739 : decode code 739 = .ok (.invokestatic 105, 3) := by decide +kernel
theorem d_La_law_742 : decode code 742 = .ok (.istore 5, 2) := by decide +kernel
theorem d_La_law_744 : decode code 744 = .ok (.aload_n 2, 1) := by decide +kernel
theorem d_La_law_745 : decode code 745 = .ok (.aload_n 0, 1) := by decide +kernel
theorem d_La_law_746 : decode code 746 = .ok (.iload 4, 2) := by decide +kernel
theorem d_La_law_748 : decode code 748 = .ok (.iconst 1, 1) := by decide +kernel
theorem d_La_law_749 : decode code 749 = .ok (.iadd, 1) := by decide +kernel
theorem d_La_law_750 : decode code 750 = .ok (.iaload, 1) := by decide +kernel
theorem d_La_law_751 : decode code 751 = .ok (.aload_n 0, 1) := by decide +kernel
theorem d_La_law_752 : decode code 752 = .ok (.iload 4, 2) := by decide +kernel
theorem d_La_law_754 : decode code 754 = .ok (.iconst 2, 1) := by decide +kernel
theorem d_La_law_755 : decode code 755 = .ok (.iadd, 1) := by decide +kernel
theorem d_La_law_756 : decode code 756 = .ok (.iaload, 1) := by decide +kernel
theorem d_La_law_757 : decode code 757 = .ok (.invokevirtual 107, 3) := by decide +kernel
theorem d_La_law_760 : decode code 760 = .ok (.istore 6, 2) := by decide +kernel
theorem d_La_law_762 : decode code 762 = .ok (.aload_n 2, 1) := by decide +kernel
theorem d_La_law_763 : decode code 763 = .ok (.invokevirtual 71, 3) := by decide +kernel
theorem d_La_law_766 : decode code 766 = .ok (.iload 5, 2) := by decide +kernel
theorem d_La_law_768 : decode code 768 = .ok (.if_icmp .eq 5, 3) := by decide +kernel
theorem d_La_law_771 : decode code 771 = .ok (.iconst 0, 1) := by decide +kernel
theorem d_La_law_772 : decode code 772 = .ok (.ireturn, 1) := by decide +kernel
theorem d_La_law_773 : decode code 773 = .ok (.iload 5, 2) := by decide +kernel
theorem d_La_law_775 : decode code 775 = .ok (.ifCond .ne 15, 3) := by decide +kernel
theorem d_La_law_778 : decode code 778 = .ok (.aload_n 3, 1) := by decide +kernel
theorem d_La_law_779 : decode code 779 = .ok (.iconst 0, 1) := by decide +kernel
theorem d_La_law_780 : decode code 780 = .ok (.laload, 1) := by decide +kernel
theorem d_La_law_781 : decode code 781 = .ok (.iload 6, 2) := by decide +kernel
theorem d_La_law_783 : decode code 783 = .ok (.i2l, 1) := by decide +kernel
theorem d_La_law_784 : decode code 784 = .ok (.lcmp, 1) := by decide +kernel
theorem d_La_law_785 : decode code 785 = .ok (.ifCond .eq 5, 3) := by decide +kernel
theorem d_La_law_788 : decode code 788 = .ok (.iconst 0, 1) := by decide +kernel
theorem d_La_law_789 : decode code 789 = .ok (.ireturn, 1) := by decide +kernel
theorem d_La_law_790 : decode code 790 = .ok (.goto 171, 3) := by decide +kernel
theorem d_La_law_793 : decode code 793 = .ok (.aload_n 1, 1) := by decide +kernel
theorem d_La_law_794 : decode code 794 = .ok (.aload_n 0, 1) := by decide +kernel
theorem d_La_law_795 : decode code 795 = .ok (.iload 4, 2) := by decide +kernel
theorem d_La_law_797 : decode code 797 = .ok (.iconst 1, 1) := by decide +kernel
theorem d_La_law_798 : decode code 798 = .ok (.iadd, 1) := by decide +kernel
theorem d_La_law_799 : decode code 799 = .ok (.iaload, 1) := by decide +kernel
theorem d_La_law_800 : decode code 800 = .ok (.aload_n 3, 1) := by decide +kernel
theorem d_La_law_801 : decode code 801 = .ok (.invokestatic 108, 3) := by decide +kernel
theorem d_La_law_804 : decode code 804 = .ok (.istore 5, 2) := by decide +kernel
theorem d_La_law_806 : decode code 806 = .ok (.aload_n 2, 1) := by decide +kernel
theorem d_La_law_807 : decode code 807 = .ok (.aload_n 0, 1) := by decide +kernel
theorem d_La_law_808 : decode code 808 = .ok (.iload 4, 2) := by decide +kernel
theorem d_La_law_810 : decode code 810 = .ok (.iconst 1, 1) := by decide +kernel
theorem d_La_law_811 : decode code 811 = .ok (.iadd, 1) := by decide +kernel
theorem d_La_law_812 : decode code 812 = .ok (.iaload, 1) := by decide +kernel
theorem d_La_law_813 : decode code 813 = .ok (.invokevirtual 110, 3) := by decide +kernel
theorem d_La_law_816 : decode code 816 = .ok (.istore 6, 2) := by decide +kernel
theorem d_La_law_818 : decode code 818 = .ok (.aload_n 2, 1) := by decide +kernel
theorem d_La_law_819 : decode code 819 = .ok (.invokevirtual 71, 3) := by decide +kernel
theorem d_La_law_822 : decode code 822 = .ok (.iload 5, 2) := by decide +kernel
theorem d_La_law_824 : decode code 824 = .ok (.if_icmp .eq 5, 3) := by decide +kernel
theorem d_La_law_827 : decode code 827 = .ok (.iconst 0, 1) := by decide +kernel
theorem d_La_law_828 : decode code 828 = .ok (.ireturn, 1) := by decide +kernel
theorem d_La_law_829 : decode code 829 = .ok (.iload 5, 2) := by decide +kernel
theorem d_La_law_831 : decode code 831 = .ok (.ifCond .ne 15, 3) := by decide +kernel
theorem d_La_law_834 : decode code 834 = .ok (.aload_n 3, 1) := by decide +kernel
theorem d_La_law_835 : decode code 835 = .ok (.iconst 0, 1) := by decide +kernel
theorem d_La_law_836 : decode code 836 = .ok (.laload, 1) := by decide +kernel
theorem d_La_law_837 : decode code 837 = .ok (.iload 6, 2) := by decide +kernel
theorem d_La_law_839 : decode code 839 = .ok (.i2l, 1) := by decide +kernel
theorem d_La_law_840 : decode code 840 = .ok (.lcmp, 1) := by decide +kernel
theorem d_La_law_841 : decode code 841 = .ok (.ifCond .eq 5, 3) := by decide +kernel
theorem d_La_law_844 : decode code 844 = .ok (.iconst 0, 1) := by decide +kernel
theorem d_La_law_845 : decode code 845 = .ok (.ireturn, 1) := by decide +kernel
theorem d_La_law_846 : decode code 846 = .ok (.goto 115, 3) := by decide +kernel
theorem d_La_law_849 : decode code 849 = .ok (.aload_n 1, 1) := by decide +kernel
theorem d_La_law_850 : decode code 850 = .ok (.aload_n 0, 1) := by decide +kernel
theorem d_La_law_851 : decode code 851 = .ok (.iload 4, 2) := by decide +kernel
theorem d_La_law_853 : decode code 853 = .ok (.iconst 1, 1) := by decide +kernel
theorem d_La_law_854 : decode code 854 = .ok (.iadd, 1) := by decide +kernel
theorem d_La_law_855 : decode code 855 = .ok (.iaload, 1) := by decide +kernel
theorem d_La_law_856 : decode code 856 = .ok (.aload_n 3, 1) := by decide +kernel
theorem d_La_law_857 : decode code 857 = .ok (.invokestatic 111, 3) := by decide +kernel
theorem d_La_law_860 : decode code 860 = .ok (.istore 5, 2) := by decide +kernel
theorem d_La_law_862 : decode code 862 = .ok (.aload_n 2, 1) := by decide +kernel
theorem d_La_law_863 : decode code 863 = .ok (.aload_n 0, 1) := by decide +kernel
theorem d_La_law_864 : decode code 864 = .ok (.iload 4, 2) := by decide +kernel
theorem d_La_law_866 : decode code 866 = .ok (.iconst 1, 1) := by decide +kernel
theorem d_La_law_867 : decode code 867 = .ok (.iadd, 1) := by decide +kernel
theorem d_La_law_868 : decode code 868 = .ok (.iaload, 1) := by decide +kernel
theorem d_La_law_869 : decode code 869 = .ok (.invokevirtual 113, 3) := by decide +kernel
theorem d_La_law_872 : decode code 872 = .ok (.istore 6, 2) := by decide +kernel
theorem d_La_law_874 : decode code 874 = .ok (.aload_n 2, 1) := by decide +kernel
theorem d_La_law_875 : decode code 875 = .ok (.invokevirtual 71, 3) := by decide +kernel
theorem d_La_law_878 : decode code 878 = .ok (.iload 5, 2) := by decide +kernel
theorem d_La_law_880 : decode code 880 = .ok (.if_icmp .eq 5, 3) := by decide +kernel
theorem d_La_law_883 : decode code 883 = .ok (.iconst 0, 1) := by decide +kernel
theorem d_La_law_884 : decode code 884 = .ok (.ireturn, 1) := by decide +kernel
theorem d_La_law_885 : decode code 885 = .ok (.iload 5, 2) := by decide +kernel
theorem d_La_law_887 : decode code 887 = .ok (.ifCond .ne 15, 3) := by decide +kernel
theorem d_La_law_890 : decode code 890 = .ok (.aload_n 3, 1) := by decide +kernel
theorem d_La_law_891 : decode code 891 = .ok (.iconst 0, 1) := by decide +kernel
theorem d_La_law_892 : decode code 892 = .ok (.laload, 1) := by decide +kernel
theorem d_La_law_893 : decode code 893 = .ok (.iload 6, 2) := by decide +kernel
theorem d_La_law_895 : decode code 895 = .ok (.i2l, 1) := by decide +kernel
theorem d_La_law_896 : decode code 896 = .ok (.lcmp, 1) := by decide +kernel
theorem d_La_law_897 : decode code 897 = .ok (.ifCond .eq 5, 3) := by decide +kernel
theorem d_La_law_900 : decode code 900 = .ok (.iconst 0, 1) := by decide +kernel
theorem d_La_law_901 : decode code 901 = .ok (.ireturn, 1) := by decide +kernel
theorem d_La_law_902 : decode code 902 = .ok (.goto 59, 3) := by decide +kernel
theorem d_La_law_905 : decode code 905 = .ok (.aload_n 1, 1) := by decide +kernel
theorem d_La_law_906 : decode code 906 = .ok (.aload_n 0, 1) := by decide +kernel
theorem d_La_law_907 : decode code 907 = .ok (.iload 4, 2) := by decide +kernel
theorem d_La_law_909 : decode code 909 = .ok (.iconst 1, 1) := by decide +kernel
theorem d_La_law_910 : decode code 910 = .ok (.iadd, 1) := by decide +kernel
theorem d_La_law_911 : decode code 911 = .ok (.iaload, 1) := by decide +kernel
theorem d_La_law_912 : decode code 912 = .ok (.aload_n 3, 1) := by decide +kernel
theorem d_La_law_913 : decode code 913 = .ok (.invokestatic 114, 3) := by decide +kernel
theorem d_La_law_916 : decode code 916 = .ok (.istore 5, 2) := by decide +kernel
theorem d_La_law_918 : decode code 918 = .ok (.aload_n 2, 1) := by decide +kernel
theorem d_La_law_919 : decode code 919 = .ok (.aload_n 0, 1) := by decide +kernel
theorem d_La_law_920 : decode code 920 = .ok (.iload 4, 2) := by decide +kernel
theorem d_La_law_922 : decode code 922 = .ok (.iconst 1, 1) := by decide +kernel
theorem d_La_law_923 : decode code 923 = .ok (.iadd, 1) := by decide +kernel
theorem d_La_law_924 : decode code 924 = .ok (.iaload, 1) := by decide +kernel
theorem d_La_law_925 : decode code 925 = .ok (.invokevirtual 116, 3) := by decide +kernel
theorem d_La_law_928 : decode code 928 = .ok (.istore 6, 2) := by decide +kernel
theorem d_La_law_930 : decode code 930 = .ok (.aload_n 2, 1) := by decide +kernel
theorem d_La_law_931 : decode code 931 = .ok (.invokevirtual 71, 3) := by decide +kernel
theorem d_La_law_934 : decode code 934 = .ok (.iload 5, 2) := by decide +kernel
theorem d_La_law_936 : decode code 936 = .ok (.if_icmp .eq 5, 3) := by decide +kernel
theorem d_La_law_939 : decode code 939 = .ok (.iconst 0, 1) := by decide +kernel
theorem d_La_law_940 : decode code 940 = .ok (.ireturn, 1) := by decide +kernel
theorem d_La_law_941 : decode code 941 = .ok (.iload 5, 2) := by decide +kernel
theorem d_La_law_943 : decode code 943 = .ok (.ifCond .ne 15, 3) := by decide +kernel
theorem d_La_law_946 : decode code 946 = .ok (.aload_n 3, 1) := by decide +kernel
theorem d_La_law_947 : decode code 947 = .ok (.iconst 0, 1) := by decide +kernel
theorem d_La_law_948 : decode code 948 = .ok (.laload, 1) := by decide +kernel
theorem d_La_law_949 : decode code 949 = .ok (.iload 6, 2) := by decide +kernel
theorem d_La_law_951 : decode code 951 = .ok (.i2l, 1) := by decide +kernel
theorem d_La_law_952 : decode code 952 = .ok (.lcmp, 1) := by decide +kernel
theorem d_La_law_953 : decode code 953 = .ok (.ifCond .eq 5, 3) := by decide +kernel
theorem d_La_law_956 : decode code 956 = .ok (.iconst 0, 1) := by decide +kernel
theorem d_La_law_957 : decode code 957 = .ok (.ireturn, 1) := by decide +kernel
theorem d_La_law_958 : decode code 958 = .ok (.goto 3, 3) := by decide +kernel
theorem d_La_law_961 : decode code 961 = .ok (.iinc 4 6, 3) := by decide +kernel
theorem d_La_law_964 : decode code 964 = .ok (.goto (-941), 3) := by decide +kernel
theorem d_La_law_967 : decode code 967 = .ok (.iconst 1, 1) := by decide +kernel
theorem d_La_law_968 : decode code 968 = .ok (.ireturn, 1) := by decide +kernel
def B_La_law_961 (xs : Nat → Int32) (L : Nat) (k23 : Nat → Nat → Nat → Int32 → gS → Option (Int32 × gS)) (x1 : Nat) (x2 : Nat) (x3 : Nat) (x4 : Int32) (S : gS) : Option (Int32 × gS) := k23 x1 x2 x3 (x4 + 6) S
set_option maxRecDepth 100000 in
set_option maxHeartbeats 4000000 in
theorem w_La_law_961 {D : va_G} {cT : Nat → ClassId} {l : Launch} {p : Program} {e : Env} {s : State} {m : MethodId} {below : List Frame} {meth : Method} {c : Code} {b L : Nat} {xs : Nat → Int32} {S0 : gS} {S' : gS} (hst : l.stackTraces = false) (Y : gYL D cT p s m meth c b L xs S0) {k23 : Nat → Nat → Nat → Int32 → gS → Option (Int32 × gS)} (hk23 : ∀ (x1 : Nat) (x2 : Nat) (x3 : Nat) (x4 : Int32) (S : gS) (ls : Array Slot), k23 x1 x2 x3 x4 S = some (1, S') → lv_has ls 7 [(0, .ref b), (1, va_rf (some x1)), (2, va_rf (some x2)), (3, va_rf (some x3)), (4, .int x4)] → gV D cT s.heap p l e room_1 s m #[Value.ref b] below meth c (lw_Z below #[Value.ref b] s) S0 S (F0 m 23 ls [])) (x1 : Nat) (x2 : Nat) (x3 : Nat) (x4 : Int32) (S : gS) (hden : B_La_law_961 xs L k23 x1 x2 x3 x4 S = some (1, S')) {ls : Array Slot} (hl : lv_has ls 7 [(0, .ref b), (1, va_rf (some x1)), (2, va_rf (some x2)), (3, va_rf (some x3)), (4, .int x4)]) : gV D cT s.heap p l e room_1 s m #[Value.ref b] below meth c (lw_Z below #[Value.ref b] s) S0 S (F0 m 961 ls []) := by
  obtain ⟨X, hZ, -, hr, hX, hbl⟩ := id Y
  have hx := X.1
  have hb := X.2.1
  unfold B_La_law_961 at hden
  refine gV.liftS (nL := 7) (lv' := [(4, .int (x4 + 6)), (0, .ref b), (1, va_rf (some x1)), (2, va_rf (some x2)), (3, va_rf (some x3))]) (fun _ _ _ _ => lv_iinc (v := (x4 + 6)) hx hb d_La_law_961 hl (k := 4) rfl rfl (by decide) rfl) (fun ls hl => ?_)
  refine gV.lift (fun _ _ _ _ => lv_goto (tgt := 23) hx hb d_La_law_964 (by decide)) ?_
  exact hk23 x1 x2 x3 (x4 + 6) S _ hden (lv_sub hl [1, 2, 3, 4, 0] rfl)
def B_La_law_958 (xs : Nat → Int32) (L : Nat) (k23 : Nat → Nat → Nat → Int32 → gS → Option (Int32 × gS)) (x1 : Nat) (x2 : Nat) (x3 : Nat) (x4 : Int32) (S : gS) : Option (Int32 × gS) := B_La_law_961 xs L k23 x1 x2 x3 x4 S
set_option maxRecDepth 100000 in
set_option maxHeartbeats 4000000 in
theorem w_La_law_958 {D : va_G} {cT : Nat → ClassId} {l : Launch} {p : Program} {e : Env} {s : State} {m : MethodId} {below : List Frame} {meth : Method} {c : Code} {b L : Nat} {xs : Nat → Int32} {S0 : gS} {S' : gS} (hst : l.stackTraces = false) (Y : gYL D cT p s m meth c b L xs S0) {k23 : Nat → Nat → Nat → Int32 → gS → Option (Int32 × gS)} (hk23 : ∀ (x1 : Nat) (x2 : Nat) (x3 : Nat) (x4 : Int32) (S : gS) (ls : Array Slot), k23 x1 x2 x3 x4 S = some (1, S') → lv_has ls 7 [(0, .ref b), (1, va_rf (some x1)), (2, va_rf (some x2)), (3, va_rf (some x3)), (4, .int x4)] → gV D cT s.heap p l e room_1 s m #[Value.ref b] below meth c (lw_Z below #[Value.ref b] s) S0 S (F0 m 23 ls [])) (x1 : Nat) (x2 : Nat) (x3 : Nat) (x4 : Int32) (S : gS) (hden : B_La_law_958 xs L k23 x1 x2 x3 x4 S = some (1, S')) {ls : Array Slot} (hl : lv_has ls 7 [(0, .ref b), (1, va_rf (some x1)), (2, va_rf (some x2)), (3, va_rf (some x3)), (4, .int x4)]) : gV D cT s.heap p l e room_1 s m #[Value.ref b] below meth c (lw_Z below #[Value.ref b] s) S0 S (F0 m 958 ls []) := by
  obtain ⟨X, hZ, -, hr, hX, hbl⟩ := id Y
  have hx := X.1
  have hb := X.2.1
  unfold B_La_law_958 at hden
  refine gV.lift (fun _ _ _ _ => lv_goto (tgt := 961) hx hb d_La_law_958 (by decide)) ?_
  exact w_La_law_961 hst Y hk23 x1 x2 x3 x4 S hden (lv_sub hl [0, 1, 2, 3, 4] rfl)
def B_La_law_902 (xs : Nat → Int32) (L : Nat) (k23 : Nat → Nat → Nat → Int32 → gS → Option (Int32 × gS)) (x1 : Nat) (x2 : Nat) (x3 : Nat) (x4 : Int32) (S : gS) : Option (Int32 × gS) := B_La_law_961 xs L k23 x1 x2 x3 x4 S
set_option maxRecDepth 100000 in
set_option maxHeartbeats 4000000 in
theorem w_La_law_902 {D : va_G} {cT : Nat → ClassId} {l : Launch} {p : Program} {e : Env} {s : State} {m : MethodId} {below : List Frame} {meth : Method} {c : Code} {b L : Nat} {xs : Nat → Int32} {S0 : gS} {S' : gS} (hst : l.stackTraces = false) (Y : gYL D cT p s m meth c b L xs S0) {k23 : Nat → Nat → Nat → Int32 → gS → Option (Int32 × gS)} (hk23 : ∀ (x1 : Nat) (x2 : Nat) (x3 : Nat) (x4 : Int32) (S : gS) (ls : Array Slot), k23 x1 x2 x3 x4 S = some (1, S') → lv_has ls 7 [(0, .ref b), (1, va_rf (some x1)), (2, va_rf (some x2)), (3, va_rf (some x3)), (4, .int x4)] → gV D cT s.heap p l e room_1 s m #[Value.ref b] below meth c (lw_Z below #[Value.ref b] s) S0 S (F0 m 23 ls [])) (x1 : Nat) (x2 : Nat) (x3 : Nat) (x4 : Int32) (S : gS) (hden : B_La_law_902 xs L k23 x1 x2 x3 x4 S = some (1, S')) {ls : Array Slot} (hl : lv_has ls 7 [(0, .ref b), (1, va_rf (some x1)), (2, va_rf (some x2)), (3, va_rf (some x3)), (4, .int x4)]) : gV D cT s.heap p l e room_1 s m #[Value.ref b] below meth c (lw_Z below #[Value.ref b] s) S0 S (F0 m 902 ls []) := by
  obtain ⟨X, hZ, -, hr, hX, hbl⟩ := id Y
  have hx := X.1
  have hb := X.2.1
  unfold B_La_law_902 at hden
  refine gV.lift (fun _ _ _ _ => lv_goto (tgt := 961) hx hb d_La_law_902 (by decide)) ?_
  exact w_La_law_961 hst Y hk23 x1 x2 x3 x4 S hden (lv_sub hl [0, 1, 2, 3, 4] rfl)
def B_La_law_846 (xs : Nat → Int32) (L : Nat) (k23 : Nat → Nat → Nat → Int32 → gS → Option (Int32 × gS)) (x1 : Nat) (x2 : Nat) (x3 : Nat) (x4 : Int32) (S : gS) : Option (Int32 × gS) := B_La_law_961 xs L k23 x1 x2 x3 x4 S
set_option maxRecDepth 100000 in
set_option maxHeartbeats 4000000 in
theorem w_La_law_846 {D : va_G} {cT : Nat → ClassId} {l : Launch} {p : Program} {e : Env} {s : State} {m : MethodId} {below : List Frame} {meth : Method} {c : Code} {b L : Nat} {xs : Nat → Int32} {S0 : gS} {S' : gS} (hst : l.stackTraces = false) (Y : gYL D cT p s m meth c b L xs S0) {k23 : Nat → Nat → Nat → Int32 → gS → Option (Int32 × gS)} (hk23 : ∀ (x1 : Nat) (x2 : Nat) (x3 : Nat) (x4 : Int32) (S : gS) (ls : Array Slot), k23 x1 x2 x3 x4 S = some (1, S') → lv_has ls 7 [(0, .ref b), (1, va_rf (some x1)), (2, va_rf (some x2)), (3, va_rf (some x3)), (4, .int x4)] → gV D cT s.heap p l e room_1 s m #[Value.ref b] below meth c (lw_Z below #[Value.ref b] s) S0 S (F0 m 23 ls [])) (x1 : Nat) (x2 : Nat) (x3 : Nat) (x4 : Int32) (S : gS) (hden : B_La_law_846 xs L k23 x1 x2 x3 x4 S = some (1, S')) {ls : Array Slot} (hl : lv_has ls 7 [(0, .ref b), (1, va_rf (some x1)), (2, va_rf (some x2)), (3, va_rf (some x3)), (4, .int x4)]) : gV D cT s.heap p l e room_1 s m #[Value.ref b] below meth c (lw_Z below #[Value.ref b] s) S0 S (F0 m 846 ls []) := by
  obtain ⟨X, hZ, -, hr, hX, hbl⟩ := id Y
  have hx := X.1
  have hb := X.2.1
  unfold B_La_law_846 at hden
  refine gV.lift (fun _ _ _ _ => lv_goto (tgt := 961) hx hb d_La_law_846 (by decide)) ?_
  exact w_La_law_961 hst Y hk23 x1 x2 x3 x4 S hden (lv_sub hl [0, 1, 2, 3, 4] rfl)
def B_La_law_790 (xs : Nat → Int32) (L : Nat) (k23 : Nat → Nat → Nat → Int32 → gS → Option (Int32 × gS)) (x1 : Nat) (x2 : Nat) (x3 : Nat) (x4 : Int32) (S : gS) : Option (Int32 × gS) := B_La_law_961 xs L k23 x1 x2 x3 x4 S
set_option maxRecDepth 100000 in
set_option maxHeartbeats 4000000 in
theorem w_La_law_790 {D : va_G} {cT : Nat → ClassId} {l : Launch} {p : Program} {e : Env} {s : State} {m : MethodId} {below : List Frame} {meth : Method} {c : Code} {b L : Nat} {xs : Nat → Int32} {S0 : gS} {S' : gS} (hst : l.stackTraces = false) (Y : gYL D cT p s m meth c b L xs S0) {k23 : Nat → Nat → Nat → Int32 → gS → Option (Int32 × gS)} (hk23 : ∀ (x1 : Nat) (x2 : Nat) (x3 : Nat) (x4 : Int32) (S : gS) (ls : Array Slot), k23 x1 x2 x3 x4 S = some (1, S') → lv_has ls 7 [(0, .ref b), (1, va_rf (some x1)), (2, va_rf (some x2)), (3, va_rf (some x3)), (4, .int x4)] → gV D cT s.heap p l e room_1 s m #[Value.ref b] below meth c (lw_Z below #[Value.ref b] s) S0 S (F0 m 23 ls [])) (x1 : Nat) (x2 : Nat) (x3 : Nat) (x4 : Int32) (S : gS) (hden : B_La_law_790 xs L k23 x1 x2 x3 x4 S = some (1, S')) {ls : Array Slot} (hl : lv_has ls 7 [(0, .ref b), (1, va_rf (some x1)), (2, va_rf (some x2)), (3, va_rf (some x3)), (4, .int x4)]) : gV D cT s.heap p l e room_1 s m #[Value.ref b] below meth c (lw_Z below #[Value.ref b] s) S0 S (F0 m 790 ls []) := by
  obtain ⟨X, hZ, -, hr, hX, hbl⟩ := id Y
  have hx := X.1
  have hb := X.2.1
  unfold B_La_law_790 at hden
  refine gV.lift (fun _ _ _ _ => lv_goto (tgt := 961) hx hb d_La_law_790 (by decide)) ?_
  exact w_La_law_961 hst Y hk23 x1 x2 x3 x4 S hden (lv_sub hl [0, 1, 2, 3, 4] rfl)
def B_La_law_722 (xs : Nat → Int32) (L : Nat) (k23 : Nat → Nat → Nat → Int32 → gS → Option (Int32 × gS)) (x1 : Nat) (x2 : Nat) (x3 : Nat) (x4 : Int32) (S : gS) : Option (Int32 × gS) := B_La_law_961 xs L k23 x1 x2 x3 x4 S
set_option maxRecDepth 100000 in
set_option maxHeartbeats 4000000 in
theorem w_La_law_722 {D : va_G} {cT : Nat → ClassId} {l : Launch} {p : Program} {e : Env} {s : State} {m : MethodId} {below : List Frame} {meth : Method} {c : Code} {b L : Nat} {xs : Nat → Int32} {S0 : gS} {S' : gS} (hst : l.stackTraces = false) (Y : gYL D cT p s m meth c b L xs S0) {k23 : Nat → Nat → Nat → Int32 → gS → Option (Int32 × gS)} (hk23 : ∀ (x1 : Nat) (x2 : Nat) (x3 : Nat) (x4 : Int32) (S : gS) (ls : Array Slot), k23 x1 x2 x3 x4 S = some (1, S') → lv_has ls 7 [(0, .ref b), (1, va_rf (some x1)), (2, va_rf (some x2)), (3, va_rf (some x3)), (4, .int x4)] → gV D cT s.heap p l e room_1 s m #[Value.ref b] below meth c (lw_Z below #[Value.ref b] s) S0 S (F0 m 23 ls [])) (x1 : Nat) (x2 : Nat) (x3 : Nat) (x4 : Int32) (S : gS) (hden : B_La_law_722 xs L k23 x1 x2 x3 x4 S = some (1, S')) {ls : Array Slot} (hl : lv_has ls 7 [(0, .ref b), (1, va_rf (some x1)), (2, va_rf (some x2)), (3, va_rf (some x3)), (4, .int x4)]) : gV D cT s.heap p l e room_1 s m #[Value.ref b] below meth c (lw_Z below #[Value.ref b] s) S0 S (F0 m 722 ls []) := by
  obtain ⟨X, hZ, -, hr, hX, hbl⟩ := id Y
  have hx := X.1
  have hb := X.2.1
  unfold B_La_law_722 at hden
  refine gV.lift (fun _ _ _ _ => lv_goto (tgt := 961) hx hb d_La_law_722 (by decide)) ?_
  exact w_La_law_961 hst Y hk23 x1 x2 x3 x4 S hden (lv_sub hl [0, 1, 2, 3, 4] rfl)
def B_La_law_654 (xs : Nat → Int32) (L : Nat) (k23 : Nat → Nat → Nat → Int32 → gS → Option (Int32 × gS)) (x1 : Nat) (x2 : Nat) (x3 : Nat) (x4 : Int32) (S : gS) : Option (Int32 × gS) := B_La_law_961 xs L k23 x1 x2 x3 x4 S
set_option maxRecDepth 100000 in
set_option maxHeartbeats 4000000 in
theorem w_La_law_654 {D : va_G} {cT : Nat → ClassId} {l : Launch} {p : Program} {e : Env} {s : State} {m : MethodId} {below : List Frame} {meth : Method} {c : Code} {b L : Nat} {xs : Nat → Int32} {S0 : gS} {S' : gS} (hst : l.stackTraces = false) (Y : gYL D cT p s m meth c b L xs S0) {k23 : Nat → Nat → Nat → Int32 → gS → Option (Int32 × gS)} (hk23 : ∀ (x1 : Nat) (x2 : Nat) (x3 : Nat) (x4 : Int32) (S : gS) (ls : Array Slot), k23 x1 x2 x3 x4 S = some (1, S') → lv_has ls 7 [(0, .ref b), (1, va_rf (some x1)), (2, va_rf (some x2)), (3, va_rf (some x3)), (4, .int x4)] → gV D cT s.heap p l e room_1 s m #[Value.ref b] below meth c (lw_Z below #[Value.ref b] s) S0 S (F0 m 23 ls [])) (x1 : Nat) (x2 : Nat) (x3 : Nat) (x4 : Int32) (S : gS) (hden : B_La_law_654 xs L k23 x1 x2 x3 x4 S = some (1, S')) {ls : Array Slot} (hl : lv_has ls 7 [(0, .ref b), (1, va_rf (some x1)), (2, va_rf (some x2)), (3, va_rf (some x3)), (4, .int x4)]) : gV D cT s.heap p l e room_1 s m #[Value.ref b] below meth c (lw_Z below #[Value.ref b] s) S0 S (F0 m 654 ls []) := by
  obtain ⟨X, hZ, -, hr, hX, hbl⟩ := id Y
  have hx := X.1
  have hb := X.2.1
  unfold B_La_law_654 at hden
  refine gV.lift (fun _ _ _ _ => lv_goto (tgt := 961) hx hb d_La_law_654 (by decide)) ?_
  exact w_La_law_961 hst Y hk23 x1 x2 x3 x4 S hden (lv_sub hl [0, 1, 2, 3, 4] rfl)
def B_La_law_586 (xs : Nat → Int32) (L : Nat) (k23 : Nat → Nat → Nat → Int32 → gS → Option (Int32 × gS)) (x1 : Nat) (x2 : Nat) (x3 : Nat) (x4 : Int32) (S : gS) : Option (Int32 × gS) := B_La_law_961 xs L k23 x1 x2 x3 x4 S
set_option maxRecDepth 100000 in
set_option maxHeartbeats 4000000 in
theorem w_La_law_586 {D : va_G} {cT : Nat → ClassId} {l : Launch} {p : Program} {e : Env} {s : State} {m : MethodId} {below : List Frame} {meth : Method} {c : Code} {b L : Nat} {xs : Nat → Int32} {S0 : gS} {S' : gS} (hst : l.stackTraces = false) (Y : gYL D cT p s m meth c b L xs S0) {k23 : Nat → Nat → Nat → Int32 → gS → Option (Int32 × gS)} (hk23 : ∀ (x1 : Nat) (x2 : Nat) (x3 : Nat) (x4 : Int32) (S : gS) (ls : Array Slot), k23 x1 x2 x3 x4 S = some (1, S') → lv_has ls 7 [(0, .ref b), (1, va_rf (some x1)), (2, va_rf (some x2)), (3, va_rf (some x3)), (4, .int x4)] → gV D cT s.heap p l e room_1 s m #[Value.ref b] below meth c (lw_Z below #[Value.ref b] s) S0 S (F0 m 23 ls [])) (x1 : Nat) (x2 : Nat) (x3 : Nat) (x4 : Int32) (S : gS) (hden : B_La_law_586 xs L k23 x1 x2 x3 x4 S = some (1, S')) {ls : Array Slot} (hl : lv_has ls 7 [(0, .ref b), (1, va_rf (some x1)), (2, va_rf (some x2)), (3, va_rf (some x3)), (4, .int x4)]) : gV D cT s.heap p l e room_1 s m #[Value.ref b] below meth c (lw_Z below #[Value.ref b] s) S0 S (F0 m 586 ls []) := by
  obtain ⟨X, hZ, -, hr, hX, hbl⟩ := id Y
  have hx := X.1
  have hb := X.2.1
  unfold B_La_law_586 at hden
  refine gV.lift (fun _ _ _ _ => lv_goto (tgt := 961) hx hb d_La_law_586 (by decide)) ?_
  exact w_La_law_961 hst Y hk23 x1 x2 x3 x4 S hden (lv_sub hl [0, 1, 2, 3, 4] rfl)
def B_La_law_494 (xs : Nat → Int32) (L : Nat) (k23 : Nat → Nat → Nat → Int32 → gS → Option (Int32 × gS)) (x1 : Nat) (x2 : Nat) (x3 : Nat) (x4 : Int32) (S : gS) : Option (Int32 × gS) := B_La_law_961 xs L k23 x1 x2 x3 x4 S
set_option maxRecDepth 100000 in
set_option maxHeartbeats 4000000 in
theorem w_La_law_494 {D : va_G} {cT : Nat → ClassId} {l : Launch} {p : Program} {e : Env} {s : State} {m : MethodId} {below : List Frame} {meth : Method} {c : Code} {b L : Nat} {xs : Nat → Int32} {S0 : gS} {S' : gS} (hst : l.stackTraces = false) (Y : gYL D cT p s m meth c b L xs S0) {k23 : Nat → Nat → Nat → Int32 → gS → Option (Int32 × gS)} (hk23 : ∀ (x1 : Nat) (x2 : Nat) (x3 : Nat) (x4 : Int32) (S : gS) (ls : Array Slot), k23 x1 x2 x3 x4 S = some (1, S') → lv_has ls 7 [(0, .ref b), (1, va_rf (some x1)), (2, va_rf (some x2)), (3, va_rf (some x3)), (4, .int x4)] → gV D cT s.heap p l e room_1 s m #[Value.ref b] below meth c (lw_Z below #[Value.ref b] s) S0 S (F0 m 23 ls [])) (x1 : Nat) (x2 : Nat) (x3 : Nat) (x4 : Int32) (S : gS) (hden : B_La_law_494 xs L k23 x1 x2 x3 x4 S = some (1, S')) {ls : Array Slot} (hl : lv_has ls 7 [(0, .ref b), (1, va_rf (some x1)), (2, va_rf (some x2)), (3, va_rf (some x3)), (4, .int x4)]) : gV D cT s.heap p l e room_1 s m #[Value.ref b] below meth c (lw_Z below #[Value.ref b] s) S0 S (F0 m 494 ls []) := by
  obtain ⟨X, hZ, -, hr, hX, hbl⟩ := id Y
  have hx := X.1
  have hb := X.2.1
  unfold B_La_law_494 at hden
  refine gV.lift (fun _ _ _ _ => lv_goto (tgt := 961) hx hb d_La_law_494 (by decide)) ?_
  exact w_La_law_961 hst Y hk23 x1 x2 x3 x4 S hden (lv_sub hl [0, 1, 2, 3, 4] rfl)
def B_La_law_426 (xs : Nat → Int32) (L : Nat) (k23 : Nat → Nat → Nat → Int32 → gS → Option (Int32 × gS)) (x1 : Nat) (x2 : Nat) (x3 : Nat) (x4 : Int32) (S : gS) : Option (Int32 × gS) := B_La_law_961 xs L k23 x1 x2 x3 x4 S
set_option maxRecDepth 100000 in
set_option maxHeartbeats 4000000 in
theorem w_La_law_426 {D : va_G} {cT : Nat → ClassId} {l : Launch} {p : Program} {e : Env} {s : State} {m : MethodId} {below : List Frame} {meth : Method} {c : Code} {b L : Nat} {xs : Nat → Int32} {S0 : gS} {S' : gS} (hst : l.stackTraces = false) (Y : gYL D cT p s m meth c b L xs S0) {k23 : Nat → Nat → Nat → Int32 → gS → Option (Int32 × gS)} (hk23 : ∀ (x1 : Nat) (x2 : Nat) (x3 : Nat) (x4 : Int32) (S : gS) (ls : Array Slot), k23 x1 x2 x3 x4 S = some (1, S') → lv_has ls 7 [(0, .ref b), (1, va_rf (some x1)), (2, va_rf (some x2)), (3, va_rf (some x3)), (4, .int x4)] → gV D cT s.heap p l e room_1 s m #[Value.ref b] below meth c (lw_Z below #[Value.ref b] s) S0 S (F0 m 23 ls [])) (x1 : Nat) (x2 : Nat) (x3 : Nat) (x4 : Int32) (S : gS) (hden : B_La_law_426 xs L k23 x1 x2 x3 x4 S = some (1, S')) {ls : Array Slot} (hl : lv_has ls 7 [(0, .ref b), (1, va_rf (some x1)), (2, va_rf (some x2)), (3, va_rf (some x3)), (4, .int x4)]) : gV D cT s.heap p l e room_1 s m #[Value.ref b] below meth c (lw_Z below #[Value.ref b] s) S0 S (F0 m 426 ls []) := by
  obtain ⟨X, hZ, -, hr, hX, hbl⟩ := id Y
  have hx := X.1
  have hb := X.2.1
  unfold B_La_law_426 at hden
  refine gV.lift (fun _ _ _ _ => lv_goto (tgt := 961) hx hb d_La_law_426 (by decide)) ?_
  exact w_La_law_961 hst Y hk23 x1 x2 x3 x4 S hden (lv_sub hl [0, 1, 2, 3, 4] rfl)
def B_La_law_261 (xs : Nat → Int32) (L : Nat) (k23 : Nat → Nat → Nat → Int32 → gS → Option (Int32 × gS)) (x1 : Nat) (x2 : Nat) (x3 : Nat) (x4 : Int32) (S : gS) : Option (Int32 × gS) := B_La_law_961 xs L k23 x1 x2 x3 x4 S
set_option maxRecDepth 100000 in
set_option maxHeartbeats 4000000 in
theorem w_La_law_261 {D : va_G} {cT : Nat → ClassId} {l : Launch} {p : Program} {e : Env} {s : State} {m : MethodId} {below : List Frame} {meth : Method} {c : Code} {b L : Nat} {xs : Nat → Int32} {S0 : gS} {S' : gS} (hst : l.stackTraces = false) (Y : gYL D cT p s m meth c b L xs S0) {k23 : Nat → Nat → Nat → Int32 → gS → Option (Int32 × gS)} (hk23 : ∀ (x1 : Nat) (x2 : Nat) (x3 : Nat) (x4 : Int32) (S : gS) (ls : Array Slot), k23 x1 x2 x3 x4 S = some (1, S') → lv_has ls 7 [(0, .ref b), (1, va_rf (some x1)), (2, va_rf (some x2)), (3, va_rf (some x3)), (4, .int x4)] → gV D cT s.heap p l e room_1 s m #[Value.ref b] below meth c (lw_Z below #[Value.ref b] s) S0 S (F0 m 23 ls [])) (x1 : Nat) (x2 : Nat) (x3 : Nat) (x4 : Int32) (S : gS) (hden : B_La_law_261 xs L k23 x1 x2 x3 x4 S = some (1, S')) {ls : Array Slot} (hl : lv_has ls 7 [(0, .ref b), (1, va_rf (some x1)), (2, va_rf (some x2)), (3, va_rf (some x3)), (4, .int x4)]) : gV D cT s.heap p l e room_1 s m #[Value.ref b] below meth c (lw_Z below #[Value.ref b] s) S0 S (F0 m 261 ls []) := by
  obtain ⟨X, hZ, -, hr, hX, hbl⟩ := id Y
  have hx := X.1
  have hb := X.2.1
  unfold B_La_law_261 at hden
  refine gV.lift (fun _ _ _ _ => lv_goto (tgt := 961) hx hb d_La_law_261 (by decide)) ?_
  exact w_La_law_961 hst Y hk23 x1 x2 x3 x4 S hden (lv_sub hl [0, 1, 2, 3, 4] rfl)
def B_La_law_205 (xs : Nat → Int32) (L : Nat) (k23 : Nat → Nat → Nat → Int32 → gS → Option (Int32 × gS)) (x1 : Nat) (x2 : Nat) (x3 : Nat) (x4 : Int32) (S : gS) : Option (Int32 × gS) := B_La_law_961 xs L k23 x1 x2 x3 x4 S
set_option maxRecDepth 100000 in
set_option maxHeartbeats 4000000 in
theorem w_La_law_205 {D : va_G} {cT : Nat → ClassId} {l : Launch} {p : Program} {e : Env} {s : State} {m : MethodId} {below : List Frame} {meth : Method} {c : Code} {b L : Nat} {xs : Nat → Int32} {S0 : gS} {S' : gS} (hst : l.stackTraces = false) (Y : gYL D cT p s m meth c b L xs S0) {k23 : Nat → Nat → Nat → Int32 → gS → Option (Int32 × gS)} (hk23 : ∀ (x1 : Nat) (x2 : Nat) (x3 : Nat) (x4 : Int32) (S : gS) (ls : Array Slot), k23 x1 x2 x3 x4 S = some (1, S') → lv_has ls 7 [(0, .ref b), (1, va_rf (some x1)), (2, va_rf (some x2)), (3, va_rf (some x3)), (4, .int x4)] → gV D cT s.heap p l e room_1 s m #[Value.ref b] below meth c (lw_Z below #[Value.ref b] s) S0 S (F0 m 23 ls [])) (x1 : Nat) (x2 : Nat) (x3 : Nat) (x4 : Int32) (S : gS) (hden : B_La_law_205 xs L k23 x1 x2 x3 x4 S = some (1, S')) {ls : Array Slot} (hl : lv_has ls 7 [(0, .ref b), (1, va_rf (some x1)), (2, va_rf (some x2)), (3, va_rf (some x3)), (4, .int x4)]) : gV D cT s.heap p l e room_1 s m #[Value.ref b] below meth c (lw_Z below #[Value.ref b] s) S0 S (F0 m 205 ls []) := by
  obtain ⟨X, hZ, -, hr, hX, hbl⟩ := id Y
  have hx := X.1
  have hb := X.2.1
  unfold B_La_law_205 at hden
  refine gV.lift (fun _ _ _ _ => lv_goto (tgt := 961) hx hb d_La_law_205 (by decide)) ?_
  exact w_La_law_961 hst Y hk23 x1 x2 x3 x4 S hden (lv_sub hl [0, 1, 2, 3, 4] rfl)
def B_La_law_23 (xs : Nat → Int32) (L : Nat) (k23 : Nat → Nat → Nat → Int32 → gS → Option (Int32 × gS)) (x1 : Nat) (x2 : Nat) (x3 : Nat) (x4 : Int32) (S : gS) : Option (Int32 × gS) := (if ((nI L) - 6) < x4 then some (1, S) else Option.bind (gScr xs L x4) (fun v2 => (if (v2 &&& 15) = 0 then Option.bind (gScr xs L (x4 + 1)) (fun v4 => Option.bind (gScr xs L (x4 + 2)) (fun v5 => Option.bind (gScr xs L (x4 + 3)) (fun v6 => gB2 (D_La_sign (some x1) ((v4.toInt64 <<< ((32 : Int32).toInt64 &&& 63)) ||| (v5.toInt64 &&& 4294967295)) v6 (some x3) S) (fun v8 S7 => Option.bind (gScr xs L (x4 + 1)) (fun v9 => Option.bind (gScr xs L (x4 + 2)) (fun v10 => Option.bind (gScr xs L (x4 + 3)) (fun v11 => Option.bind (gOb S7 x2 10) (fun fs14 => gB2 (D_Mo_sign x2 ((v9.toInt64 <<< ((32 : Int32).toInt64 &&& 63)) ||| (v10.toInt64 &&& 4294967295)) v11 S7) (fun v13 S12 => Option.bind (gOb S12 x2 10) (fun fs17 => gB2 (D_Mo_thrown x2 S12) (fun v16 S15 => (if v16 = v8 then (if v8 = 0 then Option.bind (gAL S15 x3 1 0) (fun v20 => (if (lg_cmp v20 v13.toInt64) = 0 then B_La_law_205 xs L k23 x1 x2 x3 x4 S15 else some (0, S15))) else B_La_law_205 xs L k23 x1 x2 x3 x4 S15) else some (0, S15))))))))))))) else (if (v2 &&& 15) = 1 then Option.bind (gScr xs L (x4 + 1)) (fun v23 => gB2 (D_La_read (some x1) v23 (some x3) S) (fun v25 S24 => Option.bind (gScr xs L (x4 + 1)) (fun v26 => Option.bind (gOb S24 x2 10) (fun fs29 => gB2 (D_Mo_read x2 v26 S24) (fun v28 S27 => Option.bind (gOb S27 x2 10) (fun fs32 => gB2 (D_Mo_thrown x2 S27) (fun v31 S30 => (if v31 = v25 then (if v25 = 0 then Option.bind (gAL S30 x3 1 0) (fun v35 => (if (lg_cmp v35 v28.toInt64) = 0 then B_La_law_261 xs L k23 x1 x2 x3 x4 S30 else some (0, S30))) else B_La_law_261 xs L k23 x1 x2 x3 x4 S30) else some (0, S30))))))))) else (if (v2 &&& 15) = 2 then Option.bind (gOb S x1 0) (fun fs40 => gB2 (D_PT_place x1 S) (fun v39 S38 => Option.bind (gOb S38 x2 10) (fun fs43 => gB2 (D_Mo_place x2 S38) (fun v42 S41 => (if v39 = v42 then B_La_law_961 xs L k23 x1 x2 x3 x4 S41 else some (0, S41)))))) else (if (v2 &&& 15) = 3 then Option.bind (gScr xs L (x4 + 1)) (fun v46 => Option.bind (gScr xs L (x4 + 2)) (fun v47 => gB2 (D_La_town (some x1) v46 v47 S) (fun v49 S48 => Option.bind (gScr xs L (x4 + 1)) (fun v50 => Option.bind (gScr xs L (x4 + 2)) (fun v51 => Option.bind (gOb S48 x2 10) (fun fs53 => Option.bind (D_Mo_town x2 v50 v51 S48) (fun S52 => Option.bind (gOb S52 x2 10) (fun fs56 => gB2 (D_Mo_thrown x2 S52) (fun v55 S54 => (if v55 = v49 then B_La_law_961 xs L k23 x1 x2 x3 x4 S54 else some (0, S54))))))))))) else (if (v2 &&& 15) = 4 then Option.bind (gScr xs L (x4 + 1)) (fun v59 => Option.bind (gScr xs L (x4 + 2)) (fun v60 => Option.bind (gScr xs L (x4 + 3)) (fun v61 => Option.bind (gScr xs L (x4 + 4)) (fun v62 => Option.bind (gScr xs L (x4 + 5)) (fun v63 => gB2 (D_La_plan (some x1) v59 v60 v61 v62 v63 (some x3) S) (fun v65 S64 => Option.bind (gScr xs L (x4 + 1)) (fun v66 => Option.bind (gScr xs L (x4 + 2)) (fun v67 => Option.bind (gScr xs L (x4 + 3)) (fun v68 => Option.bind (gScr xs L (x4 + 4)) (fun v69 => Option.bind (gScr xs L (x4 + 5)) (fun v70 => Option.bind (gOb S64 x2 10) (fun fs73 => gB2 (D_Mo_plan x2 v66 v67 v68 v69 v70 S64) (fun v72 S71 => Option.bind (gOb S71 x2 10) (fun fs76 => gB2 (D_Mo_thrown x2 S71) (fun v75 S74 => (if v75 = v65 then (if v65 = 0 then Option.bind (gAL S74 x3 1 0) (fun v79 => (if (lg_cmp v79 v72.toInt64) = 0 then B_La_law_426 xs L k23 x1 x2 x3 x4 S74 else some (0, S74))) else B_La_law_426 xs L k23 x1 x2 x3 x4 S74) else some (0, S74))))))))))))))))) else (if (v2 &&& 15) = 5 then Option.bind (gScr xs L (x4 + 1)) (fun v82 => Option.bind (gScr xs L (x4 + 2)) (fun v83 => gB2 (D_La_need (some x1) v82 v83 (some x3) S) (fun v85 S84 => Option.bind (gScr xs L (x4 + 1)) (fun v86 => Option.bind (gScr xs L (x4 + 2)) (fun v87 => Option.bind (gOb S84 x2 10) (fun fs90 => gB2 (D_Mo_need x2 v86 v87 S84) (fun v89 S88 => Option.bind (gOb S88 x2 10) (fun fs93 => gB2 (D_Mo_thrown x2 S88) (fun v92 S91 => (if v92 = v85 then (if v85 = 0 then Option.bind (gAL S91 x3 1 0) (fun v96 => (if (lg_cmp v96 v89.toInt64) = 0 then B_La_law_494 xs L k23 x1 x2 x3 x4 S91 else some (0, S91))) else B_La_law_494 xs L k23 x1 x2 x3 x4 S91) else some (0, S91))))))))))) else (if (v2 &&& 15) = 6 then Option.bind (gScr xs L (x4 + 1)) (fun v99 => Option.bind (gScr xs L (x4 + 2)) (fun v100 => Option.bind (gScr xs L (x4 + 3)) (fun v101 => Option.bind (gScr xs L (x4 + 4)) (fun v102 => gB2 (D_La_standby (some x1) v99 v100 v101 v102 (some x3) S) (fun v104 S103 => Option.bind (gScr xs L (x4 + 1)) (fun v105 => Option.bind (gScr xs L (x4 + 2)) (fun v106 => Option.bind (gScr xs L (x4 + 3)) (fun v107 => Option.bind (gScr xs L (x4 + 4)) (fun v108 => Option.bind (gOb S103 x2 10) (fun fs111 => gB2 (D_Mo_standby x2 v105 v106 v107 v108 S103) (fun v110 S109 => Option.bind (gOb S109 x2 10) (fun fs114 => gB2 (D_Mo_thrown x2 S109) (fun v113 S112 => (if v113 = v104 then (if v104 = 0 then Option.bind (gAL S112 x3 1 0) (fun v117 => (if (lg_cmp v117 v110.toInt64) = 0 then B_La_law_586 xs L k23 x1 x2 x3 x4 S112 else some (0, S112))) else B_La_law_586 xs L k23 x1 x2 x3 x4 S112) else some (0, S112))))))))))))))) else (if (v2 &&& 15) = 7 then Option.bind (gScr xs L (x4 + 1)) (fun v120 => Option.bind (gScr xs L (x4 + 2)) (fun v121 => gB2 (D_La_clash (some x1) v120 v121 (some x3) S) (fun v123 S122 => Option.bind (gScr xs L (x4 + 1)) (fun v124 => Option.bind (gScr xs L (x4 + 2)) (fun v125 => Option.bind (gOb S122 x2 10) (fun fs128 => gB2 (D_Mo_clash x2 v124 v125 S122) (fun v127 S126 => Option.bind (gOb S126 x2 10) (fun fs131 => gB2 (D_Mo_thrown x2 S126) (fun v130 S129 => (if v130 = v123 then (if v123 = 0 then Option.bind (gAL S129 x3 1 0) (fun v134 => (if (lg_cmp v134 v127.toInt64) = 0 then B_La_law_654 xs L k23 x1 x2 x3 x4 S129 else some (0, S129))) else B_La_law_654 xs L k23 x1 x2 x3 x4 S129) else some (0, S129))))))))))) else (if (v2 &&& 15) = 8 then Option.bind (gScr xs L (x4 + 1)) (fun v137 => Option.bind (gScr xs L (x4 + 2)) (fun v138 => gB2 (D_La_never (some x1) v137 v138 (some x3) S) (fun v140 S139 => Option.bind (gScr xs L (x4 + 1)) (fun v141 => Option.bind (gScr xs L (x4 + 2)) (fun v142 => Option.bind (gOb S139 x2 10) (fun fs145 => gB2 (D_Mo_never x2 v141 v142 S139) (fun v144 S143 => Option.bind (gOb S143 x2 10) (fun fs148 => gB2 (D_Mo_thrown x2 S143) (fun v147 S146 => (if v147 = v140 then (if v140 = 0 then Option.bind (gAL S146 x3 1 0) (fun v151 => (if (lg_cmp v151 v144.toInt64) = 0 then B_La_law_722 xs L k23 x1 x2 x3 x4 S146 else some (0, S146))) else B_La_law_722 xs L k23 x1 x2 x3 x4 S146) else some (0, S146))))))))))) else (if (v2 &&& 15) = 9 then Option.bind (gScr xs L (x4 + 1)) (fun v154 => Option.bind (gScr xs L (x4 + 2)) (fun v155 => gB2 (D_La_lacks (some x1) v154 v155 (some x3) S) (fun v157 S156 => Option.bind (gScr xs L (x4 + 1)) (fun v158 => Option.bind (gScr xs L (x4 + 2)) (fun v159 => Option.bind (gOb S156 x2 10) (fun fs162 => gB2 (D_Mo_lacks x2 v158 v159 S156) (fun v161 S160 => Option.bind (gOb S160 x2 10) (fun fs165 => gB2 (D_Mo_thrown x2 S160) (fun v164 S163 => (if v164 = v157 then (if v157 = 0 then Option.bind (gAL S163 x3 1 0) (fun v168 => (if (lg_cmp v168 v161.toInt64) = 0 then B_La_law_790 xs L k23 x1 x2 x3 x4 S163 else some (0, S163))) else B_La_law_790 xs L k23 x1 x2 x3 x4 S163) else some (0, S163))))))))))) else (if (v2 &&& 15) = 10 then Option.bind (gScr xs L (x4 + 1)) (fun v171 => gB2 (D_La_print (some x1) v171 (some x3) S) (fun v173 S172 => Option.bind (gScr xs L (x4 + 1)) (fun v174 => Option.bind (gOb S172 x2 10) (fun fs177 => gB2 (D_Mo_print x2 v174 S172) (fun v176 S175 => Option.bind (gOb S175 x2 10) (fun fs180 => gB2 (D_Mo_thrown x2 S175) (fun v179 S178 => (if v179 = v173 then (if v173 = 0 then Option.bind (gAL S178 x3 1 0) (fun v183 => (if (lg_cmp v183 v176.toInt64) = 0 then B_La_law_846 xs L k23 x1 x2 x3 x4 S178 else some (0, S178))) else B_La_law_846 xs L k23 x1 x2 x3 x4 S178) else some (0, S178))))))))) else (if (v2 &&& 15) = 11 then Option.bind (gScr xs L (x4 + 1)) (fun v186 => gB2 (D_La_at (some x1) v186 (some x3) S) (fun v188 S187 => Option.bind (gScr xs L (x4 + 1)) (fun v189 => Option.bind (gOb S187 x2 10) (fun fs192 => gB2 (D_Mo_at x2 v189 S187) (fun v191 S190 => Option.bind (gOb S190 x2 10) (fun fs195 => gB2 (D_Mo_thrown x2 S190) (fun v194 S193 => (if v194 = v188 then (if v188 = 0 then Option.bind (gAL S193 x3 1 0) (fun v198 => (if (lg_cmp v198 v191.toInt64) = 0 then B_La_law_902 xs L k23 x1 x2 x3 x4 S193 else some (0, S193))) else B_La_law_902 xs L k23 x1 x2 x3 x4 S193) else some (0, S193))))))))) else (if (v2 &&& 15) = 12 then Option.bind (gScr xs L (x4 + 1)) (fun v201 => gB2 (D_La_count (some x1) v201 (some x3) S) (fun v203 S202 => Option.bind (gScr xs L (x4 + 1)) (fun v204 => Option.bind (gOb S202 x2 10) (fun fs207 => gB2 (D_Mo_count x2 v204 S202) (fun v206 S205 => Option.bind (gOb S205 x2 10) (fun fs210 => gB2 (D_Mo_thrown x2 S205) (fun v209 S208 => (if v209 = v203 then (if v203 = 0 then Option.bind (gAL S208 x3 1 0) (fun v213 => (if (lg_cmp v213 v206.toInt64) = 0 then B_La_law_958 xs L k23 x1 x2 x3 x4 S208 else some (0, S208))) else B_La_law_958 xs L k23 x1 x2 x3 x4 S208) else some (0, S208))))))))) else B_La_law_961 xs L k23 x1 x2 x3 x4 S)))))))))))))))
set_option maxRecDepth 100000 in
set_option maxHeartbeats 4000000 in
theorem w_La_law_23 {D : va_G} {cT : Nat → ClassId} {l : Launch} {p : Program} {e : Env} {s : State} {m : MethodId} {below : List Frame} {meth : Method} {c : Code} {b L : Nat} {xs : Nat → Int32} {S0 : gS} {S' : gS} (hst : l.stackTraces = false) (Y : gYL D cT p s m meth c b L xs S0) {k23 : Nat → Nat → Nat → Int32 → gS → Option (Int32 × gS)} (hk23 : ∀ (x1 : Nat) (x2 : Nat) (x3 : Nat) (x4 : Int32) (S : gS) (ls : Array Slot), k23 x1 x2 x3 x4 S = some (1, S') → lv_has ls 7 [(0, .ref b), (1, va_rf (some x1)), (2, va_rf (some x2)), (3, va_rf (some x3)), (4, .int x4)] → gV D cT s.heap p l e room_1 s m #[Value.ref b] below meth c (lw_Z below #[Value.ref b] s) S0 S (F0 m 23 ls [])) (x1 : Nat) (x2 : Nat) (x3 : Nat) (x4 : Int32) (S : gS) (hden : B_La_law_23 xs L k23 x1 x2 x3 x4 S = some (1, S')) {ls : Array Slot} (hl : lv_has ls 7 [(0, .ref b), (1, va_rf (some x1)), (2, va_rf (some x2)), (3, va_rf (some x3)), (4, .int x4)]) : gV D cT s.heap p l e room_1 s m #[Value.ref b] below meth c (lw_Z below #[Value.ref b] s) S0 S (F0 m 23 ls []) := by
  obtain ⟨X, hZ, -, hr, hX, hbl⟩ := id Y
  have hx := X.1
  have hb := X.2.1
  unfold B_La_law_23 at hden
  refine gV.lift (fun _ _ _ _ => lv_iload hx hb d_La_law_23 (lv_at hl 4 rfl)) ?_
  refine gV.lift (fun _ _ _ _ => lv_aload_n hx hb d_La_law_25 rfl (lv_at hl 0 rfl)) ?_
  refine g_slen X hX hbl d_La_law_26 ?_
  refine gV.lift (fun _ _ _ _ => lv_bipush (v := 6) hx hb d_La_law_27 (by decide)) ?_
  refine gV.lift (fun _ _ _ _ => lv_isub hx hb d_La_law_29) ?_
  refine gV.lift2 (fun _ _ _ _ => lv_icmp_gt (tgt := 967) hx hb d_La_law_30 (by decide)) (fun hc1 => ?_) (fun hc1 => ?_)
  · replace hden := gip hc1 hden
    refine gV.lift (fun _ _ _ _ => lv_iconst (v := 1) hx hb d_La_law_967 (by decide)) ?_
    exact g_lawret X hr d_La_law_968
  · replace hden := gin hc1 hden
    refine gV.lift (fun _ _ _ _ => lv_aload_n hx hb d_La_law_33 rfl (lv_at hl 0 rfl)) ?_
    refine gV.lift (fun _ _ _ _ => lv_iload hx hb d_La_law_34 (lv_at hl 4 rfl)) ?_
    replace hden := gb hden
    obtain ⟨v2, hv, hden⟩ := hden
    refine g_sld X hX hbl hv d_La_law_36 ?_
    refine gV.lift (fun _ _ _ _ => lv_bipush (v := 15) hx hb d_La_law_37 (by decide)) ?_
    refine gV.lift (fun _ _ _ _ => lv_iand hx hb d_La_law_39) ?_
    by_cases hc3 : (v2 &&& 15) = 0
    · replace hden := gip hc3 hden
      refine gV.lift (fun _ _ _ _ => lv_tableIn (tgt := 108) hx hb d_La_law_40 (by rw [hc3]; decide) (by rw [hc3]; decide) (by rw [hc3]; rfl) (by decide)) ?_
      refine gV.lift (fun _ _ _ _ => g_aload_n hx hb d_La_law_108 rfl (lv_at hl 1 rfl)) ?_
      refine gV.lift (fun _ _ _ _ => lv_aload_n hx hb d_La_law_109 rfl (lv_at hl 0 rfl)) ?_
      refine gV.lift (fun _ _ _ _ => lv_iload hx hb d_La_law_110 (lv_at hl 4 rfl)) ?_
      refine gV.lift (fun _ _ _ _ => lv_iconst (v := 1) hx hb d_La_law_112 (by decide)) ?_
      refine gV.lift (fun _ _ _ _ => lv_iadd hx hb d_La_law_113) ?_
      replace hden := gb hden
      obtain ⟨v4, hv, hden⟩ := hden
      refine g_sld X hX hbl hv d_La_law_114 ?_
      refine gV.lift (fun _ _ _ _ => lv_i2l (v := v4.toInt64) hx hb d_La_law_115 rfl) ?_
      refine gV.lift (fun _ _ _ _ => lv_bipush (v := 32) hx hb d_La_law_116 (by decide)) ?_
      refine gV.lift (fun _ _ _ _ => lv_lshl (v := (v4.toInt64 <<< ((32 : Int32).toInt64 &&& 63))) hx hb d_La_law_118 rfl) ?_
      refine gV.lift (fun _ _ _ _ => lv_aload_n hx hb d_La_law_119 rfl (lv_at hl 0 rfl)) ?_
      refine gV.lift (fun _ _ _ _ => lv_iload hx hb d_La_law_120 (lv_at hl 4 rfl)) ?_
      refine gV.lift (fun _ _ _ _ => lv_iconst (v := 2) hx hb d_La_law_122 (by decide)) ?_
      refine gV.lift (fun _ _ _ _ => lv_iadd hx hb d_La_law_123) ?_
      replace hden := gb hden
      obtain ⟨v5, hv, hden⟩ := hden
      refine g_sld X hX hbl hv d_La_law_124 ?_
      refine gV.lift (fun _ _ _ _ => lv_i2l (v := v5.toInt64) hx hb d_La_law_125 rfl) ?_
      refine gV.lift (fun _ _ _ _ => lv_ldc2 (v := 4294967295) hx hb X.2.2.2.1 (X.2.2.2.2.1 _ q_1018) d_La_law_126) ?_
      refine gV.lift (fun _ _ _ _ => lv_land hx hb d_La_law_129) ?_
      refine gV.lift (fun _ _ _ _ => lv_lor hx hb d_La_law_130) ?_
      refine gV.lift (fun _ _ _ _ => lv_aload_n hx hb d_La_law_131 rfl (lv_at hl 0 rfl)) ?_
      refine gV.lift (fun _ _ _ _ => lv_iload hx hb d_La_law_132 (lv_at hl 4 rfl)) ?_
      refine gV.lift (fun _ _ _ _ => lv_iconst (v := 3) hx hb d_La_law_134 (by decide)) ?_
      refine gV.lift (fun _ _ _ _ => lv_iadd hx hb d_La_law_135) ?_
      replace hden := gb hden
      obtain ⟨v6, hv, hden⟩ := hden
      refine g_sld X hX hbl hv d_La_law_136 ?_
      refine gV.lift (fun _ _ _ _ => g_aload_n hx hb d_La_law_137 rfl (lv_at hl 3 rfl)) ?_
      replace hden := gb2 hden
      obtain ⟨v8, S7, hz, hden⟩ := hden
      refine g_callSW (As := [va_rf (some x1), .long ((v4.toInt64 <<< ((32 : Int32).toInt64 &&& 63)) ||| (v5.toInt64 &&& 4294967295)), .int v6, va_rf (some x3)]) (rest := []) X hZ (c_La_sign hst hz) q_138 q_0 q_136 q_137 ⟨by decide, by decide, by show _ = some 4; decide +kernel⟩ ⟨by decide, by decide⟩ hl.1 (Nat.le_of_ble_eq_true rfl) d_La_law_138 rfl rfl ?_
      refine gV.liftS (nL := 7) (lv' := [(5, .int v8), (0, .ref b), (1, va_rf (some x1)), (2, va_rf (some x2)), (3, va_rf (some x3)), (4, .int x4)]) (fun _ _ _ _ => lv_istore hx hb d_La_law_141 hl (by decide) rfl) (fun ls hl => ?_)
      refine gV.lift (fun _ _ _ _ => g_aload_n hx hb d_La_law_143 rfl (lv_at hl 3 rfl)) ?_
      refine gV.lift (fun _ _ _ _ => lv_aload_n hx hb d_La_law_144 rfl (lv_at hl 1 rfl)) ?_
      refine gV.lift (fun _ _ _ _ => lv_iload hx hb d_La_law_145 (lv_at hl 5 rfl)) ?_
      refine gV.lift (fun _ _ _ _ => lv_iconst (v := 1) hx hb d_La_law_147 (by decide)) ?_
      refine gV.lift (fun _ _ _ _ => lv_iadd hx hb d_La_law_148) ?_
      replace hden := gb hden
      obtain ⟨v9, hv, hden⟩ := hden
      refine g_sld X hX hbl hv d_La_law_149 ?_
      refine gV.lift (fun _ _ _ _ => lv_i2l (v := v9.toInt64) hx hb d_La_law_150 rfl) ?_
      refine gV.lift (fun _ _ _ _ => lv_bipush (v := 32) hx hb d_La_law_151 (by decide)) ?_
      refine gV.lift (fun _ _ _ _ => lv_lshl (v := (v9.toInt64 <<< ((32 : Int32).toInt64 &&& 63))) hx hb d_La_law_153 rfl) ?_
      refine gV.lift (fun _ _ _ _ => lv_aload_n hx hb d_La_law_154 rfl (lv_at hl 1 rfl)) ?_
      refine gV.lift (fun _ _ _ _ => lv_iload hx hb d_La_law_155 (lv_at hl 5 rfl)) ?_
      refine gV.lift (fun _ _ _ _ => lv_iconst (v := 2) hx hb d_La_law_157 (by decide)) ?_
      refine gV.lift (fun _ _ _ _ => lv_iadd hx hb d_La_law_158) ?_
      replace hden := gb hden
      obtain ⟨v10, hv, hden⟩ := hden
      refine g_sld X hX hbl hv d_La_law_159 ?_
      refine gV.lift (fun _ _ _ _ => lv_i2l (v := v10.toInt64) hx hb d_La_law_160 rfl) ?_
      refine gV.lift (fun _ _ _ _ => lv_ldc2 (v := 4294967295) hx hb X.2.2.2.1 (X.2.2.2.2.1 _ q_1018) d_La_law_161) ?_
      refine gV.lift (fun _ _ _ _ => lv_land hx hb d_La_law_164) ?_
      refine gV.lift (fun _ _ _ _ => lv_lor hx hb d_La_law_165) ?_
      refine gV.lift (fun _ _ _ _ => lv_aload_n hx hb d_La_law_166 rfl (lv_at hl 1 rfl)) ?_
      refine gV.lift (fun _ _ _ _ => lv_iload hx hb d_La_law_167 (lv_at hl 5 rfl)) ?_
      refine gV.lift (fun _ _ _ _ => lv_iconst (v := 3) hx hb d_La_law_169 (by decide)) ?_
      refine gV.lift (fun _ _ _ _ => lv_iadd hx hb d_La_law_170) ?_
      replace hden := gb hden
      obtain ⟨v11, hv, hden⟩ := hden
      refine g_sld X hX hbl hv d_La_law_171 ?_
      replace hden := gb hden
      obtain ⟨fs14, ho, hden⟩ := hden
      replace hden := gb2 hden
      obtain ⟨v13, S12, hz, hden⟩ := hden
      refine g_callV (As := [.long ((v9.toInt64 <<< ((32 : Int32).toInt64 &&& 63)) ||| (v10.toInt64 &&& 4294967295)), .int v11]) (rest := []) X hZ (c_Mo_sign hz) cl_Mo (gOb_spec ho) q_852 q_5 q_849 q_850 q_851 ⟨by decide, by decide, by show _ = some 2; decide +kernel⟩ ⟨by decide, by decide⟩ hl.1 (Nat.le_of_ble_eq_true rfl) d_La_law_172 rfl rfl ?_
      refine gV.liftS (nL := 7) (lv' := [(6, .int v13), (5, .int v8), (0, .ref b), (1, va_rf (some x1)), (2, va_rf (some x2)), (3, va_rf (some x3)), (4, .int x4)]) (fun _ _ _ _ => lv_istore hx hb d_La_law_175 hl (by decide) rfl) (fun ls hl => ?_)
      refine gV.lift (fun _ _ _ _ => g_aload_n hx hb d_La_law_177 rfl (lv_at hl 4 rfl)) ?_
      replace hden := gb hden
      obtain ⟨fs17, ho, hden⟩ := hden
      replace hden := gb2 hden
      obtain ⟨v16, S15, hz, hden⟩ := hden
      refine g_callV (As := []) (rest := []) X hZ (c_Mo_thrown hz) cl_Mo (gOb_spec ho) q_848 q_5 q_845 q_846 q_847 ⟨by decide, by decide, by show _ = some 0; decide +kernel⟩ ⟨by decide, by decide⟩ hl.1 (Nat.le_of_ble_eq_true rfl) d_La_law_178 rfl rfl ?_
      refine gV.lift (fun _ _ _ _ => lv_iload hx hb d_La_law_181 (lv_at hl 1 rfl)) ?_
      refine gV.lift2 (fun _ _ _ _ => lv_icmp_eq (tgt := 188) hx hb d_La_law_183 (by decide)) (fun hc18 => ?_) (fun hc18 => ?_)
      · replace hden := gip hc18 hden
        refine gV.lift (fun _ _ _ _ => lv_iload hx hb d_La_law_188 (lv_at hl 1 rfl)) ?_
        refine gV.lift2 (fun _ _ _ _ => lv_if_ne (tgt := 205) hx hb d_La_law_190 (by decide)) (fun hc19 => ?_) (fun hc19 => ?_)
        · replace hden := gin hc19 hden
          exact w_La_law_205 hst Y hk23 x1 x2 x3 x4 S15 hden (lv_sub hl [2, 3, 4, 5, 6] rfl)
        · replace hden := gip hc19 hden
          refine gV.lift (fun _ _ _ _ => g_aload_n hx hb d_La_law_193 rfl (lv_at hl 5 rfl)) ?_
          refine gV.lift (fun _ _ _ _ => lv_iconst (v := 0) hx hb d_La_law_194 (by decide)) ?_
          replace hden := gb hden
          obtain ⟨v20, hv, hden⟩ := hden
          refine r_lald X (t := 1) rfl hv d_La_law_195 ?_
          refine gV.lift (fun _ _ _ _ => lv_iload hx hb d_La_law_196 (lv_at hl 0 rfl)) ?_
          refine gV.lift (fun _ _ _ _ => lv_i2l (v := v13.toInt64) hx hb d_La_law_198 rfl) ?_
          refine gV.lift (fun _ _ _ _ => W.lcmp hx hb d_La_law_199) ?_
          refine gV.lift2 (fun _ _ _ _ => lv_if_eq (tgt := 205) hx hb d_La_law_200 (by decide)) (fun hc21 => ?_) (fun hc21 => ?_)
          · replace hden := gip hc21 hden
            exact w_La_law_205 hst Y hk23 x1 x2 x3 x4 S15 hden (lv_sub hl [2, 3, 4, 5, 6] rfl)
          · replace hden := gin hc21 hden
            refine gV.lift (fun _ _ _ _ => lv_iconst (v := 0) hx hb d_La_law_203 (by decide)) ?_
            exact absurd (gpi hden).1 (by decide)
      · replace hden := gin hc18 hden
        refine gV.lift (fun _ _ _ _ => lv_iconst (v := 0) hx hb d_La_law_186 (by decide)) ?_
        exact absurd (gpi hden).1 (by decide)
    replace hden := gin hc3 hden
    by_cases hc22 : (v2 &&& 15) = 1
    · replace hden := gip hc22 hden
      refine gV.lift (fun _ _ _ _ => lv_tableIn (tgt := 208) hx hb d_La_law_40 (by rw [hc22]; decide) (by rw [hc22]; decide) (by rw [hc22]; rfl) (by decide)) ?_
      refine gV.lift (fun _ _ _ _ => g_aload_n hx hb d_La_law_208 rfl (lv_at hl 1 rfl)) ?_
      refine gV.lift (fun _ _ _ _ => lv_aload_n hx hb d_La_law_209 rfl (lv_at hl 0 rfl)) ?_
      refine gV.lift (fun _ _ _ _ => lv_iload hx hb d_La_law_210 (lv_at hl 4 rfl)) ?_
      refine gV.lift (fun _ _ _ _ => lv_iconst (v := 1) hx hb d_La_law_212 (by decide)) ?_
      refine gV.lift (fun _ _ _ _ => lv_iadd hx hb d_La_law_213) ?_
      replace hden := gb hden
      obtain ⟨v23, hv, hden⟩ := hden
      refine g_sld X hX hbl hv d_La_law_214 ?_
      refine gV.lift (fun _ _ _ _ => g_aload_n hx hb d_La_law_215 rfl (lv_at hl 3 rfl)) ?_
      replace hden := gb2 hden
      obtain ⟨v25, S24, hz, hden⟩ := hden
      refine g_callSW (As := [va_rf (some x1), .int v23, va_rf (some x3)]) (rest := []) X hZ (c_La_read hst hz) q_231 q_0 q_229 q_230 ⟨by decide, by decide, by show _ = some 3; decide +kernel⟩ ⟨by decide, by decide⟩ hl.1 (Nat.le_of_ble_eq_true rfl) d_La_law_216 rfl rfl ?_
      refine gV.liftS (nL := 7) (lv' := [(5, .int v25), (0, .ref b), (1, va_rf (some x1)), (2, va_rf (some x2)), (3, va_rf (some x3)), (4, .int x4)]) (fun _ _ _ _ => lv_istore hx hb d_La_law_219 hl (by decide) rfl) (fun ls hl => ?_)
      refine gV.lift (fun _ _ _ _ => g_aload_n hx hb d_La_law_221 rfl (lv_at hl 3 rfl)) ?_
      refine gV.lift (fun _ _ _ _ => lv_aload_n hx hb d_La_law_222 rfl (lv_at hl 1 rfl)) ?_
      refine gV.lift (fun _ _ _ _ => lv_iload hx hb d_La_law_223 (lv_at hl 5 rfl)) ?_
      refine gV.lift (fun _ _ _ _ => lv_iconst (v := 1) hx hb d_La_law_225 (by decide)) ?_
      refine gV.lift (fun _ _ _ _ => lv_iadd hx hb d_La_law_226) ?_
      replace hden := gb hden
      obtain ⟨v26, hv, hden⟩ := hden
      refine g_sld X hX hbl hv d_La_law_227 ?_
      replace hden := gb hden
      obtain ⟨fs29, ho, hden⟩ := hden
      replace hden := gb2 hden
      obtain ⟨v28, S27, hz, hden⟩ := hden
      refine g_callV (As := [.int v26]) (rest := []) X hZ (c_Mo_read hz) cl_Mo (gOb_spec ho) q_863 q_5 q_860 q_861 q_862 ⟨by decide, by decide, by show _ = some 1; decide +kernel⟩ ⟨by decide, by decide⟩ hl.1 (Nat.le_of_ble_eq_true rfl) d_La_law_228 rfl rfl ?_
      refine gV.liftS (nL := 7) (lv' := [(6, .int v28), (5, .int v25), (0, .ref b), (1, va_rf (some x1)), (2, va_rf (some x2)), (3, va_rf (some x3)), (4, .int x4)]) (fun _ _ _ _ => lv_istore hx hb d_La_law_231 hl (by decide) rfl) (fun ls hl => ?_)
      refine gV.lift (fun _ _ _ _ => g_aload_n hx hb d_La_law_233 rfl (lv_at hl 4 rfl)) ?_
      replace hden := gb hden
      obtain ⟨fs32, ho, hden⟩ := hden
      replace hden := gb2 hden
      obtain ⟨v31, S30, hz, hden⟩ := hden
      refine g_callV (As := []) (rest := []) X hZ (c_Mo_thrown hz) cl_Mo (gOb_spec ho) q_848 q_5 q_845 q_846 q_847 ⟨by decide, by decide, by show _ = some 0; decide +kernel⟩ ⟨by decide, by decide⟩ hl.1 (Nat.le_of_ble_eq_true rfl) d_La_law_234 rfl rfl ?_
      refine gV.lift (fun _ _ _ _ => lv_iload hx hb d_La_law_237 (lv_at hl 1 rfl)) ?_
      refine gV.lift2 (fun _ _ _ _ => lv_icmp_eq (tgt := 244) hx hb d_La_law_239 (by decide)) (fun hc33 => ?_) (fun hc33 => ?_)
      · replace hden := gip hc33 hden
        refine gV.lift (fun _ _ _ _ => lv_iload hx hb d_La_law_244 (lv_at hl 1 rfl)) ?_
        refine gV.lift2 (fun _ _ _ _ => lv_if_ne (tgt := 261) hx hb d_La_law_246 (by decide)) (fun hc34 => ?_) (fun hc34 => ?_)
        · replace hden := gin hc34 hden
          exact w_La_law_261 hst Y hk23 x1 x2 x3 x4 S30 hden (lv_sub hl [2, 3, 4, 5, 6] rfl)
        · replace hden := gip hc34 hden
          refine gV.lift (fun _ _ _ _ => g_aload_n hx hb d_La_law_249 rfl (lv_at hl 5 rfl)) ?_
          refine gV.lift (fun _ _ _ _ => lv_iconst (v := 0) hx hb d_La_law_250 (by decide)) ?_
          replace hden := gb hden
          obtain ⟨v35, hv, hden⟩ := hden
          refine r_lald X (t := 1) rfl hv d_La_law_251 ?_
          refine gV.lift (fun _ _ _ _ => lv_iload hx hb d_La_law_252 (lv_at hl 0 rfl)) ?_
          refine gV.lift (fun _ _ _ _ => lv_i2l (v := v28.toInt64) hx hb d_La_law_254 rfl) ?_
          refine gV.lift (fun _ _ _ _ => W.lcmp hx hb d_La_law_255) ?_
          refine gV.lift2 (fun _ _ _ _ => lv_if_eq (tgt := 261) hx hb d_La_law_256 (by decide)) (fun hc36 => ?_) (fun hc36 => ?_)
          · replace hden := gip hc36 hden
            exact w_La_law_261 hst Y hk23 x1 x2 x3 x4 S30 hden (lv_sub hl [2, 3, 4, 5, 6] rfl)
          · replace hden := gin hc36 hden
            refine gV.lift (fun _ _ _ _ => lv_iconst (v := 0) hx hb d_La_law_259 (by decide)) ?_
            exact absurd (gpi hden).1 (by decide)
      · replace hden := gin hc33 hden
        refine gV.lift (fun _ _ _ _ => lv_iconst (v := 0) hx hb d_La_law_242 (by decide)) ?_
        exact absurd (gpi hden).1 (by decide)
    replace hden := gin hc22 hden
    by_cases hc37 : (v2 &&& 15) = 2
    · replace hden := gip hc37 hden
      refine gV.lift (fun _ _ _ _ => lv_tableIn (tgt := 264) hx hb d_La_law_40 (by rw [hc37]; decide) (by rw [hc37]; decide) (by rw [hc37]; rfl) (by decide)) ?_
      refine gV.lift (fun _ _ _ _ => g_aload_n hx hb d_La_law_264 rfl (lv_at hl 1 rfl)) ?_
      replace hden := gb hden
      obtain ⟨fs40, ho, hden⟩ := hden
      replace hden := gb2 hden
      obtain ⟨v39, S38, hz, hden⟩ := hden
      refine g_callV (As := []) (rest := []) X hZ (c_PT_place hz) cl_PT (gOb_spec ho) q_135 q_1 q_132 q_133 q_134 ⟨by decide, by decide, by show _ = some 0; decide +kernel⟩ ⟨by decide, by decide⟩ hl.1 (Nat.le_of_ble_eq_true rfl) d_La_law_265 rfl rfl ?_
      refine gV.lift (fun _ _ _ _ => g_aload_n hx hb d_La_law_268 rfl (lv_at hl 2 rfl)) ?_
      replace hden := gb hden
      obtain ⟨fs43, ho, hden⟩ := hden
      replace hden := gb2 hden
      obtain ⟨v42, S41, hz, hden⟩ := hden
      refine g_callV (As := []) (rest := [.int v39]) X hZ (c_Mo_place hz) cl_Mo (gOb_spec ho) q_927 q_5 q_924 q_925 q_926 ⟨by decide, by decide, by show _ = some 0; decide +kernel⟩ ⟨by decide, by decide⟩ hl.1 (Nat.le_of_ble_eq_true rfl) d_La_law_269 rfl rfl ?_
      refine gV.lift2 (fun _ _ _ _ => lv_icmp_eq (tgt := 961) hx hb d_La_law_272 (by decide)) (fun hc44 => ?_) (fun hc44 => ?_)
      · replace hden := gip hc44 hden
        exact w_La_law_961 hst Y hk23 x1 x2 x3 x4 S41 hden (lv_sub hl [0, 1, 2, 3, 4] rfl)
      · replace hden := gin hc44 hden
        refine gV.lift (fun _ _ _ _ => lv_iconst (v := 0) hx hb d_La_law_275 (by decide)) ?_
        exact absurd (gpi hden).1 (by decide)
    replace hden := gin hc37 hden
    by_cases hc45 : (v2 &&& 15) = 3
    · replace hden := gip hc45 hden
      refine gV.lift (fun _ _ _ _ => lv_tableIn (tgt := 277) hx hb d_La_law_40 (by rw [hc45]; decide) (by rw [hc45]; decide) (by rw [hc45]; rfl) (by decide)) ?_
      refine gV.lift (fun _ _ _ _ => g_aload_n hx hb d_La_law_277 rfl (lv_at hl 1 rfl)) ?_
      refine gV.lift (fun _ _ _ _ => lv_aload_n hx hb d_La_law_278 rfl (lv_at hl 0 rfl)) ?_
      refine gV.lift (fun _ _ _ _ => lv_iload hx hb d_La_law_279 (lv_at hl 4 rfl)) ?_
      refine gV.lift (fun _ _ _ _ => lv_iconst (v := 1) hx hb d_La_law_281 (by decide)) ?_
      refine gV.lift (fun _ _ _ _ => lv_iadd hx hb d_La_law_282) ?_
      replace hden := gb hden
      obtain ⟨v46, hv, hden⟩ := hden
      refine g_sld X hX hbl hv d_La_law_283 ?_
      refine gV.lift (fun _ _ _ _ => lv_aload_n hx hb d_La_law_284 rfl (lv_at hl 0 rfl)) ?_
      refine gV.lift (fun _ _ _ _ => lv_iload hx hb d_La_law_285 (lv_at hl 4 rfl)) ?_
      refine gV.lift (fun _ _ _ _ => lv_iconst (v := 2) hx hb d_La_law_287 (by decide)) ?_
      refine gV.lift (fun _ _ _ _ => lv_iadd hx hb d_La_law_288) ?_
      replace hden := gb hden
      obtain ⟨v47, hv, hden⟩ := hden
      refine g_sld X hX hbl hv d_La_law_289 ?_
      replace hden := gb2 hden
      obtain ⟨v49, S48, hz, hden⟩ := hden
      refine g_callSW (As := [va_rf (some x1), .int v46, .int v47]) (rest := []) X hZ (c_La_town hst hz) q_524 q_0 q_522 q_523 ⟨by decide, by decide, by show _ = some 3; decide +kernel⟩ ⟨by decide, by decide⟩ hl.1 (Nat.le_of_ble_eq_true rfl) d_La_law_290 rfl rfl ?_
      refine gV.liftS (nL := 7) (lv' := [(5, .int v49), (0, .ref b), (1, va_rf (some x1)), (2, va_rf (some x2)), (3, va_rf (some x3)), (4, .int x4)]) (fun _ _ _ _ => lv_istore hx hb d_La_law_293 hl (by decide) rfl) (fun ls hl => ?_)
      refine gV.lift (fun _ _ _ _ => g_aload_n hx hb d_La_law_295 rfl (lv_at hl 3 rfl)) ?_
      refine gV.lift (fun _ _ _ _ => lv_aload_n hx hb d_La_law_296 rfl (lv_at hl 1 rfl)) ?_
      refine gV.lift (fun _ _ _ _ => lv_iload hx hb d_La_law_297 (lv_at hl 5 rfl)) ?_
      refine gV.lift (fun _ _ _ _ => lv_iconst (v := 1) hx hb d_La_law_299 (by decide)) ?_
      refine gV.lift (fun _ _ _ _ => lv_iadd hx hb d_La_law_300) ?_
      replace hden := gb hden
      obtain ⟨v50, hv, hden⟩ := hden
      refine g_sld X hX hbl hv d_La_law_301 ?_
      refine gV.lift (fun _ _ _ _ => lv_aload_n hx hb d_La_law_302 rfl (lv_at hl 1 rfl)) ?_
      refine gV.lift (fun _ _ _ _ => lv_iload hx hb d_La_law_303 (lv_at hl 5 rfl)) ?_
      refine gV.lift (fun _ _ _ _ => lv_iconst (v := 2) hx hb d_La_law_305 (by decide)) ?_
      refine gV.lift (fun _ _ _ _ => lv_iadd hx hb d_La_law_306) ?_
      replace hden := gb hden
      obtain ⟨v51, hv, hden⟩ := hden
      refine g_sld X hX hbl hv d_La_law_307 ?_
      replace hden := gb hden
      obtain ⟨fs53, ho, hden⟩ := hden
      replace hden := gb hden
      obtain ⟨S52, hz, hden⟩ := hden
      refine g_callV (As := [.int v50, .int v51]) (rest := []) X hZ (c_Mo_town hz) cl_Mo (gOb_spec ho) q_931 q_5 q_928 q_929 q_930 ⟨by decide, by decide, by show _ = some 2; decide +kernel⟩ ⟨by decide, by decide⟩ hl.1 (Nat.le_of_ble_eq_true rfl) d_La_law_308 rfl rfl ?_
      refine gV.lift (fun _ _ _ _ => g_aload_n hx hb d_La_law_311 rfl (lv_at hl 3 rfl)) ?_
      replace hden := gb hden
      obtain ⟨fs56, ho, hden⟩ := hden
      replace hden := gb2 hden
      obtain ⟨v55, S54, hz, hden⟩ := hden
      refine g_callV (As := []) (rest := []) X hZ (c_Mo_thrown hz) cl_Mo (gOb_spec ho) q_848 q_5 q_845 q_846 q_847 ⟨by decide, by decide, by show _ = some 0; decide +kernel⟩ ⟨by decide, by decide⟩ hl.1 (Nat.le_of_ble_eq_true rfl) d_La_law_312 rfl rfl ?_
      refine gV.lift (fun _ _ _ _ => lv_iload hx hb d_La_law_315 (lv_at hl 0 rfl)) ?_
      refine gV.lift2 (fun _ _ _ _ => lv_icmp_eq (tgt := 322) hx hb d_La_law_317 (by decide)) (fun hc57 => ?_) (fun hc57 => ?_)
      · replace hden := gip hc57 hden
        refine gV.lift (fun _ _ _ _ => lv_goto (tgt := 961) hx hb d_La_law_322 (by decide)) ?_
        exact w_La_law_961 hst Y hk23 x1 x2 x3 x4 S54 hden (lv_sub hl [1, 2, 3, 4, 5] rfl)
      · replace hden := gin hc57 hden
        refine gV.lift (fun _ _ _ _ => lv_iconst (v := 0) hx hb d_La_law_320 (by decide)) ?_
        exact absurd (gpi hden).1 (by decide)
    replace hden := gin hc45 hden
    by_cases hc58 : (v2 &&& 15) = 4
    · replace hden := gip hc58 hden
      refine gV.lift (fun _ _ _ _ => lv_tableIn (tgt := 325) hx hb d_La_law_40 (by rw [hc58]; decide) (by rw [hc58]; decide) (by rw [hc58]; rfl) (by decide)) ?_
      refine gV.lift (fun _ _ _ _ => g_aload_n hx hb d_La_law_325 rfl (lv_at hl 1 rfl)) ?_
      refine gV.lift (fun _ _ _ _ => lv_aload_n hx hb d_La_law_326 rfl (lv_at hl 0 rfl)) ?_
      refine gV.lift (fun _ _ _ _ => lv_iload hx hb d_La_law_327 (lv_at hl 4 rfl)) ?_
      refine gV.lift (fun _ _ _ _ => lv_iconst (v := 1) hx hb d_La_law_329 (by decide)) ?_
      refine gV.lift (fun _ _ _ _ => lv_iadd hx hb d_La_law_330) ?_
      replace hden := gb hden
      obtain ⟨v59, hv, hden⟩ := hden
      refine g_sld X hX hbl hv d_La_law_331 ?_
      refine gV.lift (fun _ _ _ _ => lv_aload_n hx hb d_La_law_332 rfl (lv_at hl 0 rfl)) ?_
      refine gV.lift (fun _ _ _ _ => lv_iload hx hb d_La_law_333 (lv_at hl 4 rfl)) ?_
      refine gV.lift (fun _ _ _ _ => lv_iconst (v := 2) hx hb d_La_law_335 (by decide)) ?_
      refine gV.lift (fun _ _ _ _ => lv_iadd hx hb d_La_law_336) ?_
      replace hden := gb hden
      obtain ⟨v60, hv, hden⟩ := hden
      refine g_sld X hX hbl hv d_La_law_337 ?_
      refine gV.lift (fun _ _ _ _ => lv_aload_n hx hb d_La_law_338 rfl (lv_at hl 0 rfl)) ?_
      refine gV.lift (fun _ _ _ _ => lv_iload hx hb d_La_law_339 (lv_at hl 4 rfl)) ?_
      refine gV.lift (fun _ _ _ _ => lv_iconst (v := 3) hx hb d_La_law_341 (by decide)) ?_
      refine gV.lift (fun _ _ _ _ => lv_iadd hx hb d_La_law_342) ?_
      replace hden := gb hden
      obtain ⟨v61, hv, hden⟩ := hden
      refine g_sld X hX hbl hv d_La_law_343 ?_
      refine gV.lift (fun _ _ _ _ => lv_aload_n hx hb d_La_law_344 rfl (lv_at hl 0 rfl)) ?_
      refine gV.lift (fun _ _ _ _ => lv_iload hx hb d_La_law_345 (lv_at hl 4 rfl)) ?_
      refine gV.lift (fun _ _ _ _ => lv_iconst (v := 4) hx hb d_La_law_347 (by decide)) ?_
      refine gV.lift (fun _ _ _ _ => lv_iadd hx hb d_La_law_348) ?_
      replace hden := gb hden
      obtain ⟨v62, hv, hden⟩ := hden
      refine g_sld X hX hbl hv d_La_law_349 ?_
      refine gV.lift (fun _ _ _ _ => lv_aload_n hx hb d_La_law_350 rfl (lv_at hl 0 rfl)) ?_
      refine gV.lift (fun _ _ _ _ => lv_iload hx hb d_La_law_351 (lv_at hl 4 rfl)) ?_
      refine gV.lift (fun _ _ _ _ => lv_iconst (v := 5) hx hb d_La_law_353 (by decide)) ?_
      refine gV.lift (fun _ _ _ _ => lv_iadd hx hb d_La_law_354) ?_
      replace hden := gb hden
      obtain ⟨v63, hv, hden⟩ := hden
      refine g_sld X hX hbl hv d_La_law_355 ?_
      refine gV.lift (fun _ _ _ _ => g_aload_n hx hb d_La_law_356 rfl (lv_at hl 3 rfl)) ?_
      replace hden := gb2 hden
      obtain ⟨v65, S64, hz, hden⟩ := hden
      refine g_callSW (As := [va_rf (some x1), .int v59, .int v60, .int v61, .int v62, .int v63, va_rf (some x3)]) (rest := []) X hZ (c_La_plan hst hz) q_551 q_0 q_549 q_550 ⟨by decide, by decide, by show _ = some 7; decide +kernel⟩ ⟨by decide, by decide⟩ hl.1 (Nat.le_of_ble_eq_true rfl) d_La_law_357 rfl rfl ?_
      refine gV.liftS (nL := 7) (lv' := [(5, .int v65), (0, .ref b), (1, va_rf (some x1)), (2, va_rf (some x2)), (3, va_rf (some x3)), (4, .int x4)]) (fun _ _ _ _ => lv_istore hx hb d_La_law_360 hl (by decide) rfl) (fun ls hl => ?_)
      refine gV.lift (fun _ _ _ _ => g_aload_n hx hb d_La_law_362 rfl (lv_at hl 3 rfl)) ?_
      refine gV.lift (fun _ _ _ _ => lv_aload_n hx hb d_La_law_363 rfl (lv_at hl 1 rfl)) ?_
      refine gV.lift (fun _ _ _ _ => lv_iload hx hb d_La_law_364 (lv_at hl 5 rfl)) ?_
      refine gV.lift (fun _ _ _ _ => lv_iconst (v := 1) hx hb d_La_law_366 (by decide)) ?_
      refine gV.lift (fun _ _ _ _ => lv_iadd hx hb d_La_law_367) ?_
      replace hden := gb hden
      obtain ⟨v66, hv, hden⟩ := hden
      refine g_sld X hX hbl hv d_La_law_368 ?_
      refine gV.lift (fun _ _ _ _ => lv_aload_n hx hb d_La_law_369 rfl (lv_at hl 1 rfl)) ?_
      refine gV.lift (fun _ _ _ _ => lv_iload hx hb d_La_law_370 (lv_at hl 5 rfl)) ?_
      refine gV.lift (fun _ _ _ _ => lv_iconst (v := 2) hx hb d_La_law_372 (by decide)) ?_
      refine gV.lift (fun _ _ _ _ => lv_iadd hx hb d_La_law_373) ?_
      replace hden := gb hden
      obtain ⟨v67, hv, hden⟩ := hden
      refine g_sld X hX hbl hv d_La_law_374 ?_
      refine gV.lift (fun _ _ _ _ => lv_aload_n hx hb d_La_law_375 rfl (lv_at hl 1 rfl)) ?_
      refine gV.lift (fun _ _ _ _ => lv_iload hx hb d_La_law_376 (lv_at hl 5 rfl)) ?_
      refine gV.lift (fun _ _ _ _ => lv_iconst (v := 3) hx hb d_La_law_378 (by decide)) ?_
      refine gV.lift (fun _ _ _ _ => lv_iadd hx hb d_La_law_379) ?_
      replace hden := gb hden
      obtain ⟨v68, hv, hden⟩ := hden
      refine g_sld X hX hbl hv d_La_law_380 ?_
      refine gV.lift (fun _ _ _ _ => lv_aload_n hx hb d_La_law_381 rfl (lv_at hl 1 rfl)) ?_
      refine gV.lift (fun _ _ _ _ => lv_iload hx hb d_La_law_382 (lv_at hl 5 rfl)) ?_
      refine gV.lift (fun _ _ _ _ => lv_iconst (v := 4) hx hb d_La_law_384 (by decide)) ?_
      refine gV.lift (fun _ _ _ _ => lv_iadd hx hb d_La_law_385) ?_
      replace hden := gb hden
      obtain ⟨v69, hv, hden⟩ := hden
      refine g_sld X hX hbl hv d_La_law_386 ?_
      refine gV.lift (fun _ _ _ _ => lv_aload_n hx hb d_La_law_387 rfl (lv_at hl 1 rfl)) ?_
      refine gV.lift (fun _ _ _ _ => lv_iload hx hb d_La_law_388 (lv_at hl 5 rfl)) ?_
      refine gV.lift (fun _ _ _ _ => lv_iconst (v := 5) hx hb d_La_law_390 (by decide)) ?_
      refine gV.lift (fun _ _ _ _ => lv_iadd hx hb d_La_law_391) ?_
      replace hden := gb hden
      obtain ⟨v70, hv, hden⟩ := hden
      refine g_sld X hX hbl hv d_La_law_392 ?_
      replace hden := gb hden
      obtain ⟨fs73, ho, hden⟩ := hden
      replace hden := gb2 hden
      obtain ⟨v72, S71, hz, hden⟩ := hden
      refine g_callV (As := [.int v66, .int v67, .int v68, .int v69, .int v70]) (rest := []) X hZ (c_Mo_plan hz) cl_Mo (gOb_spec ho) q_935 q_5 q_932 q_933 q_934 ⟨by decide, by decide, by show _ = some 5; decide +kernel⟩ ⟨by decide, by decide⟩ hl.1 (Nat.le_of_ble_eq_true rfl) d_La_law_393 rfl rfl ?_
      refine gV.liftS (nL := 7) (lv' := [(6, .int v72), (5, .int v65), (0, .ref b), (1, va_rf (some x1)), (2, va_rf (some x2)), (3, va_rf (some x3)), (4, .int x4)]) (fun _ _ _ _ => lv_istore hx hb d_La_law_396 hl (by decide) rfl) (fun ls hl => ?_)
      refine gV.lift (fun _ _ _ _ => g_aload_n hx hb d_La_law_398 rfl (lv_at hl 4 rfl)) ?_
      replace hden := gb hden
      obtain ⟨fs76, ho, hden⟩ := hden
      replace hden := gb2 hden
      obtain ⟨v75, S74, hz, hden⟩ := hden
      refine g_callV (As := []) (rest := []) X hZ (c_Mo_thrown hz) cl_Mo (gOb_spec ho) q_848 q_5 q_845 q_846 q_847 ⟨by decide, by decide, by show _ = some 0; decide +kernel⟩ ⟨by decide, by decide⟩ hl.1 (Nat.le_of_ble_eq_true rfl) d_La_law_399 rfl rfl ?_
      refine gV.lift (fun _ _ _ _ => lv_iload hx hb d_La_law_402 (lv_at hl 1 rfl)) ?_
      refine gV.lift2 (fun _ _ _ _ => lv_icmp_eq (tgt := 409) hx hb d_La_law_404 (by decide)) (fun hc77 => ?_) (fun hc77 => ?_)
      · replace hden := gip hc77 hden
        refine gV.lift (fun _ _ _ _ => lv_iload hx hb d_La_law_409 (lv_at hl 1 rfl)) ?_
        refine gV.lift2 (fun _ _ _ _ => lv_if_ne (tgt := 426) hx hb d_La_law_411 (by decide)) (fun hc78 => ?_) (fun hc78 => ?_)
        · replace hden := gin hc78 hden
          exact w_La_law_426 hst Y hk23 x1 x2 x3 x4 S74 hden (lv_sub hl [2, 3, 4, 5, 6] rfl)
        · replace hden := gip hc78 hden
          refine gV.lift (fun _ _ _ _ => g_aload_n hx hb d_La_law_414 rfl (lv_at hl 5 rfl)) ?_
          refine gV.lift (fun _ _ _ _ => lv_iconst (v := 0) hx hb d_La_law_415 (by decide)) ?_
          replace hden := gb hden
          obtain ⟨v79, hv, hden⟩ := hden
          refine r_lald X (t := 1) rfl hv d_La_law_416 ?_
          refine gV.lift (fun _ _ _ _ => lv_iload hx hb d_La_law_417 (lv_at hl 0 rfl)) ?_
          refine gV.lift (fun _ _ _ _ => lv_i2l (v := v72.toInt64) hx hb d_La_law_419 rfl) ?_
          refine gV.lift (fun _ _ _ _ => W.lcmp hx hb d_La_law_420) ?_
          refine gV.lift2 (fun _ _ _ _ => lv_if_eq (tgt := 426) hx hb d_La_law_421 (by decide)) (fun hc80 => ?_) (fun hc80 => ?_)
          · replace hden := gip hc80 hden
            exact w_La_law_426 hst Y hk23 x1 x2 x3 x4 S74 hden (lv_sub hl [2, 3, 4, 5, 6] rfl)
          · replace hden := gin hc80 hden
            refine gV.lift (fun _ _ _ _ => lv_iconst (v := 0) hx hb d_La_law_424 (by decide)) ?_
            exact absurd (gpi hden).1 (by decide)
      · replace hden := gin hc77 hden
        refine gV.lift (fun _ _ _ _ => lv_iconst (v := 0) hx hb d_La_law_407 (by decide)) ?_
        exact absurd (gpi hden).1 (by decide)
    replace hden := gin hc58 hden
    by_cases hc81 : (v2 &&& 15) = 5
    · replace hden := gip hc81 hden
      refine gV.lift (fun _ _ _ _ => lv_tableIn (tgt := 429) hx hb d_La_law_40 (by rw [hc81]; decide) (by rw [hc81]; decide) (by rw [hc81]; rfl) (by decide)) ?_
      refine gV.lift (fun _ _ _ _ => g_aload_n hx hb d_La_law_429 rfl (lv_at hl 1 rfl)) ?_
      refine gV.lift (fun _ _ _ _ => lv_aload_n hx hb d_La_law_430 rfl (lv_at hl 0 rfl)) ?_
      refine gV.lift (fun _ _ _ _ => lv_iload hx hb d_La_law_431 (lv_at hl 4 rfl)) ?_
      refine gV.lift (fun _ _ _ _ => lv_iconst (v := 1) hx hb d_La_law_433 (by decide)) ?_
      refine gV.lift (fun _ _ _ _ => lv_iadd hx hb d_La_law_434) ?_
      replace hden := gb hden
      obtain ⟨v82, hv, hden⟩ := hden
      refine g_sld X hX hbl hv d_La_law_435 ?_
      refine gV.lift (fun _ _ _ _ => lv_aload_n hx hb d_La_law_436 rfl (lv_at hl 0 rfl)) ?_
      refine gV.lift (fun _ _ _ _ => lv_iload hx hb d_La_law_437 (lv_at hl 4 rfl)) ?_
      refine gV.lift (fun _ _ _ _ => lv_iconst (v := 2) hx hb d_La_law_439 (by decide)) ?_
      refine gV.lift (fun _ _ _ _ => lv_iadd hx hb d_La_law_440) ?_
      replace hden := gb hden
      obtain ⟨v83, hv, hden⟩ := hden
      refine g_sld X hX hbl hv d_La_law_441 ?_
      refine gV.lift (fun _ _ _ _ => g_aload_n hx hb d_La_law_442 rfl (lv_at hl 3 rfl)) ?_
      replace hden := gb2 hden
      obtain ⟨v85, S84, hz, hden⟩ := hden
      refine g_callSW (As := [va_rf (some x1), .int v82, .int v83, va_rf (some x3)]) (rest := []) X hZ (c_La_need hst hz) q_589 q_0 q_587 q_588 ⟨by decide, by decide, by show _ = some 4; decide +kernel⟩ ⟨by decide, by decide⟩ hl.1 (Nat.le_of_ble_eq_true rfl) d_La_law_443 rfl rfl ?_
      refine gV.liftS (nL := 7) (lv' := [(5, .int v85), (0, .ref b), (1, va_rf (some x1)), (2, va_rf (some x2)), (3, va_rf (some x3)), (4, .int x4)]) (fun _ _ _ _ => lv_istore hx hb d_La_law_446 hl (by decide) rfl) (fun ls hl => ?_)
      refine gV.lift (fun _ _ _ _ => g_aload_n hx hb d_La_law_448 rfl (lv_at hl 3 rfl)) ?_
      refine gV.lift (fun _ _ _ _ => lv_aload_n hx hb d_La_law_449 rfl (lv_at hl 1 rfl)) ?_
      refine gV.lift (fun _ _ _ _ => lv_iload hx hb d_La_law_450 (lv_at hl 5 rfl)) ?_
      refine gV.lift (fun _ _ _ _ => lv_iconst (v := 1) hx hb d_La_law_452 (by decide)) ?_
      refine gV.lift (fun _ _ _ _ => lv_iadd hx hb d_La_law_453) ?_
      replace hden := gb hden
      obtain ⟨v86, hv, hden⟩ := hden
      refine g_sld X hX hbl hv d_La_law_454 ?_
      refine gV.lift (fun _ _ _ _ => lv_aload_n hx hb d_La_law_455 rfl (lv_at hl 1 rfl)) ?_
      refine gV.lift (fun _ _ _ _ => lv_iload hx hb d_La_law_456 (lv_at hl 5 rfl)) ?_
      refine gV.lift (fun _ _ _ _ => lv_iconst (v := 2) hx hb d_La_law_458 (by decide)) ?_
      refine gV.lift (fun _ _ _ _ => lv_iadd hx hb d_La_law_459) ?_
      replace hden := gb hden
      obtain ⟨v87, hv, hden⟩ := hden
      refine g_sld X hX hbl hv d_La_law_460 ?_
      replace hden := gb hden
      obtain ⟨fs90, ho, hden⟩ := hden
      replace hden := gb2 hden
      obtain ⟨v89, S88, hz, hden⟩ := hden
      refine g_callV (As := [.int v86, .int v87]) (rest := []) X hZ (c_Mo_need hz) cl_Mo (gOb_spec ho) q_957 q_5 q_954 q_955 q_956 ⟨by decide, by decide, by show _ = some 2; decide +kernel⟩ ⟨by decide, by decide⟩ hl.1 (Nat.le_of_ble_eq_true rfl) d_La_law_461 rfl rfl ?_
      refine gV.liftS (nL := 7) (lv' := [(6, .int v89), (5, .int v85), (0, .ref b), (1, va_rf (some x1)), (2, va_rf (some x2)), (3, va_rf (some x3)), (4, .int x4)]) (fun _ _ _ _ => lv_istore hx hb d_La_law_464 hl (by decide) rfl) (fun ls hl => ?_)
      refine gV.lift (fun _ _ _ _ => g_aload_n hx hb d_La_law_466 rfl (lv_at hl 4 rfl)) ?_
      replace hden := gb hden
      obtain ⟨fs93, ho, hden⟩ := hden
      replace hden := gb2 hden
      obtain ⟨v92, S91, hz, hden⟩ := hden
      refine g_callV (As := []) (rest := []) X hZ (c_Mo_thrown hz) cl_Mo (gOb_spec ho) q_848 q_5 q_845 q_846 q_847 ⟨by decide, by decide, by show _ = some 0; decide +kernel⟩ ⟨by decide, by decide⟩ hl.1 (Nat.le_of_ble_eq_true rfl) d_La_law_467 rfl rfl ?_
      refine gV.lift (fun _ _ _ _ => lv_iload hx hb d_La_law_470 (lv_at hl 1 rfl)) ?_
      refine gV.lift2 (fun _ _ _ _ => lv_icmp_eq (tgt := 477) hx hb d_La_law_472 (by decide)) (fun hc94 => ?_) (fun hc94 => ?_)
      · replace hden := gip hc94 hden
        refine gV.lift (fun _ _ _ _ => lv_iload hx hb d_La_law_477 (lv_at hl 1 rfl)) ?_
        refine gV.lift2 (fun _ _ _ _ => lv_if_ne (tgt := 494) hx hb d_La_law_479 (by decide)) (fun hc95 => ?_) (fun hc95 => ?_)
        · replace hden := gin hc95 hden
          exact w_La_law_494 hst Y hk23 x1 x2 x3 x4 S91 hden (lv_sub hl [2, 3, 4, 5, 6] rfl)
        · replace hden := gip hc95 hden
          refine gV.lift (fun _ _ _ _ => g_aload_n hx hb d_La_law_482 rfl (lv_at hl 5 rfl)) ?_
          refine gV.lift (fun _ _ _ _ => lv_iconst (v := 0) hx hb d_La_law_483 (by decide)) ?_
          replace hden := gb hden
          obtain ⟨v96, hv, hden⟩ := hden
          refine r_lald X (t := 1) rfl hv d_La_law_484 ?_
          refine gV.lift (fun _ _ _ _ => lv_iload hx hb d_La_law_485 (lv_at hl 0 rfl)) ?_
          refine gV.lift (fun _ _ _ _ => lv_i2l (v := v89.toInt64) hx hb d_La_law_487 rfl) ?_
          refine gV.lift (fun _ _ _ _ => W.lcmp hx hb d_La_law_488) ?_
          refine gV.lift2 (fun _ _ _ _ => lv_if_eq (tgt := 494) hx hb d_La_law_489 (by decide)) (fun hc97 => ?_) (fun hc97 => ?_)
          · replace hden := gip hc97 hden
            exact w_La_law_494 hst Y hk23 x1 x2 x3 x4 S91 hden (lv_sub hl [2, 3, 4, 5, 6] rfl)
          · replace hden := gin hc97 hden
            refine gV.lift (fun _ _ _ _ => lv_iconst (v := 0) hx hb d_La_law_492 (by decide)) ?_
            exact absurd (gpi hden).1 (by decide)
      · replace hden := gin hc94 hden
        refine gV.lift (fun _ _ _ _ => lv_iconst (v := 0) hx hb d_La_law_475 (by decide)) ?_
        exact absurd (gpi hden).1 (by decide)
    replace hden := gin hc81 hden
    by_cases hc98 : (v2 &&& 15) = 6
    · replace hden := gip hc98 hden
      refine gV.lift (fun _ _ _ _ => lv_tableIn (tgt := 497) hx hb d_La_law_40 (by rw [hc98]; decide) (by rw [hc98]; decide) (by rw [hc98]; rfl) (by decide)) ?_
      refine gV.lift (fun _ _ _ _ => g_aload_n hx hb d_La_law_497 rfl (lv_at hl 1 rfl)) ?_
      refine gV.lift (fun _ _ _ _ => lv_aload_n hx hb d_La_law_498 rfl (lv_at hl 0 rfl)) ?_
      refine gV.lift (fun _ _ _ _ => lv_iload hx hb d_La_law_499 (lv_at hl 4 rfl)) ?_
      refine gV.lift (fun _ _ _ _ => lv_iconst (v := 1) hx hb d_La_law_501 (by decide)) ?_
      refine gV.lift (fun _ _ _ _ => lv_iadd hx hb d_La_law_502) ?_
      replace hden := gb hden
      obtain ⟨v99, hv, hden⟩ := hden
      refine g_sld X hX hbl hv d_La_law_503 ?_
      refine gV.lift (fun _ _ _ _ => lv_aload_n hx hb d_La_law_504 rfl (lv_at hl 0 rfl)) ?_
      refine gV.lift (fun _ _ _ _ => lv_iload hx hb d_La_law_505 (lv_at hl 4 rfl)) ?_
      refine gV.lift (fun _ _ _ _ => lv_iconst (v := 2) hx hb d_La_law_507 (by decide)) ?_
      refine gV.lift (fun _ _ _ _ => lv_iadd hx hb d_La_law_508) ?_
      replace hden := gb hden
      obtain ⟨v100, hv, hden⟩ := hden
      refine g_sld X hX hbl hv d_La_law_509 ?_
      refine gV.lift (fun _ _ _ _ => lv_aload_n hx hb d_La_law_510 rfl (lv_at hl 0 rfl)) ?_
      refine gV.lift (fun _ _ _ _ => lv_iload hx hb d_La_law_511 (lv_at hl 4 rfl)) ?_
      refine gV.lift (fun _ _ _ _ => lv_iconst (v := 3) hx hb d_La_law_513 (by decide)) ?_
      refine gV.lift (fun _ _ _ _ => lv_iadd hx hb d_La_law_514) ?_
      replace hden := gb hden
      obtain ⟨v101, hv, hden⟩ := hden
      refine g_sld X hX hbl hv d_La_law_515 ?_
      refine gV.lift (fun _ _ _ _ => lv_aload_n hx hb d_La_law_516 rfl (lv_at hl 0 rfl)) ?_
      refine gV.lift (fun _ _ _ _ => lv_iload hx hb d_La_law_517 (lv_at hl 4 rfl)) ?_
      refine gV.lift (fun _ _ _ _ => lv_iconst (v := 4) hx hb d_La_law_519 (by decide)) ?_
      refine gV.lift (fun _ _ _ _ => lv_iadd hx hb d_La_law_520) ?_
      replace hden := gb hden
      obtain ⟨v102, hv, hden⟩ := hden
      refine g_sld X hX hbl hv d_La_law_521 ?_
      refine gV.lift (fun _ _ _ _ => g_aload_n hx hb d_La_law_522 rfl (lv_at hl 3 rfl)) ?_
      replace hden := gb2 hden
      obtain ⟨v104, S103, hz, hden⟩ := hden
      refine g_callSW (As := [va_rf (some x1), .int v99, .int v100, .int v101, .int v102, va_rf (some x3)]) (rest := []) X hZ (c_La_standby hst hz) q_602 q_0 q_600 q_601 ⟨by decide, by decide, by show _ = some 6; decide +kernel⟩ ⟨by decide, by decide⟩ hl.1 (Nat.le_of_ble_eq_true rfl) d_La_law_523 rfl rfl ?_
      refine gV.liftS (nL := 7) (lv' := [(5, .int v104), (0, .ref b), (1, va_rf (some x1)), (2, va_rf (some x2)), (3, va_rf (some x3)), (4, .int x4)]) (fun _ _ _ _ => lv_istore hx hb d_La_law_526 hl (by decide) rfl) (fun ls hl => ?_)
      refine gV.lift (fun _ _ _ _ => g_aload_n hx hb d_La_law_528 rfl (lv_at hl 3 rfl)) ?_
      refine gV.lift (fun _ _ _ _ => lv_aload_n hx hb d_La_law_529 rfl (lv_at hl 1 rfl)) ?_
      refine gV.lift (fun _ _ _ _ => lv_iload hx hb d_La_law_530 (lv_at hl 5 rfl)) ?_
      refine gV.lift (fun _ _ _ _ => lv_iconst (v := 1) hx hb d_La_law_532 (by decide)) ?_
      refine gV.lift (fun _ _ _ _ => lv_iadd hx hb d_La_law_533) ?_
      replace hden := gb hden
      obtain ⟨v105, hv, hden⟩ := hden
      refine g_sld X hX hbl hv d_La_law_534 ?_
      refine gV.lift (fun _ _ _ _ => lv_aload_n hx hb d_La_law_535 rfl (lv_at hl 1 rfl)) ?_
      refine gV.lift (fun _ _ _ _ => lv_iload hx hb d_La_law_536 (lv_at hl 5 rfl)) ?_
      refine gV.lift (fun _ _ _ _ => lv_iconst (v := 2) hx hb d_La_law_538 (by decide)) ?_
      refine gV.lift (fun _ _ _ _ => lv_iadd hx hb d_La_law_539) ?_
      replace hden := gb hden
      obtain ⟨v106, hv, hden⟩ := hden
      refine g_sld X hX hbl hv d_La_law_540 ?_
      refine gV.lift (fun _ _ _ _ => lv_aload_n hx hb d_La_law_541 rfl (lv_at hl 1 rfl)) ?_
      refine gV.lift (fun _ _ _ _ => lv_iload hx hb d_La_law_542 (lv_at hl 5 rfl)) ?_
      refine gV.lift (fun _ _ _ _ => lv_iconst (v := 3) hx hb d_La_law_544 (by decide)) ?_
      refine gV.lift (fun _ _ _ _ => lv_iadd hx hb d_La_law_545) ?_
      replace hden := gb hden
      obtain ⟨v107, hv, hden⟩ := hden
      refine g_sld X hX hbl hv d_La_law_546 ?_
      refine gV.lift (fun _ _ _ _ => lv_aload_n hx hb d_La_law_547 rfl (lv_at hl 1 rfl)) ?_
      refine gV.lift (fun _ _ _ _ => lv_iload hx hb d_La_law_548 (lv_at hl 5 rfl)) ?_
      refine gV.lift (fun _ _ _ _ => lv_iconst (v := 4) hx hb d_La_law_550 (by decide)) ?_
      refine gV.lift (fun _ _ _ _ => lv_iadd hx hb d_La_law_551) ?_
      replace hden := gb hden
      obtain ⟨v108, hv, hden⟩ := hden
      refine g_sld X hX hbl hv d_La_law_552 ?_
      replace hden := gb hden
      obtain ⟨fs111, ho, hden⟩ := hden
      replace hden := gb2 hden
      obtain ⟨v110, S109, hz, hden⟩ := hden
      refine g_callV (As := [.int v105, .int v106, .int v107, .int v108]) (rest := []) X hZ (c_Mo_standby hz) cl_Mo (gOb_spec ho) q_961 q_5 q_958 q_959 q_960 ⟨by decide, by decide, by show _ = some 4; decide +kernel⟩ ⟨by decide, by decide⟩ hl.1 (Nat.le_of_ble_eq_true rfl) d_La_law_553 rfl rfl ?_
      refine gV.liftS (nL := 7) (lv' := [(6, .int v110), (5, .int v104), (0, .ref b), (1, va_rf (some x1)), (2, va_rf (some x2)), (3, va_rf (some x3)), (4, .int x4)]) (fun _ _ _ _ => lv_istore hx hb d_La_law_556 hl (by decide) rfl) (fun ls hl => ?_)
      refine gV.lift (fun _ _ _ _ => g_aload_n hx hb d_La_law_558 rfl (lv_at hl 4 rfl)) ?_
      replace hden := gb hden
      obtain ⟨fs114, ho, hden⟩ := hden
      replace hden := gb2 hden
      obtain ⟨v113, S112, hz, hden⟩ := hden
      refine g_callV (As := []) (rest := []) X hZ (c_Mo_thrown hz) cl_Mo (gOb_spec ho) q_848 q_5 q_845 q_846 q_847 ⟨by decide, by decide, by show _ = some 0; decide +kernel⟩ ⟨by decide, by decide⟩ hl.1 (Nat.le_of_ble_eq_true rfl) d_La_law_559 rfl rfl ?_
      refine gV.lift (fun _ _ _ _ => lv_iload hx hb d_La_law_562 (lv_at hl 1 rfl)) ?_
      refine gV.lift2 (fun _ _ _ _ => lv_icmp_eq (tgt := 569) hx hb d_La_law_564 (by decide)) (fun hc115 => ?_) (fun hc115 => ?_)
      · replace hden := gip hc115 hden
        refine gV.lift (fun _ _ _ _ => lv_iload hx hb d_La_law_569 (lv_at hl 1 rfl)) ?_
        refine gV.lift2 (fun _ _ _ _ => lv_if_ne (tgt := 586) hx hb d_La_law_571 (by decide)) (fun hc116 => ?_) (fun hc116 => ?_)
        · replace hden := gin hc116 hden
          exact w_La_law_586 hst Y hk23 x1 x2 x3 x4 S112 hden (lv_sub hl [2, 3, 4, 5, 6] rfl)
        · replace hden := gip hc116 hden
          refine gV.lift (fun _ _ _ _ => g_aload_n hx hb d_La_law_574 rfl (lv_at hl 5 rfl)) ?_
          refine gV.lift (fun _ _ _ _ => lv_iconst (v := 0) hx hb d_La_law_575 (by decide)) ?_
          replace hden := gb hden
          obtain ⟨v117, hv, hden⟩ := hden
          refine r_lald X (t := 1) rfl hv d_La_law_576 ?_
          refine gV.lift (fun _ _ _ _ => lv_iload hx hb d_La_law_577 (lv_at hl 0 rfl)) ?_
          refine gV.lift (fun _ _ _ _ => lv_i2l (v := v110.toInt64) hx hb d_La_law_579 rfl) ?_
          refine gV.lift (fun _ _ _ _ => W.lcmp hx hb d_La_law_580) ?_
          refine gV.lift2 (fun _ _ _ _ => lv_if_eq (tgt := 586) hx hb d_La_law_581 (by decide)) (fun hc118 => ?_) (fun hc118 => ?_)
          · replace hden := gip hc118 hden
            exact w_La_law_586 hst Y hk23 x1 x2 x3 x4 S112 hden (lv_sub hl [2, 3, 4, 5, 6] rfl)
          · replace hden := gin hc118 hden
            refine gV.lift (fun _ _ _ _ => lv_iconst (v := 0) hx hb d_La_law_584 (by decide)) ?_
            exact absurd (gpi hden).1 (by decide)
      · replace hden := gin hc115 hden
        refine gV.lift (fun _ _ _ _ => lv_iconst (v := 0) hx hb d_La_law_567 (by decide)) ?_
        exact absurd (gpi hden).1 (by decide)
    replace hden := gin hc98 hden
    by_cases hc119 : (v2 &&& 15) = 7
    · replace hden := gip hc119 hden
      refine gV.lift (fun _ _ _ _ => lv_tableIn (tgt := 589) hx hb d_La_law_40 (by rw [hc119]; decide) (by rw [hc119]; decide) (by rw [hc119]; rfl) (by decide)) ?_
      refine gV.lift (fun _ _ _ _ => g_aload_n hx hb d_La_law_589 rfl (lv_at hl 1 rfl)) ?_
      refine gV.lift (fun _ _ _ _ => lv_aload_n hx hb d_La_law_590 rfl (lv_at hl 0 rfl)) ?_
      refine gV.lift (fun _ _ _ _ => lv_iload hx hb d_La_law_591 (lv_at hl 4 rfl)) ?_
      refine gV.lift (fun _ _ _ _ => lv_iconst (v := 1) hx hb d_La_law_593 (by decide)) ?_
      refine gV.lift (fun _ _ _ _ => lv_iadd hx hb d_La_law_594) ?_
      replace hden := gb hden
      obtain ⟨v120, hv, hden⟩ := hden
      refine g_sld X hX hbl hv d_La_law_595 ?_
      refine gV.lift (fun _ _ _ _ => lv_aload_n hx hb d_La_law_596 rfl (lv_at hl 0 rfl)) ?_
      refine gV.lift (fun _ _ _ _ => lv_iload hx hb d_La_law_597 (lv_at hl 4 rfl)) ?_
      refine gV.lift (fun _ _ _ _ => lv_iconst (v := 2) hx hb d_La_law_599 (by decide)) ?_
      refine gV.lift (fun _ _ _ _ => lv_iadd hx hb d_La_law_600) ?_
      replace hden := gb hden
      obtain ⟨v121, hv, hden⟩ := hden
      refine g_sld X hX hbl hv d_La_law_601 ?_
      refine gV.lift (fun _ _ _ _ => g_aload_n hx hb d_La_law_602 rfl (lv_at hl 3 rfl)) ?_
      replace hden := gb2 hden
      obtain ⟨v123, S122, hz, hden⟩ := hden
      refine g_callSW (As := [va_rf (some x1), .int v120, .int v121, va_rf (some x3)]) (rest := []) X hZ (c_La_clash hst hz) q_622 q_0 q_620 q_621 ⟨by decide, by decide, by show _ = some 4; decide +kernel⟩ ⟨by decide, by decide⟩ hl.1 (Nat.le_of_ble_eq_true rfl) d_La_law_603 rfl rfl ?_
      refine gV.liftS (nL := 7) (lv' := [(5, .int v123), (0, .ref b), (1, va_rf (some x1)), (2, va_rf (some x2)), (3, va_rf (some x3)), (4, .int x4)]) (fun _ _ _ _ => lv_istore hx hb d_La_law_606 hl (by decide) rfl) (fun ls hl => ?_)
      refine gV.lift (fun _ _ _ _ => g_aload_n hx hb d_La_law_608 rfl (lv_at hl 3 rfl)) ?_
      refine gV.lift (fun _ _ _ _ => lv_aload_n hx hb d_La_law_609 rfl (lv_at hl 1 rfl)) ?_
      refine gV.lift (fun _ _ _ _ => lv_iload hx hb d_La_law_610 (lv_at hl 5 rfl)) ?_
      refine gV.lift (fun _ _ _ _ => lv_iconst (v := 1) hx hb d_La_law_612 (by decide)) ?_
      refine gV.lift (fun _ _ _ _ => lv_iadd hx hb d_La_law_613) ?_
      replace hden := gb hden
      obtain ⟨v124, hv, hden⟩ := hden
      refine g_sld X hX hbl hv d_La_law_614 ?_
      refine gV.lift (fun _ _ _ _ => lv_aload_n hx hb d_La_law_615 rfl (lv_at hl 1 rfl)) ?_
      refine gV.lift (fun _ _ _ _ => lv_iload hx hb d_La_law_616 (lv_at hl 5 rfl)) ?_
      refine gV.lift (fun _ _ _ _ => lv_iconst (v := 2) hx hb d_La_law_618 (by decide)) ?_
      refine gV.lift (fun _ _ _ _ => lv_iadd hx hb d_La_law_619) ?_
      replace hden := gb hden
      obtain ⟨v125, hv, hden⟩ := hden
      refine g_sld X hX hbl hv d_La_law_620 ?_
      replace hden := gb hden
      obtain ⟨fs128, ho, hden⟩ := hden
      replace hden := gb2 hden
      obtain ⟨v127, S126, hz, hden⟩ := hden
      refine g_callV (As := [.int v124, .int v125]) (rest := []) X hZ (c_Mo_clash hz) cl_Mo (gOb_spec ho) q_965 q_5 q_962 q_963 q_964 ⟨by decide, by decide, by show _ = some 2; decide +kernel⟩ ⟨by decide, by decide⟩ hl.1 (Nat.le_of_ble_eq_true rfl) d_La_law_621 rfl rfl ?_
      refine gV.liftS (nL := 7) (lv' := [(6, .int v127), (5, .int v123), (0, .ref b), (1, va_rf (some x1)), (2, va_rf (some x2)), (3, va_rf (some x3)), (4, .int x4)]) (fun _ _ _ _ => lv_istore hx hb d_La_law_624 hl (by decide) rfl) (fun ls hl => ?_)
      refine gV.lift (fun _ _ _ _ => g_aload_n hx hb d_La_law_626 rfl (lv_at hl 4 rfl)) ?_
      replace hden := gb hden
      obtain ⟨fs131, ho, hden⟩ := hden
      replace hden := gb2 hden
      obtain ⟨v130, S129, hz, hden⟩ := hden
      refine g_callV (As := []) (rest := []) X hZ (c_Mo_thrown hz) cl_Mo (gOb_spec ho) q_848 q_5 q_845 q_846 q_847 ⟨by decide, by decide, by show _ = some 0; decide +kernel⟩ ⟨by decide, by decide⟩ hl.1 (Nat.le_of_ble_eq_true rfl) d_La_law_627 rfl rfl ?_
      refine gV.lift (fun _ _ _ _ => lv_iload hx hb d_La_law_630 (lv_at hl 1 rfl)) ?_
      refine gV.lift2 (fun _ _ _ _ => lv_icmp_eq (tgt := 637) hx hb d_La_law_632 (by decide)) (fun hc132 => ?_) (fun hc132 => ?_)
      · replace hden := gip hc132 hden
        refine gV.lift (fun _ _ _ _ => lv_iload hx hb d_La_law_637 (lv_at hl 1 rfl)) ?_
        refine gV.lift2 (fun _ _ _ _ => lv_if_ne (tgt := 654) hx hb d_La_law_639 (by decide)) (fun hc133 => ?_) (fun hc133 => ?_)
        · replace hden := gin hc133 hden
          exact w_La_law_654 hst Y hk23 x1 x2 x3 x4 S129 hden (lv_sub hl [2, 3, 4, 5, 6] rfl)
        · replace hden := gip hc133 hden
          refine gV.lift (fun _ _ _ _ => g_aload_n hx hb d_La_law_642 rfl (lv_at hl 5 rfl)) ?_
          refine gV.lift (fun _ _ _ _ => lv_iconst (v := 0) hx hb d_La_law_643 (by decide)) ?_
          replace hden := gb hden
          obtain ⟨v134, hv, hden⟩ := hden
          refine r_lald X (t := 1) rfl hv d_La_law_644 ?_
          refine gV.lift (fun _ _ _ _ => lv_iload hx hb d_La_law_645 (lv_at hl 0 rfl)) ?_
          refine gV.lift (fun _ _ _ _ => lv_i2l (v := v127.toInt64) hx hb d_La_law_647 rfl) ?_
          refine gV.lift (fun _ _ _ _ => W.lcmp hx hb d_La_law_648) ?_
          refine gV.lift2 (fun _ _ _ _ => lv_if_eq (tgt := 654) hx hb d_La_law_649 (by decide)) (fun hc135 => ?_) (fun hc135 => ?_)
          · replace hden := gip hc135 hden
            exact w_La_law_654 hst Y hk23 x1 x2 x3 x4 S129 hden (lv_sub hl [2, 3, 4, 5, 6] rfl)
          · replace hden := gin hc135 hden
            refine gV.lift (fun _ _ _ _ => lv_iconst (v := 0) hx hb d_La_law_652 (by decide)) ?_
            exact absurd (gpi hden).1 (by decide)
      · replace hden := gin hc132 hden
        refine gV.lift (fun _ _ _ _ => lv_iconst (v := 0) hx hb d_La_law_635 (by decide)) ?_
        exact absurd (gpi hden).1 (by decide)
    replace hden := gin hc119 hden
    by_cases hc136 : (v2 &&& 15) = 8
    · replace hden := gip hc136 hden
      refine gV.lift (fun _ _ _ _ => lv_tableIn (tgt := 657) hx hb d_La_law_40 (by rw [hc136]; decide) (by rw [hc136]; decide) (by rw [hc136]; rfl) (by decide)) ?_
      refine gV.lift (fun _ _ _ _ => g_aload_n hx hb d_La_law_657 rfl (lv_at hl 1 rfl)) ?_
      refine gV.lift (fun _ _ _ _ => lv_aload_n hx hb d_La_law_658 rfl (lv_at hl 0 rfl)) ?_
      refine gV.lift (fun _ _ _ _ => lv_iload hx hb d_La_law_659 (lv_at hl 4 rfl)) ?_
      refine gV.lift (fun _ _ _ _ => lv_iconst (v := 1) hx hb d_La_law_661 (by decide)) ?_
      refine gV.lift (fun _ _ _ _ => lv_iadd hx hb d_La_law_662) ?_
      replace hden := gb hden
      obtain ⟨v137, hv, hden⟩ := hden
      refine g_sld X hX hbl hv d_La_law_663 ?_
      refine gV.lift (fun _ _ _ _ => lv_aload_n hx hb d_La_law_664 rfl (lv_at hl 0 rfl)) ?_
      refine gV.lift (fun _ _ _ _ => lv_iload hx hb d_La_law_665 (lv_at hl 4 rfl)) ?_
      refine gV.lift (fun _ _ _ _ => lv_iconst (v := 2) hx hb d_La_law_667 (by decide)) ?_
      refine gV.lift (fun _ _ _ _ => lv_iadd hx hb d_La_law_668) ?_
      replace hden := gb hden
      obtain ⟨v138, hv, hden⟩ := hden
      refine g_sld X hX hbl hv d_La_law_669 ?_
      refine gV.lift (fun _ _ _ _ => g_aload_n hx hb d_La_law_670 rfl (lv_at hl 3 rfl)) ?_
      replace hden := gb2 hden
      obtain ⟨v140, S139, hz, hden⟩ := hden
      refine g_callSW (As := [va_rf (some x1), .int v137, .int v138, va_rf (some x3)]) (rest := []) X hZ (c_La_never hst hz) q_645 q_0 q_643 q_644 ⟨by decide, by decide, by show _ = some 4; decide +kernel⟩ ⟨by decide, by decide⟩ hl.1 (Nat.le_of_ble_eq_true rfl) d_La_law_671 rfl rfl ?_
      refine gV.liftS (nL := 7) (lv' := [(5, .int v140), (0, .ref b), (1, va_rf (some x1)), (2, va_rf (some x2)), (3, va_rf (some x3)), (4, .int x4)]) (fun _ _ _ _ => lv_istore hx hb d_La_law_674 hl (by decide) rfl) (fun ls hl => ?_)
      refine gV.lift (fun _ _ _ _ => g_aload_n hx hb d_La_law_676 rfl (lv_at hl 3 rfl)) ?_
      refine gV.lift (fun _ _ _ _ => lv_aload_n hx hb d_La_law_677 rfl (lv_at hl 1 rfl)) ?_
      refine gV.lift (fun _ _ _ _ => lv_iload hx hb d_La_law_678 (lv_at hl 5 rfl)) ?_
      refine gV.lift (fun _ _ _ _ => lv_iconst (v := 1) hx hb d_La_law_680 (by decide)) ?_
      refine gV.lift (fun _ _ _ _ => lv_iadd hx hb d_La_law_681) ?_
      replace hden := gb hden
      obtain ⟨v141, hv, hden⟩ := hden
      refine g_sld X hX hbl hv d_La_law_682 ?_
      refine gV.lift (fun _ _ _ _ => lv_aload_n hx hb d_La_law_683 rfl (lv_at hl 1 rfl)) ?_
      refine gV.lift (fun _ _ _ _ => lv_iload hx hb d_La_law_684 (lv_at hl 5 rfl)) ?_
      refine gV.lift (fun _ _ _ _ => lv_iconst (v := 2) hx hb d_La_law_686 (by decide)) ?_
      refine gV.lift (fun _ _ _ _ => lv_iadd hx hb d_La_law_687) ?_
      replace hden := gb hden
      obtain ⟨v142, hv, hden⟩ := hden
      refine g_sld X hX hbl hv d_La_law_688 ?_
      replace hden := gb hden
      obtain ⟨fs145, ho, hden⟩ := hden
      replace hden := gb2 hden
      obtain ⟨v144, S143, hz, hden⟩ := hden
      refine g_callV (As := [.int v141, .int v142]) (rest := []) X hZ (c_Mo_never hz) cl_Mo (gOb_spec ho) q_973 q_5 q_970 q_971 q_972 ⟨by decide, by decide, by show _ = some 2; decide +kernel⟩ ⟨by decide, by decide⟩ hl.1 (Nat.le_of_ble_eq_true rfl) d_La_law_689 rfl rfl ?_
      refine gV.liftS (nL := 7) (lv' := [(6, .int v144), (5, .int v140), (0, .ref b), (1, va_rf (some x1)), (2, va_rf (some x2)), (3, va_rf (some x3)), (4, .int x4)]) (fun _ _ _ _ => lv_istore hx hb d_La_law_692 hl (by decide) rfl) (fun ls hl => ?_)
      refine gV.lift (fun _ _ _ _ => g_aload_n hx hb d_La_law_694 rfl (lv_at hl 4 rfl)) ?_
      replace hden := gb hden
      obtain ⟨fs148, ho, hden⟩ := hden
      replace hden := gb2 hden
      obtain ⟨v147, S146, hz, hden⟩ := hden
      refine g_callV (As := []) (rest := []) X hZ (c_Mo_thrown hz) cl_Mo (gOb_spec ho) q_848 q_5 q_845 q_846 q_847 ⟨by decide, by decide, by show _ = some 0; decide +kernel⟩ ⟨by decide, by decide⟩ hl.1 (Nat.le_of_ble_eq_true rfl) d_La_law_695 rfl rfl ?_
      refine gV.lift (fun _ _ _ _ => lv_iload hx hb d_La_law_698 (lv_at hl 1 rfl)) ?_
      refine gV.lift2 (fun _ _ _ _ => lv_icmp_eq (tgt := 705) hx hb d_La_law_700 (by decide)) (fun hc149 => ?_) (fun hc149 => ?_)
      · replace hden := gip hc149 hden
        refine gV.lift (fun _ _ _ _ => lv_iload hx hb d_La_law_705 (lv_at hl 1 rfl)) ?_
        refine gV.lift2 (fun _ _ _ _ => lv_if_ne (tgt := 722) hx hb d_La_law_707 (by decide)) (fun hc150 => ?_) (fun hc150 => ?_)
        · replace hden := gin hc150 hden
          exact w_La_law_722 hst Y hk23 x1 x2 x3 x4 S146 hden (lv_sub hl [2, 3, 4, 5, 6] rfl)
        · replace hden := gip hc150 hden
          refine gV.lift (fun _ _ _ _ => g_aload_n hx hb d_La_law_710 rfl (lv_at hl 5 rfl)) ?_
          refine gV.lift (fun _ _ _ _ => lv_iconst (v := 0) hx hb d_La_law_711 (by decide)) ?_
          replace hden := gb hden
          obtain ⟨v151, hv, hden⟩ := hden
          refine r_lald X (t := 1) rfl hv d_La_law_712 ?_
          refine gV.lift (fun _ _ _ _ => lv_iload hx hb d_La_law_713 (lv_at hl 0 rfl)) ?_
          refine gV.lift (fun _ _ _ _ => lv_i2l (v := v144.toInt64) hx hb d_La_law_715 rfl) ?_
          refine gV.lift (fun _ _ _ _ => W.lcmp hx hb d_La_law_716) ?_
          refine gV.lift2 (fun _ _ _ _ => lv_if_eq (tgt := 722) hx hb d_La_law_717 (by decide)) (fun hc152 => ?_) (fun hc152 => ?_)
          · replace hden := gip hc152 hden
            exact w_La_law_722 hst Y hk23 x1 x2 x3 x4 S146 hden (lv_sub hl [2, 3, 4, 5, 6] rfl)
          · replace hden := gin hc152 hden
            refine gV.lift (fun _ _ _ _ => lv_iconst (v := 0) hx hb d_La_law_720 (by decide)) ?_
            exact absurd (gpi hden).1 (by decide)
      · replace hden := gin hc149 hden
        refine gV.lift (fun _ _ _ _ => lv_iconst (v := 0) hx hb d_La_law_703 (by decide)) ?_
        exact absurd (gpi hden).1 (by decide)
    replace hden := gin hc136 hden
    by_cases hc153 : (v2 &&& 15) = 9
    · replace hden := gip hc153 hden
      refine gV.lift (fun _ _ _ _ => lv_tableIn (tgt := 725) hx hb d_La_law_40 (by rw [hc153]; decide) (by rw [hc153]; decide) (by rw [hc153]; rfl) (by decide)) ?_
      refine gV.lift (fun _ _ _ _ => g_aload_n hx hb d_La_law_725 rfl (lv_at hl 1 rfl)) ?_
      refine gV.lift (fun _ _ _ _ => lv_aload_n hx hb d_La_law_726 rfl (lv_at hl 0 rfl)) ?_
      refine gV.lift (fun _ _ _ _ => lv_iload hx hb d_La_law_727 (lv_at hl 4 rfl)) ?_
      refine gV.lift (fun _ _ _ _ => lv_iconst (v := 1) hx hb d_La_law_729 (by decide)) ?_
      refine gV.lift (fun _ _ _ _ => lv_iadd hx hb d_La_law_730) ?_
      replace hden := gb hden
      obtain ⟨v154, hv, hden⟩ := hden
      refine g_sld X hX hbl hv d_La_law_731 ?_
      refine gV.lift (fun _ _ _ _ => lv_aload_n hx hb d_La_law_732 rfl (lv_at hl 0 rfl)) ?_
      refine gV.lift (fun _ _ _ _ => lv_iload hx hb d_La_law_733 (lv_at hl 4 rfl)) ?_
      refine gV.lift (fun _ _ _ _ => lv_iconst (v := 2) hx hb d_La_law_735 (by decide)) ?_
      refine gV.lift (fun _ _ _ _ => lv_iadd hx hb d_La_law_736) ?_
      replace hden := gb hden
      obtain ⟨v155, hv, hden⟩ := hden
      refine g_sld X hX hbl hv d_La_law_737 ?_
      refine gV.lift (fun _ _ _ _ => g_aload_n hx hb d_La_law_738 rfl (lv_at hl 3 rfl)) ?_
      replace hden := gb2 hden
      obtain ⟨v157, S156, hz, hden⟩ := hden
      refine g_callSW (As := [va_rf (some x1), .int v154, .int v155, va_rf (some x3)]) (rest := []) X hZ (c_La_lacks hst hz) q_672 q_0 q_670 q_671 ⟨by decide, by decide, by show _ = some 4; decide +kernel⟩ ⟨by decide, by decide⟩ hl.1 (Nat.le_of_ble_eq_true rfl) d_La_law_739 rfl rfl ?_
      refine gV.liftS (nL := 7) (lv' := [(5, .int v157), (0, .ref b), (1, va_rf (some x1)), (2, va_rf (some x2)), (3, va_rf (some x3)), (4, .int x4)]) (fun _ _ _ _ => lv_istore hx hb d_La_law_742 hl (by decide) rfl) (fun ls hl => ?_)
      refine gV.lift (fun _ _ _ _ => g_aload_n hx hb d_La_law_744 rfl (lv_at hl 3 rfl)) ?_
      refine gV.lift (fun _ _ _ _ => lv_aload_n hx hb d_La_law_745 rfl (lv_at hl 1 rfl)) ?_
      refine gV.lift (fun _ _ _ _ => lv_iload hx hb d_La_law_746 (lv_at hl 5 rfl)) ?_
      refine gV.lift (fun _ _ _ _ => lv_iconst (v := 1) hx hb d_La_law_748 (by decide)) ?_
      refine gV.lift (fun _ _ _ _ => lv_iadd hx hb d_La_law_749) ?_
      replace hden := gb hden
      obtain ⟨v158, hv, hden⟩ := hden
      refine g_sld X hX hbl hv d_La_law_750 ?_
      refine gV.lift (fun _ _ _ _ => lv_aload_n hx hb d_La_law_751 rfl (lv_at hl 1 rfl)) ?_
      refine gV.lift (fun _ _ _ _ => lv_iload hx hb d_La_law_752 (lv_at hl 5 rfl)) ?_
      refine gV.lift (fun _ _ _ _ => lv_iconst (v := 2) hx hb d_La_law_754 (by decide)) ?_
      refine gV.lift (fun _ _ _ _ => lv_iadd hx hb d_La_law_755) ?_
      replace hden := gb hden
      obtain ⟨v159, hv, hden⟩ := hden
      refine g_sld X hX hbl hv d_La_law_756 ?_
      replace hden := gb hden
      obtain ⟨fs162, ho, hden⟩ := hden
      replace hden := gb2 hden
      obtain ⟨v161, S160, hz, hden⟩ := hden
      refine g_callV (As := [.int v158, .int v159]) (rest := []) X hZ (c_Mo_lacks hz) cl_Mo (gOb_spec ho) q_985 q_5 q_982 q_983 q_984 ⟨by decide, by decide, by show _ = some 2; decide +kernel⟩ ⟨by decide, by decide⟩ hl.1 (Nat.le_of_ble_eq_true rfl) d_La_law_757 rfl rfl ?_
      refine gV.liftS (nL := 7) (lv' := [(6, .int v161), (5, .int v157), (0, .ref b), (1, va_rf (some x1)), (2, va_rf (some x2)), (3, va_rf (some x3)), (4, .int x4)]) (fun _ _ _ _ => lv_istore hx hb d_La_law_760 hl (by decide) rfl) (fun ls hl => ?_)
      refine gV.lift (fun _ _ _ _ => g_aload_n hx hb d_La_law_762 rfl (lv_at hl 4 rfl)) ?_
      replace hden := gb hden
      obtain ⟨fs165, ho, hden⟩ := hden
      replace hden := gb2 hden
      obtain ⟨v164, S163, hz, hden⟩ := hden
      refine g_callV (As := []) (rest := []) X hZ (c_Mo_thrown hz) cl_Mo (gOb_spec ho) q_848 q_5 q_845 q_846 q_847 ⟨by decide, by decide, by show _ = some 0; decide +kernel⟩ ⟨by decide, by decide⟩ hl.1 (Nat.le_of_ble_eq_true rfl) d_La_law_763 rfl rfl ?_
      refine gV.lift (fun _ _ _ _ => lv_iload hx hb d_La_law_766 (lv_at hl 1 rfl)) ?_
      refine gV.lift2 (fun _ _ _ _ => lv_icmp_eq (tgt := 773) hx hb d_La_law_768 (by decide)) (fun hc166 => ?_) (fun hc166 => ?_)
      · replace hden := gip hc166 hden
        refine gV.lift (fun _ _ _ _ => lv_iload hx hb d_La_law_773 (lv_at hl 1 rfl)) ?_
        refine gV.lift2 (fun _ _ _ _ => lv_if_ne (tgt := 790) hx hb d_La_law_775 (by decide)) (fun hc167 => ?_) (fun hc167 => ?_)
        · replace hden := gin hc167 hden
          exact w_La_law_790 hst Y hk23 x1 x2 x3 x4 S163 hden (lv_sub hl [2, 3, 4, 5, 6] rfl)
        · replace hden := gip hc167 hden
          refine gV.lift (fun _ _ _ _ => g_aload_n hx hb d_La_law_778 rfl (lv_at hl 5 rfl)) ?_
          refine gV.lift (fun _ _ _ _ => lv_iconst (v := 0) hx hb d_La_law_779 (by decide)) ?_
          replace hden := gb hden
          obtain ⟨v168, hv, hden⟩ := hden
          refine r_lald X (t := 1) rfl hv d_La_law_780 ?_
          refine gV.lift (fun _ _ _ _ => lv_iload hx hb d_La_law_781 (lv_at hl 0 rfl)) ?_
          refine gV.lift (fun _ _ _ _ => lv_i2l (v := v161.toInt64) hx hb d_La_law_783 rfl) ?_
          refine gV.lift (fun _ _ _ _ => W.lcmp hx hb d_La_law_784) ?_
          refine gV.lift2 (fun _ _ _ _ => lv_if_eq (tgt := 790) hx hb d_La_law_785 (by decide)) (fun hc169 => ?_) (fun hc169 => ?_)
          · replace hden := gip hc169 hden
            exact w_La_law_790 hst Y hk23 x1 x2 x3 x4 S163 hden (lv_sub hl [2, 3, 4, 5, 6] rfl)
          · replace hden := gin hc169 hden
            refine gV.lift (fun _ _ _ _ => lv_iconst (v := 0) hx hb d_La_law_788 (by decide)) ?_
            exact absurd (gpi hden).1 (by decide)
      · replace hden := gin hc166 hden
        refine gV.lift (fun _ _ _ _ => lv_iconst (v := 0) hx hb d_La_law_771 (by decide)) ?_
        exact absurd (gpi hden).1 (by decide)
    replace hden := gin hc153 hden
    by_cases hc170 : (v2 &&& 15) = 10
    · replace hden := gip hc170 hden
      refine gV.lift (fun _ _ _ _ => lv_tableIn (tgt := 793) hx hb d_La_law_40 (by rw [hc170]; decide) (by rw [hc170]; decide) (by rw [hc170]; rfl) (by decide)) ?_
      refine gV.lift (fun _ _ _ _ => g_aload_n hx hb d_La_law_793 rfl (lv_at hl 1 rfl)) ?_
      refine gV.lift (fun _ _ _ _ => lv_aload_n hx hb d_La_law_794 rfl (lv_at hl 0 rfl)) ?_
      refine gV.lift (fun _ _ _ _ => lv_iload hx hb d_La_law_795 (lv_at hl 4 rfl)) ?_
      refine gV.lift (fun _ _ _ _ => lv_iconst (v := 1) hx hb d_La_law_797 (by decide)) ?_
      refine gV.lift (fun _ _ _ _ => lv_iadd hx hb d_La_law_798) ?_
      replace hden := gb hden
      obtain ⟨v171, hv, hden⟩ := hden
      refine g_sld X hX hbl hv d_La_law_799 ?_
      refine gV.lift (fun _ _ _ _ => g_aload_n hx hb d_La_law_800 rfl (lv_at hl 3 rfl)) ?_
      replace hden := gb2 hden
      obtain ⟨v173, S172, hz, hden⟩ := hden
      refine g_callSW (As := [va_rf (some x1), .int v171, va_rf (some x3)]) (rest := []) X hZ (c_La_print hst hz) q_695 q_0 q_693 q_694 ⟨by decide, by decide, by show _ = some 3; decide +kernel⟩ ⟨by decide, by decide⟩ hl.1 (Nat.le_of_ble_eq_true rfl) d_La_law_801 rfl rfl ?_
      refine gV.liftS (nL := 7) (lv' := [(5, .int v173), (0, .ref b), (1, va_rf (some x1)), (2, va_rf (some x2)), (3, va_rf (some x3)), (4, .int x4)]) (fun _ _ _ _ => lv_istore hx hb d_La_law_804 hl (by decide) rfl) (fun ls hl => ?_)
      refine gV.lift (fun _ _ _ _ => g_aload_n hx hb d_La_law_806 rfl (lv_at hl 3 rfl)) ?_
      refine gV.lift (fun _ _ _ _ => lv_aload_n hx hb d_La_law_807 rfl (lv_at hl 1 rfl)) ?_
      refine gV.lift (fun _ _ _ _ => lv_iload hx hb d_La_law_808 (lv_at hl 5 rfl)) ?_
      refine gV.lift (fun _ _ _ _ => lv_iconst (v := 1) hx hb d_La_law_810 (by decide)) ?_
      refine gV.lift (fun _ _ _ _ => lv_iadd hx hb d_La_law_811) ?_
      replace hden := gb hden
      obtain ⟨v174, hv, hden⟩ := hden
      refine g_sld X hX hbl hv d_La_law_812 ?_
      replace hden := gb hden
      obtain ⟨fs177, ho, hden⟩ := hden
      replace hden := gb2 hden
      obtain ⟨v176, S175, hz, hden⟩ := hden
      refine g_callV (As := [.int v174]) (rest := []) X hZ (c_Mo_print hz) cl_Mo (gOb_spec ho) q_993 q_5 q_990 q_991 q_992 ⟨by decide, by decide, by show _ = some 1; decide +kernel⟩ ⟨by decide, by decide⟩ hl.1 (Nat.le_of_ble_eq_true rfl) d_La_law_813 rfl rfl ?_
      refine gV.liftS (nL := 7) (lv' := [(6, .int v176), (5, .int v173), (0, .ref b), (1, va_rf (some x1)), (2, va_rf (some x2)), (3, va_rf (some x3)), (4, .int x4)]) (fun _ _ _ _ => lv_istore hx hb d_La_law_816 hl (by decide) rfl) (fun ls hl => ?_)
      refine gV.lift (fun _ _ _ _ => g_aload_n hx hb d_La_law_818 rfl (lv_at hl 4 rfl)) ?_
      replace hden := gb hden
      obtain ⟨fs180, ho, hden⟩ := hden
      replace hden := gb2 hden
      obtain ⟨v179, S178, hz, hden⟩ := hden
      refine g_callV (As := []) (rest := []) X hZ (c_Mo_thrown hz) cl_Mo (gOb_spec ho) q_848 q_5 q_845 q_846 q_847 ⟨by decide, by decide, by show _ = some 0; decide +kernel⟩ ⟨by decide, by decide⟩ hl.1 (Nat.le_of_ble_eq_true rfl) d_La_law_819 rfl rfl ?_
      refine gV.lift (fun _ _ _ _ => lv_iload hx hb d_La_law_822 (lv_at hl 1 rfl)) ?_
      refine gV.lift2 (fun _ _ _ _ => lv_icmp_eq (tgt := 829) hx hb d_La_law_824 (by decide)) (fun hc181 => ?_) (fun hc181 => ?_)
      · replace hden := gip hc181 hden
        refine gV.lift (fun _ _ _ _ => lv_iload hx hb d_La_law_829 (lv_at hl 1 rfl)) ?_
        refine gV.lift2 (fun _ _ _ _ => lv_if_ne (tgt := 846) hx hb d_La_law_831 (by decide)) (fun hc182 => ?_) (fun hc182 => ?_)
        · replace hden := gin hc182 hden
          exact w_La_law_846 hst Y hk23 x1 x2 x3 x4 S178 hden (lv_sub hl [2, 3, 4, 5, 6] rfl)
        · replace hden := gip hc182 hden
          refine gV.lift (fun _ _ _ _ => g_aload_n hx hb d_La_law_834 rfl (lv_at hl 5 rfl)) ?_
          refine gV.lift (fun _ _ _ _ => lv_iconst (v := 0) hx hb d_La_law_835 (by decide)) ?_
          replace hden := gb hden
          obtain ⟨v183, hv, hden⟩ := hden
          refine r_lald X (t := 1) rfl hv d_La_law_836 ?_
          refine gV.lift (fun _ _ _ _ => lv_iload hx hb d_La_law_837 (lv_at hl 0 rfl)) ?_
          refine gV.lift (fun _ _ _ _ => lv_i2l (v := v176.toInt64) hx hb d_La_law_839 rfl) ?_
          refine gV.lift (fun _ _ _ _ => W.lcmp hx hb d_La_law_840) ?_
          refine gV.lift2 (fun _ _ _ _ => lv_if_eq (tgt := 846) hx hb d_La_law_841 (by decide)) (fun hc184 => ?_) (fun hc184 => ?_)
          · replace hden := gip hc184 hden
            exact w_La_law_846 hst Y hk23 x1 x2 x3 x4 S178 hden (lv_sub hl [2, 3, 4, 5, 6] rfl)
          · replace hden := gin hc184 hden
            refine gV.lift (fun _ _ _ _ => lv_iconst (v := 0) hx hb d_La_law_844 (by decide)) ?_
            exact absurd (gpi hden).1 (by decide)
      · replace hden := gin hc181 hden
        refine gV.lift (fun _ _ _ _ => lv_iconst (v := 0) hx hb d_La_law_827 (by decide)) ?_
        exact absurd (gpi hden).1 (by decide)
    replace hden := gin hc170 hden
    by_cases hc185 : (v2 &&& 15) = 11
    · replace hden := gip hc185 hden
      refine gV.lift (fun _ _ _ _ => lv_tableIn (tgt := 849) hx hb d_La_law_40 (by rw [hc185]; decide) (by rw [hc185]; decide) (by rw [hc185]; rfl) (by decide)) ?_
      refine gV.lift (fun _ _ _ _ => g_aload_n hx hb d_La_law_849 rfl (lv_at hl 1 rfl)) ?_
      refine gV.lift (fun _ _ _ _ => lv_aload_n hx hb d_La_law_850 rfl (lv_at hl 0 rfl)) ?_
      refine gV.lift (fun _ _ _ _ => lv_iload hx hb d_La_law_851 (lv_at hl 4 rfl)) ?_
      refine gV.lift (fun _ _ _ _ => lv_iconst (v := 1) hx hb d_La_law_853 (by decide)) ?_
      refine gV.lift (fun _ _ _ _ => lv_iadd hx hb d_La_law_854) ?_
      replace hden := gb hden
      obtain ⟨v186, hv, hden⟩ := hden
      refine g_sld X hX hbl hv d_La_law_855 ?_
      refine gV.lift (fun _ _ _ _ => g_aload_n hx hb d_La_law_856 rfl (lv_at hl 3 rfl)) ?_
      replace hden := gb2 hden
      obtain ⟨v188, S187, hz, hden⟩ := hden
      refine g_callSW (As := [va_rf (some x1), .int v186, va_rf (some x3)]) (rest := []) X hZ (c_La_at hst hz) q_743 q_0 q_741 q_742 ⟨by decide, by decide, by show _ = some 3; decide +kernel⟩ ⟨by decide, by decide⟩ hl.1 (Nat.le_of_ble_eq_true rfl) d_La_law_857 rfl rfl ?_
      refine gV.liftS (nL := 7) (lv' := [(5, .int v188), (0, .ref b), (1, va_rf (some x1)), (2, va_rf (some x2)), (3, va_rf (some x3)), (4, .int x4)]) (fun _ _ _ _ => lv_istore hx hb d_La_law_860 hl (by decide) rfl) (fun ls hl => ?_)
      refine gV.lift (fun _ _ _ _ => g_aload_n hx hb d_La_law_862 rfl (lv_at hl 3 rfl)) ?_
      refine gV.lift (fun _ _ _ _ => lv_aload_n hx hb d_La_law_863 rfl (lv_at hl 1 rfl)) ?_
      refine gV.lift (fun _ _ _ _ => lv_iload hx hb d_La_law_864 (lv_at hl 5 rfl)) ?_
      refine gV.lift (fun _ _ _ _ => lv_iconst (v := 1) hx hb d_La_law_866 (by decide)) ?_
      refine gV.lift (fun _ _ _ _ => lv_iadd hx hb d_La_law_867) ?_
      replace hden := gb hden
      obtain ⟨v189, hv, hden⟩ := hden
      refine g_sld X hX hbl hv d_La_law_868 ?_
      replace hden := gb hden
      obtain ⟨fs192, ho, hden⟩ := hden
      replace hden := gb2 hden
      obtain ⟨v191, S190, hz, hden⟩ := hden
      refine g_callV (As := [.int v189]) (rest := []) X hZ (c_Mo_at hz) cl_Mo (gOb_spec ho) q_1013 q_5 q_1010 q_1011 q_1012 ⟨by decide, by decide, by show _ = some 1; decide +kernel⟩ ⟨by decide, by decide⟩ hl.1 (Nat.le_of_ble_eq_true rfl) d_La_law_869 rfl rfl ?_
      refine gV.liftS (nL := 7) (lv' := [(6, .int v191), (5, .int v188), (0, .ref b), (1, va_rf (some x1)), (2, va_rf (some x2)), (3, va_rf (some x3)), (4, .int x4)]) (fun _ _ _ _ => lv_istore hx hb d_La_law_872 hl (by decide) rfl) (fun ls hl => ?_)
      refine gV.lift (fun _ _ _ _ => g_aload_n hx hb d_La_law_874 rfl (lv_at hl 4 rfl)) ?_
      replace hden := gb hden
      obtain ⟨fs195, ho, hden⟩ := hden
      replace hden := gb2 hden
      obtain ⟨v194, S193, hz, hden⟩ := hden
      refine g_callV (As := []) (rest := []) X hZ (c_Mo_thrown hz) cl_Mo (gOb_spec ho) q_848 q_5 q_845 q_846 q_847 ⟨by decide, by decide, by show _ = some 0; decide +kernel⟩ ⟨by decide, by decide⟩ hl.1 (Nat.le_of_ble_eq_true rfl) d_La_law_875 rfl rfl ?_
      refine gV.lift (fun _ _ _ _ => lv_iload hx hb d_La_law_878 (lv_at hl 1 rfl)) ?_
      refine gV.lift2 (fun _ _ _ _ => lv_icmp_eq (tgt := 885) hx hb d_La_law_880 (by decide)) (fun hc196 => ?_) (fun hc196 => ?_)
      · replace hden := gip hc196 hden
        refine gV.lift (fun _ _ _ _ => lv_iload hx hb d_La_law_885 (lv_at hl 1 rfl)) ?_
        refine gV.lift2 (fun _ _ _ _ => lv_if_ne (tgt := 902) hx hb d_La_law_887 (by decide)) (fun hc197 => ?_) (fun hc197 => ?_)
        · replace hden := gin hc197 hden
          exact w_La_law_902 hst Y hk23 x1 x2 x3 x4 S193 hden (lv_sub hl [2, 3, 4, 5, 6] rfl)
        · replace hden := gip hc197 hden
          refine gV.lift (fun _ _ _ _ => g_aload_n hx hb d_La_law_890 rfl (lv_at hl 5 rfl)) ?_
          refine gV.lift (fun _ _ _ _ => lv_iconst (v := 0) hx hb d_La_law_891 (by decide)) ?_
          replace hden := gb hden
          obtain ⟨v198, hv, hden⟩ := hden
          refine r_lald X (t := 1) rfl hv d_La_law_892 ?_
          refine gV.lift (fun _ _ _ _ => lv_iload hx hb d_La_law_893 (lv_at hl 0 rfl)) ?_
          refine gV.lift (fun _ _ _ _ => lv_i2l (v := v191.toInt64) hx hb d_La_law_895 rfl) ?_
          refine gV.lift (fun _ _ _ _ => W.lcmp hx hb d_La_law_896) ?_
          refine gV.lift2 (fun _ _ _ _ => lv_if_eq (tgt := 902) hx hb d_La_law_897 (by decide)) (fun hc199 => ?_) (fun hc199 => ?_)
          · replace hden := gip hc199 hden
            exact w_La_law_902 hst Y hk23 x1 x2 x3 x4 S193 hden (lv_sub hl [2, 3, 4, 5, 6] rfl)
          · replace hden := gin hc199 hden
            refine gV.lift (fun _ _ _ _ => lv_iconst (v := 0) hx hb d_La_law_900 (by decide)) ?_
            exact absurd (gpi hden).1 (by decide)
      · replace hden := gin hc196 hden
        refine gV.lift (fun _ _ _ _ => lv_iconst (v := 0) hx hb d_La_law_883 (by decide)) ?_
        exact absurd (gpi hden).1 (by decide)
    replace hden := gin hc185 hden
    by_cases hc200 : (v2 &&& 15) = 12
    · replace hden := gip hc200 hden
      refine gV.lift (fun _ _ _ _ => lv_tableIn (tgt := 905) hx hb d_La_law_40 (by rw [hc200]; decide) (by rw [hc200]; decide) (by rw [hc200]; rfl) (by decide)) ?_
      refine gV.lift (fun _ _ _ _ => g_aload_n hx hb d_La_law_905 rfl (lv_at hl 1 rfl)) ?_
      refine gV.lift (fun _ _ _ _ => lv_aload_n hx hb d_La_law_906 rfl (lv_at hl 0 rfl)) ?_
      refine gV.lift (fun _ _ _ _ => lv_iload hx hb d_La_law_907 (lv_at hl 4 rfl)) ?_
      refine gV.lift (fun _ _ _ _ => lv_iconst (v := 1) hx hb d_La_law_909 (by decide)) ?_
      refine gV.lift (fun _ _ _ _ => lv_iadd hx hb d_La_law_910) ?_
      replace hden := gb hden
      obtain ⟨v201, hv, hden⟩ := hden
      refine g_sld X hX hbl hv d_La_law_911 ?_
      refine gV.lift (fun _ _ _ _ => g_aload_n hx hb d_La_law_912 rfl (lv_at hl 3 rfl)) ?_
      replace hden := gb2 hden
      obtain ⟨v203, S202, hz, hden⟩ := hden
      refine g_callSW (As := [va_rf (some x1), .int v201, va_rf (some x3)]) (rest := []) X hZ (c_La_count hst hz) q_754 q_0 q_752 q_753 ⟨by decide, by decide, by show _ = some 3; decide +kernel⟩ ⟨by decide, by decide⟩ hl.1 (Nat.le_of_ble_eq_true rfl) d_La_law_913 rfl rfl ?_
      refine gV.liftS (nL := 7) (lv' := [(5, .int v203), (0, .ref b), (1, va_rf (some x1)), (2, va_rf (some x2)), (3, va_rf (some x3)), (4, .int x4)]) (fun _ _ _ _ => lv_istore hx hb d_La_law_916 hl (by decide) rfl) (fun ls hl => ?_)
      refine gV.lift (fun _ _ _ _ => g_aload_n hx hb d_La_law_918 rfl (lv_at hl 3 rfl)) ?_
      refine gV.lift (fun _ _ _ _ => lv_aload_n hx hb d_La_law_919 rfl (lv_at hl 1 rfl)) ?_
      refine gV.lift (fun _ _ _ _ => lv_iload hx hb d_La_law_920 (lv_at hl 5 rfl)) ?_
      refine gV.lift (fun _ _ _ _ => lv_iconst (v := 1) hx hb d_La_law_922 (by decide)) ?_
      refine gV.lift (fun _ _ _ _ => lv_iadd hx hb d_La_law_923) ?_
      replace hden := gb hden
      obtain ⟨v204, hv, hden⟩ := hden
      refine g_sld X hX hbl hv d_La_law_924 ?_
      replace hden := gb hden
      obtain ⟨fs207, ho, hden⟩ := hden
      replace hden := gb2 hden
      obtain ⟨v206, S205, hz, hden⟩ := hden
      refine g_callV (As := [.int v204]) (rest := []) X hZ (c_Mo_count hz) cl_Mo (gOb_spec ho) q_1017 q_5 q_1014 q_1015 q_1016 ⟨by decide, by decide, by show _ = some 1; decide +kernel⟩ ⟨by decide, by decide⟩ hl.1 (Nat.le_of_ble_eq_true rfl) d_La_law_925 rfl rfl ?_
      refine gV.liftS (nL := 7) (lv' := [(6, .int v206), (5, .int v203), (0, .ref b), (1, va_rf (some x1)), (2, va_rf (some x2)), (3, va_rf (some x3)), (4, .int x4)]) (fun _ _ _ _ => lv_istore hx hb d_La_law_928 hl (by decide) rfl) (fun ls hl => ?_)
      refine gV.lift (fun _ _ _ _ => g_aload_n hx hb d_La_law_930 rfl (lv_at hl 4 rfl)) ?_
      replace hden := gb hden
      obtain ⟨fs210, ho, hden⟩ := hden
      replace hden := gb2 hden
      obtain ⟨v209, S208, hz, hden⟩ := hden
      refine g_callV (As := []) (rest := []) X hZ (c_Mo_thrown hz) cl_Mo (gOb_spec ho) q_848 q_5 q_845 q_846 q_847 ⟨by decide, by decide, by show _ = some 0; decide +kernel⟩ ⟨by decide, by decide⟩ hl.1 (Nat.le_of_ble_eq_true rfl) d_La_law_931 rfl rfl ?_
      refine gV.lift (fun _ _ _ _ => lv_iload hx hb d_La_law_934 (lv_at hl 1 rfl)) ?_
      refine gV.lift2 (fun _ _ _ _ => lv_icmp_eq (tgt := 941) hx hb d_La_law_936 (by decide)) (fun hc211 => ?_) (fun hc211 => ?_)
      · replace hden := gip hc211 hden
        refine gV.lift (fun _ _ _ _ => lv_iload hx hb d_La_law_941 (lv_at hl 1 rfl)) ?_
        refine gV.lift2 (fun _ _ _ _ => lv_if_ne (tgt := 958) hx hb d_La_law_943 (by decide)) (fun hc212 => ?_) (fun hc212 => ?_)
        · replace hden := gin hc212 hden
          exact w_La_law_958 hst Y hk23 x1 x2 x3 x4 S208 hden (lv_sub hl [2, 3, 4, 5, 6] rfl)
        · replace hden := gip hc212 hden
          refine gV.lift (fun _ _ _ _ => g_aload_n hx hb d_La_law_946 rfl (lv_at hl 5 rfl)) ?_
          refine gV.lift (fun _ _ _ _ => lv_iconst (v := 0) hx hb d_La_law_947 (by decide)) ?_
          replace hden := gb hden
          obtain ⟨v213, hv, hden⟩ := hden
          refine r_lald X (t := 1) rfl hv d_La_law_948 ?_
          refine gV.lift (fun _ _ _ _ => lv_iload hx hb d_La_law_949 (lv_at hl 0 rfl)) ?_
          refine gV.lift (fun _ _ _ _ => lv_i2l (v := v206.toInt64) hx hb d_La_law_951 rfl) ?_
          refine gV.lift (fun _ _ _ _ => W.lcmp hx hb d_La_law_952) ?_
          refine gV.lift2 (fun _ _ _ _ => lv_if_eq (tgt := 958) hx hb d_La_law_953 (by decide)) (fun hc214 => ?_) (fun hc214 => ?_)
          · replace hden := gip hc214 hden
            exact w_La_law_958 hst Y hk23 x1 x2 x3 x4 S208 hden (lv_sub hl [2, 3, 4, 5, 6] rfl)
          · replace hden := gin hc214 hden
            refine gV.lift (fun _ _ _ _ => lv_iconst (v := 0) hx hb d_La_law_956 (by decide)) ?_
            exact absurd (gpi hden).1 (by decide)
      · replace hden := gin hc211 hden
        refine gV.lift (fun _ _ _ _ => lv_iconst (v := 0) hx hb d_La_law_939 (by decide)) ?_
        exact absurd (gpi hden).1 (by decide)
    replace hden := gin hc200 hden
    refine gV.lift (fun _ _ _ _ => lv_tableOut (tgt := 961) hx hb d_La_law_40 (g_swOut (n := 13) (by decide) (fun k hk => by rcases (show k = 0 ∨ k = 1 ∨ k = 2 ∨ k = 3 ∨ k = 4 ∨ k = 5 ∨ k = 6 ∨ k = 7 ∨ k = 8 ∨ k = 9 ∨ k = 10 ∨ k = 11 ∨ k = 12 by omega) with rfl | rfl | rfl | rfl | rfl | rfl | rfl | rfl | rfl | rfl | rfl | rfl | rfl <;> assumption)) (by decide)) ?_
    exact w_La_law_961 hst Y hk23 x1 x2 x3 x4 S hden (lv_sub hl [0, 1, 2, 3, 4] rfl)
def L_La_law_23 (xs : Nat → Int32) (L : Nat)  : Nat → Nat → Nat → Nat → Int32 → gS → Option (Int32 × gS)
  | 0 => fun _ _ _ _ _ => none
  | n + 1 => fun x1 x2 x3 x4 S => B_La_law_23 xs L  (L_La_law_23 xs L  n) x1 x2 x3 x4 S
theorem wL_La_law_23 {D : va_G} {cT : Nat → ClassId} {l : Launch} {p : Program} {e : Env} {s : State} {m : MethodId} {below : List Frame} {meth : Method} {c : Code} {b L : Nat} {xs : Nat → Int32} {S0 : gS} {S' : gS} (hst : l.stackTraces = false) (Y : gYL D cT p s m meth c b L xs S0)  : ∀ (n : Nat) (x1 : Nat) (x2 : Nat) (x3 : Nat) (x4 : Int32) (S : gS) (ls : Array Slot), L_La_law_23 xs L  n x1 x2 x3 x4 S = some (1, S') → lv_has ls 7 [(0, .ref b), (1, va_rf (some x1)), (2, va_rf (some x2)), (3, va_rf (some x3)), (4, .int x4)] → gV D cT s.heap p l e room_1 s m #[Value.ref b] below meth c (lw_Z below #[Value.ref b] s) S0 S (F0 m 23 ls []) := by
  intro n
  induction n with
  | zero => intro x1 x2 x3 x4 S ls h hl; cases h
  | succ n ih => intro x1 x2 x3 x4 S ls h hl; exact w_La_law_23 hst Y ih x1 x2 x3 x4 S h hl
def D_La_law (xs : Nat → Int32) (L : Nat) (S : gS) : Option (Int32 × gS) := Option.bind (gNw S 0 [.null, .int 0, .int 0, .null, .null, .int 0, .null, .null, .null, .null, .null]) (fun S1 => Option.bind (D_PT_init S.2.1 S1) (fun S2 => Option.bind (gNw S2 10 [.int 0, .null, .int 0, .int 0, .int 0, .int 0, .int 0, .int 0, .int 0, .null, .null, .null, .null, .null, .null, .null, .null, .null, .null, .null, .null, .null, .null, .int 0, .null, .int 0]) (fun S3 => Option.bind (D_Mo_init S2.2.1 S3) (fun S4 => Option.bind (gNA S4 1 1 (.inr (.inl (fun _ => 0)))) (fun S5 => L_La_law_23 xs L  gF S.2.1 S2.2.1 S4.2.1 0 S5)))))
set_option maxRecDepth 100000 in
set_option maxHeartbeats 4000000 in
theorem law_start {D : va_G} {cT : Nat → ClassId} {l : Launch} {p : Program} {e : Env} {s : State} {m : MethodId} {below : List Frame} {meth : Method} {c : Code} {b L : Nat} {xs : Nat → Int32} {S0 : gS} {S' : gS} (hst : l.stackTraces = false) (Y : gYL D cT p s m meth c b L xs S0) (hden : D_La_law xs L S0 = some (1, S')) : gV D cT s.heap p l e room_1 s m #[Value.ref b] below meth c (lw_Z below #[Value.ref b] s) S0 S0 (entryFrame m ([Value.ref b] : List Value).toArray 7) := by
  obtain ⟨X, hZ, -, hr, hX, hbl⟩ := id Y
  have hx := X.1
  have hb := X.2.1
  have hl := lv_entry ([.ref b]) (n := 7) (Nat.le_of_ble_eq_true rfl)
  rw [lg_entry_eq]
  generalize (lg_sl ([.ref b]) ++ List.replicate (7 - (lg_sl ([.ref b])).length) Slot.unset).toArray = ls at hl ⊢
  have hl : lv_has ls 7 [(0, .ref b)] := hl
  unfold D_La_law at hden
  replace hden := gb hden
  obtain ⟨S1, hv, hden⟩ := hden
  refine r_new X cl_PT rfl hv (fun j hj => bl_PT j hj) q_20 q_21 q_1 d_La_law_0 ?_
  refine gV.lift (fun _ _ _ _ => lv_dup hx hb d_La_law_3 g_cat) ?_
  replace hden := gb hden
  obtain ⟨S2, hz, hden⟩ := hden
  refine g_callI (As := []) (rest := [va_rf (some S0.2.1)]) X hZ (c_PT_init hz) q_24 q_1 q_22 q_23 rfl ⟨by decide, by decide, by show _ = some 0; decide +kernel⟩ ⟨by decide, by decide⟩ hl.1 (Nat.le_of_ble_eq_true rfl) d_La_law_4 rfl ?_
  refine gV.liftS (nL := 7) (lv' := [(1, va_rf (some S0.2.1)), (0, .ref b)]) (fun _ _ _ _ => g_astore_n hx hb d_La_law_7 rfl hl (by decide) rfl) (fun ls hl => ?_)
  replace hden := gb hden
  obtain ⟨S3, hv, hden⟩ := hden
  refine r_new X cl_Mo rfl hv (fun j hj => bl_Mo j hj) q_759 q_760 q_5 d_La_law_8 ?_
  refine gV.lift (fun _ _ _ _ => lv_dup hx hb d_La_law_11 g_cat) ?_
  replace hden := gb hden
  obtain ⟨S4, hz, hden⟩ := hden
  refine g_callI (As := []) (rest := [va_rf (some S2.2.1)]) X hZ (c_Mo_init hz) q_763 q_5 q_761 q_762 rfl ⟨by decide, by decide, by show _ = some 0; decide +kernel⟩ ⟨by decide, by decide⟩ hl.1 (Nat.le_of_ble_eq_true rfl) d_La_law_12 rfl ?_
  refine gV.liftS (nL := 7) (lv' := [(2, va_rf (some S2.2.1)), (1, va_rf (some S0.2.1)), (0, .ref b)]) (fun _ _ _ _ => g_astore_n hx hb d_La_law_15 rfl hl (by decide) rfl) (fun ls hl => ?_)
  refine gV.lift (fun _ _ _ _ => lv_iconst (v := 1) hx hb d_La_law_16 (by decide)) ?_
  replace hden := gb hden
  obtain ⟨S5, hv, hden⟩ := hden
  refine r_newa X (atype := .long) (t := 1) (ty := .long) rfl rfl rfl q_1019 hv (fun _ => rfl) (by decide) d_La_law_17 ?_
  refine gV.liftS (nL := 7) (lv' := [(3, va_rf (some S4.2.1)), (2, va_rf (some S2.2.1)), (1, va_rf (some S0.2.1)), (0, .ref b)]) (fun _ _ _ _ => g_astore_n hx hb d_La_law_19 rfl hl (by decide) rfl) (fun ls hl => ?_)
  refine gV.lift (fun _ _ _ _ => lv_iconst (v := 0) hx hb d_La_law_20 (by decide)) ?_
  refine gV.liftS (nL := 7) (lv' := [(4, .int 0), (3, va_rf (some S4.2.1)), (2, va_rf (some S2.2.1)), (1, va_rf (some S0.2.1)), (0, .ref b)]) (fun _ _ _ _ => lv_istore hx hb d_La_law_21 hl (by decide) rfl) (fun ls hl => ?_)
  exact wL_La_law_23 hst Y  gF S0.2.1 S2.2.1 S4.2.1 0 S5 _ hden (lv_sub hl [4, 3, 2, 1, 0] rfl)
