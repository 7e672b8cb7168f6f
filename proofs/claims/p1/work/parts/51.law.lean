/-! ### The law: its code, its steps -/
abbrev m_law : ag_M := (x, code, 7, some .boolean, [])
theorem d_law_0 : decode code 0 = .ok (.new 8, 3) := by decide +kernel
theorem d_law_3 : decode code 3 = .ok (.dup, 1) := by decide +kernel
theorem d_law_4 : decode code 4 = .ok (.invokespecial 48, 3) := by decide +kernel
theorem d_law_7 : decode code 7 = .ok (.astore_n 1, 1) := by decide +kernel
theorem d_law_8 : decode code 8 = .ok (.new 49, 3) := by decide +kernel
theorem d_law_11 : decode code 11 = .ok (.dup, 1) := by decide +kernel
theorem d_law_12 : decode code 12 = .ok (.invokespecial 51, 3) := by decide +kernel
theorem d_law_15 : decode code 15 = .ok (.astore_n 2, 1) := by decide +kernel
theorem d_law_16 : decode code 16 = .ok (.iconst 1, 1) := by decide +kernel
theorem d_law_17 : decode code 17 = .ok (.newarray .long, 2) := by decide +kernel
theorem d_law_19 : decode code 19 = .ok (.astore_n 3, 1) := by decide +kernel
theorem d_law_20 : decode code 20 = .ok (.iconst 0, 1) := by decide +kernel
theorem d_law_21 : decode code 21 = .ok (.istore 4, 2) := by decide +kernel
theorem d_law_23 : decode code 23 = .ok (.iload 4, 2) := by decide +kernel
theorem d_law_25 : decode code 25 = .ok (.aload_n 0, 1) := by decide +kernel
theorem d_law_26 : decode code 26 = .ok (.arraylength, 1) := by decide +kernel
theorem d_law_27 : decode code 27 = .ok (.iconst 5, 1) := by decide +kernel
theorem d_law_28 : decode code 28 = .ok (.isub, 1) := by decide +kernel
theorem d_law_29 : decode code 29 = .ok (.if_icmp .gt (777), 3) := by decide +kernel
theorem d_law_32 : decode code 32 = .ok (.aload_n 0, 1) := by decide +kernel
theorem d_law_33 : decode code 33 = .ok (.iload 4, 2) := by decide +kernel
theorem d_law_35 : decode code 35 = .ok (.iaload, 1) := by decide +kernel
theorem d_law_36 : decode code 36 = .ok (.bipush (15), 2) := by decide +kernel
theorem d_law_38 : decode code 38 = .ok (.iand, 1) := by decide +kernel
theorem d_law_39 : decode code 39 = .ok (.tableswitch 761 (0) 14 #[73, 100, 111, 155, 199, 210, 266, 322, 378, 470, 507, 575, 600, 668, 736], 73) := by decide +kernel
theorem d_law_112 : decode code 112 = .ok (.aload_n 1, 1) := by decide +kernel
theorem d_law_113 : decode code 113 = .ok (.aload_n 0, 1) := by decide +kernel
theorem d_law_114 : decode code 114 = .ok (.iload 4, 2) := by decide +kernel
theorem d_law_116 : decode code 116 = .ok (.iconst 1, 1) := by decide +kernel
theorem d_law_117 : decode code 117 = .ok (.iadd, 1) := by decide +kernel
theorem d_law_118 : decode code 118 = .ok (.iaload, 1) := by decide +kernel
theorem d_law_119 : decode code 119 = .ok (.i2c, 1) := by decide +kernel
theorem d_law_120 : decode code 120 = .ok (.invokevirtual 52, 3) := by decide +kernel
theorem d_law_123 : decode code 123 = .ok (.aload_n 2, 1) := by decide +kernel
theorem d_law_124 : decode code 124 = .ok (.aload_n 0, 1) := by decide +kernel
theorem d_law_125 : decode code 125 = .ok (.iload 4, 2) := by decide +kernel
theorem d_law_127 : decode code 127 = .ok (.iconst 1, 1) := by decide +kernel
theorem d_law_128 : decode code 128 = .ok (.iadd, 1) := by decide +kernel
theorem d_law_129 : decode code 129 = .ok (.iaload, 1) := by decide +kernel
theorem d_law_130 : decode code 130 = .ok (.i2c, 1) := by decide +kernel
theorem d_law_131 : decode code 131 = .ok (.invokevirtual 56, 3) := by decide +kernel
theorem d_law_134 : decode code 134 = .ok (.if_icmp .eq (666), 3) := by decide +kernel
theorem d_law_137 : decode code 137 = .ok (.iconst 0, 1) := by decide +kernel
theorem d_law_138 : decode code 138 = .ok (.ireturn, 1) := by decide +kernel
theorem d_law_139 : decode code 139 = .ok (.aload_n 1, 1) := by decide +kernel
theorem d_law_140 : decode code 140 = .ok (.invokevirtual 57, 3) := by decide +kernel
theorem d_law_143 : decode code 143 = .ok (.aload_n 2, 1) := by decide +kernel
theorem d_law_144 : decode code 144 = .ok (.invokevirtual 60, 3) := by decide +kernel
theorem d_law_147 : decode code 147 = .ok (.goto (653), 3) := by decide +kernel
theorem d_law_150 : decode code 150 = .ok (.aload_n 1, 1) := by decide +kernel
theorem d_law_151 : decode code 151 = .ok (.aload_n 3, 1) := by decide +kernel
theorem d_law_152 : decode code 152 = .ok (.invokestatic 61, 3) := by decide +kernel
theorem d_law_155 : decode code 155 = .ok (.istore 5, 2) := by decide +kernel
theorem d_law_157 : decode code 157 = .ok (.aload_n 2, 1) := by decide +kernel
theorem d_law_158 : decode code 158 = .ok (.invokevirtual 66, 3) := by decide +kernel
theorem d_law_161 : decode code 161 = .ok (.istore 6, 2) := by decide +kernel
theorem d_law_163 : decode code 163 = .ok (.aload_n 2, 1) := by decide +kernel
theorem d_law_164 : decode code 164 = .ok (.invokevirtual 67, 3) := by decide +kernel
theorem d_law_167 : decode code 167 = .ok (.iload 5, 2) := by decide +kernel
theorem d_law_169 : decode code 169 = .ok (.if_icmp .eq (5), 3) := by decide +kernel
theorem d_law_172 : decode code 172 = .ok (.iconst 0, 1) := by decide +kernel
theorem d_law_173 : decode code 173 = .ok (.ireturn, 1) := by decide +kernel
theorem d_law_174 : decode code 174 = .ok (.iload 5, 2) := by decide +kernel
theorem d_law_176 : decode code 176 = .ok (.ifCond .ne (15), 3) := by decide +kernel
theorem d_law_179 : decode code 179 = .ok (.aload_n 3, 1) := by decide +kernel
theorem d_law_180 : decode code 180 = .ok (.iconst 0, 1) := by decide +kernel
theorem d_law_181 : decode code 181 = .ok (.laload, 1) := by decide +kernel
theorem d_law_182 : decode code 182 = .ok (.iload 6, 2) := by decide +kernel
theorem d_law_184 : decode code 184 = .ok (.i2l, 1) := by decide +kernel
theorem d_law_185 : decode code 185 = .ok (.lcmp, 1) := by decide +kernel
theorem d_law_186 : decode code 186 = .ok (.ifCond .eq (5), 3) := by decide +kernel
theorem d_law_189 : decode code 189 = .ok (.iconst 0, 1) := by decide +kernel
theorem d_law_190 : decode code 190 = .ok (.ireturn, 1) := by decide +kernel
theorem d_law_191 : decode code 191 = .ok (.goto (609), 3) := by decide +kernel
theorem d_law_194 : decode code 194 = .ok (.aload_n 1, 1) := by decide +kernel
theorem d_law_195 : decode code 195 = .ok (.aload_n 3, 1) := by decide +kernel
theorem d_law_196 : decode code 196 = .ok (.invokestatic 70, 3) := by decide +kernel
theorem d_law_199 : decode code 199 = .ok (.istore 5, 2) := by decide +kernel
theorem d_law_201 : decode code 201 = .ok (.aload_n 2, 1) := by decide +kernel
theorem d_law_202 : decode code 202 = .ok (.invokevirtual 72, 3) := by decide +kernel
theorem d_law_205 : decode code 205 = .ok (.istore 6, 2) := by decide +kernel
theorem d_law_207 : decode code 207 = .ok (.aload_n 2, 1) := by decide +kernel
theorem d_law_208 : decode code 208 = .ok (.invokevirtual 67, 3) := by decide +kernel
theorem d_law_211 : decode code 211 = .ok (.iload 5, 2) := by decide +kernel
theorem d_law_213 : decode code 213 = .ok (.if_icmp .eq (5), 3) := by decide +kernel
theorem d_law_216 : decode code 216 = .ok (.iconst 0, 1) := by decide +kernel
theorem d_law_217 : decode code 217 = .ok (.ireturn, 1) := by decide +kernel
theorem d_law_218 : decode code 218 = .ok (.iload 5, 2) := by decide +kernel
theorem d_law_220 : decode code 220 = .ok (.ifCond .ne (15), 3) := by decide +kernel
theorem d_law_223 : decode code 223 = .ok (.aload_n 3, 1) := by decide +kernel
theorem d_law_224 : decode code 224 = .ok (.iconst 0, 1) := by decide +kernel
theorem d_law_225 : decode code 225 = .ok (.laload, 1) := by decide +kernel
theorem d_law_226 : decode code 226 = .ok (.iload 6, 2) := by decide +kernel
theorem d_law_228 : decode code 228 = .ok (.i2l, 1) := by decide +kernel
theorem d_law_229 : decode code 229 = .ok (.lcmp, 1) := by decide +kernel
theorem d_law_230 : decode code 230 = .ok (.ifCond .eq (5), 3) := by decide +kernel
theorem d_law_233 : decode code 233 = .ok (.iconst 0, 1) := by decide +kernel
theorem d_law_234 : decode code 234 = .ok (.ireturn, 1) := by decide +kernel
theorem d_law_235 : decode code 235 = .ok (.goto (565), 3) := by decide +kernel
theorem d_law_238 : decode code 238 = .ok (.aload_n 1, 1) := by decide +kernel
theorem d_law_239 : decode code 239 = .ok (.invokevirtual 73, 3) := by decide +kernel
theorem d_law_242 : decode code 242 = .ok (.aload_n 2, 1) := by decide +kernel
theorem d_law_243 : decode code 243 = .ok (.invokevirtual 76, 3) := by decide +kernel
theorem d_law_246 : decode code 246 = .ok (.goto (554), 3) := by decide +kernel
theorem d_law_249 : decode code 249 = .ok (.aload_n 1, 1) := by decide +kernel
theorem d_law_250 : decode code 250 = .ok (.aload_n 0, 1) := by decide +kernel
theorem d_law_251 : decode code 251 = .ok (.iload 4, 2) := by decide +kernel
theorem d_law_253 : decode code 253 = .ok (.iconst 1, 1) := by decide +kernel
theorem d_law_254 : decode code 254 = .ok (.iadd, 1) := by decide +kernel
theorem d_law_255 : decode code 255 = .ok (.iaload, 1) := by decide +kernel
theorem d_law_256 : decode code 256 = .ok (.aload_n 3, 1) := by decide +kernel
theorem d_law_257 : decode code 257 = .ok (.invokestatic 77, 3) := by decide +kernel
theorem d_law_260 : decode code 260 = .ok (.istore 5, 2) := by decide +kernel
theorem d_law_262 : decode code 262 = .ok (.aload_n 2, 1) := by decide +kernel
theorem d_law_263 : decode code 263 = .ok (.aload_n 0, 1) := by decide +kernel
theorem d_law_264 : decode code 264 = .ok (.iload 4, 2) := by decide +kernel
theorem d_law_266 : decode code 266 = .ok (.iconst 1, 1) := by decide +kernel
theorem d_law_267 : decode code 267 = .ok (.iadd, 1) := by decide +kernel
theorem d_law_268 : decode code 268 = .ok (.iaload, 1) := by decide +kernel
theorem d_law_269 : decode code 269 = .ok (.invokevirtual 80, 3) := by decide +kernel
theorem d_law_272 : decode code 272 = .ok (.istore 6, 2) := by decide +kernel
theorem d_law_274 : decode code 274 = .ok (.aload_n 2, 1) := by decide +kernel
theorem d_law_275 : decode code 275 = .ok (.invokevirtual 67, 3) := by decide +kernel
theorem d_law_278 : decode code 278 = .ok (.iload 5, 2) := by decide +kernel
theorem d_law_280 : decode code 280 = .ok (.if_icmp .eq (5), 3) := by decide +kernel
theorem d_law_283 : decode code 283 = .ok (.iconst 0, 1) := by decide +kernel
theorem d_law_284 : decode code 284 = .ok (.ireturn, 1) := by decide +kernel
theorem d_law_285 : decode code 285 = .ok (.iload 5, 2) := by decide +kernel
theorem d_law_287 : decode code 287 = .ok (.ifCond .ne (15), 3) := by decide +kernel
theorem d_law_290 : decode code 290 = .ok (.aload_n 3, 1) := by decide +kernel
theorem d_law_291 : decode code 291 = .ok (.iconst 0, 1) := by decide +kernel
theorem d_law_292 : decode code 292 = .ok (.laload, 1) := by decide +kernel
theorem d_law_293 : decode code 293 = .ok (.iload 6, 2) := by decide +kernel
theorem d_law_295 : decode code 295 = .ok (.i2l, 1) := by decide +kernel
theorem d_law_296 : decode code 296 = .ok (.lcmp, 1) := by decide +kernel
theorem d_law_297 : decode code 297 = .ok (.ifCond .eq (5), 3) := by decide +kernel
theorem d_law_300 : decode code 300 = .ok (.iconst 0, 1) := by decide +kernel
theorem d_law_301 : decode code 301 = .ok (.ireturn, 1) := by decide +kernel
theorem d_law_302 : decode code 302 = .ok (.goto (498), 3) := by decide +kernel
theorem d_law_305 : decode code 305 = .ok (.aload_n 1, 1) := by decide +kernel
theorem d_law_306 : decode code 306 = .ok (.aload_n 0, 1) := by decide +kernel
theorem d_law_307 : decode code 307 = .ok (.iload 4, 2) := by decide +kernel
theorem d_law_309 : decode code 309 = .ok (.iconst 1, 1) := by decide +kernel
theorem d_law_310 : decode code 310 = .ok (.iadd, 1) := by decide +kernel
theorem d_law_311 : decode code 311 = .ok (.iaload, 1) := by decide +kernel
theorem d_law_312 : decode code 312 = .ok (.aload_n 3, 1) := by decide +kernel
theorem d_law_313 : decode code 313 = .ok (.invokestatic 81, 3) := by decide +kernel
theorem d_law_316 : decode code 316 = .ok (.istore 5, 2) := by decide +kernel
theorem d_law_318 : decode code 318 = .ok (.aload_n 2, 1) := by decide +kernel
theorem d_law_319 : decode code 319 = .ok (.aload_n 0, 1) := by decide +kernel
theorem d_law_320 : decode code 320 = .ok (.iload 4, 2) := by decide +kernel
theorem d_law_322 : decode code 322 = .ok (.iconst 1, 1) := by decide +kernel
theorem d_law_323 : decode code 323 = .ok (.iadd, 1) := by decide +kernel
theorem d_law_324 : decode code 324 = .ok (.iaload, 1) := by decide +kernel
theorem d_law_325 : decode code 325 = .ok (.invokevirtual 83, 3) := by decide +kernel
theorem d_law_328 : decode code 328 = .ok (.istore 6, 2) := by decide +kernel
theorem d_law_330 : decode code 330 = .ok (.aload_n 2, 1) := by decide +kernel
theorem d_law_331 : decode code 331 = .ok (.invokevirtual 67, 3) := by decide +kernel
theorem d_law_334 : decode code 334 = .ok (.iload 5, 2) := by decide +kernel
theorem d_law_336 : decode code 336 = .ok (.if_icmp .eq (5), 3) := by decide +kernel
theorem d_law_339 : decode code 339 = .ok (.iconst 0, 1) := by decide +kernel
theorem d_law_340 : decode code 340 = .ok (.ireturn, 1) := by decide +kernel
theorem d_law_341 : decode code 341 = .ok (.iload 5, 2) := by decide +kernel
theorem d_law_343 : decode code 343 = .ok (.ifCond .ne (15), 3) := by decide +kernel
theorem d_law_346 : decode code 346 = .ok (.aload_n 3, 1) := by decide +kernel
theorem d_law_347 : decode code 347 = .ok (.iconst 0, 1) := by decide +kernel
theorem d_law_348 : decode code 348 = .ok (.laload, 1) := by decide +kernel
theorem d_law_349 : decode code 349 = .ok (.iload 6, 2) := by decide +kernel
theorem d_law_351 : decode code 351 = .ok (.i2l, 1) := by decide +kernel
theorem d_law_352 : decode code 352 = .ok (.lcmp, 1) := by decide +kernel
theorem d_law_353 : decode code 353 = .ok (.ifCond .eq (5), 3) := by decide +kernel
theorem d_law_356 : decode code 356 = .ok (.iconst 0, 1) := by decide +kernel
theorem d_law_357 : decode code 357 = .ok (.ireturn, 1) := by decide +kernel
theorem d_law_358 : decode code 358 = .ok (.goto (442), 3) := by decide +kernel
theorem d_law_361 : decode code 361 = .ok (.aload_n 1, 1) := by decide +kernel
theorem d_law_362 : decode code 362 = .ok (.aload_n 0, 1) := by decide +kernel
theorem d_law_363 : decode code 363 = .ok (.iload 4, 2) := by decide +kernel
theorem d_law_365 : decode code 365 = .ok (.iconst 1, 1) := by decide +kernel
theorem d_law_366 : decode code 366 = .ok (.iadd, 1) := by decide +kernel
theorem d_law_367 : decode code 367 = .ok (.iaload, 1) := by decide +kernel
theorem d_law_368 : decode code 368 = .ok (.aload_n 3, 1) := by decide +kernel
theorem d_law_369 : decode code 369 = .ok (.invokestatic 84, 3) := by decide +kernel
theorem d_law_372 : decode code 372 = .ok (.istore 5, 2) := by decide +kernel
theorem d_law_374 : decode code 374 = .ok (.aload_n 2, 1) := by decide +kernel
theorem d_law_375 : decode code 375 = .ok (.aload_n 0, 1) := by decide +kernel
theorem d_law_376 : decode code 376 = .ok (.iload 4, 2) := by decide +kernel
theorem d_law_378 : decode code 378 = .ok (.iconst 1, 1) := by decide +kernel
theorem d_law_379 : decode code 379 = .ok (.iadd, 1) := by decide +kernel
theorem d_law_380 : decode code 380 = .ok (.iaload, 1) := by decide +kernel
theorem d_law_381 : decode code 381 = .ok (.invokevirtual 86, 3) := by decide +kernel
theorem d_law_384 : decode code 384 = .ok (.istore 6, 2) := by decide +kernel
theorem d_law_386 : decode code 386 = .ok (.aload_n 2, 1) := by decide +kernel
theorem d_law_387 : decode code 387 = .ok (.invokevirtual 67, 3) := by decide +kernel
theorem d_law_390 : decode code 390 = .ok (.iload 5, 2) := by decide +kernel
theorem d_law_392 : decode code 392 = .ok (.if_icmp .eq (5), 3) := by decide +kernel
theorem d_law_395 : decode code 395 = .ok (.iconst 0, 1) := by decide +kernel
theorem d_law_396 : decode code 396 = .ok (.ireturn, 1) := by decide +kernel
theorem d_law_397 : decode code 397 = .ok (.iload 5, 2) := by decide +kernel
theorem d_law_399 : decode code 399 = .ok (.ifCond .ne (15), 3) := by decide +kernel
theorem d_law_402 : decode code 402 = .ok (.aload_n 3, 1) := by decide +kernel
theorem d_law_403 : decode code 403 = .ok (.iconst 0, 1) := by decide +kernel
theorem d_law_404 : decode code 404 = .ok (.laload, 1) := by decide +kernel
theorem d_law_405 : decode code 405 = .ok (.iload 6, 2) := by decide +kernel
theorem d_law_407 : decode code 407 = .ok (.i2l, 1) := by decide +kernel
theorem d_law_408 : decode code 408 = .ok (.lcmp, 1) := by decide +kernel
theorem d_law_409 : decode code 409 = .ok (.ifCond .eq (5), 3) := by decide +kernel
theorem d_law_412 : decode code 412 = .ok (.iconst 0, 1) := by decide +kernel
theorem d_law_413 : decode code 413 = .ok (.ireturn, 1) := by decide +kernel
theorem d_law_414 : decode code 414 = .ok (.goto (386), 3) := by decide +kernel
theorem d_law_417 : decode code 417 = .ok (.aload_n 1, 1) := by decide +kernel
theorem d_law_418 : decode code 418 = .ok (.aload_n 0, 1) := by decide +kernel
theorem d_law_419 : decode code 419 = .ok (.iload 4, 2) := by decide +kernel
theorem d_law_421 : decode code 421 = .ok (.iconst 1, 1) := by decide +kernel
theorem d_law_422 : decode code 422 = .ok (.iadd, 1) := by decide +kernel
theorem d_law_423 : decode code 423 = .ok (.iaload, 1) := by decide +kernel
theorem d_law_424 : decode code 424 = .ok (.aload_n 0, 1) := by decide +kernel
theorem d_law_425 : decode code 425 = .ok (.iload 4, 2) := by decide +kernel
theorem d_law_427 : decode code 427 = .ok (.iconst 2, 1) := by decide +kernel
theorem d_law_428 : decode code 428 = .ok (.iadd, 1) := by decide +kernel
theorem d_law_429 : decode code 429 = .ok (.iaload, 1) := by decide +kernel
theorem d_law_430 : decode code 430 = .ok (.aload_n 0, 1) := by decide +kernel
theorem d_law_431 : decode code 431 = .ok (.iload 4, 2) := by decide +kernel
theorem d_law_433 : decode code 433 = .ok (.iconst 3, 1) := by decide +kernel
theorem d_law_434 : decode code 434 = .ok (.iadd, 1) := by decide +kernel
theorem d_law_435 : decode code 435 = .ok (.iaload, 1) := by decide +kernel
theorem d_law_436 : decode code 436 = .ok (.aload_n 0, 1) := by decide +kernel
theorem d_law_437 : decode code 437 = .ok (.iload 4, 2) := by decide +kernel
theorem d_law_439 : decode code 439 = .ok (.iconst 4, 1) := by decide +kernel
theorem d_law_440 : decode code 440 = .ok (.iadd, 1) := by decide +kernel
theorem d_law_441 : decode code 441 = .ok (.iaload, 1) := by decide +kernel
theorem d_law_442 : decode code 442 = .ok (.aload_n 3, 1) := by decide +kernel
theorem d_law_443 : decode code 443 = .ok (.invokestatic 87, 3) := by decide +kernel
theorem d_law_446 : decode code 446 = .ok (.istore 5, 2) := by decide +kernel
theorem d_law_448 : decode code 448 = .ok (.aload_n 2, 1) := by decide +kernel
theorem d_law_449 : decode code 449 = .ok (.aload_n 0, 1) := by decide +kernel
theorem d_law_450 : decode code 450 = .ok (.iload 4, 2) := by decide +kernel
theorem d_law_452 : decode code 452 = .ok (.iconst 1, 1) := by decide +kernel
theorem d_law_453 : decode code 453 = .ok (.iadd, 1) := by decide +kernel
theorem d_law_454 : decode code 454 = .ok (.iaload, 1) := by decide +kernel
theorem d_law_455 : decode code 455 = .ok (.aload_n 0, 1) := by decide +kernel
theorem d_law_456 : decode code 456 = .ok (.iload 4, 2) := by decide +kernel
theorem d_law_458 : decode code 458 = .ok (.iconst 2, 1) := by decide +kernel
theorem d_law_459 : decode code 459 = .ok (.iadd, 1) := by decide +kernel
theorem d_law_460 : decode code 460 = .ok (.iaload, 1) := by decide +kernel
theorem d_law_461 : decode code 461 = .ok (.aload_n 0, 1) := by decide +kernel
theorem d_law_462 : decode code 462 = .ok (.iload 4, 2) := by decide +kernel
theorem d_law_464 : decode code 464 = .ok (.iconst 3, 1) := by decide +kernel
theorem d_law_465 : decode code 465 = .ok (.iadd, 1) := by decide +kernel
theorem d_law_466 : decode code 466 = .ok (.iaload, 1) := by decide +kernel
theorem d_law_467 : decode code 467 = .ok (.aload_n 0, 1) := by decide +kernel
theorem d_law_468 : decode code 468 = .ok (.iload 4, 2) := by decide +kernel
theorem d_law_470 : decode code 470 = .ok (.iconst 4, 1) := by decide +kernel
theorem d_law_471 : decode code 471 = .ok (.iadd, 1) := by decide +kernel
theorem d_law_472 : decode code 472 = .ok (.iaload, 1) := by decide +kernel
theorem d_law_473 : decode code 473 = .ok (.invokevirtual 90, 3) := by decide +kernel
theorem d_law_476 : decode code 476 = .ok (.istore 6, 2) := by decide +kernel
theorem d_law_478 : decode code 478 = .ok (.aload_n 2, 1) := by decide +kernel
theorem d_law_479 : decode code 479 = .ok (.invokevirtual 67, 3) := by decide +kernel
theorem d_law_482 : decode code 482 = .ok (.iload 5, 2) := by decide +kernel
theorem d_law_484 : decode code 484 = .ok (.if_icmp .eq (5), 3) := by decide +kernel
theorem d_law_487 : decode code 487 = .ok (.iconst 0, 1) := by decide +kernel
theorem d_law_488 : decode code 488 = .ok (.ireturn, 1) := by decide +kernel
theorem d_law_489 : decode code 489 = .ok (.iload 5, 2) := by decide +kernel
theorem d_law_491 : decode code 491 = .ok (.ifCond .ne (15), 3) := by decide +kernel
theorem d_law_494 : decode code 494 = .ok (.aload_n 3, 1) := by decide +kernel
theorem d_law_495 : decode code 495 = .ok (.iconst 0, 1) := by decide +kernel
theorem d_law_496 : decode code 496 = .ok (.laload, 1) := by decide +kernel
theorem d_law_497 : decode code 497 = .ok (.iload 6, 2) := by decide +kernel
theorem d_law_499 : decode code 499 = .ok (.i2l, 1) := by decide +kernel
theorem d_law_500 : decode code 500 = .ok (.lcmp, 1) := by decide +kernel
theorem d_law_501 : decode code 501 = .ok (.ifCond .eq (5), 3) := by decide +kernel
theorem d_law_504 : decode code 504 = .ok (.iconst 0, 1) := by decide +kernel
theorem d_law_505 : decode code 505 = .ok (.ireturn, 1) := by decide +kernel
theorem d_law_506 : decode code 506 = .ok (.goto (294), 3) := by decide +kernel
theorem d_law_509 : decode code 509 = .ok (.aload_n 1, 1) := by decide +kernel
theorem d_law_510 : decode code 510 = .ok (.aload_n 0, 1) := by decide +kernel
theorem d_law_511 : decode code 511 = .ok (.iload 4, 2) := by decide +kernel
theorem d_law_513 : decode code 513 = .ok (.iconst 1, 1) := by decide +kernel
theorem d_law_514 : decode code 514 = .ok (.iadd, 1) := by decide +kernel
theorem d_law_515 : decode code 515 = .ok (.iaload, 1) := by decide +kernel
theorem d_law_516 : decode code 516 = .ok (.aload_n 0, 1) := by decide +kernel
theorem d_law_517 : decode code 517 = .ok (.iload 4, 2) := by decide +kernel
theorem d_law_519 : decode code 519 = .ok (.iconst 2, 1) := by decide +kernel
theorem d_law_520 : decode code 520 = .ok (.iadd, 1) := by decide +kernel
theorem d_law_521 : decode code 521 = .ok (.iaload, 1) := by decide +kernel
theorem d_law_522 : decode code 522 = .ok (.invokevirtual 91, 3) := by decide +kernel
theorem d_law_525 : decode code 525 = .ok (.aload_n 2, 1) := by decide +kernel
theorem d_law_526 : decode code 526 = .ok (.aload_n 0, 1) := by decide +kernel
theorem d_law_527 : decode code 527 = .ok (.iload 4, 2) := by decide +kernel
theorem d_law_529 : decode code 529 = .ok (.iconst 1, 1) := by decide +kernel
theorem d_law_530 : decode code 530 = .ok (.iadd, 1) := by decide +kernel
theorem d_law_531 : decode code 531 = .ok (.iaload, 1) := by decide +kernel
theorem d_law_532 : decode code 532 = .ok (.aload_n 0, 1) := by decide +kernel
theorem d_law_533 : decode code 533 = .ok (.iload 4, 2) := by decide +kernel
theorem d_law_535 : decode code 535 = .ok (.iconst 2, 1) := by decide +kernel
theorem d_law_536 : decode code 536 = .ok (.iadd, 1) := by decide +kernel
theorem d_law_537 : decode code 537 = .ok (.iaload, 1) := by decide +kernel
theorem d_law_538 : decode code 538 = .ok (.invokevirtual 95, 3) := by decide +kernel
theorem d_law_541 : decode code 541 = .ok (.if_icmp .eq (259), 3) := by decide +kernel
theorem d_law_544 : decode code 544 = .ok (.iconst 0, 1) := by decide +kernel
theorem d_law_545 : decode code 545 = .ok (.ireturn, 1) := by decide +kernel
theorem d_law_546 : decode code 546 = .ok (.aload_n 1, 1) := by decide +kernel
theorem d_law_547 : decode code 547 = .ok (.aload_n 0, 1) := by decide +kernel
theorem d_law_548 : decode code 548 = .ok (.iload 4, 2) := by decide +kernel
theorem d_law_550 : decode code 550 = .ok (.iconst 1, 1) := by decide +kernel
theorem d_law_551 : decode code 551 = .ok (.iadd, 1) := by decide +kernel
theorem d_law_552 : decode code 552 = .ok (.iaload, 1) := by decide +kernel
theorem d_law_553 : decode code 553 = .ok (.aload_n 0, 1) := by decide +kernel
theorem d_law_554 : decode code 554 = .ok (.iload 4, 2) := by decide +kernel
theorem d_law_556 : decode code 556 = .ok (.iconst 2, 1) := by decide +kernel
theorem d_law_557 : decode code 557 = .ok (.iadd, 1) := by decide +kernel
theorem d_law_558 : decode code 558 = .ok (.iaload, 1) := by decide +kernel
theorem d_law_559 : decode code 559 = .ok (.aload_n 3, 1) := by decide +kernel
theorem d_law_560 : decode code 560 = .ok (.invokestatic 96, 3) := by decide +kernel
theorem d_law_563 : decode code 563 = .ok (.istore 5, 2) := by decide +kernel
theorem d_law_565 : decode code 565 = .ok (.aload_n 2, 1) := by decide +kernel
theorem d_law_566 : decode code 566 = .ok (.aload_n 0, 1) := by decide +kernel
theorem d_law_567 : decode code 567 = .ok (.iload 4, 2) := by decide +kernel
theorem d_law_569 : decode code 569 = .ok (.iconst 1, 1) := by decide +kernel
theorem d_law_570 : decode code 570 = .ok (.iadd, 1) := by decide +kernel
theorem d_law_571 : decode code 571 = .ok (.iaload, 1) := by decide +kernel
theorem d_law_572 : decode code 572 = .ok (.aload_n 0, 1) := by decide +kernel
theorem d_law_573 : decode code 573 = .ok (.iload 4, 2) := by decide +kernel
theorem d_law_575 : decode code 575 = .ok (.iconst 2, 1) := by decide +kernel
theorem d_law_576 : decode code 576 = .ok (.iadd, 1) := by decide +kernel
theorem d_law_577 : decode code 577 = .ok (.iaload, 1) := by decide +kernel
theorem d_law_578 : decode code 578 = .ok (.invokevirtual 99, 3) := by decide +kernel
theorem d_law_581 : decode code 581 = .ok (.istore 6, 2) := by decide +kernel
theorem d_law_583 : decode code 583 = .ok (.aload_n 2, 1) := by decide +kernel
theorem d_law_584 : decode code 584 = .ok (.invokevirtual 67, 3) := by decide +kernel
theorem d_law_587 : decode code 587 = .ok (.iload 5, 2) := by decide +kernel
theorem d_law_589 : decode code 589 = .ok (.if_icmp .eq (5), 3) := by decide +kernel
theorem d_law_592 : decode code 592 = .ok (.iconst 0, 1) := by decide +kernel
theorem d_law_593 : decode code 593 = .ok (.ireturn, 1) := by decide +kernel
theorem d_law_594 : decode code 594 = .ok (.iload 5, 2) := by decide +kernel
theorem d_law_596 : decode code 596 = .ok (.ifCond .ne (15), 3) := by decide +kernel
theorem d_law_599 : decode code 599 = .ok (.aload_n 3, 1) := by decide +kernel
theorem d_law_600 : decode code 600 = .ok (.iconst 0, 1) := by decide +kernel
theorem d_law_601 : decode code 601 = .ok (.laload, 1) := by decide +kernel
theorem d_law_602 : decode code 602 = .ok (.iload 6, 2) := by decide +kernel
theorem d_law_604 : decode code 604 = .ok (.i2l, 1) := by decide +kernel
theorem d_law_605 : decode code 605 = .ok (.lcmp, 1) := by decide +kernel
theorem d_law_606 : decode code 606 = .ok (.ifCond .eq (5), 3) := by decide +kernel
theorem d_law_609 : decode code 609 = .ok (.iconst 0, 1) := by decide +kernel
theorem d_law_610 : decode code 610 = .ok (.ireturn, 1) := by decide +kernel
theorem d_law_611 : decode code 611 = .ok (.goto (189), 3) := by decide +kernel
theorem d_law_614 : decode code 614 = .ok (.aload_n 1, 1) := by decide +kernel
theorem d_law_615 : decode code 615 = .ok (.aload_n 0, 1) := by decide +kernel
theorem d_law_616 : decode code 616 = .ok (.iload 4, 2) := by decide +kernel
theorem d_law_618 : decode code 618 = .ok (.iconst 1, 1) := by decide +kernel
theorem d_law_619 : decode code 619 = .ok (.iadd, 1) := by decide +kernel
theorem d_law_620 : decode code 620 = .ok (.iaload, 1) := by decide +kernel
theorem d_law_621 : decode code 621 = .ok (.invokevirtual 100, 3) := by decide +kernel
theorem d_law_624 : decode code 624 = .ok (.aload_n 2, 1) := by decide +kernel
theorem d_law_625 : decode code 625 = .ok (.aload_n 0, 1) := by decide +kernel
theorem d_law_626 : decode code 626 = .ok (.iload 4, 2) := by decide +kernel
theorem d_law_628 : decode code 628 = .ok (.iconst 1, 1) := by decide +kernel
theorem d_law_629 : decode code 629 = .ok (.iadd, 1) := by decide +kernel
theorem d_law_630 : decode code 630 = .ok (.iaload, 1) := by decide +kernel
theorem d_law_631 : decode code 631 = .ok (.invokevirtual 103, 3) := by decide +kernel
theorem d_law_634 : decode code 634 = .ok (.if_icmp .eq (166), 3) := by decide +kernel
theorem d_law_637 : decode code 637 = .ok (.iconst 0, 1) := by decide +kernel
theorem d_law_638 : decode code 638 = .ok (.ireturn, 1) := by decide +kernel
theorem d_law_639 : decode code 639 = .ok (.aload_n 1, 1) := by decide +kernel
theorem d_law_640 : decode code 640 = .ok (.aload_n 0, 1) := by decide +kernel
theorem d_law_641 : decode code 641 = .ok (.iload 4, 2) := by decide +kernel
theorem d_law_643 : decode code 643 = .ok (.iconst 1, 1) := by decide +kernel
theorem d_law_644 : decode code 644 = .ok (.iadd, 1) := by decide +kernel
theorem d_law_645 : decode code 645 = .ok (.iaload, 1) := by decide +kernel
theorem d_law_646 : decode code 646 = .ok (.aload_n 0, 1) := by decide +kernel
theorem d_law_647 : decode code 647 = .ok (.iload 4, 2) := by decide +kernel
theorem d_law_649 : decode code 649 = .ok (.iconst 2, 1) := by decide +kernel
theorem d_law_650 : decode code 650 = .ok (.iadd, 1) := by decide +kernel
theorem d_law_651 : decode code 651 = .ok (.iaload, 1) := by decide +kernel
theorem d_law_652 : decode code 652 = .ok (.aload_n 3, 1) := by decide +kernel
theorem d_law_653 : decode code 653 = .ok (.invokestatic 104, 3) := by decide +kernel
theorem d_law_656 : decode code 656 = .ok (.istore 5, 2) := by decide +kernel
theorem d_law_658 : decode code 658 = .ok (.aload_n 2, 1) := by decide +kernel
theorem d_law_659 : decode code 659 = .ok (.aload_n 0, 1) := by decide +kernel
theorem d_law_660 : decode code 660 = .ok (.iload 4, 2) := by decide +kernel
theorem d_law_662 : decode code 662 = .ok (.iconst 1, 1) := by decide +kernel
theorem d_law_663 : decode code 663 = .ok (.iadd, 1) := by decide +kernel
theorem d_law_664 : decode code 664 = .ok (.iaload, 1) := by decide +kernel
theorem d_law_665 : decode code 665 = .ok (.aload_n 0, 1) := by decide +kernel
theorem d_law_666 : decode code 666 = .ok (.iload 4, 2) := by decide +kernel
theorem d_law_668 : decode code 668 = .ok (.iconst 2, 1) := by decide +kernel
theorem d_law_669 : decode code 669 = .ok (.iadd, 1) := by decide +kernel
theorem d_law_670 : decode code 670 = .ok (.iaload, 1) := by decide +kernel
theorem d_law_671 : decode code 671 = .ok (.invokevirtual 106, 3) := by decide +kernel
theorem d_law_674 : decode code 674 = .ok (.istore 6, 2) := by decide +kernel
theorem d_law_676 : decode code 676 = .ok (.aload_n 2, 1) := by decide +kernel
theorem d_law_677 : decode code 677 = .ok (.invokevirtual 67, 3) := by decide +kernel
theorem d_law_680 : decode code 680 = .ok (.iload 5, 2) := by decide +kernel
theorem d_law_682 : decode code 682 = .ok (.if_icmp .eq (5), 3) := by decide +kernel
theorem d_law_685 : decode code 685 = .ok (.iconst 0, 1) := by decide +kernel
theorem d_law_686 : decode code 686 = .ok (.ireturn, 1) := by decide +kernel
theorem d_law_687 : decode code 687 = .ok (.iload 5, 2) := by decide +kernel
theorem d_law_689 : decode code 689 = .ok (.ifCond .ne (15), 3) := by decide +kernel
theorem d_law_692 : decode code 692 = .ok (.aload_n 3, 1) := by decide +kernel
theorem d_law_693 : decode code 693 = .ok (.iconst 0, 1) := by decide +kernel
theorem d_law_694 : decode code 694 = .ok (.laload, 1) := by decide +kernel
theorem d_law_695 : decode code 695 = .ok (.iload 6, 2) := by decide +kernel
theorem d_law_697 : decode code 697 = .ok (.i2l, 1) := by decide +kernel
theorem d_law_698 : decode code 698 = .ok (.lcmp, 1) := by decide +kernel
theorem d_law_699 : decode code 699 = .ok (.ifCond .eq (5), 3) := by decide +kernel
theorem d_law_702 : decode code 702 = .ok (.iconst 0, 1) := by decide +kernel
theorem d_law_703 : decode code 703 = .ok (.ireturn, 1) := by decide +kernel
theorem d_law_704 : decode code 704 = .ok (.goto (96), 3) := by decide +kernel
theorem d_law_707 : decode code 707 = .ok (.aload_n 1, 1) := by decide +kernel
theorem d_law_708 : decode code 708 = .ok (.aload_n 0, 1) := by decide +kernel
theorem d_law_709 : decode code 709 = .ok (.iload 4, 2) := by decide +kernel
theorem d_law_711 : decode code 711 = .ok (.iconst 1, 1) := by decide +kernel
theorem d_law_712 : decode code 712 = .ok (.iadd, 1) := by decide +kernel
theorem d_law_713 : decode code 713 = .ok (.iaload, 1) := by decide +kernel
theorem d_law_714 : decode code 714 = .ok (.aload_n 0, 1) := by decide +kernel
theorem d_law_715 : decode code 715 = .ok (.iload 4, 2) := by decide +kernel
theorem d_law_717 : decode code 717 = .ok (.iconst 2, 1) := by decide +kernel
theorem d_law_718 : decode code 718 = .ok (.iadd, 1) := by decide +kernel
theorem d_law_719 : decode code 719 = .ok (.iaload, 1) := by decide +kernel
theorem d_law_720 : decode code 720 = .ok (.aload_n 3, 1) := by decide +kernel
theorem d_law_721 : decode code 721 = .ok (.invokestatic 107, 3) := by decide +kernel
theorem d_law_724 : decode code 724 = .ok (.istore 5, 2) := by decide +kernel
theorem d_law_726 : decode code 726 = .ok (.aload_n 2, 1) := by decide +kernel
theorem d_law_727 : decode code 727 = .ok (.aload_n 0, 1) := by decide +kernel
theorem d_law_728 : decode code 728 = .ok (.iload 4, 2) := by decide +kernel
theorem d_law_730 : decode code 730 = .ok (.iconst 1, 1) := by decide +kernel
theorem d_law_731 : decode code 731 = .ok (.iadd, 1) := by decide +kernel
theorem d_law_732 : decode code 732 = .ok (.iaload, 1) := by decide +kernel
theorem d_law_733 : decode code 733 = .ok (.aload_n 0, 1) := by decide +kernel
theorem d_law_734 : decode code 734 = .ok (.iload 4, 2) := by decide +kernel
theorem d_law_736 : decode code 736 = .ok (.iconst 2, 1) := by decide +kernel
theorem d_law_737 : decode code 737 = .ok (.iadd, 1) := by decide +kernel
theorem d_law_738 : decode code 738 = .ok (.iaload, 1) := by decide +kernel
theorem d_law_739 : decode code 739 = .ok (.invokevirtual 109, 3) := by decide +kernel
theorem d_law_742 : decode code 742 = .ok (.istore 6, 2) := by decide +kernel
theorem d_law_744 : decode code 744 = .ok (.aload_n 2, 1) := by decide +kernel
theorem d_law_745 : decode code 745 = .ok (.invokevirtual 67, 3) := by decide +kernel
theorem d_law_748 : decode code 748 = .ok (.iload 5, 2) := by decide +kernel
theorem d_law_750 : decode code 750 = .ok (.if_icmp .eq (5), 3) := by decide +kernel
theorem d_law_753 : decode code 753 = .ok (.iconst 0, 1) := by decide +kernel
theorem d_law_754 : decode code 754 = .ok (.ireturn, 1) := by decide +kernel
theorem d_law_755 : decode code 755 = .ok (.iload 5, 2) := by decide +kernel
theorem d_law_757 : decode code 757 = .ok (.ifCond .ne (15), 3) := by decide +kernel
theorem d_law_760 : decode code 760 = .ok (.aload_n 3, 1) := by decide +kernel
theorem d_law_761 : decode code 761 = .ok (.iconst 0, 1) := by decide +kernel
theorem d_law_762 : decode code 762 = .ok (.laload, 1) := by decide +kernel
theorem d_law_763 : decode code 763 = .ok (.iload 6, 2) := by decide +kernel
theorem d_law_765 : decode code 765 = .ok (.i2l, 1) := by decide +kernel
theorem d_law_766 : decode code 766 = .ok (.lcmp, 1) := by decide +kernel
theorem d_law_767 : decode code 767 = .ok (.ifCond .eq (5), 3) := by decide +kernel
theorem d_law_770 : decode code 770 = .ok (.iconst 0, 1) := by decide +kernel
theorem d_law_771 : decode code 771 = .ok (.ireturn, 1) := by decide +kernel
theorem d_law_772 : decode code 772 = .ok (.goto (28), 3) := by decide +kernel
theorem d_law_775 : decode code 775 = .ok (.aload_n 1, 1) := by decide +kernel
theorem d_law_776 : decode code 776 = .ok (.aload_n 0, 1) := by decide +kernel
theorem d_law_777 : decode code 777 = .ok (.iload 4, 2) := by decide +kernel
theorem d_law_779 : decode code 779 = .ok (.iconst 1, 1) := by decide +kernel
theorem d_law_780 : decode code 780 = .ok (.iadd, 1) := by decide +kernel
theorem d_law_781 : decode code 781 = .ok (.iaload, 1) := by decide +kernel
theorem d_law_782 : decode code 782 = .ok (.invokevirtual 110, 3) := by decide +kernel
theorem d_law_785 : decode code 785 = .ok (.aload_n 2, 1) := by decide +kernel
theorem d_law_786 : decode code 786 = .ok (.aload_n 0, 1) := by decide +kernel
theorem d_law_787 : decode code 787 = .ok (.iload 4, 2) := by decide +kernel
theorem d_law_789 : decode code 789 = .ok (.iconst 1, 1) := by decide +kernel
theorem d_law_790 : decode code 790 = .ok (.iadd, 1) := by decide +kernel
theorem d_law_791 : decode code 791 = .ok (.iaload, 1) := by decide +kernel
theorem d_law_792 : decode code 792 = .ok (.invokevirtual 113, 3) := by decide +kernel
theorem d_law_795 : decode code 795 = .ok (.if_icmp .eq (5), 3) := by decide +kernel
theorem d_law_798 : decode code 798 = .ok (.iconst 0, 1) := by decide +kernel
theorem d_law_799 : decode code 799 = .ok (.ireturn, 1) := by decide +kernel
theorem d_law_800 : decode code 800 = .ok (.iinc 4 (5), 3) := by decide +kernel
theorem d_law_803 : decode code 803 = .ok (.goto (-780), 3) := by decide +kernel
theorem d_law_806 : decode code 806 = .ok (.iconst 1, 1) := by decide +kernel
theorem d_law_807 : decode code 807 = .ok (.ireturn, 1) := by decide +kernel
def lw_Wf (a b o : Nat) (h : ag_H) : Prop := (2 ≤ a ∧ a < b ∧ b + 21 < o ∧ o < h.1) ∧ (∃ fs, h.2.2 a = .inr (0, fs)) ∧ ∃ f, h.2.2 o = .inl (3, 1, .inr (.inl f))
def lw_oc (f : Nat → Int64) (y : Int32) : ag_C := .inl (3, 1, .inr (.inl (vp_updL f 0 y.toInt64)))
/-- a call that answers: both answer alike -/
def lw_D (F : ag_H → Option (Int32 × ag_H)) (Mf : MS → Option (Int32 × MS)) (b : Nat) (h : ag_H) (S : MS) (K : ag_H → MS → Prop) : Prop := ∃ x h1 S1, F (md_up h b S) = some (x, md_up h1 b S) ∧ Mf S = some (x, S1) ∧ K h1 S1
/-- a call that answers nothing -/
def lw_V (F : ag_H → Option (Int32 × ag_H)) (Mf : MS → Option (Int32 × MS)) (b : Nat) (h : ag_H) (S : MS) (K : ag_H → MS → Prop) : Prop := ∃ x y h1 S1, F (md_up h b S) = some (x, md_up h1 b S) ∧ Mf S = some (y, S1) ∧ K h1 S1
/-- a call that answers or throws -/
def lw_T (F : ag_H → Option ((Int32 ⊕ Nat) × ag_H)) (Mf Th : MS → Option (Int32 × MS)) (kd : Nat → Option Int32) (a b o : Nat) (h : ag_H) (S : MS) (K : ag_H → MS → Prop) : Prop := ∃ y S1 k S2, Mf S = some (y, S1) ∧ Th S1 = some (k, S2) ∧
  ((∃ h1, F (md_up h b S) = some (.inl y, md_up h1 b S) ∧ k = 0 ∧ lw_Wf a b o h1 ∧ ∀ f, h1.2.2 o = .inl (3, 1, .inr (.inl f)) → K (ag_up h1 o (lw_oc f y)) S2) ∨
   (∃ e h1 ci fx, F (md_up h b S) = some (.inr e, md_up h1 b S) ∧ ag_at (md_up h1 b S) (.ref e) = some (.inr (ci, fx)) ∧ kd ci = some k ∧ lw_Wf a b o h1 ∧ K h1 S2))
theorem lw_md {a b o : Nat} {h : ag_H} (w : lw_Wf a b o h) : md_ok h b := ⟨by have := w.1; omega, by have := w.1; omega⟩
theorem lw_ata {a b o : Nat} {h : ag_H} (w : lw_Wf a b o h) (S : MS) : ∃ fs, ag_at (md_up h b S) (.ref a) = some (.inr (0, fs)) := by
  obtain ⟨⟨w1, w2, w3, w4⟩, ⟨fs, hf⟩, -⟩ := w
  refine ⟨fs, ?_⟩
  rw [md_atE (h := md_up h b S) w1 (show a < h.1 by omega)]
  show some (if a < b then h.2.2 a else _) = _
  rw [if_pos w2, hf]
theorem lw_ato {b o : Nat} {h : ag_H} (w3 : b + 21 < o) (w4 : o < h.1) (S : MS) : ag_at (md_up h b S) (.ref o) = some (h.2.2 o) := by
  rw [md_atE (h := md_up h b S) (show 2 ≤ o by omega) (show o < h.1 from w4)]
  show some (if o < b then _ else if o = b then _ else if o ≤ b + 21 then _ else h.2.2 o) = _
  rw [if_neg (by omega), if_neg (by omega), if_neg (by omega)]
theorem lw_upo {b o : Nat} {h : ag_H} (w3 : b + 21 < o) (S : MS) (c : ag_C) : ag_up (md_up h b S) o c = md_up (ag_up h o c) b S := by
  unfold ag_up md_up
  refine Prod.ext rfl (Prod.ext rfl (funext fun q => ?_))
  show (if q = o then c else _) = (if q < b then (if q = o then c else h.2.2 q) else if q = b then _ else if q ≤ b + 21 then _ else (if q = o then c else h.2.2 q))
  by_cases e : q = o
  · rw [if_pos e, if_neg (by omega), if_neg (by omega), if_neg (by omega), if_pos e]
  · rw [if_neg e, if_neg e]
theorem lw_self (x : Int64) : lg_cmp x x = 0 := by
  unfold lg_cmp
  rw [if_neg (by rw [gt_iff_lt, Int64.lt_iff_toInt_lt]; omega), if_pos rfl]
theorem lw_up0 (f : Nat → Int64) (v : Int64) : vp_updL f 0 v (Int32.ofInt 0).toNatClampNeg = v := if_pos (by decide)
theorem lw_cmp0 (f : Nat → Int64) (v : Int64) : lg_cmp (vp_updL f 0 v (Int32.ofInt 0).toNatClampNeg) v = 0 := by rw [lw_up0]; exact lw_self v
theorem lw_ofn {n : Nat} (hn : n < 2147483648) : (Int32.ofNat n).toNatClampNeg = n := by
  rw [Int32.toNatClampNeg, Int32.toInt_ofNat_of_lt (by simpa using hn)]; rfl
theorem lw_vin {n L : Nat} (hn : n < L) (hL : L ≤ 2560) : vp_in (Int32.ofNat n) L := by
  intro q
  rcases q with q | q
  · have h1 := Int32.lt_iff_toInt_lt.mp q
    rw [Int32.toInt_ofNat_of_lt (by simp; omega)] at h1
    have : (0 : Int32).toInt = 0 := by decide
    omega
  · rw [lw_ofn (by omega)] at q
    omega
theorem lw_add {n j : Nat} : Int32.ofNat n + Int32.ofNat j = Int32.ofNat (n + j) := (Int32.ofNat_add n j).symm
section LWS
variable {l : Launch} {G : ag_G} {M : ag_M} {d : Nat} {Z : ag_Z} {pc : Nat} {lv : ag_L} {st : List Value} {h : ag_H} {t : Nat}
theorem lw_ld {j : Nat} (hL : ag_Ln G ≤ 2560) (ht : 5 * t + 5 ≤ ag_Ln G) (hj : j < 5) (hd : decode M.2.1 pc = .ok (.iaload, 1)) (k : ag_ev gc_P l G M d Z (pc + 1) lv (.int (ag_xs G (5 * t + j)) :: st) h) : ag_ev gc_P l G M d Z pc lv (.int (Int32.ofNat (5 * t) + Int32.ofNat j) :: .ref 0 :: st) h := by
  rw [lw_add]
  refine ag_sld hd (lw_vin (by omega) hL) ?_
  rw [lw_ofn (by omega)]
  exact k
theorem lw_ld0 (hL : ag_Ln G ≤ 2560) (ht : 5 * t + 5 ≤ ag_Ln G) (hd : decode M.2.1 pc = .ok (.iaload, 1)) (k : ag_ev gc_P l G M d Z (pc + 1) lv (.int (ag_xs G (5 * t)) :: st) h) : ag_ev gc_P l G M d Z pc lv (.int (Int32.ofNat (5 * t)) :: .ref 0 :: st) h := by
  refine ag_sld hd (lw_vin (by omega) hL) ?_
  rw [lw_ofn (by omega)]
  exact k
end LWS
