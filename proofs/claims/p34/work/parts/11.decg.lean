theorem dL_metres_28 : decode cL_metres 28 = .ok (.iconst 2, 1) := by decide +kernel
theorem dL_metres_29 : decode cL_metres 29 = .ok (.istore 9, 2) := by decide +kernel
theorem dL_metres_31 : decode cL_metres 31 = .ok (.bipush 9, 2) := by decide +kernel
theorem dL_metres_33 : decode cL_metres 33 = .ok (.newarray .int, 2) := by decide +kernel
theorem dL_metres_35 : decode cL_metres 35 = .ok (.astore 10, 2) := by decide +kernel
theorem dL_metres_37 : decode cL_metres 37 = .ok (.iload_n 1, 1) := by decide +kernel
theorem dL_metres_38 : decode cL_metres 38 = .ok (.iconst 3, 1) := by decide +kernel
theorem dL_metres_39 : decode cL_metres 39 = .ok (.invokestatic 99, 3) := by decide +kernel
theorem dL_metres_42 : decode cL_metres 42 = .ok (.ifCond .le 5, 3) := by decide +kernel
theorem dL_metres_45 : decode cL_metres 45 = .ok (.iconst 1, 1) := by decide +kernel
theorem dL_metres_46 : decode cL_metres 46 = .ok (.ireturn, 1) := by decide +kernel
theorem dL_metres_47 : decode cL_metres 47 = .ok (.aload_n 0, 1) := by decide +kernel
theorem dL_metres_48 : decode cL_metres 48 = .ok (.invokevirtual 116, 3) := by decide +kernel
theorem dL_metres_51 : decode cL_metres 51 = .ok (.pop, 1) := by decide +kernel
theorem dL_metres_52 : decode cL_metres 52 = .ok (.iconst 0, 1) := by decide +kernel
theorem dL_metres_53 : decode cL_metres 53 = .ok (.istore 11, 2) := by decide +kernel
theorem dL_metres_55 : decode cL_metres 55 = .ok (.iload 11, 2) := by decide +kernel
theorem dL_metres_57 : decode cL_metres 57 = .ok (.iload 9, 2) := by decide +kernel
theorem dL_metres_59 : decode cL_metres 59 = .ok (.if_icmp .ge 168, 3) := by decide +kernel
theorem dL_metres_62 : decode cL_metres 62 = .ok (.iload 11, 2) := by decide +kernel
theorem dL_metres_64 : decode cL_metres 64 = .ok (.iload_n 2, 1) := by decide +kernel
theorem dL_metres_65 : decode cL_metres 65 = .ok (.if_icmp .ge 35, 3) := by decide +kernel
theorem dL_metres_68 : decode cL_metres 68 = .ok (.aload_n 3, 1) := by decide +kernel
theorem dL_metres_69 : decode cL_metres 69 = .ok (.iload 11, 2) := by decide +kernel
theorem dL_metres_71 : decode cL_metres 71 = .ok (.iaload, 1) := by decide +kernel
theorem dL_metres_72 : decode cL_metres 72 = .ok (.aload 4, 2) := by decide +kernel
theorem dL_metres_74 : decode cL_metres 74 = .ok (.aload 5, 2) := by decide +kernel
theorem dL_metres_76 : decode cL_metres 76 = .ok (.invokestatic 25, 3) := by decide +kernel
theorem dL_metres_79 : decode cL_metres 79 = .ok (.aload_n 3, 1) := by decide +kernel
theorem dL_metres_80 : decode cL_metres 80 = .ok (.iload 11, 2) := by decide +kernel
theorem dL_metres_82 : decode cL_metres 82 = .ok (.iaload, 1) := by decide +kernel
theorem dL_metres_83 : decode cL_metres 83 = .ok (.aload 4, 2) := by decide +kernel
theorem dL_metres_85 : decode cL_metres 85 = .ok (.aload 5, 2) := by decide +kernel
theorem dL_metres_87 : decode cL_metres 87 = .ok (.invokestatic 76, 3) := by decide +kernel
theorem dL_metres_90 : decode cL_metres 90 = .ok (.aload 4, 2) := by decide +kernel
theorem dL_metres_92 : decode cL_metres 92 = .ok (.aload 5, 2) := by decide +kernel
theorem dL_metres_94 : decode cL_metres 94 = .ok (.invokestatic 28, 3) := by decide +kernel
theorem dL_metres_97 : decode cL_metres 97 = .ok (.goto 4, 3) := by decide +kernel
theorem dL_metres_100 : decode cL_metres 100 = .ok (.iconst 1, 1) := by decide +kernel
theorem dL_metres_101 : decode cL_metres 101 = .ok (.istore 12, 2) := by decide +kernel
theorem dL_metres_103 : decode cL_metres 103 = .ok (.aload 10, 2) := by decide +kernel
theorem dL_metres_105 : decode cL_metres 105 = .ok (.iload 11, 2) := by decide +kernel
theorem dL_metres_107 : decode cL_metres 107 = .ok (.iload 12, 2) := by decide +kernel
theorem dL_metres_109 : decode cL_metres 109 = .ok (.iload_n 1, 1) := by decide +kernel
theorem dL_metres_110 : decode cL_metres 110 = .ok (.iconst 2, 1) := by decide +kernel
theorem dL_metres_111 : decode cL_metres 111 = .ok (.iload 11, 2) := by decide +kernel
theorem dL_metres_113 : decode cL_metres 113 = .ok (.imul, 1) := by decide +kernel
theorem dL_metres_114 : decode cL_metres 114 = .ok (.ishr, 1) := by decide +kernel
theorem dL_metres_115 : decode cL_metres 115 = .ok (.iconst 3, 1) := by decide +kernel
theorem dL_metres_116 : decode cL_metres 116 = .ok (.invokestatic 99, 3) := by decide +kernel
theorem dL_metres_119 : decode cL_metres 119 = .ok (.iadd, 1) := by decide +kernel
theorem dL_metres_120 : decode cL_metres 120 = .ok (.iastore, 1) := by decide +kernel
theorem dL_metres_121 : decode cL_metres 121 = .ok (.iload 6, 2) := by decide +kernel
theorem dL_metres_123 : decode cL_metres 123 = .ok (.aload 10, 2) := by decide +kernel
theorem dL_metres_125 : decode cL_metres 125 = .ok (.iload 11, 2) := by decide +kernel
theorem dL_metres_127 : decode cL_metres 127 = .ok (.iaload, 1) := by decide +kernel
theorem dL_metres_128 : decode cL_metres 128 = .ok (.iload 12, 2) := by decide +kernel
theorem dL_metres_130 : decode cL_metres 130 = .ok (.isub, 1) := by decide +kernel
theorem dL_metres_131 : decode cL_metres 131 = .ok (.iadd, 1) := by decide +kernel
theorem dL_metres_132 : decode cL_metres 132 = .ok (.istore 6, 2) := by decide +kernel
theorem dL_metres_134 : decode cL_metres 134 = .ok (.iload 11, 2) := by decide +kernel
theorem dL_metres_136 : decode cL_metres 136 = .ok (.ifCond .le 17, 3) := by decide +kernel
theorem dL_metres_139 : decode cL_metres 139 = .ok (.aload_n 0, 1) := by decide +kernel
theorem dL_metres_140 : decode cL_metres 140 = .ok (.bipush 46, 2) := by decide +kernel
theorem dL_metres_142 : decode cL_metres 142 = .ok (.invokevirtual 120, 3) := by decide +kernel
theorem dL_metres_145 : decode cL_metres 145 = .ok (.iinc 7 1, 3) := by decide +kernel
theorem dL_metres_148 : decode cL_metres 148 = .ok (.iload 7, 2) := by decide +kernel
theorem dL_metres_150 : decode cL_metres 150 = .ok (.if_icmp .ne 69, 3) := by decide +kernel
theorem dL_metres_153 : decode cL_metres 153 = .ok (.aload 10, 2) := by decide +kernel
theorem dL_metres_155 : decode cL_metres 155 = .ok (.iload 11, 2) := by decide +kernel
theorem dL_metres_157 : decode cL_metres 157 = .ok (.iaload, 1) := by decide +kernel
theorem dL_metres_158 : decode cL_metres 158 = .ok (.bipush 9, 2) := by decide +kernel
theorem dL_metres_160 : decode cL_metres 160 = .ok (.if_icmp .le 26, 3) := by decide +kernel
theorem dL_metres_163 : decode cL_metres 163 = .ok (.aload_n 0, 1) := by decide +kernel
theorem dL_metres_164 : decode cL_metres 164 = .ok (.bipush 48, 2) := by decide +kernel
theorem dL_metres_166 : decode cL_metres 166 = .ok (.aload 10, 2) := by decide +kernel
theorem dL_metres_168 : decode cL_metres 168 = .ok (.iload 11, 2) := by decide +kernel
theorem dL_metres_170 : decode cL_metres 170 = .ok (.iaload, 1) := by decide +kernel
theorem dL_metres_171 : decode cL_metres 171 = .ok (.bipush 10, 2) := by decide +kernel
theorem dL_metres_173 : decode cL_metres 173 = .ok (.idiv, 1) := by decide +kernel
theorem dL_metres_174 : decode cL_metres 174 = .ok (.iadd, 1) := by decide +kernel
theorem dL_metres_175 : decode cL_metres 175 = .ok (.invokevirtual 120, 3) := by decide +kernel
theorem dL_metres_178 : decode cL_metres 178 = .ok (.iinc 7 1, 3) := by decide +kernel
theorem dL_metres_181 : decode cL_metres 181 = .ok (.iload 7, 2) := by decide +kernel
theorem dL_metres_183 : decode cL_metres 183 = .ok (.if_icmp .ne 36, 3) := by decide +kernel
theorem dL_metres_186 : decode cL_metres 186 = .ok (.aload_n 0, 1) := by decide +kernel
theorem dL_metres_187 : decode cL_metres 187 = .ok (.bipush 48, 2) := by decide +kernel
theorem dL_metres_189 : decode cL_metres 189 = .ok (.aload 10, 2) := by decide +kernel
theorem dL_metres_191 : decode cL_metres 191 = .ok (.iload 11, 2) := by decide +kernel
theorem dL_metres_193 : decode cL_metres 193 = .ok (.iaload, 1) := by decide +kernel
theorem dL_metres_194 : decode cL_metres 194 = .ok (.bipush 10, 2) := by decide +kernel
theorem dL_metres_196 : decode cL_metres 196 = .ok (.irem, 1) := by decide +kernel
theorem dL_metres_197 : decode cL_metres 197 = .ok (.iadd, 1) := by decide +kernel
theorem dL_metres_198 : decode cL_metres 198 = .ok (.invokevirtual 120, 3) := by decide +kernel
theorem dL_metres_201 : decode cL_metres 201 = .ok (.iinc 7 1, 3) := by decide +kernel
theorem dL_metres_204 : decode cL_metres 204 = .ok (.iload 7, 2) := by decide +kernel
theorem dL_metres_206 : decode cL_metres 206 = .ok (.if_icmp .ne 13, 3) := by decide +kernel
theorem dL_metres_209 : decode cL_metres 209 = .ok (.aload_n 0, 1) := by decide +kernel
theorem dL_metres_210 : decode cL_metres 210 = .ok (.iconst 1, 1) := by decide +kernel
theorem dL_metres_211 : decode cL_metres 211 = .ok (.invokevirtual 123, 3) := by decide +kernel
theorem dL_metres_214 : decode cL_metres 214 = .ok (.iload 7, 2) := by decide +kernel
theorem dL_metres_216 : decode cL_metres 216 = .ok (.if_icmp .eq 5, 3) := by decide +kernel
theorem dL_metres_219 : decode cL_metres 219 = .ok (.iconst 0, 1) := by decide +kernel
theorem dL_metres_220 : decode cL_metres 220 = .ok (.ireturn, 1) := by decide +kernel
theorem dL_metres_221 : decode cL_metres 221 = .ok (.iinc 11 1, 3) := by decide +kernel
theorem dL_metres_224 : decode cL_metres 224 = .ok (.goto (-169), 3) := by decide +kernel
theorem dL_metres_227 : decode cL_metres 227 = .ok (.iload_n 1, 1) := by decide +kernel
theorem dL_metres_228 : decode cL_metres 228 = .ok (.bipush 9, 2) := by decide +kernel
theorem dL_metres_230 : decode cL_metres 230 = .ok (.ishr, 1) := by decide +kernel
theorem dL_metres_231 : decode cL_metres 231 = .ok (.iconst 3, 1) := by decide +kernel
theorem dL_metres_232 : decode cL_metres 232 = .ok (.invokestatic 99, 3) := by decide +kernel
theorem dL_metres_235 : decode cL_metres 235 = .ok (.ifCond .ne 7, 3) := by decide +kernel
theorem dL_metres_238 : decode cL_metres 238 = .ok (.iconst 1, 1) := by decide +kernel
theorem dL_metres_239 : decode cL_metres 239 = .ok (.goto 4, 3) := by decide +kernel
theorem dL_metres_242 : decode cL_metres 242 = .ok (.iconst 0, 1) := by decide +kernel
theorem dL_metres_243 : decode cL_metres 243 = .ok (.istore 11, 2) := by decide +kernel
theorem dL_metres_245 : decode cL_metres 245 = .ok (.iload 11, 2) := by decide +kernel
theorem dL_metres_247 : decode cL_metres 247 = .ok (.ifCond .eq 66, 3) := by decide +kernel
theorem dL_metres_250 : decode cL_metres 250 = .ok (.aload_n 0, 1) := by decide +kernel
theorem dL_metres_251 : decode cL_metres 251 = .ok (.bipush 46, 2) := by decide +kernel
theorem dL_metres_253 : decode cL_metres 253 = .ok (.invokevirtual 120, 3) := by decide +kernel
theorem dL_metres_256 : decode cL_metres 256 = .ok (.iinc 7 1, 3) := by decide +kernel
theorem dL_metres_259 : decode cL_metres 259 = .ok (.iload 7, 2) := by decide +kernel
theorem dL_metres_261 : decode cL_metres 261 = .ok (.if_icmp .ne 50, 3) := by decide +kernel
theorem dL_metres_264 : decode cL_metres 264 = .ok (.aload_n 0, 1) := by decide +kernel
theorem dL_metres_265 : decode cL_metres 265 = .ok (.bipush 68, 2) := by decide +kernel
theorem dL_metres_267 : decode cL_metres 267 = .ok (.invokevirtual 120, 3) := by decide +kernel
theorem dL_metres_270 : decode cL_metres 270 = .ok (.iinc 7 1, 3) := by decide +kernel
theorem dL_metres_273 : decode cL_metres 273 = .ok (.iload 7, 2) := by decide +kernel
theorem dL_metres_275 : decode cL_metres 275 = .ok (.if_icmp .ne 36, 3) := by decide +kernel
theorem dL_metres_278 : decode cL_metres 278 = .ok (.aload_n 0, 1) := by decide +kernel
theorem dL_metres_279 : decode cL_metres 279 = .ok (.iconst 1, 1) := by decide +kernel
theorem dL_metres_280 : decode cL_metres 280 = .ok (.invokevirtual 123, 3) := by decide +kernel
theorem dL_metres_283 : decode cL_metres 283 = .ok (.iload 7, 2) := by decide +kernel
theorem dL_metres_285 : decode cL_metres 285 = .ok (.if_icmp .ne 26, 3) := by decide +kernel
theorem dL_metres_288 : decode cL_metres 288 = .ok (.aload_n 0, 1) := by decide +kernel
theorem dL_metres_289 : decode cL_metres 289 = .ok (.bipush 49, 2) := by decide +kernel
theorem dL_metres_291 : decode cL_metres 291 = .ok (.invokevirtual 120, 3) := by decide +kernel
theorem dL_metres_294 : decode cL_metres 294 = .ok (.iload 7, 2) := by decide +kernel
theorem dL_metres_296 : decode cL_metres 296 = .ok (.iconst 1, 1) := by decide +kernel
theorem dL_metres_297 : decode cL_metres 297 = .ok (.iadd, 1) := by decide +kernel
theorem dL_metres_298 : decode cL_metres 298 = .ok (.if_icmp .ne 13, 3) := by decide +kernel
theorem dL_metres_301 : decode cL_metres 301 = .ok (.aload_n 0, 1) := by decide +kernel
theorem dL_metres_302 : decode cL_metres 302 = .ok (.iconst 1, 1) := by decide +kernel
theorem dL_metres_303 : decode cL_metres 303 = .ok (.invokevirtual 123, 3) := by decide +kernel
theorem dL_metres_306 : decode cL_metres 306 = .ok (.iload 7, 2) := by decide +kernel
theorem dL_metres_308 : decode cL_metres 308 = .ok (.if_icmp .eq 5, 3) := by decide +kernel
theorem dL_metres_311 : decode cL_metres 311 = .ok (.iconst 0, 1) := by decide +kernel
theorem dL_metres_312 : decode cL_metres 312 = .ok (.ireturn, 1) := by decide +kernel
theorem dL_metres_313 : decode cL_metres 313 = .ok (.iload 11, 2) := by decide +kernel
theorem dL_metres_315 : decode cL_metres 315 = .ok (.ifCond .eq 20, 3) := by decide +kernel
theorem dL_metres_318 : decode cL_metres 318 = .ok (.aload_n 0, 1) := by decide +kernel
theorem dL_metres_319 : decode cL_metres 319 = .ok (.invokevirtual 116, 3) := by decide +kernel
theorem dL_metres_322 : decode cL_metres 322 = .ok (.iload 7, 2) := by decide +kernel
theorem dL_metres_324 : decode cL_metres 324 = .ok (.iconst 1, 1) := by decide +kernel
theorem dL_metres_325 : decode cL_metres 325 = .ok (.iadd, 1) := by decide +kernel
theorem dL_metres_326 : decode cL_metres 326 = .ok (.if_icmp .ne 7, 3) := by decide +kernel
theorem dL_metres_329 : decode cL_metres 329 = .ok (.iconst 1, 1) := by decide +kernel
theorem dL_metres_330 : decode cL_metres 330 = .ok (.goto 4, 3) := by decide +kernel
theorem dL_metres_333 : decode cL_metres 333 = .ok (.iconst 0, 1) := by decide +kernel
theorem dL_metres_334 : decode cL_metres 334 = .ok (.ireturn, 1) := by decide +kernel
theorem dL_metres_335 : decode cL_metres 335 = .ok (.iload 8, 2) := by decide +kernel
theorem dL_metres_337 : decode cL_metres 337 = .ok (.bipush 8, 2) := by decide +kernel
theorem dL_metres_339 : decode cL_metres 339 = .ok (.if_icmp .ne 18, 3) := by decide +kernel
theorem dL_metres_342 : decode cL_metres 342 = .ok (.aload_n 0, 1) := by decide +kernel
theorem dL_metres_343 : decode cL_metres 343 = .ok (.invokevirtual 116, 3) := by decide +kernel
theorem dL_metres_346 : decode cL_metres 346 = .ok (.iload 7, 2) := by decide +kernel
theorem dL_metres_348 : decode cL_metres 348 = .ok (.if_icmp .ne 7, 3) := by decide +kernel
theorem dL_metres_351 : decode cL_metres 351 = .ok (.iconst 1, 1) := by decide +kernel
theorem dL_metres_352 : decode cL_metres 352 = .ok (.goto 4, 3) := by decide +kernel
theorem dL_metres_355 : decode cL_metres 355 = .ok (.iconst 0, 1) := by decide +kernel
theorem dL_metres_356 : decode cL_metres 356 = .ok (.ireturn, 1) := by decide +kernel
theorem dL_metres_357 : decode cL_metres 357 = .ok (.aload_n 0, 1) := by decide +kernel
theorem dL_metres_358 : decode cL_metres 358 = .ok (.invokevirtual 127, 3) := by decide +kernel
theorem dL_metres_361 : decode cL_metres 361 = .ok (.iload 8, 2) := by decide +kernel
theorem dL_metres_363 : decode cL_metres 363 = .ok (.if_icmp .ne 31, 3) := by decide +kernel
theorem dL_metres_366 : decode cL_metres 366 = .ok (.aload_n 0, 1) := by decide +kernel
theorem dL_metres_367 : decode cL_metres 367 = .ok (.invokevirtual 116, 3) := by decide +kernel
theorem dL_metres_370 : decode cL_metres 370 = .ok (.ifCond .ne 24, 3) := by decide +kernel
theorem dL_metres_373 : decode cL_metres 373 = .ok (.aload_n 0, 1) := by decide +kernel
theorem dL_metres_374 : decode cL_metres 374 = .ok (.iload 8, 2) := by decide +kernel
theorem dL_metres_376 : decode cL_metres 376 = .ok (.invokevirtual 130, 3) := by decide +kernel
theorem dL_metres_379 : decode cL_metres 379 = .ok (.iload 9, 2) := by decide +kernel
theorem dL_metres_381 : decode cL_metres 381 = .ok (.iload_n 2, 1) := by decide +kernel
theorem dL_metres_382 : decode cL_metres 382 = .ok (.if_icmp .ne 8, 3) := by decide +kernel
theorem dL_metres_385 : decode cL_metres 385 = .ok (.iload 6, 2) := by decide +kernel
theorem dL_metres_387 : decode cL_metres 387 = .ok (.goto 4, 3) := by decide +kernel
theorem dL_metres_390 : decode cL_metres 390 = .ok (.iconst (-1), 1) := by decide +kernel
theorem dL_metres_391 : decode cL_metres 391 = .ok (.if_icmp .eq 5, 3) := by decide +kernel
theorem dL_metres_394 : decode cL_metres 394 = .ok (.iconst 0, 1) := by decide +kernel
theorem dL_metres_395 : decode cL_metres 395 = .ok (.ireturn, 1) := by decide +kernel
theorem dL_metres_396 : decode cL_metres 396 = .ok (.iconst 0, 1) := by decide +kernel
theorem dL_metres_397 : decode cL_metres 397 = .ok (.istore 12, 2) := by decide +kernel
theorem dL_metres_399 : decode cL_metres 399 = .ok (.iload 12, 2) := by decide +kernel
theorem dL_metres_401 : decode cL_metres 401 = .ok (.iload 9, 2) := by decide +kernel
theorem dL_metres_403 : decode cL_metres 403 = .ok (.if_icmp .gt 38, 3) := by decide +kernel
theorem dL_metres_406 : decode cL_metres 406 = .ok (.aload_n 0, 1) := by decide +kernel
theorem dL_metres_407 : decode cL_metres 407 = .ok (.iload 8, 2) := by decide +kernel
theorem dL_metres_409 : decode cL_metres 409 = .ok (.iload 12, 2) := by decide +kernel
theorem dL_metres_411 : decode cL_metres 411 = .ok (.invokevirtual 133, 3) := by decide +kernel
theorem dL_metres_414 : decode cL_metres 414 = .ok (.iload 12, 2) := by decide +kernel
theorem dL_metres_416 : decode cL_metres 416 = .ok (.iload 9, 2) := by decide +kernel
theorem dL_metres_418 : decode cL_metres 418 = .ok (.if_icmp .ge 11, 3) := by decide +kernel
theorem dL_metres_421 : decode cL_metres 421 = .ok (.aload 10, 2) := by decide +kernel
theorem dL_metres_423 : decode cL_metres 423 = .ok (.iload 12, 2) := by decide +kernel
theorem dL_metres_425 : decode cL_metres 425 = .ok (.iaload, 1) := by decide +kernel
theorem dL_metres_426 : decode cL_metres 426 = .ok (.goto 4, 3) := by decide +kernel
theorem dL_metres_429 : decode cL_metres 429 = .ok (.iconst (-1), 1) := by decide +kernel
theorem dL_metres_430 : decode cL_metres 430 = .ok (.if_icmp .eq 5, 3) := by decide +kernel
theorem dL_metres_433 : decode cL_metres 433 = .ok (.iconst 0, 1) := by decide +kernel
theorem dL_metres_434 : decode cL_metres 434 = .ok (.ireturn, 1) := by decide +kernel
theorem dL_metres_435 : decode cL_metres 435 = .ok (.iinc 12 1, 3) := by decide +kernel
theorem dL_metres_438 : decode cL_metres 438 = .ok (.goto (-39), 3) := by decide +kernel
theorem dL_metres_441 : decode cL_metres 441 = .ok (.iconst (-1), 1) := by decide +kernel
theorem dL_metres_442 : decode cL_metres 442 = .ok (.istore 12, 2) := by decide +kernel
theorem dL_metres_444 : decode cL_metres 444 = .ok (.iload 8, 2) := by decide +kernel
theorem dL_metres_446 : decode cL_metres 446 = .ok (.istore 13, 2) := by decide +kernel
theorem dL_metres_448 : decode cL_metres 448 = .ok (.iload 13, 2) := by decide +kernel
theorem dL_metres_450 : decode cL_metres 450 = .ok (.ifCond .lt 42, 3) := by decide +kernel
theorem dL_metres_453 : decode cL_metres 453 = .ok (.aload_n 0, 1) := by decide +kernel
theorem dL_metres_454 : decode cL_metres 454 = .ok (.iload 13, 2) := by decide +kernel
theorem dL_metres_456 : decode cL_metres 456 = .ok (.invokevirtual 130, 3) := by decide +kernel
theorem dL_metres_459 : decode cL_metres 459 = .ok (.ifCond .lt 27, 3) := by decide +kernel
theorem dL_metres_462 : decode cL_metres 462 = .ok (.iload 12, 2) := by decide +kernel
theorem dL_metres_464 : decode cL_metres 464 = .ok (.ifCond .lt 18, 3) := by decide +kernel
theorem dL_metres_467 : decode cL_metres 467 = .ok (.aload_n 0, 1) := by decide +kernel
theorem dL_metres_468 : decode cL_metres 468 = .ok (.iload 13, 2) := by decide +kernel
theorem dL_metres_470 : decode cL_metres 470 = .ok (.invokevirtual 130, 3) := by decide +kernel
theorem dL_metres_473 : decode cL_metres 473 = .ok (.aload_n 0, 1) := by decide +kernel
theorem dL_metres_474 : decode cL_metres 474 = .ok (.iload 12, 2) := by decide +kernel
theorem dL_metres_476 : decode cL_metres 476 = .ok (.invokevirtual 130, 3) := by decide +kernel
theorem dL_metres_479 : decode cL_metres 479 = .ok (.if_icmp .gt 7, 3) := by decide +kernel
theorem dL_metres_482 : decode cL_metres 482 = .ok (.iload 13, 2) := by decide +kernel
theorem dL_metres_484 : decode cL_metres 484 = .ok (.istore 12, 2) := by decide +kernel
theorem dL_metres_486 : decode cL_metres 486 = .ok (.iinc 13 (-1), 3) := by decide +kernel
theorem dL_metres_489 : decode cL_metres 489 = .ok (.goto (-41), 3) := by decide +kernel
theorem dL_metres_492 : decode cL_metres 492 = .ok (.aload_n 0, 1) := by decide +kernel
theorem dL_metres_493 : decode cL_metres 493 = .ok (.invokevirtual 136, 3) := by decide +kernel
theorem dL_metres_496 : decode cL_metres 496 = .ok (.iload 12, 2) := by decide +kernel
theorem dL_metres_498 : decode cL_metres 498 = .ok (.if_icmp .ne 28, 3) := by decide +kernel
theorem dL_metres_501 : decode cL_metres 501 = .ok (.iload_n 1, 1) := by decide +kernel
theorem dL_metres_502 : decode cL_metres 502 = .ok (.iconst 4, 1) := by decide +kernel
theorem dL_metres_503 : decode cL_metres 503 = .ok (.ishr, 1) := by decide +kernel
theorem dL_metres_504 : decode cL_metres 504 = .ok (.iconst 3, 1) := by decide +kernel
theorem dL_metres_505 : decode cL_metres 505 = .ok (.invokestatic 99, 3) := by decide +kernel
theorem dL_metres_508 : decode cL_metres 508 = .ok (.ifCond .gt 14, 3) := by decide +kernel
theorem dL_metres_511 : decode cL_metres 511 = .ok (.aload_n 0, 1) := by decide +kernel
theorem dL_metres_512 : decode cL_metres 512 = .ok (.iload 8, 2) := by decide +kernel
theorem dL_metres_514 : decode cL_metres 514 = .ok (.invokevirtual 139, 3) := by decide +kernel
theorem dL_metres_517 : decode cL_metres 517 = .ok (.iload 8, 2) := by decide +kernel
theorem dL_metres_519 : decode cL_metres 519 = .ok (.if_icmp .ne 7, 3) := by decide +kernel
theorem dL_metres_522 : decode cL_metres 522 = .ok (.iconst 1, 1) := by decide +kernel
theorem dL_metres_523 : decode cL_metres 523 = .ok (.goto 4, 3) := by decide +kernel
theorem dL_metres_526 : decode cL_metres 526 = .ok (.iconst 0, 1) := by decide +kernel
theorem dL_metres_527 : decode cL_metres 527 = .ok (.ireturn, 1) := by decide +kernel
theorem dL_settle_0 : decode cL_settle 0 = .ok (.iconst 0, 1) := by decide +kernel
theorem dL_settle_1 : decode cL_settle 1 = .ok (.istore_n 3, 1) := by decide +kernel
theorem dL_settle_2 : decode cL_settle 2 = .ok (.iconst 0, 1) := by decide +kernel
theorem dL_settle_3 : decode cL_settle 3 = .ok (.istore 4, 2) := by decide +kernel
theorem dL_settle_5 : decode cL_settle 5 = .ok (.iload 4, 2) := by decide +kernel
theorem dL_settle_7 : decode cL_settle 7 = .ok (.aload_n 0, 1) := by decide +kernel
theorem dL_settle_8 : decode cL_settle 8 = .ok (.iconst 5, 1) := by decide +kernel
theorem dL_settle_9 : decode cL_settle 9 = .ok (.iaload, 1) := by decide +kernel
theorem dL_settle_10 : decode cL_settle 10 = .ok (.if_icmp .ge 63, 3) := by decide +kernel
theorem dL_settle_13 : decode cL_settle 13 = .ok (.aload_n 2, 1) := by decide +kernel
theorem dL_settle_14 : decode cL_settle 14 = .ok (.iconst 3, 1) := by decide +kernel
theorem dL_settle_15 : decode cL_settle 15 = .ok (.iload 4, 2) := by decide +kernel
theorem dL_settle_17 : decode cL_settle 17 = .ok (.imul, 1) := by decide +kernel
theorem dL_settle_18 : decode cL_settle 18 = .ok (.iconst 1, 1) := by decide +kernel
theorem dL_settle_19 : decode cL_settle 19 = .ok (.iadd, 1) := by decide +kernel
theorem dL_settle_20 : decode cL_settle 20 = .ok (.iaload, 1) := by decide +kernel
theorem dL_settle_21 : decode cL_settle 21 = .ok (.aload_n 0, 1) := by decide +kernel
theorem dL_settle_22 : decode cL_settle 22 = .ok (.aload_n 1, 1) := by decide +kernel
theorem dL_settle_23 : decode cL_settle 23 = .ok (.invokestatic 21, 3) := by decide +kernel
theorem dL_settle_26 : decode cL_settle 26 = .ok (.if_icmp .lt 6, 3) := by decide +kernel
theorem dL_settle_29 : decode cL_settle 29 = .ok (.goto 38, 3) := by decide +kernel
theorem dL_settle_32 : decode cL_settle 32 = .ok (.iconst 0, 1) := by decide +kernel
theorem dL_settle_33 : decode cL_settle 33 = .ok (.istore 5, 2) := by decide +kernel
theorem dL_settle_35 : decode cL_settle 35 = .ok (.iload 5, 2) := by decide +kernel
theorem dL_settle_37 : decode cL_settle 37 = .ok (.iconst 3, 1) := by decide +kernel
theorem dL_settle_38 : decode cL_settle 38 = .ok (.if_icmp .ge 26, 3) := by decide +kernel
theorem dL_settle_41 : decode cL_settle 41 = .ok (.aload_n 2, 1) := by decide +kernel
theorem dL_settle_42 : decode cL_settle 42 = .ok (.iconst 3, 1) := by decide +kernel
theorem dL_settle_43 : decode cL_settle 43 = .ok (.iload_n 3, 1) := by decide +kernel
theorem dL_settle_44 : decode cL_settle 44 = .ok (.imul, 1) := by decide +kernel
theorem dL_settle_45 : decode cL_settle 45 = .ok (.iload 5, 2) := by decide +kernel
theorem dL_settle_47 : decode cL_settle 47 = .ok (.iadd, 1) := by decide +kernel
theorem dL_settle_48 : decode cL_settle 48 = .ok (.aload_n 2, 1) := by decide +kernel
theorem dL_settle_49 : decode cL_settle 49 = .ok (.iconst 3, 1) := by decide +kernel
theorem dL_settle_50 : decode cL_settle 50 = .ok (.iload 4, 2) := by decide +kernel
theorem dL_settle_52 : decode cL_settle 52 = .ok (.imul, 1) := by decide +kernel
theorem dL_settle_53 : decode cL_settle 53 = .ok (.iload 5, 2) := by decide +kernel
theorem dL_settle_55 : decode cL_settle 55 = .ok (.iadd, 1) := by decide +kernel
theorem dL_settle_56 : decode cL_settle 56 = .ok (.iaload, 1) := by decide +kernel
theorem dL_settle_57 : decode cL_settle 57 = .ok (.iastore, 1) := by decide +kernel
theorem dL_settle_58 : decode cL_settle 58 = .ok (.iinc 5 1, 3) := by decide +kernel
theorem dL_settle_61 : decode cL_settle 61 = .ok (.goto (-26), 3) := by decide +kernel
theorem dL_settle_64 : decode cL_settle 64 = .ok (.iinc 3 1, 3) := by decide +kernel
theorem dL_settle_67 : decode cL_settle 67 = .ok (.iinc 4 1, 3) := by decide +kernel
theorem dL_settle_70 : decode cL_settle 70 = .ok (.goto (-65), 3) := by decide +kernel
theorem dL_settle_73 : decode cL_settle 73 = .ok (.aload_n 0, 1) := by decide +kernel
theorem dL_settle_74 : decode cL_settle 74 = .ok (.iconst 5, 1) := by decide +kernel
theorem dL_settle_75 : decode cL_settle 75 = .ok (.iload_n 3, 1) := by decide +kernel
theorem dL_settle_76 : decode cL_settle 76 = .ok (.iastore, 1) := by decide +kernel
theorem dL_settle_77 : decode cL_settle 77 = .ok (.return_, 1) := by decide +kernel
theorem dL_line_0 : decode cL_line 0 = .ok (.iload_n 1, 1) := by decide +kernel
theorem dL_line_1 : decode cL_line 1 = .ok (.iconst 2, 1) := by decide +kernel
theorem dL_line_2 : decode cL_line 2 = .ok (.invokestatic 99, 3) := by decide +kernel
theorem dL_line_5 : decode cL_line 5 = .ok (.istore 4, 2) := by decide +kernel
theorem dL_line_7 : decode cL_line 7 = .ok (.iload_n 1, 1) := by decide +kernel
theorem dL_line_8 : decode cL_line 8 = .ok (.iconst 1, 1) := by decide +kernel
theorem dL_line_9 : decode cL_line 9 = .ok (.ishr, 1) := by decide +kernel
theorem dL_line_10 : decode cL_line 10 = .ok (.bipush 8, 2) := by decide +kernel
theorem dL_line_12 : decode cL_line 12 = .ok (.invokestatic 99, 3) := by decide +kernel
theorem dL_line_15 : decode cL_line 15 = .ok (.istore 5, 2) := by decide +kernel
theorem dL_line_17 : decode cL_line 17 = .ok (.iconst 1, 1) := by decide +kernel
theorem dL_line_18 : decode cL_line 18 = .ok (.iload_n 1, 1) := by decide +kernel
theorem dL_line_19 : decode cL_line 19 = .ok (.iconst 4, 1) := by decide +kernel
theorem dL_line_20 : decode cL_line 20 = .ok (.ishr, 1) := by decide +kernel
theorem dL_line_21 : decode cL_line 21 = .ok (.bipush 6, 2) := by decide +kernel
theorem dL_line_23 : decode cL_line 23 = .ok (.invokestatic 99, 3) := by decide +kernel
theorem dL_line_26 : decode cL_line 26 = .ok (.iadd, 1) := by decide +kernel
theorem dL_line_27 : decode cL_line 27 = .ok (.istore 6, 2) := by decide +kernel
theorem dL_line_29 : decode cL_line 29 = .ok (.iconst 0, 1) := by decide +kernel
theorem dL_line_30 : decode cL_line 30 = .ok (.istore 7, 2) := by decide +kernel
theorem dL_line_32 : decode cL_line 32 = .ok (.iconst 0, 1) := by decide +kernel
theorem dL_line_33 : decode cL_line 33 = .ok (.istore 8, 2) := by decide +kernel
theorem dL_line_35 : decode cL_line 35 = .ok (.aload_n 0, 1) := by decide +kernel
theorem dL_line_36 : decode cL_line 36 = .ok (.invokevirtual 116, 3) := by decide +kernel
theorem dL_line_39 : decode cL_line 39 = .ok (.pop, 1) := by decide +kernel
theorem dL_line_40 : decode cL_line 40 = .ok (.iconst 0, 1) := by decide +kernel
theorem dL_line_41 : decode cL_line 41 = .ok (.istore 9, 2) := by decide +kernel
theorem dL_line_43 : decode cL_line 43 = .ok (.iload 9, 2) := by decide +kernel
theorem dL_line_45 : decode cL_line 45 = .ok (.iload 6, 2) := by decide +kernel
theorem dL_line_47 : decode cL_line 47 = .ok (.if_icmp .ge 211, 3) := by decide +kernel
theorem dL_line_50 : decode cL_line 50 = .ok (.iconst 1, 1) := by decide +kernel
theorem dL_line_51 : decode cL_line 51 = .ok (.iload_n 2, 1) := by decide +kernel
theorem dL_line_52 : decode cL_line 52 = .ok (.iconst 3, 1) := by decide +kernel
theorem dL_line_53 : decode cL_line 53 = .ok (.iload 9, 2) := by decide +kernel
theorem dL_line_55 : decode cL_line 55 = .ok (.imul, 1) := by decide +kernel
theorem dL_line_56 : decode cL_line 56 = .ok (.ishr, 1) := by decide +kernel
theorem dL_line_57 : decode cL_line 57 = .ok (.iload 9, 2) := by decide +kernel
theorem dL_line_59 : decode cL_line 59 = .ok (.iadd, 1) := by decide +kernel
theorem dL_line_60 : decode cL_line 60 = .ok (.iload_n 2, 1) := by decide +kernel
theorem dL_line_61 : decode cL_line 61 = .ok (.bipush 20, 2) := by decide +kernel
theorem dL_line_63 : decode cL_line 63 = .ok (.ishr, 1) := by decide +kernel
theorem dL_line_64 : decode cL_line 64 = .ok (.iconst 4, 1) := by decide +kernel
theorem dL_line_65 : decode cL_line 65 = .ok (.invokestatic 99, 3) := by decide +kernel
theorem dL_line_68 : decode cL_line 68 = .ok (.ifCond .ne 8, 3) := by decide +kernel
theorem dL_line_71 : decode cL_line 71 = .ok (.bipush 9, 2) := by decide +kernel
theorem dL_line_73 : decode cL_line 73 = .ok (.goto 4, 3) := by decide +kernel
theorem dL_line_76 : decode cL_line 76 = .ok (.iconst 4, 1) := by decide +kernel
theorem dL_line_77 : decode cL_line 77 = .ok (.invokestatic 99, 3) := by decide +kernel
theorem dL_line_80 : decode cL_line 80 = .ok (.iadd, 1) := by decide +kernel
theorem dL_line_81 : decode cL_line 81 = .ok (.istore 10, 2) := by decide +kernel
theorem dL_line_83 : decode cL_line 83 = .ok (.iload 9, 2) := by decide +kernel
theorem dL_line_85 : decode cL_line 85 = .ok (.iload 6, 2) := by decide +kernel
theorem dL_line_87 : decode cL_line 87 = .ok (.iconst 1, 1) := by decide +kernel
theorem dL_line_88 : decode cL_line 88 = .ok (.isub, 1) := by decide +kernel
theorem dL_line_89 : decode cL_line 89 = .ok (.if_icmp .eq 17, 3) := by decide +kernel
theorem dL_line_92 : decode cL_line 92 = .ok (.iload_n 1, 1) := by decide +kernel
theorem dL_line_93 : decode cL_line 93 = .ok (.iload 9, 2) := by decide +kernel
theorem dL_line_95 : decode cL_line 95 = .ok (.bipush 7, 2) := by decide +kernel
theorem dL_line_97 : decode cL_line 97 = .ok (.iadd, 1) := by decide +kernel
theorem dL_line_98 : decode cL_line 98 = .ok (.ishr, 1) := by decide +kernel
theorem dL_line_99 : decode cL_line 99 = .ok (.iconst 2, 1) := by decide +kernel
theorem dL_line_100 : decode cL_line 100 = .ok (.invokestatic 99, 3) := by decide +kernel
theorem dL_line_103 : decode cL_line 103 = .ok (.ifCond .ne 7, 3) := by decide +kernel
theorem dL_line_106 : decode cL_line 106 = .ok (.iconst 1, 1) := by decide +kernel
theorem dL_line_107 : decode cL_line 107 = .ok (.goto 4, 3) := by decide +kernel
theorem dL_line_110 : decode cL_line 110 = .ok (.iconst 0, 1) := by decide +kernel
theorem dL_line_111 : decode cL_line 111 = .ok (.istore 11, 2) := by decide +kernel
theorem dL_line_113 : decode cL_line 113 = .ok (.iload 8, 2) := by decide +kernel
theorem dL_line_115 : decode cL_line 115 = .ok (.iload 10, 2) := by decide +kernel
theorem dL_line_117 : decode cL_line 117 = .ok (.iconst 4, 1) := by decide +kernel
theorem dL_line_118 : decode cL_line 118 = .ok (.iload 9, 2) := by decide +kernel
theorem dL_line_120 : decode cL_line 120 = .ok (.imul, 1) := by decide +kernel
theorem dL_line_121 : decode cL_line 121 = .ok (.ishl, 1) := by decide +kernel
theorem dL_line_122 : decode cL_line 122 = .ok (.iload 11, 2) := by decide +kernel
theorem dL_line_124 : decode cL_line 124 = .ok (.ifCond .eq 13, 3) := by decide +kernel
theorem dL_line_127 : decode cL_line 127 = .ok (.iconst 1, 1) := by decide +kernel
theorem dL_line_128 : decode cL_line 128 = .ok (.bipush 24, 2) := by decide +kernel
theorem dL_line_130 : decode cL_line 130 = .ok (.iload 9, 2) := by decide +kernel
theorem dL_line_132 : decode cL_line 132 = .ok (.iadd, 1) := by decide +kernel
theorem dL_line_133 : decode cL_line 133 = .ok (.ishl, 1) := by decide +kernel
theorem dL_line_134 : decode cL_line 134 = .ok (.goto 4, 3) := by decide +kernel
theorem dL_line_137 : decode cL_line 137 = .ok (.iconst 0, 1) := by decide +kernel
theorem dL_line_138 : decode cL_line 138 = .ok (.ior, 1) := by decide +kernel
theorem dL_line_139 : decode cL_line 139 = .ok (.ior, 1) := by decide +kernel
theorem dL_line_140 : decode cL_line 140 = .ok (.istore 8, 2) := by decide +kernel
theorem dL_line_142 : decode cL_line 142 = .ok (.iconst 0, 1) := by decide +kernel
theorem dL_line_143 : decode cL_line 143 = .ok (.istore 12, 2) := by decide +kernel
theorem dL_line_145 : decode cL_line 145 = .ok (.iload 12, 2) := by decide +kernel
theorem dL_line_147 : decode cL_line 147 = .ok (.iload 10, 2) := by decide +kernel
theorem dL_line_149 : decode cL_line 149 = .ok (.if_icmp .ge 55, 3) := by decide +kernel
theorem dL_line_152 : decode cL_line 152 = .ok (.aload_n 0, 1) := by decide +kernel
theorem dL_line_153 : decode cL_line 153 = .ok (.iload 12, 2) := by decide +kernel
theorem dL_line_155 : decode cL_line 155 = .ok (.ifCond .ne 11, 3) := by decide +kernel
theorem dL_line_158 : decode cL_line 158 = .ok (.bipush 97, 2) := by decide +kernel
theorem dL_line_160 : decode cL_line 160 = .ok (.iload 10, 2) := by decide +kernel
