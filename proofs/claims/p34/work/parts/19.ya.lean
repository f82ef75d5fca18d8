/-! walk of the law: holds (by wip/p34/tools/decomp.py) -/
section XE
variable {xs : Nat → Int32} {L : Nat} {t : am_AH}
theorem r293_0 : am_at 293 0 = some (.bipush (6), 2, []) := by decide +kernel
theorem r293_2 : am_at 293 2 = some (.newarray .int, 2, [0]) := by decide +kernel
theorem r293_4 : am_at 293 4 = some (.astore_n 1, 1, [1]) := by decide +kernel
theorem r293_5 : am_at 293 5 = some (.bipush (6), 2, []) := by decide +kernel
theorem r293_7 : am_at 293 7 = some (.newarray .int, 2, [0]) := by decide +kernel
theorem r293_9 : am_at 293 9 = some (.astore_n 2, 1, [2]) := by decide +kernel
theorem r293_10 : am_at 293 10 = some (.iconst (0), 1, []) := by decide +kernel
theorem r293_11 : am_at 293 11 = some (.istore_n 3, 1, [3]) := by decide +kernel
theorem r293_12 : am_at 293 12 = some (.iconst (0), 1, []) := by decide +kernel
theorem r293_13 : am_at 293 13 = some (.istore 4, 2, [4]) := by decide +kernel
theorem r293_15 : am_at 293 15 = some (.iconst (0), 1, []) := by decide +kernel
theorem r293_16 : am_at 293 16 = some (.istore 5, 2, [5]) := by decide +kernel
theorem r293_18 : am_at 293 18 = some (.iconst (1), 1, []) := by decide +kernel
theorem r293_19 : am_at 293 19 = some (.istore 6, 2, [6]) := by decide +kernel
theorem r293_21 : am_at 293 21 = some (.iconst (0), 1, []) := by decide +kernel
theorem r293_22 : am_at 293 22 = some (.istore 7, 2, [7]) := by decide +kernel
theorem r293_24 : am_at 293 24 = some (.iload 7, 2, [7]) := by decide +kernel
theorem r293_26 : am_at 293 26 = some (.bipush (28), 2, []) := by decide +kernel
theorem r293_28 : am_at 293 28 = some (.if_icmp .ge (337), 3, [365]) := by decide +kernel
theorem r293_31 : am_at 293 31 = some (.aload_n 0, 1, [0]) := by decide +kernel
theorem r293_32 : am_at 293 32 = some (.iload 7, 2, [7]) := by decide +kernel
theorem r293_34 : am_at 293 34 = some (.iconst (3), 1, []) := by decide +kernel
theorem r293_35 : am_at 293 35 = some (.invokevirtual 19, 3, [18, 3, 456, 0]) := by decide +kernel
theorem r293_38 : am_at 293 38 = some (.istore 8, 2, [8]) := by decide +kernel
theorem r293_40 : am_at 293 40 = some (.aload_n 0, 1, [0]) := by decide +kernel
theorem r293_41 : am_at 293 41 = some (.iload 7, 2, [7]) := by decide +kernel
theorem r293_43 : am_at 293 43 = some (.iconst (4), 1, []) := by decide +kernel
theorem r293_44 : am_at 293 44 = some (.invokevirtual 19, 3, [18, 3, 456, 0]) := by decide +kernel
theorem r293_47 : am_at 293 47 = some (.istore 9, 2, [9]) := by decide +kernel
theorem r293_49 : am_at 293 49 = some (.aload_n 2, 1, [2]) := by decide +kernel
theorem r293_50 : am_at 293 50 = some (.iload 8, 2, [8]) := by decide +kernel
theorem r293_52 : am_at 293 52 = some (.dup2, 1, []) := by decide +kernel
theorem r293_53 : am_at 293 53 = some (.iaload, 1, []) := by decide +kernel
theorem r293_54 : am_at 293 54 = some (.iconst (1), 1, []) := by decide +kernel
theorem r293_55 : am_at 293 55 = some (.iadd, 1, []) := by decide +kernel
theorem r293_56 : am_at 293 56 = some (.iastore, 1, []) := by decide +kernel
theorem r293_57 : am_at 293 57 = some (.aload_n 1, 1, [1]) := by decide +kernel
theorem r293_58 : am_at 293 58 = some (.iload 8, 2, [8]) := by decide +kernel
theorem r293_60 : am_at 293 60 = some (.dup2, 1, []) := by decide +kernel
theorem r293_61 : am_at 293 61 = some (.iaload, 1, []) := by decide +kernel
theorem r293_62 : am_at 293 62 = some (.aload_n 0, 1, [0]) := by decide +kernel
theorem r293_63 : am_at 293 63 = some (.iload 7, 2, [7]) := by decide +kernel
theorem r293_65 : am_at 293 65 = some (.iconst (2), 1, []) := by decide +kernel
theorem r293_66 : am_at 293 66 = some (.invokevirtual 19, 3, [18, 3, 456, 0]) := by decide +kernel
theorem r293_69 : am_at 293 69 = some (.iadd, 1, []) := by decide +kernel
theorem r293_70 : am_at 293 70 = some (.iastore, 1, []) := by decide +kernel
theorem r293_71 : am_at 293 71 = some (.iload 4, 2, [4]) := by decide +kernel
theorem r293_73 : am_at 293 73 = some (.iload 8, 2, [8]) := by decide +kernel
theorem r293_75 : am_at 293 75 = some (.iconst (4), 1, []) := by decide +kernel
theorem r293_76 : am_at 293 76 = some (.if_icmp .ge (7), 3, [83]) := by decide +kernel
theorem r293_79 : am_at 293 79 = some (.iconst (1), 1, []) := by decide +kernel
theorem r293_80 : am_at 293 80 = some (.goto (4), 3, [84]) := by decide +kernel
theorem r293_83 : am_at 293 83 = some (.iconst (0), 1, []) := by decide +kernel
theorem r293_84 : am_at 293 84 = some (.iadd, 1, []) := by decide +kernel
theorem r293_85 : am_at 293 85 = some (.istore 4, 2, [4]) := by decide +kernel
theorem r293_87 : am_at 293 87 = some (.iload_n 3, 1, [3]) := by decide +kernel
theorem r293_88 : am_at 293 88 = some (.iload 8, 2, [8]) := by decide +kernel
theorem r293_90 : am_at 293 90 = some (.iconst (4), 1, []) := by decide +kernel
theorem r293_91 : am_at 293 91 = some (.if_icmp .ge (13), 3, [104]) := by decide +kernel
theorem r293_94 : am_at 293 94 = some (.aload_n 0, 1, [0]) := by decide +kernel
theorem r293_95 : am_at 293 95 = some (.iload 7, 2, [7]) := by decide +kernel
theorem r293_97 : am_at 293 97 = some (.iconst (2), 1, []) := by decide +kernel
theorem r293_98 : am_at 293 98 = some (.invokevirtual 19, 3, [18, 3, 456, 0]) := by decide +kernel
theorem r293_101 : am_at 293 101 = some (.goto (4), 3, [105]) := by decide +kernel
theorem r293_104 : am_at 293 104 = some (.iconst (0), 1, []) := by decide +kernel
theorem r293_105 : am_at 293 105 = some (.iadd, 1, []) := by decide +kernel
theorem r293_106 : am_at 293 106 = some (.istore_n 3, 1, [3]) := by decide +kernel
theorem r293_107 : am_at 293 107 = some (.iload 6, 2, [6]) := by decide +kernel
theorem r293_109 : am_at 293 109 = some (.ifCond .eq (89), 3, [198]) := by decide +kernel
theorem r293_112 : am_at 293 112 = some (.iload 8, 2, [8]) := by decide +kernel
theorem r293_114 : am_at 293 114 = some (.ifCond .lt (84), 3, [198]) := by decide +kernel
theorem r293_117 : am_at 293 117 = some (.iload 8, 2, [8]) := by decide +kernel
theorem r293_119 : am_at 293 119 = some (.iconst (5), 1, []) := by decide +kernel
theorem r293_120 : am_at 293 120 = some (.if_icmp .gt (78), 3, [198]) := by decide +kernel
theorem r293_123 : am_at 293 123 = some (.aload_n 0, 1, [0]) := by decide +kernel
theorem r293_124 : am_at 293 124 = some (.aload_n 0, 1, [0]) := by decide +kernel
theorem r293_125 : am_at 293 125 = some (.iload 7, 2, [7]) := by decide +kernel
theorem r293_127 : am_at 293 127 = some (.iconst (0), 1, []) := by decide +kernel
theorem r293_128 : am_at 293 128 = some (.invokevirtual 19, 3, [18, 3, 456, 0]) := by decide +kernel
theorem r293_131 : am_at 293 131 = some (.aload_n 0, 1, [0]) := by decide +kernel
theorem r293_132 : am_at 293 132 = some (.iload 7, 2, [7]) := by decide +kernel
theorem r293_134 : am_at 293 134 = some (.iconst (1), 1, []) := by decide +kernel
theorem r293_135 : am_at 293 135 = some (.invokevirtual 19, 3, [18, 3, 456, 0]) := by decide +kernel
theorem r293_138 : am_at 293 138 = some (.invokevirtual 74, 3, [19, 3, 781, 0]) := by decide +kernel
theorem r293_141 : am_at 293 141 = some (.iload 7, 2, [7]) := by decide +kernel
theorem r293_143 : am_at 293 143 = some (.if_icmp .ne (55), 3, [198]) := by decide +kernel
theorem r293_146 : am_at 293 146 = some (.aload_n 0, 1, [0]) := by decide +kernel
theorem r293_147 : am_at 293 147 = some (.aload_n 0, 1, [0]) := by decide +kernel
theorem r293_148 : am_at 293 148 = some (.iload 7, 2, [7]) := by decide +kernel
theorem r293_150 : am_at 293 150 = some (.iconst (1), 1, []) := by decide +kernel
theorem r293_151 : am_at 293 151 = some (.invokevirtual 19, 3, [18, 3, 456, 0]) := by decide +kernel
theorem r293_154 : am_at 293 154 = some (.aload_n 0, 1, [0]) := by decide +kernel
theorem r293_155 : am_at 293 155 = some (.iload 7, 2, [7]) := by decide +kernel
theorem r293_157 : am_at 293 157 = some (.iconst (0), 1, []) := by decide +kernel
theorem r293_158 : am_at 293 158 = some (.invokevirtual 19, 3, [18, 3, 456, 0]) := by decide +kernel
theorem r293_161 : am_at 293 161 = some (.invokevirtual 74, 3, [19, 3, 781, 0]) := by decide +kernel
theorem r293_164 : am_at 293 164 = some (.iload 7, 2, [7]) := by decide +kernel
theorem r293_166 : am_at 293 166 = some (.if_icmp .ne (32), 3, [198]) := by decide +kernel
theorem r293_169 : am_at 293 169 = some (.aload_n 0, 1, [0]) := by decide +kernel
theorem r293_170 : am_at 293 170 = some (.iload 7, 2, [7]) := by decide +kernel
theorem r293_172 : am_at 293 172 = some (.iconst (2), 1, []) := by decide +kernel
theorem r293_173 : am_at 293 173 = some (.invokevirtual 19, 3, [18, 3, 456, 0]) := by decide +kernel
theorem r293_176 : am_at 293 176 = some (.aload_n 0, 1, [0]) := by decide +kernel
theorem r293_177 : am_at 293 177 = some (.iload 7, 2, [7]) := by decide +kernel
theorem r293_179 : am_at 293 179 = some (.iconst (0), 1, []) := by decide +kernel
theorem r293_180 : am_at 293 180 = some (.invokevirtual 19, 3, [18, 3, 456, 0]) := by decide +kernel
theorem r293_183 : am_at 293 183 = some (.aload_n 0, 1, [0]) := by decide +kernel
theorem r293_184 : am_at 293 184 = some (.iload 7, 2, [7]) := by decide +kernel
theorem r293_186 : am_at 293 186 = some (.iconst (1), 1, []) := by decide +kernel
theorem r293_187 : am_at 293 187 = some (.invokevirtual 19, 3, [18, 3, 456, 0]) := by decide +kernel
theorem r293_190 : am_at 293 190 = some (.iadd, 1, []) := by decide +kernel
theorem r293_191 : am_at 293 191 = some (.if_icmp .ne (7), 3, [198]) := by decide +kernel
theorem r293_194 : am_at 293 194 = some (.iconst (1), 1, []) := by decide +kernel
theorem r293_195 : am_at 293 195 = some (.goto (4), 3, [199]) := by decide +kernel
theorem r293_198 : am_at 293 198 = some (.iconst (0), 1, []) := by decide +kernel
theorem r293_199 : am_at 293 199 = some (.istore 6, 2, [6]) := by decide +kernel
theorem r293_201 : am_at 293 201 = some (.iload 6, 2, [6]) := by decide +kernel
theorem r293_203 : am_at 293 203 = some (.ifCond .eq (78), 3, [281]) := by decide +kernel
theorem r293_206 : am_at 293 206 = some (.iload 8, 2, [8]) := by decide +kernel
theorem r293_208 : am_at 293 208 = some (.iconst (4), 1, []) := by decide +kernel
theorem r293_209 : am_at 293 209 = some (.if_icmp .ne (7), 3, [216]) := by decide +kernel
theorem r293_212 : am_at 293 212 = some (.iconst (1), 1, []) := by decide +kernel
theorem r293_213 : am_at 293 213 = some (.goto (4), 3, [217]) := by decide +kernel
theorem r293_216 : am_at 293 216 = some (.iconst (0), 1, []) := by decide +kernel
theorem r293_217 : am_at 293 217 = some (.iload 9, 2, [9]) := by decide +kernel
theorem r293_219 : am_at 293 219 = some (.iconst (-1), 1, []) := by decide +kernel
theorem r293_220 : am_at 293 220 = some (.if_icmp .eq (7), 3, [227]) := by decide +kernel
theorem r293_223 : am_at 293 223 = some (.iconst (1), 1, []) := by decide +kernel
theorem r293_224 : am_at 293 224 = some (.goto (4), 3, [228]) := by decide +kernel
theorem r293_227 : am_at 293 227 = some (.iconst (0), 1, []) := by decide +kernel
theorem r293_228 : am_at 293 228 = some (.if_icmp .ne (53), 3, [281]) := by decide +kernel
theorem r293_231 : am_at 293 231 = some (.iload 9, 2, [9]) := by decide +kernel
theorem r293_233 : am_at 293 233 = some (.ifCond .lt (15), 3, [248]) := by decide +kernel
theorem r293_236 : am_at 293 236 = some (.aload_n 0, 1, [0]) := by decide +kernel
theorem r293_237 : am_at 293 237 = some (.iload 9, 2, [9]) := by decide +kernel
theorem r293_239 : am_at 293 239 = some (.iconst (0), 1, []) := by decide +kernel
theorem r293_240 : am_at 293 240 = some (.invokevirtual 23, 3, [20, 3, 501, 0]) := by decide +kernel
theorem r293_243 : am_at 293 243 = some (.iload 7, 2, [7]) := by decide +kernel
theorem r293_245 : am_at 293 245 = some (.if_icmp .ne (36), 3, [281]) := by decide +kernel
theorem r293_248 : am_at 293 248 = some (.iload 8, 2, [8]) := by decide +kernel
theorem r293_250 : am_at 293 250 = some (.iconst (4), 1, []) := by decide +kernel
theorem r293_251 : am_at 293 251 = some (.if_icmp .ne (7), 3, [258]) := by decide +kernel
theorem r293_254 : am_at 293 254 = some (.iconst (1), 1, []) := by decide +kernel
theorem r293_255 : am_at 293 255 = some (.goto (4), 3, [259]) := by decide +kernel
theorem r293_258 : am_at 293 258 = some (.iconst (0), 1, []) := by decide +kernel
theorem r293_259 : am_at 293 259 = some (.aload_n 0, 1, [0]) := by decide +kernel
theorem r293_260 : am_at 293 260 = some (.iload 7, 2, [7]) := by decide +kernel
theorem r293_262 : am_at 293 262 = some (.iconst (5), 1, []) := by decide +kernel
theorem r293_263 : am_at 293 263 = some (.invokevirtual 19, 3, [18, 3, 456, 0]) := by decide +kernel
theorem r293_266 : am_at 293 266 = some (.ifCond .lt (7), 3, [273]) := by decide +kernel
theorem r293_269 : am_at 293 269 = some (.iconst (1), 1, []) := by decide +kernel
theorem r293_270 : am_at 293 270 = some (.goto (4), 3, [274]) := by decide +kernel
theorem r293_273 : am_at 293 273 = some (.iconst (0), 1, []) := by decide +kernel
theorem r293_274 : am_at 293 274 = some (.if_icmp .ne (7), 3, [281]) := by decide +kernel
theorem r293_277 : am_at 293 277 = some (.iconst (1), 1, []) := by decide +kernel
theorem r293_278 : am_at 293 278 = some (.goto (4), 3, [282]) := by decide +kernel
theorem r293_281 : am_at 293 281 = some (.iconst (0), 1, []) := by decide +kernel
theorem r293_282 : am_at 293 282 = some (.istore 6, 2, [6]) := by decide +kernel
theorem r293_284 : am_at 293 284 = some (.iload 8, 2, [8]) := by decide +kernel
theorem r293_286 : am_at 293 286 = some (.iconst (4), 1, []) := by decide +kernel
theorem r293_287 : am_at 293 287 = some (.if_icmp .ge (52), 3, [339]) := by decide +kernel
theorem r293_290 : am_at 293 290 = some (.aload_n 0, 1, [0]) := by decide +kernel
theorem r293_291 : am_at 293 291 = some (.iconst (0), 1, []) := by decide +kernel
theorem r293_292 : am_at 293 292 = some (.invokevirtual 13, 3, [22, 2, 385, 0]) := by decide +kernel
theorem r293_295 : am_at 293 295 = some (.ifCond .le (44), 3, [339]) := by decide +kernel
theorem r293_298 : am_at 293 298 = some (.aload_n 0, 1, [0]) := by decide +kernel
theorem r293_299 : am_at 293 299 = some (.iload 8, 2, [8]) := by decide +kernel
theorem r293_301 : am_at 293 301 = some (.iconst (3), 1, []) := by decide +kernel
theorem r293_302 : am_at 293 302 = some (.invokevirtual 26, 3, [21, 3, 512, 0]) := by decide +kernel
theorem r293_305 : am_at 293 305 = some (.aload_n 0, 1, [0]) := by decide +kernel
theorem r293_306 : am_at 293 306 = some (.iload 7, 2, [7]) := by decide +kernel
theorem r293_308 : am_at 293 308 = some (.iconst (0), 1, []) := by decide +kernel
theorem r293_309 : am_at 293 309 = some (.invokevirtual 19, 3, [18, 3, 456, 0]) := by decide +kernel
theorem r293_312 : am_at 293 312 = some (.ishr, 1, []) := by decide +kernel
theorem r293_313 : am_at 293 313 = some (.aload_n 0, 1, [0]) := by decide +kernel
theorem r293_314 : am_at 293 314 = some (.iload 8, 2, [8]) := by decide +kernel
theorem r293_316 : am_at 293 316 = some (.iconst (3), 1, []) := by decide +kernel
theorem r293_317 : am_at 293 317 = some (.invokevirtual 26, 3, [21, 3, 512, 0]) := by decide +kernel
theorem r293_320 : am_at 293 320 = some (.aload_n 0, 1, [0]) := by decide +kernel
theorem r293_321 : am_at 293 321 = some (.iload 7, 2, [7]) := by decide +kernel
theorem r293_323 : am_at 293 323 = some (.iconst (1), 1, []) := by decide +kernel
theorem r293_324 : am_at 293 324 = some (.invokevirtual 19, 3, [18, 3, 456, 0]) := by decide +kernel
theorem r293_327 : am_at 293 327 = some (.ishr, 1, []) := by decide +kernel
theorem r293_328 : am_at 293 328 = some (.ior, 1, []) := by decide +kernel
theorem r293_329 : am_at 293 329 = some (.iconst (1), 1, []) := by decide +kernel
theorem r293_330 : am_at 293 330 = some (.iand, 1, []) := by decide +kernel
theorem r293_331 : am_at 293 331 = some (.iconst (1), 1, []) := by decide +kernel
theorem r293_332 : am_at 293 332 = some (.if_icmp .ne (7), 3, [339]) := by decide +kernel
theorem r293_335 : am_at 293 335 = some (.iconst (1), 1, []) := by decide +kernel
theorem r293_336 : am_at 293 336 = some (.goto (4), 3, [340]) := by decide +kernel
theorem r293_339 : am_at 293 339 = some (.iconst (0), 1, []) := by decide +kernel
theorem r293_340 : am_at 293 340 = some (.istore 10, 2, [10]) := by decide +kernel
theorem r293_342 : am_at 293 342 = some (.iload 6, 2, [6]) := by decide +kernel
theorem r293_344 : am_at 293 344 = some (.ifCond .eq (12), 3, [356]) := by decide +kernel
theorem r293_347 : am_at 293 347 = some (.iload 10, 2, [10]) := by decide +kernel
theorem r293_349 : am_at 293 349 = some (.ifCond .ne (7), 3, [356]) := by decide +kernel
theorem r293_352 : am_at 293 352 = some (.iconst (1), 1, []) := by decide +kernel
theorem r293_353 : am_at 293 353 = some (.goto (4), 3, [357]) := by decide +kernel
theorem r293_356 : am_at 293 356 = some (.iconst (0), 1, []) := by decide +kernel
theorem r293_357 : am_at 293 357 = some (.istore 6, 2, [6]) := by decide +kernel
theorem r293_359 : am_at 293 359 = some (.iinc 7 (1), 3, [7]) := by decide +kernel
theorem r293_362 : am_at 293 362 = some (.goto (-338), 3, [24]) := by decide +kernel
theorem r293_365 : am_at 293 365 = some (.iconst (0), 1, []) := by decide +kernel
theorem r293_366 : am_at 293 366 = some (.istore 7, 2, [7]) := by decide +kernel
theorem r293_368 : am_at 293 368 = some (.iload 7, 2, [7]) := by decide +kernel
theorem r293_370 : am_at 293 370 = some (.aload_n 0, 1, [0]) := by decide +kernel
theorem r293_371 : am_at 293 371 = some (.iconst (3), 1, []) := by decide +kernel
theorem r293_372 : am_at 293 372 = some (.invokevirtual 13, 3, [22, 2, 385, 0]) := by decide +kernel
theorem r293_375 : am_at 293 375 = some (.if_icmp .ge (156), 3, [531]) := by decide +kernel
theorem r293_378 : am_at 293 378 = some (.iload 6, 2, [6]) := by decide +kernel
theorem r293_380 : am_at 293 380 = some (.ifCond .eq (151), 3, [531]) := by decide +kernel
theorem r293_383 : am_at 293 383 = some (.aload_n 0, 1, [0]) := by decide +kernel
theorem r293_384 : am_at 293 384 = some (.iload 7, 2, [7]) := by decide +kernel
theorem r293_386 : am_at 293 386 = some (.iconst (0), 1, []) := by decide +kernel
theorem r293_387 : am_at 293 387 = some (.invokevirtual 23, 3, [20, 3, 501, 0]) := by decide +kernel
theorem r293_390 : am_at 293 390 = some (.istore 8, 2, [8]) := by decide +kernel
theorem r293_392 : am_at 293 392 = some (.iload 5, 2, [5]) := by decide +kernel
theorem r293_394 : am_at 293 394 = some (.iconst (1), 1, []) := by decide +kernel
theorem r293_395 : am_at 293 395 = some (.aload_n 0, 1, [0]) := by decide +kernel
theorem r293_396 : am_at 293 396 = some (.iload 7, 2, [7]) := by decide +kernel
theorem r293_398 : am_at 293 398 = some (.iconst (3), 1, []) := by decide +kernel
theorem r293_399 : am_at 293 399 = some (.invokevirtual 23, 3, [20, 3, 501, 0]) := by decide +kernel
theorem r293_402 : am_at 293 402 = some (.bipush (30), 2, []) := by decide +kernel
theorem r293_404 : am_at 293 404 = some (.irem, 1, []) := by decide +kernel
theorem r293_405 : am_at 293 405 = some (.ishl, 1, []) := by decide +kernel
theorem r293_406 : am_at 293 406 = some (.iadd, 1, []) := by decide +kernel
theorem r293_407 : am_at 293 407 = some (.istore 5, 2, [5]) := by decide +kernel
theorem r293_409 : am_at 293 409 = some (.aload_n 0, 1, [0]) := by decide +kernel
theorem r293_410 : am_at 293 410 = some (.iload 7, 2, [7]) := by decide +kernel
theorem r293_412 : am_at 293 412 = some (.iconst (1), 1, []) := by decide +kernel
theorem r293_413 : am_at 293 413 = some (.invokevirtual 23, 3, [20, 3, 501, 0]) := by decide +kernel
theorem r293_416 : am_at 293 416 = some (.aload_n 0, 1, [0]) := by decide +kernel
theorem r293_417 : am_at 293 417 = some (.iload 7, 2, [7]) := by decide +kernel
theorem r293_419 : am_at 293 419 = some (.iconst (2), 1, []) := by decide +kernel
theorem r293_420 : am_at 293 420 = some (.invokevirtual 23, 3, [20, 3, 501, 0]) := by decide +kernel
theorem r293_423 : am_at 293 423 = some (.iadd, 1, []) := by decide +kernel
theorem r293_424 : am_at 293 424 = some (.aload_n 0, 1, [0]) := by decide +kernel
theorem r293_425 : am_at 293 425 = some (.iload 8, 2, [8]) := by decide +kernel
theorem r293_427 : am_at 293 427 = some (.iconst (2), 1, []) := by decide +kernel
theorem r293_428 : am_at 293 428 = some (.invokevirtual 19, 3, [18, 3, 456, 0]) := by decide +kernel
theorem r293_431 : am_at 293 431 = some (.if_icmp .ne (91), 3, [522]) := by decide +kernel
theorem r293_434 : am_at 293 434 = some (.aload_n 0, 1, [0]) := by decide +kernel
theorem r293_435 : am_at 293 435 = some (.iload 7, 2, [7]) := by decide +kernel
theorem r293_437 : am_at 293 437 = some (.iconst (1), 1, []) := by decide +kernel
theorem r293_438 : am_at 293 438 = some (.invokevirtual 23, 3, [20, 3, 501, 0]) := by decide +kernel
theorem r293_441 : am_at 293 441 = some (.aload_n 0, 1, [0]) := by decide +kernel
theorem r293_442 : am_at 293 442 = some (.iload 8, 2, [8]) := by decide +kernel
theorem r293_444 : am_at 293 444 = some (.iconst (0), 1, []) := by decide +kernel
theorem r293_445 : am_at 293 445 = some (.invokevirtual 19, 3, [18, 3, 456, 0]) := by decide +kernel
theorem r293_448 : am_at 293 448 = some (.if_icmp .eq (20), 3, [468]) := by decide +kernel
theorem r293_451 : am_at 293 451 = some (.aload_n 0, 1, [0]) := by decide +kernel
theorem r293_452 : am_at 293 452 = some (.iload 7, 2, [7]) := by decide +kernel
theorem r293_454 : am_at 293 454 = some (.iconst (1), 1, []) := by decide +kernel
theorem r293_455 : am_at 293 455 = some (.invokevirtual 23, 3, [20, 3, 501, 0]) := by decide +kernel
theorem r293_458 : am_at 293 458 = some (.aload_n 0, 1, [0]) := by decide +kernel
theorem r293_459 : am_at 293 459 = some (.iload 8, 2, [8]) := by decide +kernel
theorem r293_461 : am_at 293 461 = some (.iconst (1), 1, []) := by decide +kernel
theorem r293_462 : am_at 293 462 = some (.invokevirtual 19, 3, [18, 3, 456, 0]) := by decide +kernel
theorem r293_465 : am_at 293 465 = some (.if_icmp .ne (57), 3, [522]) := by decide +kernel
theorem r293_468 : am_at 293 468 = some (.iload 7, 2, [7]) := by decide +kernel
theorem r293_470 : am_at 293 470 = some (.ifCond .eq (22), 3, [492]) := by decide +kernel
theorem r293_473 : am_at 293 473 = some (.aload_n 0, 1, [0]) := by decide +kernel
theorem r293_474 : am_at 293 474 = some (.iload 7, 2, [7]) := by decide +kernel
theorem r293_476 : am_at 293 476 = some (.iconst (1), 1, []) := by decide +kernel
theorem r293_477 : am_at 293 477 = some (.invokevirtual 23, 3, [20, 3, 501, 0]) := by decide +kernel
theorem r293_480 : am_at 293 480 = some (.aload_n 0, 1, [0]) := by decide +kernel
theorem r293_481 : am_at 293 481 = some (.iload 7, 2, [7]) := by decide +kernel
theorem r293_483 : am_at 293 483 = some (.iconst (1), 1, []) := by decide +kernel
theorem r293_484 : am_at 293 484 = some (.isub, 1, []) := by decide +kernel
theorem r293_485 : am_at 293 485 = some (.iconst (2), 1, []) := by decide +kernel
theorem r293_486 : am_at 293 486 = some (.invokevirtual 23, 3, [20, 3, 501, 0]) := by decide +kernel
theorem r293_489 : am_at 293 489 = some (.if_icmp .ne (33), 3, [522]) := by decide +kernel
theorem r293_492 : am_at 293 492 = some (.aload_n 0, 1, [0]) := by decide +kernel
theorem r293_493 : am_at 293 493 = some (.iload 7, 2, [7]) := by decide +kernel
theorem r293_495 : am_at 293 495 = some (.iconst (3), 1, []) := by decide +kernel
theorem r293_496 : am_at 293 496 = some (.invokevirtual 23, 3, [20, 3, 501, 0]) := by decide +kernel
theorem r293_499 : am_at 293 499 = some (.iconst (1), 1, []) := by decide +kernel
theorem r293_500 : am_at 293 500 = some (.if_icmp .lt (22), 3, [522]) := by decide +kernel
theorem r293_503 : am_at 293 503 = some (.aload_n 0, 1, [0]) := by decide +kernel
theorem r293_504 : am_at 293 504 = some (.iload 7, 2, [7]) := by decide +kernel
theorem r293_506 : am_at 293 506 = some (.iconst (3), 1, []) := by decide +kernel
theorem r293_507 : am_at 293 507 = some (.invokevirtual 23, 3, [20, 3, 501, 0]) := by decide +kernel
theorem r293_510 : am_at 293 510 = some (.aload_n 0, 1, [0]) := by decide +kernel
theorem r293_511 : am_at 293 511 = some (.iconst (3), 1, []) := by decide +kernel
theorem r293_512 : am_at 293 512 = some (.invokevirtual 13, 3, [22, 2, 385, 0]) := by decide +kernel
theorem r293_515 : am_at 293 515 = some (.if_icmp .gt (7), 3, [522]) := by decide +kernel
theorem r293_518 : am_at 293 518 = some (.iconst (1), 1, []) := by decide +kernel
theorem r293_519 : am_at 293 519 = some (.goto (4), 3, [523]) := by decide +kernel
theorem r293_522 : am_at 293 522 = some (.iconst (0), 1, []) := by decide +kernel
theorem r293_523 : am_at 293 523 = some (.istore 6, 2, [6]) := by decide +kernel
theorem r293_525 : am_at 293 525 = some (.iinc 7 (1), 3, [7]) := by decide +kernel
theorem r293_528 : am_at 293 528 = some (.goto (-160), 3, [368]) := by decide +kernel
theorem r293_531 : am_at 293 531 = some (.aload_n 0, 1, [0]) := by decide +kernel
theorem r293_532 : am_at 293 532 = some (.iconst (3), 1, []) := by decide +kernel
theorem r293_533 : am_at 293 533 = some (.invokevirtual 13, 3, [22, 2, 385, 0]) := by decide +kernel
theorem r293_536 : am_at 293 536 = some (.istore 7, 2, [7]) := by decide +kernel
theorem r293_538 : am_at 293 538 = some (.iload 6, 2, [6]) := by decide +kernel
theorem r293_540 : am_at 293 540 = some (.ifCond .eq (76), 3, [616]) := by decide +kernel
theorem r293_543 : am_at 293 543 = some (.iload 5, 2, [5]) := by decide +kernel
theorem r293_545 : am_at 293 545 = some (.iconst (1), 1, []) := by decide +kernel
theorem r293_546 : am_at 293 546 = some (.iload 7, 2, [7]) := by decide +kernel
theorem r293_548 : am_at 293 548 = some (.iconst (1), 1, []) := by decide +kernel
theorem r293_549 : am_at 293 549 = some (.iadd, 1, []) := by decide +kernel
theorem r293_550 : am_at 293 550 = some (.ishl, 1, []) := by decide +kernel
theorem r293_551 : am_at 293 551 = some (.iconst (2), 1, []) := by decide +kernel
theorem r293_552 : am_at 293 552 = some (.isub, 1, []) := by decide +kernel
theorem r293_553 : am_at 293 553 = some (.if_icmp .ne (63), 3, [616]) := by decide +kernel
theorem r293_556 : am_at 293 556 = some (.iload 7, 2, [7]) := by decide +kernel
theorem r293_558 : am_at 293 558 = some (.aload_n 2, 1, [2]) := by decide +kernel
theorem r293_559 : am_at 293 559 = some (.iconst (4), 1, []) := by decide +kernel
theorem r293_560 : am_at 293 560 = some (.iaload, 1, []) := by decide +kernel
theorem r293_561 : am_at 293 561 = some (.if_icmp .ne (55), 3, [616]) := by decide +kernel
theorem r293_564 : am_at 293 564 = some (.aload_n 0, 1, [0]) := by decide +kernel
theorem r293_565 : am_at 293 565 = some (.bipush (14), 2, []) := by decide +kernel
theorem r293_567 : am_at 293 567 = some (.invokevirtual 13, 3, [22, 2, 385, 0]) := by decide +kernel
theorem r293_570 : am_at 293 570 = some (.aload_n 2, 1, [2]) := by decide +kernel
theorem r293_571 : am_at 293 571 = some (.iconst (5), 1, []) := by decide +kernel
theorem r293_572 : am_at 293 572 = some (.iaload, 1, []) := by decide +kernel
theorem r293_573 : am_at 293 573 = some (.if_icmp .ne (43), 3, [616]) := by decide +kernel
theorem r293_576 : am_at 293 576 = some (.iload 7, 2, [7]) := by decide +kernel
theorem r293_578 : am_at 293 578 = some (.ifCond .eq (34), 3, [612]) := by decide +kernel
theorem r293_581 : am_at 293 581 = some (.aload_n 0, 1, [0]) := by decide +kernel
theorem r293_582 : am_at 293 582 = some (.iconst (4), 1, []) := by decide +kernel
theorem r293_583 : am_at 293 583 = some (.invokevirtual 13, 3, [22, 2, 385, 0]) := by decide +kernel
theorem r293_586 : am_at 293 586 = some (.aload_n 0, 1, [0]) := by decide +kernel
theorem r293_587 : am_at 293 587 = some (.iconst (0), 1, []) := by decide +kernel
theorem r293_588 : am_at 293 588 = some (.iconst (1), 1, []) := by decide +kernel
theorem r293_589 : am_at 293 589 = some (.invokevirtual 23, 3, [20, 3, 501, 0]) := by decide +kernel
theorem r293_592 : am_at 293 592 = some (.if_icmp .ne (24), 3, [616]) := by decide +kernel
theorem r293_595 : am_at 293 595 = some (.aload_n 0, 1, [0]) := by decide +kernel
theorem r293_596 : am_at 293 596 = some (.iconst (5), 1, []) := by decide +kernel
theorem r293_597 : am_at 293 597 = some (.invokevirtual 13, 3, [22, 2, 385, 0]) := by decide +kernel
theorem r293_600 : am_at 293 600 = some (.aload_n 0, 1, [0]) := by decide +kernel
theorem r293_601 : am_at 293 601 = some (.iload 7, 2, [7]) := by decide +kernel
theorem r293_603 : am_at 293 603 = some (.iconst (1), 1, []) := by decide +kernel
theorem r293_604 : am_at 293 604 = some (.isub, 1, []) := by decide +kernel
theorem r293_605 : am_at 293 605 = some (.iconst (2), 1, []) := by decide +kernel
theorem r293_606 : am_at 293 606 = some (.invokevirtual 23, 3, [20, 3, 501, 0]) := by decide +kernel
theorem r293_609 : am_at 293 609 = some (.if_icmp .ne (7), 3, [616]) := by decide +kernel
theorem r293_612 : am_at 293 612 = some (.iconst (1), 1, []) := by decide +kernel
theorem r293_613 : am_at 293 613 = some (.goto (4), 3, [617]) := by decide +kernel
theorem r293_616 : am_at 293 616 = some (.iconst (0), 1, []) := by decide +kernel
theorem r293_617 : am_at 293 617 = some (.istore 6, 2, [6]) := by decide +kernel
theorem r293_619 : am_at 293 619 = some (.iconst (0), 1, []) := by decide +kernel
theorem r293_620 : am_at 293 620 = some (.istore 8, 2, [8]) := by decide +kernel
theorem r293_622 : am_at 293 622 = some (.iload 8, 2, [8]) := by decide +kernel
theorem r293_624 : am_at 293 624 = some (.iconst (4), 1, []) := by decide +kernel
theorem r293_625 : am_at 293 625 = some (.if_icmp .ge (124), 3, [749]) := by decide +kernel
theorem r293_628 : am_at 293 628 = some (.aload_n 0, 1, [0]) := by decide +kernel
theorem r293_629 : am_at 293 629 = some (.iload 8, 2, [8]) := by decide +kernel
theorem r293_631 : am_at 293 631 = some (.bipush (9), 2, []) := by decide +kernel
theorem r293_633 : am_at 293 633 = some (.invokevirtual 26, 3, [21, 3, 512, 0]) := by decide +kernel
theorem r293_636 : am_at 293 636 = some (.istore 9, 2, [9]) := by decide +kernel
theorem r293_638 : am_at 293 638 = some (.iload 6, 2, [6]) := by decide +kernel
theorem r293_640 : am_at 293 640 = some (.ifCond .eq (100), 3, [740]) := by decide +kernel
theorem r293_643 : am_at 293 643 = some (.aload_n 0, 1, [0]) := by decide +kernel
theorem r293_644 : am_at 293 644 = some (.iload 8, 2, [8]) := by decide +kernel
theorem r293_646 : am_at 293 646 = some (.iconst (0), 1, []) := by decide +kernel
theorem r293_647 : am_at 293 647 = some (.invokevirtual 26, 3, [21, 3, 512, 0]) := by decide +kernel
theorem r293_650 : am_at 293 650 = some (.aload_n 2, 1, [2]) := by decide +kernel
theorem r293_651 : am_at 293 651 = some (.iload 8, 2, [8]) := by decide +kernel
theorem r293_653 : am_at 293 653 = some (.iaload, 1, []) := by decide +kernel
theorem r293_654 : am_at 293 654 = some (.if_icmp .ne (86), 3, [740]) := by decide +kernel
theorem r293_657 : am_at 293 657 = some (.aload_n 2, 1, [2]) := by decide +kernel
theorem r293_658 : am_at 293 658 = some (.iload 8, 2, [8]) := by decide +kernel
theorem r293_660 : am_at 293 660 = some (.iaload, 1, []) := by decide +kernel
theorem r293_661 : am_at 293 661 = some (.bipush (7), 2, []) := by decide +kernel
theorem r293_663 : am_at 293 663 = some (.if_icmp .gt (77), 3, [740]) := by decide +kernel
theorem r293_666 : am_at 293 666 = some (.aload_n 0, 1, [0]) := by decide +kernel
theorem r293_667 : am_at 293 667 = some (.iload 8, 2, [8]) := by decide +kernel
theorem r293_669 : am_at 293 669 = some (.iconst (1), 1, []) := by decide +kernel
theorem r293_670 : am_at 293 670 = some (.invokevirtual 26, 3, [21, 3, 512, 0]) := by decide +kernel
theorem r293_673 : am_at 293 673 = some (.aload_n 1, 1, [1]) := by decide +kernel
theorem r293_674 : am_at 293 674 = some (.iload 8, 2, [8]) := by decide +kernel
theorem r293_676 : am_at 293 676 = some (.iaload, 1, []) := by decide +kernel
theorem r293_677 : am_at 293 677 = some (.if_icmp .ne (63), 3, [740]) := by decide +kernel
theorem r293_680 : am_at 293 680 = some (.iload 9, 2, [9]) := by decide +kernel
theorem r293_682 : am_at 293 682 = some (.aload_n 2, 1, [2]) := by decide +kernel
theorem r293_683 : am_at 293 683 = some (.iload 8, 2, [8]) := by decide +kernel
theorem r293_685 : am_at 293 685 = some (.iaload, 1, []) := by decide +kernel
theorem r293_686 : am_at 293 686 = some (.if_icmp .gt (54), 3, [740]) := by decide +kernel
theorem r293_689 : am_at 293 689 = some (.iload 9, 2, [9]) := by decide +kernel
theorem r293_691 : am_at 293 691 = some (.ifCond .le (7), 3, [698]) := by decide +kernel
theorem r293_694 : am_at 293 694 = some (.iconst (1), 1, []) := by decide +kernel
theorem r293_695 : am_at 293 695 = some (.goto (4), 3, [699]) := by decide +kernel
theorem r293_698 : am_at 293 698 = some (.iconst (0), 1, []) := by decide +kernel
theorem r293_699 : am_at 293 699 = some (.aload_n 2, 1, [2]) := by decide +kernel
theorem r293_700 : am_at 293 700 = some (.iload 8, 2, [8]) := by decide +kernel
theorem r293_702 : am_at 293 702 = some (.iaload, 1, []) := by decide +kernel
theorem r293_703 : am_at 293 703 = some (.ifCond .le (7), 3, [710]) := by decide +kernel
theorem r293_706 : am_at 293 706 = some (.iconst (1), 1, []) := by decide +kernel
theorem r293_707 : am_at 293 707 = some (.goto (4), 3, [711]) := by decide +kernel
theorem r293_710 : am_at 293 710 = some (.iconst (0), 1, []) := by decide +kernel
theorem r293_711 : am_at 293 711 = some (.if_icmp .ne (29), 3, [740]) := by decide +kernel
theorem r293_714 : am_at 293 714 = some (.aload_n 0, 1, [0]) := by decide +kernel
theorem r293_715 : am_at 293 715 = some (.iload 8, 2, [8]) := by decide +kernel
theorem r293_717 : am_at 293 717 = some (.iconst (2), 1, []) := by decide +kernel
theorem r293_718 : am_at 293 718 = some (.invokevirtual 26, 3, [21, 3, 512, 0]) := by decide +kernel
theorem r293_721 : am_at 293 721 = some (.ifCond .lt (19), 3, [740]) := by decide +kernel
theorem r293_724 : am_at 293 724 = some (.aload_n 0, 1, [0]) := by decide +kernel
theorem r293_725 : am_at 293 725 = some (.iload 8, 2, [8]) := by decide +kernel
theorem r293_727 : am_at 293 727 = some (.iconst (2), 1, []) := by decide +kernel
theorem r293_728 : am_at 293 728 = some (.invokevirtual 26, 3, [21, 3, 512, 0]) := by decide +kernel
theorem r293_731 : am_at 293 731 = some (.bipush (60), 2, []) := by decide +kernel
theorem r293_733 : am_at 293 733 = some (.if_icmp .gt (7), 3, [740]) := by decide +kernel
theorem r293_736 : am_at 293 736 = some (.iconst (1), 1, []) := by decide +kernel
theorem r293_737 : am_at 293 737 = some (.goto (4), 3, [741]) := by decide +kernel
theorem r293_740 : am_at 293 740 = some (.iconst (0), 1, []) := by decide +kernel
theorem r293_741 : am_at 293 741 = some (.istore 6, 2, [6]) := by decide +kernel
theorem r293_743 : am_at 293 743 = some (.iinc 8 (1), 3, [8]) := by decide +kernel
theorem r293_746 : am_at 293 746 = some (.goto (-124), 3, [622]) := by decide +kernel
theorem r293_749 : am_at 293 749 = some (.aload_n 0, 1, [0]) := by decide +kernel
theorem r293_750 : am_at 293 750 = some (.iconst (1), 1, []) := by decide +kernel
theorem r293_751 : am_at 293 751 = some (.invokevirtual 13, 3, [22, 2, 385, 0]) := by decide +kernel
theorem r293_754 : am_at 293 754 = some (.istore 8, 2, [8]) := by decide +kernel
theorem r293_756 : am_at 293 756 = some (.iload 6, 2, [6]) := by decide +kernel
theorem r293_758 : am_at 293 758 = some (.ifCond .eq (68), 3, [826]) := by decide +kernel
theorem r293_761 : am_at 293 761 = some (.aload_n 0, 1, [0]) := by decide +kernel
theorem r293_762 : am_at 293 762 = some (.bipush (15), 2, []) := by decide +kernel
theorem r293_764 : am_at 293 764 = some (.invokevirtual 13, 3, [22, 2, 385, 0]) := by decide +kernel
theorem r293_767 : am_at 293 767 = some (.ifCond .eq (27), 3, [794]) := by decide +kernel
theorem r293_770 : am_at 293 770 = some (.aload_n 0, 1, [0]) := by decide +kernel
theorem r293_771 : am_at 293 771 = some (.iconst (2), 1, []) := by decide +kernel
theorem r293_772 : am_at 293 772 = some (.invokevirtual 13, 3, [22, 2, 385, 0]) := by decide +kernel
theorem r293_775 : am_at 293 775 = some (.iload 8, 2, [8]) := by decide +kernel
theorem r293_777 : am_at 293 777 = some (.if_icmp .eq (49), 3, [826]) := by decide +kernel
theorem r293_780 : am_at 293 780 = some (.aload_n 0, 1, [0]) := by decide +kernel
theorem r293_781 : am_at 293 781 = some (.iconst (2), 1, []) := by decide +kernel
theorem r293_782 : am_at 293 782 = some (.invokevirtual 13, 3, [22, 2, 385, 0]) := by decide +kernel
theorem r293_785 : am_at 293 785 = some (.aload_n 0, 1, [0]) := by decide +kernel
theorem r293_786 : am_at 293 786 = some (.bipush (16), 2, []) := by decide +kernel
theorem r293_788 : am_at 293 788 = some (.invokevirtual 13, 3, [22, 2, 385, 0]) := by decide +kernel
theorem r293_791 : am_at 293 791 = some (.if_icmp .eq (35), 3, [826]) := by decide +kernel
theorem r293_794 : am_at 293 794 = some (.iload 8, 2, [8]) := by decide +kernel
theorem r293_796 : am_at 293 796 = some (.iconst (-1), 1, []) := by decide +kernel
theorem r293_797 : am_at 293 797 = some (.if_icmp .ne (7), 3, [804]) := by decide +kernel
theorem r293_800 : am_at 293 800 = some (.iconst (1), 1, []) := by decide +kernel
theorem r293_801 : am_at 293 801 = some (.goto (4), 3, [805]) := by decide +kernel
theorem r293_804 : am_at 293 804 = some (.iconst (0), 1, []) := by decide +kernel
theorem r293_805 : am_at 293 805 = some (.aload_n 0, 1, [0]) := by decide +kernel
theorem r293_806 : am_at 293 806 = some (.iconst (0), 1, []) := by decide +kernel
theorem r293_807 : am_at 293 807 = some (.invokevirtual 13, 3, [22, 2, 385, 0]) := by decide +kernel
theorem r293_810 : am_at 293 810 = some (.iconst (1), 1, []) := by decide +kernel
theorem r293_811 : am_at 293 811 = some (.if_icmp .eq (7), 3, [818]) := by decide +kernel
theorem r293_814 : am_at 293 814 = some (.iconst (1), 1, []) := by decide +kernel
theorem r293_815 : am_at 293 815 = some (.goto (4), 3, [819]) := by decide +kernel
theorem r293_818 : am_at 293 818 = some (.iconst (0), 1, []) := by decide +kernel
theorem r293_819 : am_at 293 819 = some (.if_icmp .ne (7), 3, [826]) := by decide +kernel
theorem r293_822 : am_at 293 822 = some (.iconst (1), 1, []) := by decide +kernel
theorem r293_823 : am_at 293 823 = some (.goto (4), 3, [827]) := by decide +kernel
theorem r293_826 : am_at 293 826 = some (.iconst (0), 1, []) := by decide +kernel
theorem r293_827 : am_at 293 827 = some (.istore 6, 2, [6]) := by decide +kernel
theorem r293_829 : am_at 293 829 = some (.iload 6, 2, [6]) := by decide +kernel
theorem r293_831 : am_at 293 831 = some (.ifCond .eq (64), 3, [895]) := by decide +kernel
theorem r293_834 : am_at 293 834 = some (.aload_n 0, 1, [0]) := by decide +kernel
theorem r293_835 : am_at 293 835 = some (.iconst (0), 1, []) := by decide +kernel
theorem r293_836 : am_at 293 836 = some (.invokevirtual 13, 3, [22, 2, 385, 0]) := by decide +kernel
theorem r293_839 : am_at 293 839 = some (.iconst (1), 1, []) := by decide +kernel
theorem r293_840 : am_at 293 840 = some (.if_icmp .ne (10), 3, [850]) := by decide +kernel
theorem r293_843 : am_at 293 843 = some (.iload 4, 2, [4]) := by decide +kernel
theorem r293_845 : am_at 293 845 = some (.bipush (10), 2, []) := by decide +kernel
theorem r293_847 : am_at 293 847 = some (.if_icmp .lt (21), 3, [868]) := by decide +kernel
theorem r293_850 : am_at 293 850 = some (.aload_n 0, 1, [0]) := by decide +kernel
theorem r293_851 : am_at 293 851 = some (.iconst (0), 1, []) := by decide +kernel
theorem r293_852 : am_at 293 852 = some (.invokevirtual 77, 3, [29, 2, 794, 0]) := by decide +kernel
theorem r293_855 : am_at 293 855 = some (.iconst (-1), 1, []) := by decide +kernel
theorem r293_856 : am_at 293 856 = some (.if_icmp .ne (39), 3, [895]) := by decide +kernel
theorem r293_859 : am_at 293 859 = some (.aload_n 0, 1, [0]) := by decide +kernel
theorem r293_860 : am_at 293 860 = some (.iconst (1), 1, []) := by decide +kernel
theorem r293_861 : am_at 293 861 = some (.invokevirtual 77, 3, [29, 2, 794, 0]) := by decide +kernel
theorem r293_864 : am_at 293 864 = some (.iconst (-1), 1, []) := by decide +kernel
theorem r293_865 : am_at 293 865 = some (.if_icmp .ne (30), 3, [895]) := by decide +kernel
theorem r293_868 : am_at 293 868 = some (.aload_n 0, 1, [0]) := by decide +kernel
theorem r293_869 : am_at 293 869 = some (.invokevirtual 80, 3, [30, 1, 843, 0]) := by decide +kernel
theorem r293_872 : am_at 293 872 = some (.iload 4, 2, [4]) := by decide +kernel
theorem r293_874 : am_at 293 874 = some (.ifCond .ne (7), 3, [881]) := by decide +kernel
theorem r293_877 : am_at 293 877 = some (.fconst 0, 1, []) := by decide +kernel
theorem r293_878 : am_at 293 878 = some (.goto (9), 3, [887]) := by decide +kernel
theorem r293_881 : am_at 293 881 = some (.iload_n 3, 1, [3]) := by decide +kernel
theorem r293_882 : am_at 293 882 = some (.i2f, 1, []) := by decide +kernel
theorem r293_883 : am_at 293 883 = some (.iload 4, 2, [4]) := by decide +kernel
theorem r293_885 : am_at 293 885 = some (.i2f, 1, []) := by decide +kernel
theorem r293_886 : am_at 293 886 = some (.fdiv, 1, []) := by decide +kernel
theorem r293_887 : am_at 293 887 = some (.fcmp .l, 1, []) := by decide +kernel
theorem r293_888 : am_at 293 888 = some (.ifCond .ne (7), 3, [895]) := by decide +kernel
theorem r293_891 : am_at 293 891 = some (.iconst (1), 1, []) := by decide +kernel
theorem r293_892 : am_at 293 892 = some (.goto (4), 3, [896]) := by decide +kernel
theorem r293_895 : am_at 293 895 = some (.iconst (0), 1, []) := by decide +kernel
theorem r293_896 : am_at 293 896 = some (.ireturn, 1, []) := by decide +kernel
theorem rt293 : am_rtt 293 = some (some .boolean) := by decide +kernel
set_option maxRecDepth 100000 in
theorem pg293 : am_pg[293]? = some am_m293 := rfl
theorem m293_L24_w {d : Nat} {N : Nat} {v5 : Int32} {Q : am_O → am_AH → Prop} (hd : 56 ≤ d) (ht : t.length ≤ 800000) : ∀ (n : Nat) (D : am_D) (v3 : Int32) (v4 : Int32) (v6 : Int32) (v7 : Int32) {q : Int32 × Int32 × Int32 × am_D} (h : m293_L24 N v5  n D v3 v4 v6 v7 = some q) (k0 : am_X xs L 293 d 2 12 365 [.ref 0, .ref (106 + t.length), .ref (107 + t.length), .int q.1, .int q.2.1, .int v5, .int q.2.2.1, am_dead, am_dead, am_dead, am_dead] [] (am_mh t q.2.2.2) 2 12 Q), am_X xs L 293 d 2 12 24 [.ref 0, .ref (106 + t.length), .ref (107 + t.length), .int v3, .int v4, .int v5, .int v6, .int v7, am_dead, am_dead, am_dead] [] (am_mh t D) 2 12 Q := by
  intro n
  induction n with
  | zero =>
    intro D v3 v4 v6 v7 q h k0
    exact (nomatch (show none = some q from h))
  | succ n ih =>
    intro D v3 v4 v6 v7 q h k0
    rw [m293_L24] at h
    refine x_ld (v := .int v7) r293_24 rfl rfl rfl ?_
    refine x_bi (v := 28) r293_26 rfl rfl ?_
    rcases am_ifE h with ⟨c1, h⟩ | ⟨c1, h⟩
    · refine x_icgeT r293_28 c1 ?_
      refine x_forget (lc0 := [.ref 0, .ref (106 + t.length), .ref (107 + t.length), .int v3, .int v4, .int v5, .int v6, am_dead, am_dead, am_dead, am_dead]) ⟨Or.inl rfl, Or.inl rfl, Or.inl rfl, Or.inl rfl, Or.inl rfl, Or.inl rfl, Or.inl rfl, Or.inr ⟨rfl, rfl⟩, Or.inl rfl, Or.inl rfl, Or.inl rfl, trivial⟩ ?_
      cases h
      exact k0
    · refine x_icgeF r293_28 c1 rfl ?_
      refine x_ld (v := .ref 0) r293_31 rfl rfl rfl ?_
      refine x_ld (v := .int v7) r293_32 rfl rfl rfl ?_
      refine x_ic (v := 3) r293_34 rfl rfl ?_
      obtain ⟨q2, h3, h⟩ := Option.bind_eq_some_iff.mp h
      obtain ⟨x4, h5, h⟩ := Option.bind_eq_some_iff.mp h
      refine m_call1 (as := [.ref 0, .int v7, .int (3 : Int32)]) (rest := []) ht r293_35 rfl rfl rfl (by decide) (Nat.le_of_ble_eq_true rfl) (m18_okv h3 h5) (Nat.le_trans (by decide) hd) rfl ?_
      refine x_sto (lc' := [.ref 0, .ref (106 + t.length), .ref (107 + t.length), .int v3, .int v4, .int v5, .int v6, .int v7, .int x4, am_dead, am_dead]) r293_38 rfl rfl rfl rfl ?_
      refine x_ld (v := .ref 0) r293_40 rfl rfl rfl ?_
      refine x_ld (v := .int v7) r293_41 rfl rfl rfl ?_
      refine x_ic (v := 4) r293_43 rfl rfl ?_
      obtain ⟨q6, h7, h⟩ := Option.bind_eq_some_iff.mp h
      obtain ⟨x8, h9, h⟩ := Option.bind_eq_some_iff.mp h
      refine m_call1 (as := [.ref 0, .int v7, .int (4 : Int32)]) (rest := []) ht r293_44 rfl rfl rfl (by decide) (Nat.le_of_ble_eq_true rfl) (m18_okv h7 h9) (Nat.le_trans (by decide) hd) rfl ?_
      refine x_sto (lc' := [.ref 0, .ref (106 + t.length), .ref (107 + t.length), .int v3, .int v4, .int v5, .int v6, .int v7, .int x4, .int x8, am_dead]) r293_47 rfl rfl rfl rfl ?_
      refine x_ld (v := .ref (107 + t.length)) r293_49 rfl rfl rfl ?_
      refine x_ld (v := .int x4) r293_50 rfl rfl rfl ?_
      refine x_ar r293_52 rfl trivial rfl ?_
      obtain ⟨g10, h⟩ := am_gdE h
      refine m_ial1 r293_53 g10 rfl rfl ?_
      refine x_ic (v := 1) r293_54 rfl rfl ?_
      refine x_ar r293_55 rfl trivial rfl ?_
      obtain ⟨g13, h⟩ := am_gdE h
      obtain ⟨D11, e12, h⟩ := am_ltE h
      refine m_ias1 r293_56 g13 rfl e12 rfl ?_
      refine x_ld (v := .ref (106 + t.length)) r293_57 rfl rfl rfl ?_
      refine x_ld (v := .int x4) r293_58 rfl rfl rfl ?_
      refine x_ar r293_60 rfl trivial rfl ?_
      obtain ⟨g14, h⟩ := am_gdE h
      refine m_ial0 r293_61 g14 rfl rfl ?_
      refine x_ld (v := .ref 0) r293_62 rfl rfl rfl ?_
      refine x_ld (v := .int v7) r293_63 rfl rfl rfl ?_
      refine x_ic (v := 2) r293_65 rfl rfl ?_
      obtain ⟨q15, h16, h⟩ := Option.bind_eq_some_iff.mp h
      obtain ⟨x17, h18, h⟩ := Option.bind_eq_some_iff.mp h
      refine m_call1 (as := [.ref 0, .int v7, .int (2 : Int32)]) (rest := [.int (D11.1 200 (x4).toNatClampNeg), .int x4, .ref (106 + t.length)]) ht r293_66 rfl rfl rfl (by decide) (Nat.le_of_ble_eq_true rfl) (m18_okv h16 h18) (Nat.le_trans (by decide) hd) rfl ?_
      refine x_ar r293_69 rfl trivial rfl ?_
      obtain ⟨g21, h⟩ := am_gdE h
      obtain ⟨D19, e20, h⟩ := am_ltE h
      refine m_ias0 r293_70 g21 rfl e20 rfl ?_
      refine x_ld (v := .int v4) r293_71 rfl rfl rfl ?_
      refine x_ld (v := .int x4) r293_73 rfl rfl rfl ?_
      refine x_ic (v := 4) r293_75 rfl rfl ?_
      obtain ⟨q22, h24, h⟩ := am_ltE h
      replace h24 := h24.symm
      have kj23 : am_X xs L 293 d 2 12 84 [.ref 0, .ref (106 + t.length), .ref (107 + t.length), .int v3, .int v4, .int v5, .int v6, .int v7, .int x4, .int x8, am_dead] [.int q22, .int v4] (am_mh t D19) 2 12 Q := by
        refine x_ar r293_84 rfl trivial rfl ?_
        obtain ⟨x26, e27, h⟩ := am_ltE h
        refine am_topI e27 ?_
        refine x_sto (lc' := [.ref 0, .ref (106 + t.length), .ref (107 + t.length), .int v3, .int x26, .int v5, .int v6, .int v7, .int x4, .int x8, am_dead]) r293_85 rfl rfl rfl rfl ?_
        refine x_ld (v := .int v3) r293_87 rfl rfl rfl ?_
        refine x_ld (v := .int x4) r293_88 rfl rfl rfl ?_
        refine x_ic (v := 4) r293_90 rfl rfl ?_
        obtain ⟨q28, h30, h⟩ := Option.bind_eq_some_iff.mp h
        have kj29 : am_X xs L 293 d 2 12 105 [.ref 0, .ref (106 + t.length), .ref (107 + t.length), .int v3, .int x26, .int v5, .int v6, .int v7, .int x4, .int x8, am_dead] [.int q28, .int v3] (am_mh t D19) 2 12 Q := by
          refine x_ar r293_105 rfl trivial rfl ?_
          obtain ⟨x36, e37, h⟩ := am_ltE h
          refine am_topI e37 ?_
          refine x_sto (lc' := [.ref 0, .ref (106 + t.length), .ref (107 + t.length), .int x36, .int x26, .int v5, .int v6, .int v7, .int x4, .int x8, am_dead]) r293_106 rfl rfl rfl rfl ?_
          refine x_ld (v := .int v6) r293_107 rfl rfl rfl ?_
          obtain ⟨q38, h40, h⟩ := Option.bind_eq_some_iff.mp h
          have kj39 : am_X xs L 293 d 2 12 199 [.ref 0, .ref (106 + t.length), .ref (107 + t.length), .int x36, .int x26, .int v5, .int v6, .int v7, .int x4, .int x8, am_dead] [.int q38] (am_mh t D19) 2 12 Q := by
            refine x_sto (lc' := [.ref 0, .ref (106 + t.length), .ref (107 + t.length), .int x36, .int x26, .int v5, .int q38, .int v7, .int x4, .int x8, am_dead]) r293_199 rfl rfl rfl rfl ?_
            refine x_ld (v := .int q38) r293_201 rfl rfl rfl ?_
            obtain ⟨q83, h85, h⟩ := Option.bind_eq_some_iff.mp h
            have kj84 : am_X xs L 293 d 2 12 282 [.ref 0, .ref (106 + t.length), .ref (107 + t.length), .int x36, .int x26, .int v5, .int q38, .int v7, .int x4, .int x8, am_dead] [.int q83] (am_mh t D19) 2 12 Q := by
              refine x_sto (lc' := [.ref 0, .ref (106 + t.length), .ref (107 + t.length), .int x36, .int x26, .int v5, .int q83, .int v7, .int x4, .int x8, am_dead]) r293_282 rfl rfl rfl rfl ?_
              refine x_ld (v := .int x4) r293_284 rfl rfl rfl ?_
              refine x_ic (v := 4) r293_286 rfl rfl ?_
              obtain ⟨q128, h130, h⟩ := Option.bind_eq_some_iff.mp h
              have kj129 : am_X xs L 293 d 2 12 340 [.ref 0, .ref (106 + t.length), .ref (107 + t.length), .int x36, .int x26, .int v5, .int q83, .int v7, .int x4, .int x8, am_dead] [.int q128.1] (am_mh t q128.2) 2 12 Q := by
                refine x_sto (lc' := [.ref 0, .ref (106 + t.length), .ref (107 + t.length), .int x36, .int x26, .int v5, .int q83, .int v7, .int x4, .int x8, .int q128.1]) r293_340 rfl rfl rfl rfl ?_
                refine x_ld (v := .int q83) r293_342 rfl rfl rfl ?_
                obtain ⟨q154, h156, h⟩ := am_ltE h
                replace h156 := h156.symm
                have kj155 : am_X xs L 293 d 2 12 357 [.ref 0, .ref (106 + t.length), .ref (107 + t.length), .int x36, .int x26, .int v5, .int q83, .int v7, .int x4, .int x8, .int q128.1] [.int q154] (am_mh t q128.2) 2 12 Q := by
                  refine x_sto (lc' := [.ref 0, .ref (106 + t.length), .ref (107 + t.length), .int x36, .int x26, .int v5, .int q154, .int v7, .int x4, .int x8, .int q128.1]) r293_357 rfl rfl rfl rfl ?_
                  obtain ⟨x159, e160, h⟩ := am_ltE h
                  refine x_sto (lc' := [.ref 0, .ref (106 + t.length), .ref (107 + t.length), .int x36, .int x26, .int v5, .int q154, .int x159, .int x4, .int x8, .int q128.1]) r293_359 rfl rfl (by subst e160; rfl) rfl ?_
                  refine x_goto r293_362 ?_
                  exact x_forget (lc0 := [.ref 0, .ref (106 + t.length), .ref (107 + t.length), .int x36, .int x26, .int v5, .int q154, .int x159, am_dead, am_dead, am_dead]) ⟨Or.inl rfl, Or.inl rfl, Or.inl rfl, Or.inl rfl, Or.inl rfl, Or.inl rfl, Or.inl rfl, Or.inl rfl, Or.inr ⟨rfl, rfl⟩, Or.inr ⟨rfl, rfl⟩, Or.inr ⟨rfl, rfl⟩, trivial⟩ (ih q128.2 x36 x26 q154 x159 h k0)
                rcases am_ifE h156 with ⟨c157, h156⟩ | ⟨c157, h156⟩
                · refine x_ifeqT r293_344 c157 ?_
                  refine x_ic (v := 0) r293_356 rfl rfl ?_
                  subst h156
                  exact kj155
                · refine x_ifeqF r293_344 c157 rfl ?_
                  refine x_ld (v := .int q128.1) r293_347 rfl rfl rfl ?_
                  rcases am_ifE h156 with ⟨c158, h156⟩ | ⟨c158, h156⟩
                  · refine x_ifneT r293_349 c158 rfl ?_
                    refine x_ic (v := 1) r293_352 rfl rfl ?_
                    refine x_goto r293_353 ?_
                    subst h156
                    exact kj155
                  · refine x_ifneF r293_349 c158 ?_
                    refine x_ic (v := 0) r293_356 rfl rfl ?_
                    subst h156
                    exact kj155
              rcases am_ifE h130 with ⟨c131, h130⟩ | ⟨c131, h130⟩
              · refine x_icgeT r293_287 c131 ?_
                refine x_ic (v := 0) r293_339 rfl rfl ?_
                cases h130
                exact kj129
              · refine x_icgeF r293_287 c131 rfl ?_
                refine x_ld (v := .ref 0) r293_290 rfl rfl rfl ?_
                refine x_ic (v := 0) r293_291 rfl rfl ?_
                obtain ⟨q132, h133, h130⟩ := Option.bind_eq_some_iff.mp h130
                obtain ⟨x134, h135, h130⟩ := Option.bind_eq_some_iff.mp h130
                refine m_call1 (as := [.ref 0, .int (0 : Int32)]) (rest := []) ht r293_292 rfl rfl rfl (by decide) (Nat.le_of_ble_eq_true rfl) (m22_okv h133 h135) (Nat.le_trans (by decide) hd) rfl ?_
                rcases am_ifE h130 with ⟨c136, h130⟩ | ⟨c136, h130⟩
                · refine x_ifleT r293_295 c136 ?_
                  refine x_ic (v := 0) r293_339 rfl rfl ?_
                  cases h130
                  exact kj129
                · refine x_ifleF r293_295 c136 rfl ?_
                  refine x_ld (v := .ref 0) r293_298 rfl rfl rfl ?_
                  refine x_ld (v := .int x4) r293_299 rfl rfl rfl ?_
                  refine x_ic (v := 3) r293_301 rfl rfl ?_
                  obtain ⟨q137, h138, h130⟩ := Option.bind_eq_some_iff.mp h130
                  obtain ⟨x139, h140, h130⟩ := Option.bind_eq_some_iff.mp h130
                  refine m_call2 (as := [.ref 0, .int x4, .int (3 : Int32)]) (rest := []) ht r293_302 rfl rfl rfl (by decide) (Nat.le_of_ble_eq_true rfl) (m21_okv h138 h140) (Nat.le_trans (by decide) hd) rfl ?_
                  refine x_ld (v := .ref 0) r293_305 rfl rfl rfl ?_
                  refine x_ld (v := .int v7) r293_306 rfl rfl rfl ?_
                  refine x_ic (v := 0) r293_308 rfl rfl ?_
                  obtain ⟨q141, h142, h130⟩ := Option.bind_eq_some_iff.mp h130
                  obtain ⟨x143, h144, h130⟩ := Option.bind_eq_some_iff.mp h130
                  refine m_call1 (as := [.ref 0, .int v7, .int (0 : Int32)]) (rest := [.int x139]) ht r293_309 rfl rfl rfl (by decide) (Nat.le_of_ble_eq_true rfl) (m18_okv h142 h144) (Nat.le_trans (by decide) hd) rfl ?_
                  refine x_ar r293_312 rfl trivial rfl ?_
                  refine x_ld (v := .ref 0) r293_313 rfl rfl rfl ?_
                  refine x_ld (v := .int x4) r293_314 rfl rfl rfl ?_
                  refine x_ic (v := 3) r293_316 rfl rfl ?_
                  obtain ⟨q145, h146, h130⟩ := Option.bind_eq_some_iff.mp h130
                  obtain ⟨x147, h148, h130⟩ := Option.bind_eq_some_iff.mp h130
                  refine m_call2 (as := [.ref 0, .int x4, .int (3 : Int32)]) (rest := [.int (x139 >>> (x143 &&& 31))]) ht r293_317 rfl rfl rfl (by decide) (Nat.le_of_ble_eq_true rfl) (m21_okv h146 h148) (Nat.le_trans (by decide) hd) rfl ?_
                  refine x_ld (v := .ref 0) r293_320 rfl rfl rfl ?_
                  refine x_ld (v := .int v7) r293_321 rfl rfl rfl ?_
                  refine x_ic (v := 1) r293_323 rfl rfl ?_
                  obtain ⟨q149, h150, h130⟩ := Option.bind_eq_some_iff.mp h130
                  obtain ⟨x151, h152, h130⟩ := Option.bind_eq_some_iff.mp h130
                  refine m_call1 (as := [.ref 0, .int v7, .int (1 : Int32)]) (rest := [.int x147, .int (x139 >>> (x143 &&& 31))]) ht r293_324 rfl rfl rfl (by decide) (Nat.le_of_ble_eq_true rfl) (m18_okv h150 h152) (Nat.le_trans (by decide) hd) rfl ?_
                  refine x_ar r293_327 rfl trivial rfl ?_
                  refine x_ar r293_328 rfl trivial rfl ?_
                  refine x_ic (v := 1) r293_329 rfl rfl ?_
                  refine x_ar r293_330 rfl trivial rfl ?_
                  refine x_ic (v := 1) r293_331 rfl rfl ?_
                  rcases am_ifE h130 with ⟨c153, h130⟩ | ⟨c153, h130⟩
                  · refine x_icneT r293_332 c153 rfl ?_
                    refine x_ic (v := 1) r293_335 rfl rfl ?_
                    refine x_goto r293_336 ?_
                    cases h130
                    exact kj129
                  · refine x_icneF r293_332 c153 ?_
                    refine x_ic (v := 0) r293_339 rfl rfl ?_
                    cases h130
                    exact kj129
            rcases am_ifE h85 with ⟨c86, h85⟩ | ⟨c86, h85⟩
            · refine x_ifeqT r293_203 c86 ?_
              refine x_ic (v := 0) r293_281 rfl rfl ?_
              cases h85
              exact kj84
            · refine x_ifeqF r293_203 c86 rfl ?_
              refine x_ld (v := .int x4) r293_206 rfl rfl rfl ?_
              refine x_ic (v := 4) r293_208 rfl rfl ?_
              obtain ⟨q87, h89, h85⟩ := am_ltE h85
              replace h89 := h89.symm
              have kj88 : am_X xs L 293 d 2 12 217 [.ref 0, .ref (106 + t.length), .ref (107 + t.length), .int x36, .int x26, .int v5, .int q38, .int v7, .int x4, .int x8, am_dead] [.int q87] (am_mh t D19) 2 12 Q := by
                refine x_ld (v := .int x8) r293_217 rfl rfl rfl ?_
                refine x_ic (v := -1) r293_219 rfl rfl ?_
                obtain ⟨q91, h93, h85⟩ := am_ltE h85
                replace h93 := h93.symm
                have kj92 : am_X xs L 293 d 2 12 228 [.ref 0, .ref (106 + t.length), .ref (107 + t.length), .int x36, .int x26, .int v5, .int q38, .int v7, .int x4, .int x8, am_dead] [.int q91, .int q87] (am_mh t D19) 2 12 Q := by
                  rcases am_ifE h85 with ⟨c95, h85⟩ | ⟨c95, h85⟩
                  · refine x_icneT r293_228 c95 rfl ?_
                    refine x_ld (v := .int x8) r293_231 rfl rfl rfl ?_
                    rcases am_ifE h85 with ⟨c96, h85⟩ | ⟨c96, h85⟩
                    · refine x_ifltT r293_233 c96 ?_
                      refine x_ld (v := .int x4) r293_248 rfl rfl rfl ?_
                      refine x_ic (v := 4) r293_250 rfl rfl ?_
                      obtain ⟨q97, h99, h85⟩ := am_ltE h85
                      replace h99 := h99.symm
                      have kj98 : am_X xs L 293 d 2 12 259 [.ref 0, .ref (106 + t.length), .ref (107 + t.length), .int x36, .int x26, .int v5, .int q38, .int v7, .int x4, .int x8, am_dead] [.int q97] (am_mh t D19) 2 12 Q := by
                        refine x_ld (v := .ref 0) r293_259 rfl rfl rfl ?_
                        refine x_ld (v := .int v7) r293_260 rfl rfl rfl ?_
                        refine x_ic (v := 5) r293_262 rfl rfl ?_
                        obtain ⟨q101, h102, h85⟩ := Option.bind_eq_some_iff.mp h85
                        obtain ⟨x103, h104, h85⟩ := Option.bind_eq_some_iff.mp h85
                        refine m_call1 (as := [.ref 0, .int v7, .int (5 : Int32)]) (rest := [.int q97]) ht r293_263 rfl rfl rfl (by decide) (Nat.le_of_ble_eq_true rfl) (m18_okv h102 h104) (Nat.le_trans (by decide) hd) rfl ?_
                        obtain ⟨q105, h107, h85⟩ := am_ltE h85
                        replace h107 := h107.symm
                        have kj106 : am_X xs L 293 d 2 12 274 [.ref 0, .ref (106 + t.length), .ref (107 + t.length), .int x36, .int x26, .int v5, .int q38, .int v7, .int x4, .int x8, am_dead] [.int q105, .int q97] (am_mh t D19) 2 12 Q := by
                          rcases am_ifE h85 with ⟨c109, h85⟩ | ⟨c109, h85⟩
                          · refine x_icneT r293_274 c109 rfl ?_
                            refine x_ic (v := 1) r293_277 rfl rfl ?_
                            refine x_goto r293_278 ?_
                            cases h85
                            exact kj84
                          · refine x_icneF r293_274 c109 ?_
                            refine x_ic (v := 0) r293_281 rfl rfl ?_
                            cases h85
                            exact kj84
                        rcases am_ifE h107 with ⟨c108, h107⟩ | ⟨c108, h107⟩
                        · refine x_ifltT r293_266 c108 ?_
                          refine x_ic (v := 0) r293_273 rfl rfl ?_
                          subst h107
                          exact kj106
                        · refine x_ifltF r293_266 c108 rfl ?_
                          refine x_ic (v := 1) r293_269 rfl rfl ?_
                          refine x_goto r293_270 ?_
                          subst h107
                          exact kj106
                      rcases am_ifE h99 with ⟨c100, h99⟩ | ⟨c100, h99⟩
                      · refine x_icneT r293_251 c100 rfl ?_
                        refine x_ic (v := 1) r293_254 rfl rfl ?_
                        refine x_goto r293_255 ?_
                        subst h99
                        exact kj98
                      · refine x_icneF r293_251 c100 ?_
                        refine x_ic (v := 0) r293_258 rfl rfl ?_
                        subst h99
                        exact kj98
                    · refine x_ifltF r293_233 c96 rfl ?_
                      refine x_ld (v := .ref 0) r293_236 rfl rfl rfl ?_
                      refine x_ld (v := .int x8) r293_237 rfl rfl rfl ?_
                      refine x_ic (v := 0) r293_239 rfl rfl ?_
                      obtain ⟨q110, h111, h85⟩ := am_ltE h85
                      replace h111 := h111.symm
                      obtain ⟨x112, h113, h85⟩ := Option.bind_eq_some_iff.mp h85
                      refine m_call1 (as := [.ref 0, .int x8, .int (0 : Int32)]) (rest := []) ht r293_240 rfl rfl rfl (by decide) (Nat.le_of_ble_eq_true rfl) (m20_okv h111 h113) (Nat.le_trans (by decide) hd) rfl ?_
                      refine x_ld (v := .int v7) r293_243 rfl rfl rfl ?_
                      rcases am_ifE h85 with ⟨c114, h85⟩ | ⟨c114, h85⟩
                      · refine x_icneT r293_245 c114 rfl ?_
                        refine x_ld (v := .int x4) r293_248 rfl rfl rfl ?_
                        refine x_ic (v := 4) r293_250 rfl rfl ?_
                        obtain ⟨q115, h117, h85⟩ := am_ltE h85
                        replace h117 := h117.symm
                        have kj116 : am_X xs L 293 d 2 12 259 [.ref 0, .ref (106 + t.length), .ref (107 + t.length), .int x36, .int x26, .int v5, .int q38, .int v7, .int x4, .int x8, am_dead] [.int q115] (am_mh t D19) 2 12 Q := by
                          refine x_ld (v := .ref 0) r293_259 rfl rfl rfl ?_
                          refine x_ld (v := .int v7) r293_260 rfl rfl rfl ?_
                          refine x_ic (v := 5) r293_262 rfl rfl ?_
                          obtain ⟨q119, h120, h85⟩ := Option.bind_eq_some_iff.mp h85
                          obtain ⟨x121, h122, h85⟩ := Option.bind_eq_some_iff.mp h85
                          refine m_call1 (as := [.ref 0, .int v7, .int (5 : Int32)]) (rest := [.int q115]) ht r293_263 rfl rfl rfl (by decide) (Nat.le_of_ble_eq_true rfl) (m18_okv h120 h122) (Nat.le_trans (by decide) hd) rfl ?_
                          obtain ⟨q123, h125, h85⟩ := am_ltE h85
                          replace h125 := h125.symm
                          have kj124 : am_X xs L 293 d 2 12 274 [.ref 0, .ref (106 + t.length), .ref (107 + t.length), .int x36, .int x26, .int v5, .int q38, .int v7, .int x4, .int x8, am_dead] [.int q123, .int q115] (am_mh t D19) 2 12 Q := by
                            rcases am_ifE h85 with ⟨c127, h85⟩ | ⟨c127, h85⟩
                            · refine x_icneT r293_274 c127 rfl ?_
                              refine x_ic (v := 1) r293_277 rfl rfl ?_
                              refine x_goto r293_278 ?_
                              cases h85
                              exact kj84
                            · refine x_icneF r293_274 c127 ?_
                              refine x_ic (v := 0) r293_281 rfl rfl ?_
                              cases h85
                              exact kj84
                          rcases am_ifE h125 with ⟨c126, h125⟩ | ⟨c126, h125⟩
                          · refine x_ifltT r293_266 c126 ?_
                            refine x_ic (v := 0) r293_273 rfl rfl ?_
                            subst h125
                            exact kj124
                          · refine x_ifltF r293_266 c126 rfl ?_
                            refine x_ic (v := 1) r293_269 rfl rfl ?_
                            refine x_goto r293_270 ?_
                            subst h125
                            exact kj124
                        rcases am_ifE h117 with ⟨c118, h117⟩ | ⟨c118, h117⟩
                        · refine x_icneT r293_251 c118 rfl ?_
                          refine x_ic (v := 1) r293_254 rfl rfl ?_
                          refine x_goto r293_255 ?_
                          subst h117
                          exact kj116
                        · refine x_icneF r293_251 c118 ?_
                          refine x_ic (v := 0) r293_258 rfl rfl ?_
                          subst h117
                          exact kj116
                      · refine x_icneF r293_245 c114 ?_
                        refine x_ic (v := 0) r293_281 rfl rfl ?_
                        cases h85
                        exact kj84
                  · refine x_icneF r293_228 c95 ?_
                    refine x_ic (v := 0) r293_281 rfl rfl ?_
                    cases h85
                    exact kj84
                rcases am_ifE h93 with ⟨c94, h93⟩ | ⟨c94, h93⟩
                · refine x_iceqT r293_220 c94 ?_
                  refine x_ic (v := 0) r293_227 rfl rfl ?_
                  subst h93
                  exact kj92
                · refine x_iceqF r293_220 c94 rfl ?_
                  refine x_ic (v := 1) r293_223 rfl rfl ?_
                  refine x_goto r293_224 ?_
                  subst h93
                  exact kj92
              rcases am_ifE h89 with ⟨c90, h89⟩ | ⟨c90, h89⟩
              · refine x_icneT r293_209 c90 rfl ?_
                refine x_ic (v := 1) r293_212 rfl rfl ?_
                refine x_goto r293_213 ?_
                subst h89
                exact kj88
              · refine x_icneF r293_209 c90 ?_
                refine x_ic (v := 0) r293_216 rfl rfl ?_
                subst h89
                exact kj88
          rcases am_ifE h40 with ⟨c41, h40⟩ | ⟨c41, h40⟩
          · refine x_ifeqT r293_109 c41 ?_
            refine x_ic (v := 0) r293_198 rfl rfl ?_
            cases h40
            exact kj39
          · refine x_ifeqF r293_109 c41 rfl ?_
            refine x_ld (v := .int x4) r293_112 rfl rfl rfl ?_
            rcases am_ifE h40 with ⟨c42, h40⟩ | ⟨c42, h40⟩
            · refine x_ifltT r293_114 c42 ?_
              refine x_ic (v := 0) r293_198 rfl rfl ?_
              cases h40
              exact kj39
            · refine x_ifltF r293_114 c42 rfl ?_
              refine x_ld (v := .int x4) r293_117 rfl rfl rfl ?_
              refine x_ic (v := 5) r293_119 rfl rfl ?_
              rcases am_ifE h40 with ⟨c43, h40⟩ | ⟨c43, h40⟩
              · refine x_icgtT r293_120 c43 ?_
                refine x_ic (v := 0) r293_198 rfl rfl ?_
                cases h40
                exact kj39
              · refine x_icgtF r293_120 c43 rfl ?_
                refine x_ld (v := .ref 0) r293_123 rfl rfl rfl ?_
                refine x_ld (v := .ref 0) r293_124 rfl rfl rfl ?_
                refine x_ld (v := .int v7) r293_125 rfl rfl rfl ?_
                refine x_ic (v := 0) r293_127 rfl rfl ?_
                obtain ⟨q44, h45, h40⟩ := Option.bind_eq_some_iff.mp h40
                obtain ⟨x46, h47, h40⟩ := Option.bind_eq_some_iff.mp h40
                refine m_call1 (as := [.ref 0, .int v7, .int (0 : Int32)]) (rest := [.ref 0]) ht r293_128 rfl rfl rfl (by decide) (Nat.le_of_ble_eq_true rfl) (m18_okv h45 h47) (Nat.le_trans (by decide) hd) rfl ?_
                refine x_ld (v := .ref 0) r293_131 rfl rfl rfl ?_
                refine x_ld (v := .int v7) r293_132 rfl rfl rfl ?_
                refine x_ic (v := 1) r293_134 rfl rfl ?_
                obtain ⟨q48, h49, h40⟩ := Option.bind_eq_some_iff.mp h40
                obtain ⟨x50, h51, h40⟩ := Option.bind_eq_some_iff.mp h40
                refine m_call1 (as := [.ref 0, .int v7, .int (1 : Int32)]) (rest := [.int x46, .ref 0]) ht r293_135 rfl rfl rfl (by decide) (Nat.le_of_ble_eq_true rfl) (m18_okv h49 h51) (Nat.le_trans (by decide) hd) rfl ?_
                obtain ⟨q52, h53, h40⟩ := am_ltE h40
                replace h53 := h53.symm
                obtain ⟨x54, h55, h40⟩ := Option.bind_eq_some_iff.mp h40
                refine m_call1 (as := [.ref 0, .int x46, .int x50]) (rest := []) ht r293_138 rfl rfl rfl (by decide) (Nat.le_of_ble_eq_true rfl) (m19_okv h53 h55) (Nat.le_trans (by decide) hd) rfl ?_
                refine x_ld (v := .int v7) r293_141 rfl rfl rfl ?_
                rcases am_ifE h40 with ⟨c56, h40⟩ | ⟨c56, h40⟩
                · refine x_icneT r293_143 c56 rfl ?_
                  refine x_ld (v := .ref 0) r293_146 rfl rfl rfl ?_
                  refine x_ld (v := .ref 0) r293_147 rfl rfl rfl ?_
                  refine x_ld (v := .int v7) r293_148 rfl rfl rfl ?_
                  refine x_ic (v := 1) r293_150 rfl rfl ?_
                  obtain ⟨q57, h58, h40⟩ := Option.bind_eq_some_iff.mp h40
                  obtain ⟨x59, h60, h40⟩ := Option.bind_eq_some_iff.mp h40
                  refine m_call1 (as := [.ref 0, .int v7, .int (1 : Int32)]) (rest := [.ref 0]) ht r293_151 rfl rfl rfl (by decide) (Nat.le_of_ble_eq_true rfl) (m18_okv h58 h60) (Nat.le_trans (by decide) hd) rfl ?_
                  refine x_ld (v := .ref 0) r293_154 rfl rfl rfl ?_
                  refine x_ld (v := .int v7) r293_155 rfl rfl rfl ?_
                  refine x_ic (v := 0) r293_157 rfl rfl ?_
                  obtain ⟨q61, h62, h40⟩ := Option.bind_eq_some_iff.mp h40
                  obtain ⟨x63, h64, h40⟩ := Option.bind_eq_some_iff.mp h40
                  refine m_call1 (as := [.ref 0, .int v7, .int (0 : Int32)]) (rest := [.int x59, .ref 0]) ht r293_158 rfl rfl rfl (by decide) (Nat.le_of_ble_eq_true rfl) (m18_okv h62 h64) (Nat.le_trans (by decide) hd) rfl ?_
                  obtain ⟨q65, h66, h40⟩ := am_ltE h40
                  replace h66 := h66.symm
                  obtain ⟨x67, h68, h40⟩ := Option.bind_eq_some_iff.mp h40
                  refine m_call1 (as := [.ref 0, .int x59, .int x63]) (rest := []) ht r293_161 rfl rfl rfl (by decide) (Nat.le_of_ble_eq_true rfl) (m19_okv h66 h68) (Nat.le_trans (by decide) hd) rfl ?_
                  refine x_ld (v := .int v7) r293_164 rfl rfl rfl ?_
                  rcases am_ifE h40 with ⟨c69, h40⟩ | ⟨c69, h40⟩
                  · refine x_icneT r293_166 c69 rfl ?_
                    refine x_ld (v := .ref 0) r293_169 rfl rfl rfl ?_
                    refine x_ld (v := .int v7) r293_170 rfl rfl rfl ?_
                    refine x_ic (v := 2) r293_172 rfl rfl ?_
                    obtain ⟨q70, h71, h40⟩ := Option.bind_eq_some_iff.mp h40
                    obtain ⟨x72, h73, h40⟩ := Option.bind_eq_some_iff.mp h40
                    refine m_call1 (as := [.ref 0, .int v7, .int (2 : Int32)]) (rest := []) ht r293_173 rfl rfl rfl (by decide) (Nat.le_of_ble_eq_true rfl) (m18_okv h71 h73) (Nat.le_trans (by decide) hd) rfl ?_
                    refine x_ld (v := .ref 0) r293_176 rfl rfl rfl ?_
                    refine x_ld (v := .int v7) r293_177 rfl rfl rfl ?_
                    refine x_ic (v := 0) r293_179 rfl rfl ?_
                    obtain ⟨q74, h75, h40⟩ := Option.bind_eq_some_iff.mp h40
                    obtain ⟨x76, h77, h40⟩ := Option.bind_eq_some_iff.mp h40
                    refine m_call1 (as := [.ref 0, .int v7, .int (0 : Int32)]) (rest := [.int x72]) ht r293_180 rfl rfl rfl (by decide) (Nat.le_of_ble_eq_true rfl) (m18_okv h75 h77) (Nat.le_trans (by decide) hd) rfl ?_
                    refine x_ld (v := .ref 0) r293_183 rfl rfl rfl ?_
                    refine x_ld (v := .int v7) r293_184 rfl rfl rfl ?_
                    refine x_ic (v := 1) r293_186 rfl rfl ?_
                    obtain ⟨q78, h79, h40⟩ := Option.bind_eq_some_iff.mp h40
                    obtain ⟨x80, h81, h40⟩ := Option.bind_eq_some_iff.mp h40
                    refine m_call1 (as := [.ref 0, .int v7, .int (1 : Int32)]) (rest := [.int x76, .int x72]) ht r293_187 rfl rfl rfl (by decide) (Nat.le_of_ble_eq_true rfl) (m18_okv h79 h81) (Nat.le_trans (by decide) hd) rfl ?_
                    refine x_ar r293_190 rfl trivial rfl ?_
                    rcases am_ifE h40 with ⟨c82, h40⟩ | ⟨c82, h40⟩
                    · refine x_icneT r293_191 c82 rfl ?_
                      refine x_ic (v := 1) r293_194 rfl rfl ?_
                      refine x_goto r293_195 ?_
                      cases h40
                      exact kj39
                    · refine x_icneF r293_191 c82 ?_
                      refine x_ic (v := 0) r293_198 rfl rfl ?_
                      cases h40
                      exact kj39
                  · refine x_icneF r293_166 c69 ?_
                    refine x_ic (v := 0) r293_198 rfl rfl ?_
                    cases h40
                    exact kj39
                · refine x_icneF r293_143 c56 ?_
                  refine x_ic (v := 0) r293_198 rfl rfl ?_
                  cases h40
                  exact kj39
        rcases am_ifE h30 with ⟨c31, h30⟩ | ⟨c31, h30⟩
        · refine x_icgeT r293_91 c31 ?_
          refine x_ic (v := 0) r293_104 rfl rfl ?_
          cases h30
          exact kj29
        · refine x_icgeF r293_91 c31 rfl ?_
          refine x_ld (v := .ref 0) r293_94 rfl rfl rfl ?_
          refine x_ld (v := .int v7) r293_95 rfl rfl rfl ?_
          refine x_ic (v := 2) r293_97 rfl rfl ?_
          obtain ⟨q32, h33, h30⟩ := Option.bind_eq_some_iff.mp h30
          obtain ⟨x34, h35, h30⟩ := Option.bind_eq_some_iff.mp h30
          refine m_call1 (as := [.ref 0, .int v7, .int (2 : Int32)]) (rest := [.int v3]) ht r293_98 rfl rfl rfl (by decide) (Nat.le_of_ble_eq_true rfl) (m18_okv h33 h35) (Nat.le_trans (by decide) hd) rfl ?_
          refine x_goto r293_101 ?_
          cases h30
          exact kj29
      rcases am_ifE h24 with ⟨c25, h24⟩ | ⟨c25, h24⟩
      · refine x_icgeT r293_76 c25 ?_
        refine x_ic (v := 0) r293_83 rfl rfl ?_
        subst h24
        exact kj23
      · refine x_icgeF r293_76 c25 rfl ?_
        refine x_ic (v := 1) r293_79 rfl rfl ?_
        refine x_goto r293_80 ?_
        subst h24
        exact kj23
theorem m293_L368_w {d : Nat} {N : Nat} {D : am_D} {v3 : Int32} {v4 : Int32} {Q : am_O → am_AH → Prop} (hd : 56 ≤ d) (ht : t.length ≤ 800000) : ∀ (n : Nat) (v5 : Int32) (v6 : Int32) (v7 : Int32) {q : Int32 × Int32} (h : m293_L368 N D v3 v4  n v5 v6 v7 = some q) (k0 : am_X xs L 293 d 2 12 531 [.ref 0, .ref (106 + t.length), .ref (107 + t.length), .int v3, .int v4, .int q.1, .int q.2, am_dead, am_dead, am_dead, am_dead] [] (am_mh t D) 2 12 Q), am_X xs L 293 d 2 12 368 [.ref 0, .ref (106 + t.length), .ref (107 + t.length), .int v3, .int v4, .int v5, .int v6, .int v7, am_dead, am_dead, am_dead] [] (am_mh t D) 2 12 Q := by
  intro n
  induction n with
  | zero =>
    intro v5 v6 v7 q h k0
    exact (nomatch (show none = some q from h))
  | succ n ih =>
    intro v5 v6 v7 q h k0
    rw [m293_L368] at h
    refine x_ld (v := .int v7) r293_368 rfl rfl rfl ?_
    refine x_ld (v := .ref 0) r293_370 rfl rfl rfl ?_
    refine x_ic (v := 3) r293_371 rfl rfl ?_
    obtain ⟨q163, h164, h⟩ := Option.bind_eq_some_iff.mp h
    obtain ⟨x165, h166, h⟩ := Option.bind_eq_some_iff.mp h
    refine m_call1 (as := [.ref 0, .int (3 : Int32)]) (rest := [.int v7]) ht r293_372 rfl rfl rfl (by decide) (Nat.le_of_ble_eq_true rfl) (m22_okv h164 h166) (Nat.le_trans (by decide) hd) rfl ?_
    rcases am_ifE h with ⟨c167, h⟩ | ⟨c167, h⟩
    · refine x_icgeT r293_375 c167 ?_
      refine x_forget (lc0 := [.ref 0, .ref (106 + t.length), .ref (107 + t.length), .int v3, .int v4, .int v5, .int v6, am_dead, am_dead, am_dead, am_dead]) ⟨Or.inl rfl, Or.inl rfl, Or.inl rfl, Or.inl rfl, Or.inl rfl, Or.inl rfl, Or.inl rfl, Or.inr ⟨rfl, rfl⟩, Or.inl rfl, Or.inl rfl, Or.inl rfl, trivial⟩ ?_
      cases h
      exact k0
    · refine x_icgeF r293_375 c167 rfl ?_
      refine x_ld (v := .int v6) r293_378 rfl rfl rfl ?_
      rcases am_ifE h with ⟨c168, h⟩ | ⟨c168, h⟩
      · refine x_ifeqT r293_380 c168 ?_
        refine x_forget (lc0 := [.ref 0, .ref (106 + t.length), .ref (107 + t.length), .int v3, .int v4, .int v5, .int v6, am_dead, am_dead, am_dead, am_dead]) ⟨Or.inl rfl, Or.inl rfl, Or.inl rfl, Or.inl rfl, Or.inl rfl, Or.inl rfl, Or.inl rfl, Or.inr ⟨rfl, rfl⟩, Or.inl rfl, Or.inl rfl, Or.inl rfl, trivial⟩ ?_
        cases h
        exact k0
      · refine x_ifeqF r293_380 c168 rfl ?_
        refine x_ld (v := .ref 0) r293_383 rfl rfl rfl ?_
        refine x_ld (v := .int v7) r293_384 rfl rfl rfl ?_
        refine x_ic (v := 0) r293_386 rfl rfl ?_
        obtain ⟨q169, h170, h⟩ := am_ltE h
        replace h170 := h170.symm
        obtain ⟨x171, h172, h⟩ := Option.bind_eq_some_iff.mp h
        refine m_call1 (as := [.ref 0, .int v7, .int (0 : Int32)]) (rest := []) ht r293_387 rfl rfl rfl (by decide) (Nat.le_of_ble_eq_true rfl) (m20_okv h170 h172) (Nat.le_trans (by decide) hd) rfl ?_
        refine x_sto (lc' := [.ref 0, .ref (106 + t.length), .ref (107 + t.length), .int v3, .int v4, .int v5, .int v6, .int v7, .int x171, am_dead, am_dead]) r293_390 rfl rfl rfl rfl ?_
        refine x_ld (v := .int v5) r293_392 rfl rfl rfl ?_
        refine x_ic (v := 1) r293_394 rfl rfl ?_
        refine x_ld (v := .ref 0) r293_395 rfl rfl rfl ?_
        refine x_ld (v := .int v7) r293_396 rfl rfl rfl ?_
        refine x_ic (v := 3) r293_398 rfl rfl ?_
        obtain ⟨q173, h174, h⟩ := am_ltE h
        replace h174 := h174.symm
        obtain ⟨x175, h176, h⟩ := Option.bind_eq_some_iff.mp h
        refine m_call1 (as := [.ref 0, .int v7, .int (3 : Int32)]) (rest := [.int (1 : Int32), .int v5]) ht r293_399 rfl rfl rfl (by decide) (Nat.le_of_ble_eq_true rfl) (m20_okv h174 h176) (Nat.le_trans (by decide) hd) rfl ?_
        refine x_bi (v := 30) r293_402 rfl rfl ?_
        refine x_ar r293_404 rfl (by decide) rfl ?_
        refine x_ar r293_405 rfl trivial rfl ?_
        refine x_ar r293_406 rfl trivial rfl ?_
        obtain ⟨x177, e178, h⟩ := am_ltE h
        refine am_topI e178 ?_
        refine x_sto (lc' := [.ref 0, .ref (106 + t.length), .ref (107 + t.length), .int v3, .int v4, .int x177, .int v6, .int v7, .int x171, am_dead, am_dead]) r293_407 rfl rfl rfl rfl ?_
        refine x_ld (v := .ref 0) r293_409 rfl rfl rfl ?_
        refine x_ld (v := .int v7) r293_410 rfl rfl rfl ?_
        refine x_ic (v := 1) r293_412 rfl rfl ?_
        obtain ⟨q179, h180, h⟩ := am_ltE h
        replace h180 := h180.symm
        obtain ⟨x181, h182, h⟩ := Option.bind_eq_some_iff.mp h
        refine m_call1 (as := [.ref 0, .int v7, .int (1 : Int32)]) (rest := []) ht r293_413 rfl rfl rfl (by decide) (Nat.le_of_ble_eq_true rfl) (m20_okv h180 h182) (Nat.le_trans (by decide) hd) rfl ?_
        refine x_ld (v := .ref 0) r293_416 rfl rfl rfl ?_
        refine x_ld (v := .int v7) r293_417 rfl rfl rfl ?_
        refine x_ic (v := 2) r293_419 rfl rfl ?_
        obtain ⟨q183, h184, h⟩ := am_ltE h
        replace h184 := h184.symm
        obtain ⟨x185, h186, h⟩ := Option.bind_eq_some_iff.mp h
        refine m_call1 (as := [.ref 0, .int v7, .int (2 : Int32)]) (rest := [.int x181]) ht r293_420 rfl rfl rfl (by decide) (Nat.le_of_ble_eq_true rfl) (m20_okv h184 h186) (Nat.le_trans (by decide) hd) rfl ?_
        refine x_ar r293_423 rfl trivial rfl ?_
        refine x_ld (v := .ref 0) r293_424 rfl rfl rfl ?_
        refine x_ld (v := .int x171) r293_425 rfl rfl rfl ?_
        refine x_ic (v := 2) r293_427 rfl rfl ?_
        obtain ⟨q187, h188, h⟩ := Option.bind_eq_some_iff.mp h
        obtain ⟨x189, h190, h⟩ := Option.bind_eq_some_iff.mp h
        refine m_call1 (as := [.ref 0, .int x171, .int (2 : Int32)]) (rest := [.int (x181 + x185)]) ht r293_428 rfl rfl rfl (by decide) (Nat.le_of_ble_eq_true rfl) (m18_okv h188 h190) (Nat.le_trans (by decide) hd) rfl ?_
        obtain ⟨q191, h193, h⟩ := Option.bind_eq_some_iff.mp h
        have kj192 : am_X xs L 293 d 2 12 523 [.ref 0, .ref (106 + t.length), .ref (107 + t.length), .int v3, .int v4, .int x177, .int v6, .int v7, .int x171, am_dead, am_dead] [.int q191] (am_mh t D) 2 12 Q := by
          refine x_sto (lc' := [.ref 0, .ref (106 + t.length), .ref (107 + t.length), .int v3, .int v4, .int x177, .int q191, .int v7, .int x171, am_dead, am_dead]) r293_523 rfl rfl rfl rfl ?_
          obtain ⟨x289, e290, h⟩ := am_ltE h
          refine x_sto (lc' := [.ref 0, .ref (106 + t.length), .ref (107 + t.length), .int v3, .int v4, .int x177, .int q191, .int x289, .int x171, am_dead, am_dead]) r293_525 rfl rfl (by subst e290; rfl) rfl ?_
          refine x_goto r293_528 ?_
          exact x_forget (lc0 := [.ref 0, .ref (106 + t.length), .ref (107 + t.length), .int v3, .int v4, .int x177, .int q191, .int x289, am_dead, am_dead, am_dead]) ⟨Or.inl rfl, Or.inl rfl, Or.inl rfl, Or.inl rfl, Or.inl rfl, Or.inl rfl, Or.inl rfl, Or.inl rfl, Or.inr ⟨rfl, rfl⟩, Or.inl rfl, Or.inl rfl, trivial⟩ (ih x177 q191 x289 h k0)
        rcases am_ifE h193 with ⟨c194, h193⟩ | ⟨c194, h193⟩
        · refine x_icneT r293_431 c194 rfl ?_
          refine x_ld (v := .ref 0) r293_434 rfl rfl rfl ?_
          refine x_ld (v := .int v7) r293_435 rfl rfl rfl ?_
          refine x_ic (v := 1) r293_437 rfl rfl ?_
          obtain ⟨q195, h196, h193⟩ := am_ltE h193
          replace h196 := h196.symm
          obtain ⟨x197, h198, h193⟩ := Option.bind_eq_some_iff.mp h193
          refine m_call1 (as := [.ref 0, .int v7, .int (1 : Int32)]) (rest := []) ht r293_438 rfl rfl rfl (by decide) (Nat.le_of_ble_eq_true rfl) (m20_okv h196 h198) (Nat.le_trans (by decide) hd) rfl ?_
          refine x_ld (v := .ref 0) r293_441 rfl rfl rfl ?_
          refine x_ld (v := .int x171) r293_442 rfl rfl rfl ?_
          refine x_ic (v := 0) r293_444 rfl rfl ?_
          obtain ⟨q199, h200, h193⟩ := Option.bind_eq_some_iff.mp h193
          obtain ⟨x201, h202, h193⟩ := Option.bind_eq_some_iff.mp h193
          refine m_call1 (as := [.ref 0, .int x171, .int (0 : Int32)]) (rest := [.int x197]) ht r293_445 rfl rfl rfl (by decide) (Nat.le_of_ble_eq_true rfl) (m18_okv h200 h202) (Nat.le_trans (by decide) hd) rfl ?_
          rcases am_ifE h193 with ⟨c203, h193⟩ | ⟨c203, h193⟩
          · refine x_iceqT r293_448 c203 ?_
            refine x_ld (v := .int v7) r293_468 rfl rfl rfl ?_
            rcases am_ifE h193 with ⟨c204, h193⟩ | ⟨c204, h193⟩
            · refine x_ifeqT r293_470 c204 ?_
              refine x_ld (v := .ref 0) r293_492 rfl rfl rfl ?_
              refine x_ld (v := .int v7) r293_493 rfl rfl rfl ?_
              refine x_ic (v := 3) r293_495 rfl rfl ?_
              obtain ⟨q205, h206, h193⟩ := am_ltE h193
              replace h206 := h206.symm
              obtain ⟨x207, h208, h193⟩ := Option.bind_eq_some_iff.mp h193
              refine m_call1 (as := [.ref 0, .int v7, .int (3 : Int32)]) (rest := []) ht r293_496 rfl rfl rfl (by decide) (Nat.le_of_ble_eq_true rfl) (m20_okv h206 h208) (Nat.le_trans (by decide) hd) rfl ?_
              refine x_ic (v := 1) r293_499 rfl rfl ?_
              rcases am_ifE h193 with ⟨c209, h193⟩ | ⟨c209, h193⟩
              · refine x_icltT r293_500 c209 ?_
                refine x_ic (v := 0) r293_522 rfl rfl ?_
                cases h193
                exact kj192
              · refine x_icltF r293_500 c209 rfl ?_
                refine x_ld (v := .ref 0) r293_503 rfl rfl rfl ?_
                refine x_ld (v := .int v7) r293_504 rfl rfl rfl ?_
                refine x_ic (v := 3) r293_506 rfl rfl ?_
                obtain ⟨q210, h211, h193⟩ := am_ltE h193
                replace h211 := h211.symm
                obtain ⟨x212, h213, h193⟩ := Option.bind_eq_some_iff.mp h193
                refine m_call1 (as := [.ref 0, .int v7, .int (3 : Int32)]) (rest := []) ht r293_507 rfl rfl rfl (by decide) (Nat.le_of_ble_eq_true rfl) (m20_okv h211 h213) (Nat.le_trans (by decide) hd) rfl ?_
                refine x_ld (v := .ref 0) r293_510 rfl rfl rfl ?_
                refine x_ic (v := 3) r293_511 rfl rfl ?_
                obtain ⟨q214, h215, h193⟩ := Option.bind_eq_some_iff.mp h193
                obtain ⟨x216, h217, h193⟩ := Option.bind_eq_some_iff.mp h193
                refine m_call1 (as := [.ref 0, .int (3 : Int32)]) (rest := [.int x212]) ht r293_512 rfl rfl rfl (by decide) (Nat.le_of_ble_eq_true rfl) (m22_okv h215 h217) (Nat.le_trans (by decide) hd) rfl ?_
                rcases am_ifE h193 with ⟨c218, h193⟩ | ⟨c218, h193⟩
                · refine x_icgtT r293_515 c218 ?_
                  refine x_ic (v := 0) r293_522 rfl rfl ?_
                  cases h193
                  exact kj192
                · refine x_icgtF r293_515 c218 rfl ?_
                  refine x_ic (v := 1) r293_518 rfl rfl ?_
                  refine x_goto r293_519 ?_
                  cases h193
                  exact kj192
            · refine x_ifeqF r293_470 c204 rfl ?_
              refine x_ld (v := .ref 0) r293_473 rfl rfl rfl ?_
              refine x_ld (v := .int v7) r293_474 rfl rfl rfl ?_
              refine x_ic (v := 1) r293_476 rfl rfl ?_
              obtain ⟨q219, h220, h193⟩ := am_ltE h193
              replace h220 := h220.symm
              obtain ⟨x221, h222, h193⟩ := Option.bind_eq_some_iff.mp h193
              refine m_call1 (as := [.ref 0, .int v7, .int (1 : Int32)]) (rest := []) ht r293_477 rfl rfl rfl (by decide) (Nat.le_of_ble_eq_true rfl) (m20_okv h220 h222) (Nat.le_trans (by decide) hd) rfl ?_
              refine x_ld (v := .ref 0) r293_480 rfl rfl rfl ?_
              refine x_ld (v := .int v7) r293_481 rfl rfl rfl ?_
              refine x_ic (v := 1) r293_483 rfl rfl ?_
              refine x_ar r293_484 rfl trivial rfl ?_
              refine x_ic (v := 2) r293_485 rfl rfl ?_
              obtain ⟨q223, h224, h193⟩ := am_ltE h193
              replace h224 := h224.symm
              obtain ⟨x225, h226, h193⟩ := Option.bind_eq_some_iff.mp h193
              refine m_call1 (as := [.ref 0, .int (v7 - (1 : Int32)), .int (2 : Int32)]) (rest := [.int x221]) ht r293_486 rfl rfl rfl (by decide) (Nat.le_of_ble_eq_true rfl) (m20_okv h224 h226) (Nat.le_trans (by decide) hd) rfl ?_
              rcases am_ifE h193 with ⟨c227, h193⟩ | ⟨c227, h193⟩
              · refine x_icneT r293_489 c227 rfl ?_
                refine x_ld (v := .ref 0) r293_492 rfl rfl rfl ?_
                refine x_ld (v := .int v7) r293_493 rfl rfl rfl ?_
                refine x_ic (v := 3) r293_495 rfl rfl ?_
                obtain ⟨q228, h229, h193⟩ := am_ltE h193
                replace h229 := h229.symm
                obtain ⟨x230, h231, h193⟩ := Option.bind_eq_some_iff.mp h193
                refine m_call1 (as := [.ref 0, .int v7, .int (3 : Int32)]) (rest := []) ht r293_496 rfl rfl rfl (by decide) (Nat.le_of_ble_eq_true rfl) (m20_okv h229 h231) (Nat.le_trans (by decide) hd) rfl ?_
                refine x_ic (v := 1) r293_499 rfl rfl ?_
                rcases am_ifE h193 with ⟨c232, h193⟩ | ⟨c232, h193⟩
                · refine x_icltT r293_500 c232 ?_
                  refine x_ic (v := 0) r293_522 rfl rfl ?_
                  cases h193
                  exact kj192
                · refine x_icltF r293_500 c232 rfl ?_
                  refine x_ld (v := .ref 0) r293_503 rfl rfl rfl ?_
                  refine x_ld (v := .int v7) r293_504 rfl rfl rfl ?_
                  refine x_ic (v := 3) r293_506 rfl rfl ?_
                  obtain ⟨q233, h234, h193⟩ := am_ltE h193
                  replace h234 := h234.symm
                  obtain ⟨x235, h236, h193⟩ := Option.bind_eq_some_iff.mp h193
                  refine m_call1 (as := [.ref 0, .int v7, .int (3 : Int32)]) (rest := []) ht r293_507 rfl rfl rfl (by decide) (Nat.le_of_ble_eq_true rfl) (m20_okv h234 h236) (Nat.le_trans (by decide) hd) rfl ?_
                  refine x_ld (v := .ref 0) r293_510 rfl rfl rfl ?_
                  refine x_ic (v := 3) r293_511 rfl rfl ?_
                  obtain ⟨q237, h238, h193⟩ := Option.bind_eq_some_iff.mp h193
                  obtain ⟨x239, h240, h193⟩ := Option.bind_eq_some_iff.mp h193
                  refine m_call1 (as := [.ref 0, .int (3 : Int32)]) (rest := [.int x235]) ht r293_512 rfl rfl rfl (by decide) (Nat.le_of_ble_eq_true rfl) (m22_okv h238 h240) (Nat.le_trans (by decide) hd) rfl ?_
                  rcases am_ifE h193 with ⟨c241, h193⟩ | ⟨c241, h193⟩
                  · refine x_icgtT r293_515 c241 ?_
                    refine x_ic (v := 0) r293_522 rfl rfl ?_
                    cases h193
                    exact kj192
                  · refine x_icgtF r293_515 c241 rfl ?_
                    refine x_ic (v := 1) r293_518 rfl rfl ?_
                    refine x_goto r293_519 ?_
                    cases h193
                    exact kj192
              · refine x_icneF r293_489 c227 ?_
                refine x_ic (v := 0) r293_522 rfl rfl ?_
                cases h193
                exact kj192
          · refine x_iceqF r293_448 c203 rfl ?_
            refine x_ld (v := .ref 0) r293_451 rfl rfl rfl ?_
            refine x_ld (v := .int v7) r293_452 rfl rfl rfl ?_
            refine x_ic (v := 1) r293_454 rfl rfl ?_
            obtain ⟨q242, h243, h193⟩ := am_ltE h193
            replace h243 := h243.symm
            obtain ⟨x244, h245, h193⟩ := Option.bind_eq_some_iff.mp h193
            refine m_call1 (as := [.ref 0, .int v7, .int (1 : Int32)]) (rest := []) ht r293_455 rfl rfl rfl (by decide) (Nat.le_of_ble_eq_true rfl) (m20_okv h243 h245) (Nat.le_trans (by decide) hd) rfl ?_
            refine x_ld (v := .ref 0) r293_458 rfl rfl rfl ?_
            refine x_ld (v := .int x171) r293_459 rfl rfl rfl ?_
            refine x_ic (v := 1) r293_461 rfl rfl ?_
            obtain ⟨q246, h247, h193⟩ := Option.bind_eq_some_iff.mp h193
            obtain ⟨x248, h249, h193⟩ := Option.bind_eq_some_iff.mp h193
            refine m_call1 (as := [.ref 0, .int x171, .int (1 : Int32)]) (rest := [.int x244]) ht r293_462 rfl rfl rfl (by decide) (Nat.le_of_ble_eq_true rfl) (m18_okv h247 h249) (Nat.le_trans (by decide) hd) rfl ?_
            rcases am_ifE h193 with ⟨c250, h193⟩ | ⟨c250, h193⟩
            · refine x_icneT r293_465 c250 rfl ?_
              refine x_ld (v := .int v7) r293_468 rfl rfl rfl ?_
              rcases am_ifE h193 with ⟨c251, h193⟩ | ⟨c251, h193⟩
              · refine x_ifeqT r293_470 c251 ?_
                refine x_ld (v := .ref 0) r293_492 rfl rfl rfl ?_
                refine x_ld (v := .int v7) r293_493 rfl rfl rfl ?_
                refine x_ic (v := 3) r293_495 rfl rfl ?_
                obtain ⟨q252, h253, h193⟩ := am_ltE h193
                replace h253 := h253.symm
                obtain ⟨x254, h255, h193⟩ := Option.bind_eq_some_iff.mp h193
                refine m_call1 (as := [.ref 0, .int v7, .int (3 : Int32)]) (rest := []) ht r293_496 rfl rfl rfl (by decide) (Nat.le_of_ble_eq_true rfl) (m20_okv h253 h255) (Nat.le_trans (by decide) hd) rfl ?_
                refine x_ic (v := 1) r293_499 rfl rfl ?_
                rcases am_ifE h193 with ⟨c256, h193⟩ | ⟨c256, h193⟩
                · refine x_icltT r293_500 c256 ?_
                  refine x_ic (v := 0) r293_522 rfl rfl ?_
                  cases h193
                  exact kj192
                · refine x_icltF r293_500 c256 rfl ?_
                  refine x_ld (v := .ref 0) r293_503 rfl rfl rfl ?_
                  refine x_ld (v := .int v7) r293_504 rfl rfl rfl ?_
                  refine x_ic (v := 3) r293_506 rfl rfl ?_
                  obtain ⟨q257, h258, h193⟩ := am_ltE h193
                  replace h258 := h258.symm
                  obtain ⟨x259, h260, h193⟩ := Option.bind_eq_some_iff.mp h193
                  refine m_call1 (as := [.ref 0, .int v7, .int (3 : Int32)]) (rest := []) ht r293_507 rfl rfl rfl (by decide) (Nat.le_of_ble_eq_true rfl) (m20_okv h258 h260) (Nat.le_trans (by decide) hd) rfl ?_
                  refine x_ld (v := .ref 0) r293_510 rfl rfl rfl ?_
                  refine x_ic (v := 3) r293_511 rfl rfl ?_
                  obtain ⟨q261, h262, h193⟩ := Option.bind_eq_some_iff.mp h193
                  obtain ⟨x263, h264, h193⟩ := Option.bind_eq_some_iff.mp h193
                  refine m_call1 (as := [.ref 0, .int (3 : Int32)]) (rest := [.int x259]) ht r293_512 rfl rfl rfl (by decide) (Nat.le_of_ble_eq_true rfl) (m22_okv h262 h264) (Nat.le_trans (by decide) hd) rfl ?_
                  rcases am_ifE h193 with ⟨c265, h193⟩ | ⟨c265, h193⟩
                  · refine x_icgtT r293_515 c265 ?_
                    refine x_ic (v := 0) r293_522 rfl rfl ?_
                    cases h193
                    exact kj192
                  · refine x_icgtF r293_515 c265 rfl ?_
                    refine x_ic (v := 1) r293_518 rfl rfl ?_
                    refine x_goto r293_519 ?_
                    cases h193
                    exact kj192
              · refine x_ifeqF r293_470 c251 rfl ?_
                refine x_ld (v := .ref 0) r293_473 rfl rfl rfl ?_
                refine x_ld (v := .int v7) r293_474 rfl rfl rfl ?_
                refine x_ic (v := 1) r293_476 rfl rfl ?_
                obtain ⟨q266, h267, h193⟩ := am_ltE h193
                replace h267 := h267.symm
                obtain ⟨x268, h269, h193⟩ := Option.bind_eq_some_iff.mp h193
                refine m_call1 (as := [.ref 0, .int v7, .int (1 : Int32)]) (rest := []) ht r293_477 rfl rfl rfl (by decide) (Nat.le_of_ble_eq_true rfl) (m20_okv h267 h269) (Nat.le_trans (by decide) hd) rfl ?_
                refine x_ld (v := .ref 0) r293_480 rfl rfl rfl ?_
                refine x_ld (v := .int v7) r293_481 rfl rfl rfl ?_
                refine x_ic (v := 1) r293_483 rfl rfl ?_
                refine x_ar r293_484 rfl trivial rfl ?_
                refine x_ic (v := 2) r293_485 rfl rfl ?_
                obtain ⟨q270, h271, h193⟩ := am_ltE h193
                replace h271 := h271.symm
                obtain ⟨x272, h273, h193⟩ := Option.bind_eq_some_iff.mp h193
                refine m_call1 (as := [.ref 0, .int (v7 - (1 : Int32)), .int (2 : Int32)]) (rest := [.int x268]) ht r293_486 rfl rfl rfl (by decide) (Nat.le_of_ble_eq_true rfl) (m20_okv h271 h273) (Nat.le_trans (by decide) hd) rfl ?_
                rcases am_ifE h193 with ⟨c274, h193⟩ | ⟨c274, h193⟩
                · refine x_icneT r293_489 c274 rfl ?_
                  refine x_ld (v := .ref 0) r293_492 rfl rfl rfl ?_
                  refine x_ld (v := .int v7) r293_493 rfl rfl rfl ?_
                  refine x_ic (v := 3) r293_495 rfl rfl ?_
                  obtain ⟨q275, h276, h193⟩ := am_ltE h193
                  replace h276 := h276.symm
                  obtain ⟨x277, h278, h193⟩ := Option.bind_eq_some_iff.mp h193
                  refine m_call1 (as := [.ref 0, .int v7, .int (3 : Int32)]) (rest := []) ht r293_496 rfl rfl rfl (by decide) (Nat.le_of_ble_eq_true rfl) (m20_okv h276 h278) (Nat.le_trans (by decide) hd) rfl ?_
                  refine x_ic (v := 1) r293_499 rfl rfl ?_
                  rcases am_ifE h193 with ⟨c279, h193⟩ | ⟨c279, h193⟩
                  · refine x_icltT r293_500 c279 ?_
                    refine x_ic (v := 0) r293_522 rfl rfl ?_
                    cases h193
                    exact kj192
                  · refine x_icltF r293_500 c279 rfl ?_
                    refine x_ld (v := .ref 0) r293_503 rfl rfl rfl ?_
                    refine x_ld (v := .int v7) r293_504 rfl rfl rfl ?_
                    refine x_ic (v := 3) r293_506 rfl rfl ?_
                    obtain ⟨q280, h281, h193⟩ := am_ltE h193
                    replace h281 := h281.symm
                    obtain ⟨x282, h283, h193⟩ := Option.bind_eq_some_iff.mp h193
                    refine m_call1 (as := [.ref 0, .int v7, .int (3 : Int32)]) (rest := []) ht r293_507 rfl rfl rfl (by decide) (Nat.le_of_ble_eq_true rfl) (m20_okv h281 h283) (Nat.le_trans (by decide) hd) rfl ?_
                    refine x_ld (v := .ref 0) r293_510 rfl rfl rfl ?_
                    refine x_ic (v := 3) r293_511 rfl rfl ?_
                    obtain ⟨q284, h285, h193⟩ := Option.bind_eq_some_iff.mp h193
                    obtain ⟨x286, h287, h193⟩ := Option.bind_eq_some_iff.mp h193
                    refine m_call1 (as := [.ref 0, .int (3 : Int32)]) (rest := [.int x282]) ht r293_512 rfl rfl rfl (by decide) (Nat.le_of_ble_eq_true rfl) (m22_okv h285 h287) (Nat.le_trans (by decide) hd) rfl ?_
                    rcases am_ifE h193 with ⟨c288, h193⟩ | ⟨c288, h193⟩
                    · refine x_icgtT r293_515 c288 ?_
                      refine x_ic (v := 0) r293_522 rfl rfl ?_
                      cases h193
                      exact kj192
                    · refine x_icgtF r293_515 c288 rfl ?_
                      refine x_ic (v := 1) r293_518 rfl rfl ?_
                      refine x_goto r293_519 ?_
                      cases h193
                      exact kj192
                · refine x_icneF r293_489 c274 ?_
                  refine x_ic (v := 0) r293_522 rfl rfl ?_
                  cases h193
                  exact kj192
            · refine x_icneF r293_465 c250 ?_
              refine x_ic (v := 0) r293_522 rfl rfl ?_
              cases h193
              exact kj192
        · refine x_icneF r293_431 c194 ?_
          refine x_ic (v := 0) r293_522 rfl rfl ?_
          cases h193
          exact kj192
theorem m293_L622_w {d : Nat} {N : Nat} {v3 : Int32} {v4 : Int32} {Q : am_O → am_AH → Prop} (hd : 56 ≤ d) (ht : t.length ≤ 800000) : ∀ (n : Nat) (D : am_D) (v6 : Int32) (v8 : Int32) {q : Int32 × am_D} (h : m293_L622 N v3 v4  n D v6 v8 = some q) (k0 : am_X xs L 293 d 2 12 749 [.ref 0, .ref (106 + t.length), .ref (107 + t.length), .int v3, .int v4, am_dead, .int q.1, am_dead, am_dead, am_dead, am_dead] [] (am_mh t q.2) 2 12 Q), am_X xs L 293 d 2 12 622 [.ref 0, .ref (106 + t.length), .ref (107 + t.length), .int v3, .int v4, am_dead, .int v6, am_dead, .int v8, am_dead, am_dead] [] (am_mh t D) 2 12 Q := by
  intro n
  induction n with
  | zero =>
    intro D v6 v8 q h k0
    exact (nomatch (show none = some q from h))
  | succ n ih =>
    intro D v6 v8 q h k0
    rw [m293_L622] at h
    refine x_ld (v := .int v8) r293_622 rfl rfl rfl ?_
    refine x_ic (v := 4) r293_624 rfl rfl ?_
    rcases am_ifE h with ⟨c327, h⟩ | ⟨c327, h⟩
    · refine x_icgeT r293_625 c327 ?_
      refine x_forget (lc0 := [.ref 0, .ref (106 + t.length), .ref (107 + t.length), .int v3, .int v4, am_dead, .int v6, am_dead, am_dead, am_dead, am_dead]) ⟨Or.inl rfl, Or.inl rfl, Or.inl rfl, Or.inl rfl, Or.inl rfl, Or.inl rfl, Or.inl rfl, Or.inl rfl, Or.inr ⟨rfl, rfl⟩, Or.inl rfl, Or.inl rfl, trivial⟩ ?_
      cases h
      exact k0
    · refine x_icgeF r293_625 c327 rfl ?_
      refine x_ld (v := .ref 0) r293_628 rfl rfl rfl ?_
      refine x_ld (v := .int v8) r293_629 rfl rfl rfl ?_
      refine x_bi (v := 9) r293_631 rfl rfl ?_
      obtain ⟨q328, h329, h⟩ := Option.bind_eq_some_iff.mp h
      obtain ⟨x330, h331, h⟩ := Option.bind_eq_some_iff.mp h
      refine m_call2 (as := [.ref 0, .int v8, .int (9 : Int32)]) (rest := []) ht r293_633 rfl rfl rfl (by decide) (Nat.le_of_ble_eq_true rfl) (m21_okv h329 h331) (Nat.le_trans (by decide) hd) rfl ?_
      refine x_sto (lc' := [.ref 0, .ref (106 + t.length), .ref (107 + t.length), .int v3, .int v4, am_dead, .int v6, am_dead, .int v8, .int x330, am_dead]) r293_636 rfl rfl rfl rfl ?_
      refine x_ld (v := .int v6) r293_638 rfl rfl rfl ?_
      obtain ⟨q332, h334, h⟩ := Option.bind_eq_some_iff.mp h
      have kj333 : am_X xs L 293 d 2 12 741 [.ref 0, .ref (106 + t.length), .ref (107 + t.length), .int v3, .int v4, am_dead, .int v6, am_dead, .int v8, .int x330, am_dead] [.int q332.1] (am_mh t q332.2) 2 12 Q := by
        refine x_sto (lc' := [.ref 0, .ref (106 + t.length), .ref (107 + t.length), .int v3, .int v4, am_dead, .int q332.1, am_dead, .int v8, .int x330, am_dead]) r293_741 rfl rfl rfl rfl ?_
        obtain ⟨x372, e373, h⟩ := am_ltE h
        refine x_sto (lc' := [.ref 0, .ref (106 + t.length), .ref (107 + t.length), .int v3, .int v4, am_dead, .int q332.1, am_dead, .int x372, .int x330, am_dead]) r293_743 rfl rfl (by subst e373; rfl) rfl ?_
        refine x_goto r293_746 ?_
        exact x_forget (lc0 := [.ref 0, .ref (106 + t.length), .ref (107 + t.length), .int v3, .int v4, am_dead, .int q332.1, am_dead, .int x372, am_dead, am_dead]) ⟨Or.inl rfl, Or.inl rfl, Or.inl rfl, Or.inl rfl, Or.inl rfl, Or.inl rfl, Or.inl rfl, Or.inl rfl, Or.inl rfl, Or.inr ⟨rfl, rfl⟩, Or.inl rfl, trivial⟩ (ih q332.2 q332.1 x372 h k0)
      rcases am_ifE h334 with ⟨c335, h334⟩ | ⟨c335, h334⟩
      · refine x_ifeqT r293_640 c335 ?_
        refine x_ic (v := 0) r293_740 rfl rfl ?_
        cases h334
        exact kj333
      · refine x_ifeqF r293_640 c335 rfl ?_
        refine x_ld (v := .ref 0) r293_643 rfl rfl rfl ?_
        refine x_ld (v := .int v8) r293_644 rfl rfl rfl ?_
        refine x_ic (v := 0) r293_646 rfl rfl ?_
        obtain ⟨q336, h337, h334⟩ := Option.bind_eq_some_iff.mp h334
        obtain ⟨x338, h339, h334⟩ := Option.bind_eq_some_iff.mp h334
        refine m_call2 (as := [.ref 0, .int v8, .int (0 : Int32)]) (rest := []) ht r293_647 rfl rfl rfl (by decide) (Nat.le_of_ble_eq_true rfl) (m21_okv h337 h339) (Nat.le_trans (by decide) hd) rfl ?_
        refine x_ld (v := .ref (107 + t.length)) r293_650 rfl rfl rfl ?_
        refine x_ld (v := .int v8) r293_651 rfl rfl rfl ?_
        obtain ⟨g340, h334⟩ := am_gdE h334
        refine m_ial1 r293_653 g340 rfl rfl ?_
        rcases am_ifE h334 with ⟨c341, h334⟩ | ⟨c341, h334⟩
        · refine x_icneT r293_654 c341 rfl ?_
          refine x_ld (v := .ref (107 + t.length)) r293_657 rfl rfl rfl ?_
          refine x_ld (v := .int v8) r293_658 rfl rfl rfl ?_
          obtain ⟨g342, h334⟩ := am_gdE h334
          refine m_ial1 r293_660 g342 rfl rfl ?_
          refine x_bi (v := 7) r293_661 rfl rfl ?_
          rcases am_ifE h334 with ⟨c343, h334⟩ | ⟨c343, h334⟩
          · refine x_icgtT r293_663 c343 ?_
            refine x_ic (v := 0) r293_740 rfl rfl ?_
            cases h334
            exact kj333
          · refine x_icgtF r293_663 c343 rfl ?_
            refine x_ld (v := .ref 0) r293_666 rfl rfl rfl ?_
            refine x_ld (v := .int v8) r293_667 rfl rfl rfl ?_
            refine x_ic (v := 1) r293_669 rfl rfl ?_
            obtain ⟨q344, h345, h334⟩ := Option.bind_eq_some_iff.mp h334
            obtain ⟨x346, h347, h334⟩ := Option.bind_eq_some_iff.mp h334
            refine m_call2 (as := [.ref 0, .int v8, .int (1 : Int32)]) (rest := []) ht r293_670 rfl rfl rfl (by decide) (Nat.le_of_ble_eq_true rfl) (m21_okv h345 h347) (Nat.le_trans (by decide) hd) rfl ?_
            refine x_ld (v := .ref (106 + t.length)) r293_673 rfl rfl rfl ?_
            refine x_ld (v := .int v8) r293_674 rfl rfl rfl ?_
            obtain ⟨g348, h334⟩ := am_gdE h334
            refine m_ial0 r293_676 g348 rfl rfl ?_
            rcases am_ifE h334 with ⟨c349, h334⟩ | ⟨c349, h334⟩
            · refine x_icneT r293_677 c349 rfl ?_
              refine x_ld (v := .int x330) r293_680 rfl rfl rfl ?_
              refine x_ld (v := .ref (107 + t.length)) r293_682 rfl rfl rfl ?_
              refine x_ld (v := .int v8) r293_683 rfl rfl rfl ?_
              obtain ⟨g350, h334⟩ := am_gdE h334
              refine m_ial1 r293_685 g350 rfl rfl ?_
              rcases am_ifE h334 with ⟨c351, h334⟩ | ⟨c351, h334⟩
              · refine x_icgtT r293_686 c351 ?_
                refine x_ic (v := 0) r293_740 rfl rfl ?_
                cases h334
                exact kj333
              · refine x_icgtF r293_686 c351 rfl ?_
                refine x_ld (v := .int x330) r293_689 rfl rfl rfl ?_
                obtain ⟨q352, h354, h334⟩ := am_ltE h334
                replace h354 := h354.symm
                have kj353 : am_X xs L 293 d 2 12 699 [.ref 0, .ref (106 + t.length), .ref (107 + t.length), .int v3, .int v4, am_dead, .int v6, am_dead, .int v8, .int x330, am_dead] [.int q352] (am_mh t (u_kr q344.2 (u_kr q336.2 (u_kr q328.2 D)))) 2 12 Q := by
                  refine x_ld (v := .ref (107 + t.length)) r293_699 rfl rfl rfl ?_
                  refine x_ld (v := .int v8) r293_700 rfl rfl rfl ?_
                  obtain ⟨g356, h334⟩ := am_gdE h334
                  refine m_ial1 r293_702 g356 rfl rfl ?_
                  obtain ⟨q357, h359, h334⟩ := am_ltE h334
                  replace h359 := h359.symm
                  have kj358 : am_X xs L 293 d 2 12 711 [.ref 0, .ref (106 + t.length), .ref (107 + t.length), .int v3, .int v4, am_dead, .int v6, am_dead, .int v8, .int x330, am_dead] [.int q357, .int q352] (am_mh t (u_kr q344.2 (u_kr q336.2 (u_kr q328.2 D)))) 2 12 Q := by
                    rcases am_ifE h334 with ⟨c361, h334⟩ | ⟨c361, h334⟩
                    · refine x_icneT r293_711 c361 rfl ?_
                      refine x_ld (v := .ref 0) r293_714 rfl rfl rfl ?_
                      refine x_ld (v := .int v8) r293_715 rfl rfl rfl ?_
                      refine x_ic (v := 2) r293_717 rfl rfl ?_
                      obtain ⟨q362, h363, h334⟩ := Option.bind_eq_some_iff.mp h334
                      obtain ⟨x364, h365, h334⟩ := Option.bind_eq_some_iff.mp h334
                      refine m_call2 (as := [.ref 0, .int v8, .int (2 : Int32)]) (rest := []) ht r293_718 rfl rfl rfl (by decide) (Nat.le_of_ble_eq_true rfl) (m21_okv h363 h365) (Nat.le_trans (by decide) hd) rfl ?_
                      rcases am_ifE h334 with ⟨c366, h334⟩ | ⟨c366, h334⟩
                      · refine x_ifltT r293_721 c366 ?_
                        refine x_ic (v := 0) r293_740 rfl rfl ?_
                        cases h334
                        exact kj333
                      · refine x_ifltF r293_721 c366 rfl ?_
                        refine x_ld (v := .ref 0) r293_724 rfl rfl rfl ?_
                        refine x_ld (v := .int v8) r293_725 rfl rfl rfl ?_
                        refine x_ic (v := 2) r293_727 rfl rfl ?_
                        obtain ⟨q367, h368, h334⟩ := Option.bind_eq_some_iff.mp h334
                        obtain ⟨x369, h370, h334⟩ := Option.bind_eq_some_iff.mp h334
                        refine m_call2 (as := [.ref 0, .int v8, .int (2 : Int32)]) (rest := []) ht r293_728 rfl rfl rfl (by decide) (Nat.le_of_ble_eq_true rfl) (m21_okv h368 h370) (Nat.le_trans (by decide) hd) rfl ?_
                        refine x_bi (v := 60) r293_731 rfl rfl ?_
                        rcases am_ifE h334 with ⟨c371, h334⟩ | ⟨c371, h334⟩
                        · refine x_icgtT r293_733 c371 ?_
                          refine x_ic (v := 0) r293_740 rfl rfl ?_
                          cases h334
                          exact kj333
                        · refine x_icgtF r293_733 c371 rfl ?_
                          refine x_ic (v := 1) r293_736 rfl rfl ?_
                          refine x_goto r293_737 ?_
                          cases h334
                          exact kj333
                    · refine x_icneF r293_711 c361 ?_
                      refine x_ic (v := 0) r293_740 rfl rfl ?_
                      cases h334
                      exact kj333
                  rcases am_ifE h359 with ⟨c360, h359⟩ | ⟨c360, h359⟩
                  · refine x_ifleT r293_703 c360 ?_
                    refine x_ic (v := 0) r293_710 rfl rfl ?_
                    subst h359
                    exact kj358
                  · refine x_ifleF r293_703 c360 rfl ?_
                    refine x_ic (v := 1) r293_706 rfl rfl ?_
                    refine x_goto r293_707 ?_
                    subst h359
                    exact kj358
                rcases am_ifE h354 with ⟨c355, h354⟩ | ⟨c355, h354⟩
                · refine x_ifleT r293_691 c355 ?_
                  refine x_ic (v := 0) r293_698 rfl rfl ?_
                  subst h354
                  exact kj353
                · refine x_ifleF r293_691 c355 rfl ?_
                  refine x_ic (v := 1) r293_694 rfl rfl ?_
                  refine x_goto r293_695 ?_
                  subst h354
                  exact kj353
            · refine x_icneF r293_677 c349 ?_
              refine x_ic (v := 0) r293_740 rfl rfl ?_
              cases h334
              exact kj333
        · refine x_icneF r293_654 c341 ?_
          refine x_ic (v := 0) r293_740 rfl rfl ?_
          cases h334
          exact kj333
theorem m293_w {d : Nat} {N : Nat} {D : am_D} {Q : am_O → am_AH → Prop} (ht : t.length ≤ 800000) (hd : 56 ≤ d) {r : Int32 × am_D} (h : m293 N D = some r) (hQ : Q (.inl (some (.int r.1))) (am_mh t r.2)) : am_X xs L 293 d 2 12 10 [.ref 0, .ref (106 + t.length), .ref (107 + t.length), am_dead, am_dead, am_dead, am_dead, am_dead, am_dead, am_dead, am_dead] [] (am_mh t D) 2 12 Q := by
  unfold m293 at h
  refine x_ic (v := 0) r293_10 rfl rfl ?_
  refine x_sto (lc' := [.ref 0, .ref (106 + t.length), .ref (107 + t.length), .int (0 : Int32), am_dead, am_dead, am_dead, am_dead, am_dead, am_dead, am_dead]) r293_11 rfl rfl rfl rfl ?_
  refine x_ic (v := 0) r293_12 rfl rfl ?_
  refine x_sto (lc' := [.ref 0, .ref (106 + t.length), .ref (107 + t.length), .int (0 : Int32), .int (0 : Int32), am_dead, am_dead, am_dead, am_dead, am_dead, am_dead]) r293_13 rfl rfl rfl rfl ?_
  refine x_ic (v := 0) r293_15 rfl rfl ?_
  refine x_sto (lc' := [.ref 0, .ref (106 + t.length), .ref (107 + t.length), .int (0 : Int32), .int (0 : Int32), .int (0 : Int32), am_dead, am_dead, am_dead, am_dead, am_dead]) r293_16 rfl rfl rfl rfl ?_
  refine x_ic (v := 1) r293_18 rfl rfl ?_
  refine x_sto (lc' := [.ref 0, .ref (106 + t.length), .ref (107 + t.length), .int (0 : Int32), .int (0 : Int32), .int (0 : Int32), .int (1 : Int32), am_dead, am_dead, am_dead, am_dead]) r293_19 rfl rfl rfl rfl ?_
  refine x_ic (v := 0) r293_21 rfl rfl ?_
  refine x_sto (lc' := [.ref 0, .ref (106 + t.length), .ref (107 + t.length), .int (0 : Int32), .int (0 : Int32), .int (0 : Int32), .int (1 : Int32), .int (0 : Int32), am_dead, am_dead, am_dead]) r293_22 rfl rfl rfl rfl ?_
  obtain ⟨q161, h162, h⟩ := Option.bind_eq_some_iff.mp h
  refine x_forget (lc0 := [.ref 0, .ref (106 + t.length), .ref (107 + t.length), .int (0 : Int32), .int (0 : Int32), .int (0 : Int32), .int (1 : Int32), .int (0 : Int32), am_dead, am_dead, am_dead]) ⟨Or.inl rfl, Or.inl rfl, Or.inl rfl, Or.inl rfl, Or.inl rfl, Or.inl rfl, Or.inl rfl, Or.inl rfl, Or.inl rfl, Or.inl rfl, Or.inl rfl, trivial⟩ (m293_L24_w hd ht N D (0 : Int32) (0 : Int32) (1 : Int32) (0 : Int32) h162 ?_)
  refine x_ic (v := 0) r293_365 rfl rfl ?_
  refine x_sto (lc' := [.ref 0, .ref (106 + t.length), .ref (107 + t.length), .int q161.1, .int q161.2.1, .int (0 : Int32), .int q161.2.2.1, .int (0 : Int32), am_dead, am_dead, am_dead]) r293_366 rfl rfl rfl rfl ?_
  obtain ⟨q291, h292, h⟩ := Option.bind_eq_some_iff.mp h
  refine x_forget (lc0 := [.ref 0, .ref (106 + t.length), .ref (107 + t.length), .int q161.1, .int q161.2.1, .int (0 : Int32), .int q161.2.2.1, .int (0 : Int32), am_dead, am_dead, am_dead]) ⟨Or.inl rfl, Or.inl rfl, Or.inl rfl, Or.inl rfl, Or.inl rfl, Or.inl rfl, Or.inl rfl, Or.inl rfl, Or.inl rfl, Or.inl rfl, Or.inl rfl, trivial⟩ (m293_L368_w hd ht N (0 : Int32) q161.2.2.1 (0 : Int32) h292 ?_)
  refine x_ld (v := .ref 0) r293_531 rfl rfl rfl ?_
  refine x_ic (v := 3) r293_532 rfl rfl ?_
  obtain ⟨q293, h294, h⟩ := Option.bind_eq_some_iff.mp h
  obtain ⟨x295, h296, h⟩ := Option.bind_eq_some_iff.mp h
  refine m_call1 (as := [.ref 0, .int (3 : Int32)]) (rest := []) ht r293_533 rfl rfl rfl (by decide) (Nat.le_of_ble_eq_true rfl) (m22_okv h294 h296) (Nat.le_trans (by decide) hd) rfl ?_
  refine x_sto (lc' := [.ref 0, .ref (106 + t.length), .ref (107 + t.length), .int q161.1, .int q161.2.1, .int q291.1, .int q291.2, .int x295, am_dead, am_dead, am_dead]) r293_536 rfl rfl rfl rfl ?_
  refine x_ld (v := .int q291.2) r293_538 rfl rfl rfl ?_
  obtain ⟨q297, h299, h⟩ := Option.bind_eq_some_iff.mp h
  have kj298 : am_X xs L 293 d 2 12 617 [.ref 0, .ref (106 + t.length), .ref (107 + t.length), .int q161.1, .int q161.2.1, .int q291.1, .int q291.2, .int x295, am_dead, am_dead, am_dead] [.int q297] (am_mh t q161.2.2.2) 2 12 Q := by
    refine x_sto (lc' := [.ref 0, .ref (106 + t.length), .ref (107 + t.length), .int q161.1, .int q161.2.1, .int q291.1, .int q297, .int x295, am_dead, am_dead, am_dead]) r293_617 rfl rfl rfl rfl ?_
    refine x_ic (v := 0) r293_619 rfl rfl ?_
    refine x_sto (lc' := [.ref 0, .ref (106 + t.length), .ref (107 + t.length), .int q161.1, .int q161.2.1, .int q291.1, .int q297, .int x295, .int (0 : Int32), am_dead, am_dead]) r293_620 rfl rfl rfl rfl ?_
    obtain ⟨q374, h375, h⟩ := Option.bind_eq_some_iff.mp h
    refine x_forget (lc0 := [.ref 0, .ref (106 + t.length), .ref (107 + t.length), .int q161.1, .int q161.2.1, am_dead, .int q297, am_dead, .int (0 : Int32), am_dead, am_dead]) ⟨Or.inl rfl, Or.inl rfl, Or.inl rfl, Or.inl rfl, Or.inl rfl, Or.inr ⟨rfl, rfl⟩, Or.inl rfl, Or.inr ⟨rfl, rfl⟩, Or.inl rfl, Or.inl rfl, Or.inl rfl, trivial⟩ (m293_L622_w hd ht N q161.2.2.2 q297 (0 : Int32) h375 ?_)
    refine x_ld (v := .ref 0) r293_749 rfl rfl rfl ?_
    refine x_ic (v := 1) r293_750 rfl rfl ?_
    obtain ⟨q376, h377, h⟩ := Option.bind_eq_some_iff.mp h
    obtain ⟨x378, h379, h⟩ := Option.bind_eq_some_iff.mp h
    refine m_call1 (as := [.ref 0, .int (1 : Int32)]) (rest := []) ht r293_751 rfl rfl rfl (by decide) (Nat.le_of_ble_eq_true rfl) (m22_okv h377 h379) (Nat.le_trans (by decide) hd) rfl ?_
    refine x_sto (lc' := [.ref 0, .ref (106 + t.length), .ref (107 + t.length), .int q161.1, .int q161.2.1, am_dead, .int q374.1, am_dead, .int x378, am_dead, am_dead]) r293_754 rfl rfl rfl rfl ?_
    refine x_ld (v := .int q374.1) r293_756 rfl rfl rfl ?_
    obtain ⟨q380, h382, h⟩ := Option.bind_eq_some_iff.mp h
    have kj381 : am_X xs L 293 d 2 12 827 [.ref 0, .ref (106 + t.length), .ref (107 + t.length), .int q161.1, .int q161.2.1, am_dead, .int q374.1, am_dead, .int x378, am_dead, am_dead] [.int q380] (am_mh t q374.2) 2 12 Q := by
      refine x_sto (lc' := [.ref 0, .ref (106 + t.length), .ref (107 + t.length), .int q161.1, .int q161.2.1, am_dead, .int q380, am_dead, .int x378, am_dead, am_dead]) r293_827 rfl rfl rfl rfl ?_
      refine x_ld (v := .int q380) r293_829 rfl rfl rfl ?_
      rcases am_ifE h with ⟨c429, h⟩ | ⟨c429, h⟩
      · refine x_ifeqT r293_831 c429 ?_
        refine x_ic (v := 0) r293_895 rfl rfl ?_
        cases h
        exact x_ret (ret := some .boolean) (C := narrow .boolean (.int (0 : Int32)) = .int (0 : Int32)) (v := some (.int (0 : Int32))) r293_896 rt293 rfl rfl rfl rfl rfl rfl rfl rfl (by decide) hQ
      · refine x_ifeqF r293_831 c429 rfl ?_
        refine x_ld (v := .ref 0) r293_834 rfl rfl rfl ?_
        refine x_ic (v := 0) r293_835 rfl rfl ?_
        obtain ⟨q430, h431, h⟩ := Option.bind_eq_some_iff.mp h
        obtain ⟨x432, h433, h⟩ := Option.bind_eq_some_iff.mp h
        refine m_call1 (as := [.ref 0, .int (0 : Int32)]) (rest := []) ht r293_836 rfl rfl rfl (by decide) (Nat.le_of_ble_eq_true rfl) (m22_okv h431 h433) (Nat.le_trans (by decide) hd) rfl ?_
        refine x_ic (v := 1) r293_839 rfl rfl ?_
        rcases am_ifE h with ⟨c434, h⟩ | ⟨c434, h⟩
        · refine x_icneT r293_840 c434 rfl ?_
          refine x_ld (v := .int q161.2.1) r293_843 rfl rfl rfl ?_
          refine x_bi (v := 10) r293_845 rfl rfl ?_
          rcases am_ifE h with ⟨c435, h⟩ | ⟨c435, h⟩
          · refine x_icltT r293_847 c435 ?_
            refine x_ld (v := .ref 0) r293_868 rfl rfl rfl ?_
            obtain ⟨q436, h437, h⟩ := Option.bind_eq_some_iff.mp h
            refine m_call1 (as := [.ref 0]) (rest := []) ht r293_869 rfl rfl rfl (by decide) (Nat.le_of_ble_eq_true rfl) (m30_ok h437) (Nat.le_trans (by decide) hd) rfl ?_
            refine x_ld (v := .int q161.2.1) r293_872 rfl rfl rfl ?_
            obtain ⟨q438, h440, h⟩ := Option.bind_eq_some_iff.mp h
            have kj439 : am_X xs L 293 d 2 12 887 [.ref 0, .ref (106 + t.length), .ref (107 + t.length), .int q161.1, .int q161.2.1, am_dead, .int q380, am_dead, .int x378, am_dead, am_dead] [.float q438, .float q436] (am_mh t q374.2) 2 12 Q := by
              refine x_ar r293_887 rfl trivial rfl ?_
              rcases am_ifE h with ⟨c443, h⟩ | ⟨c443, h⟩
              · refine x_ifneT r293_888 c443 rfl ?_
                refine x_ic (v := 1) r293_891 rfl rfl ?_
                refine x_goto r293_892 ?_
                cases h
                exact x_ret (ret := some .boolean) (C := narrow .boolean (.int (1 : Int32)) = .int (1 : Int32)) (v := some (.int (1 : Int32))) r293_896 rt293 rfl rfl rfl rfl rfl rfl rfl rfl (by decide) hQ
              · refine x_ifneF r293_888 c443 ?_
                refine x_ic (v := 0) r293_895 rfl rfl ?_
                cases h
                exact x_ret (ret := some .boolean) (C := narrow .boolean (.int (0 : Int32)) = .int (0 : Int32)) (v := some (.int (0 : Int32))) r293_896 rt293 rfl rfl rfl rfl rfl rfl rfl rfl (by decide) hQ
            rcases am_ifE h440 with ⟨c441, h440⟩ | ⟨c441, h440⟩
            · refine x_ifneT r293_874 c441 rfl ?_
              refine x_ar r293_877 rfl trivial rfl ?_
              refine x_goto r293_878 ?_
              cases h440
              exact kj439
            · refine x_ifneF r293_874 c441 ?_
              refine x_ld (v := .int q161.1) r293_881 rfl rfl rfl ?_
              refine x_ar r293_882 rfl trivial rfl ?_
              refine x_ld (v := .int q161.2.1) r293_883 rfl rfl rfl ?_
              refine x_ar r293_885 rfl trivial rfl ?_
              obtain ⟨g442, h440⟩ := am_gdE h440
              refine x_ar r293_886 rfl g442 rfl ?_
              cases h440
              exact kj439
          · refine x_icltF r293_847 c435 rfl ?_
            refine x_ld (v := .ref 0) r293_850 rfl rfl rfl ?_
            refine x_ic (v := 0) r293_851 rfl rfl ?_
            obtain ⟨q444, h445, h⟩ := Option.bind_eq_some_iff.mp h
            obtain ⟨x446, h447, h⟩ := Option.bind_eq_some_iff.mp h
            refine m_call2 (as := [.ref 0, .int (0 : Int32)]) (rest := []) ht r293_852 rfl rfl rfl (by decide) (Nat.le_of_ble_eq_true rfl) (m29_okv h445 h447) (Nat.le_trans (by decide) hd) rfl ?_
            refine x_ic (v := -1) r293_855 rfl rfl ?_
            rcases am_ifE h with ⟨c448, h⟩ | ⟨c448, h⟩
            · refine x_icneT r293_856 c448 rfl ?_
              refine x_ld (v := .ref 0) r293_859 rfl rfl rfl ?_
              refine x_ic (v := 1) r293_860 rfl rfl ?_
              obtain ⟨q449, h450, h⟩ := Option.bind_eq_some_iff.mp h
              obtain ⟨x451, h452, h⟩ := Option.bind_eq_some_iff.mp h
              refine m_call2 (as := [.ref 0, .int (1 : Int32)]) (rest := []) ht r293_861 rfl rfl rfl (by decide) (Nat.le_of_ble_eq_true rfl) (m29_okv h450 h452) (Nat.le_trans (by decide) hd) rfl ?_
              refine x_ic (v := -1) r293_864 rfl rfl ?_
              rcases am_ifE h with ⟨c453, h⟩ | ⟨c453, h⟩
              · refine x_icneT r293_865 c453 rfl ?_
                refine x_ld (v := .ref 0) r293_868 rfl rfl rfl ?_
                obtain ⟨q454, h455, h⟩ := Option.bind_eq_some_iff.mp h
                refine m_call1 (as := [.ref 0]) (rest := []) ht r293_869 rfl rfl rfl (by decide) (Nat.le_of_ble_eq_true rfl) (m30_ok h455) (Nat.le_trans (by decide) hd) rfl ?_
                refine x_ld (v := .int q161.2.1) r293_872 rfl rfl rfl ?_
                obtain ⟨q456, h458, h⟩ := Option.bind_eq_some_iff.mp h
                have kj457 : am_X xs L 293 d 2 12 887 [.ref 0, .ref (106 + t.length), .ref (107 + t.length), .int q161.1, .int q161.2.1, am_dead, .int q380, am_dead, .int x378, am_dead, am_dead] [.float q456, .float q454] (am_mh t (u_kr q449.2 (u_kr q444.2 q374.2))) 2 12 Q := by
                  refine x_ar r293_887 rfl trivial rfl ?_
                  rcases am_ifE h with ⟨c461, h⟩ | ⟨c461, h⟩
                  · refine x_ifneT r293_888 c461 rfl ?_
                    refine x_ic (v := 1) r293_891 rfl rfl ?_
                    refine x_goto r293_892 ?_
                    cases h
                    exact x_ret (ret := some .boolean) (C := narrow .boolean (.int (1 : Int32)) = .int (1 : Int32)) (v := some (.int (1 : Int32))) r293_896 rt293 rfl rfl rfl rfl rfl rfl rfl rfl (by decide) hQ
                  · refine x_ifneF r293_888 c461 ?_
                    refine x_ic (v := 0) r293_895 rfl rfl ?_
                    cases h
                    exact x_ret (ret := some .boolean) (C := narrow .boolean (.int (0 : Int32)) = .int (0 : Int32)) (v := some (.int (0 : Int32))) r293_896 rt293 rfl rfl rfl rfl rfl rfl rfl rfl (by decide) hQ
                rcases am_ifE h458 with ⟨c459, h458⟩ | ⟨c459, h458⟩
                · refine x_ifneT r293_874 c459 rfl ?_
                  refine x_ar r293_877 rfl trivial rfl ?_
                  refine x_goto r293_878 ?_
                  cases h458
                  exact kj457
                · refine x_ifneF r293_874 c459 ?_
                  refine x_ld (v := .int q161.1) r293_881 rfl rfl rfl ?_
                  refine x_ar r293_882 rfl trivial rfl ?_
                  refine x_ld (v := .int q161.2.1) r293_883 rfl rfl rfl ?_
                  refine x_ar r293_885 rfl trivial rfl ?_
                  obtain ⟨g460, h458⟩ := am_gdE h458
                  refine x_ar r293_886 rfl g460 rfl ?_
                  cases h458
                  exact kj457
              · refine x_icneF r293_865 c453 ?_
                refine x_ic (v := 0) r293_895 rfl rfl ?_
                cases h
                exact x_ret (ret := some .boolean) (C := narrow .boolean (.int (0 : Int32)) = .int (0 : Int32)) (v := some (.int (0 : Int32))) r293_896 rt293 rfl rfl rfl rfl rfl rfl rfl rfl (by decide) hQ
            · refine x_icneF r293_856 c448 ?_
              refine x_ic (v := 0) r293_895 rfl rfl ?_
              cases h
              exact x_ret (ret := some .boolean) (C := narrow .boolean (.int (0 : Int32)) = .int (0 : Int32)) (v := some (.int (0 : Int32))) r293_896 rt293 rfl rfl rfl rfl rfl rfl rfl rfl (by decide) hQ
        · refine x_icneF r293_840 c434 ?_
          refine x_ld (v := .ref 0) r293_850 rfl rfl rfl ?_
          refine x_ic (v := 0) r293_851 rfl rfl ?_
          obtain ⟨q462, h463, h⟩ := Option.bind_eq_some_iff.mp h
          obtain ⟨x464, h465, h⟩ := Option.bind_eq_some_iff.mp h
          refine m_call2 (as := [.ref 0, .int (0 : Int32)]) (rest := []) ht r293_852 rfl rfl rfl (by decide) (Nat.le_of_ble_eq_true rfl) (m29_okv h463 h465) (Nat.le_trans (by decide) hd) rfl ?_
          refine x_ic (v := -1) r293_855 rfl rfl ?_
          rcases am_ifE h with ⟨c466, h⟩ | ⟨c466, h⟩
          · refine x_icneT r293_856 c466 rfl ?_
            refine x_ld (v := .ref 0) r293_859 rfl rfl rfl ?_
            refine x_ic (v := 1) r293_860 rfl rfl ?_
            obtain ⟨q467, h468, h⟩ := Option.bind_eq_some_iff.mp h
            obtain ⟨x469, h470, h⟩ := Option.bind_eq_some_iff.mp h
            refine m_call2 (as := [.ref 0, .int (1 : Int32)]) (rest := []) ht r293_861 rfl rfl rfl (by decide) (Nat.le_of_ble_eq_true rfl) (m29_okv h468 h470) (Nat.le_trans (by decide) hd) rfl ?_
            refine x_ic (v := -1) r293_864 rfl rfl ?_
            rcases am_ifE h with ⟨c471, h⟩ | ⟨c471, h⟩
            · refine x_icneT r293_865 c471 rfl ?_
              refine x_ld (v := .ref 0) r293_868 rfl rfl rfl ?_
              obtain ⟨q472, h473, h⟩ := Option.bind_eq_some_iff.mp h
              refine m_call1 (as := [.ref 0]) (rest := []) ht r293_869 rfl rfl rfl (by decide) (Nat.le_of_ble_eq_true rfl) (m30_ok h473) (Nat.le_trans (by decide) hd) rfl ?_
              refine x_ld (v := .int q161.2.1) r293_872 rfl rfl rfl ?_
              obtain ⟨q474, h476, h⟩ := Option.bind_eq_some_iff.mp h
              have kj475 : am_X xs L 293 d 2 12 887 [.ref 0, .ref (106 + t.length), .ref (107 + t.length), .int q161.1, .int q161.2.1, am_dead, .int q380, am_dead, .int x378, am_dead, am_dead] [.float q474, .float q472] (am_mh t (u_kr q467.2 (u_kr q462.2 q374.2))) 2 12 Q := by
                refine x_ar r293_887 rfl trivial rfl ?_
                rcases am_ifE h with ⟨c479, h⟩ | ⟨c479, h⟩
                · refine x_ifneT r293_888 c479 rfl ?_
                  refine x_ic (v := 1) r293_891 rfl rfl ?_
                  refine x_goto r293_892 ?_
                  cases h
                  exact x_ret (ret := some .boolean) (C := narrow .boolean (.int (1 : Int32)) = .int (1 : Int32)) (v := some (.int (1 : Int32))) r293_896 rt293 rfl rfl rfl rfl rfl rfl rfl rfl (by decide) hQ
                · refine x_ifneF r293_888 c479 ?_
                  refine x_ic (v := 0) r293_895 rfl rfl ?_
                  cases h
                  exact x_ret (ret := some .boolean) (C := narrow .boolean (.int (0 : Int32)) = .int (0 : Int32)) (v := some (.int (0 : Int32))) r293_896 rt293 rfl rfl rfl rfl rfl rfl rfl rfl (by decide) hQ
              rcases am_ifE h476 with ⟨c477, h476⟩ | ⟨c477, h476⟩
              · refine x_ifneT r293_874 c477 rfl ?_
                refine x_ar r293_877 rfl trivial rfl ?_
                refine x_goto r293_878 ?_
                cases h476
                exact kj475
              · refine x_ifneF r293_874 c477 ?_
                refine x_ld (v := .int q161.1) r293_881 rfl rfl rfl ?_
                refine x_ar r293_882 rfl trivial rfl ?_
                refine x_ld (v := .int q161.2.1) r293_883 rfl rfl rfl ?_
                refine x_ar r293_885 rfl trivial rfl ?_
                obtain ⟨g478, h476⟩ := am_gdE h476
                refine x_ar r293_886 rfl g478 rfl ?_
                cases h476
                exact kj475
            · refine x_icneF r293_865 c471 ?_
              refine x_ic (v := 0) r293_895 rfl rfl ?_
              cases h
              exact x_ret (ret := some .boolean) (C := narrow .boolean (.int (0 : Int32)) = .int (0 : Int32)) (v := some (.int (0 : Int32))) r293_896 rt293 rfl rfl rfl rfl rfl rfl rfl rfl (by decide) hQ
          · refine x_icneF r293_856 c466 ?_
            refine x_ic (v := 0) r293_895 rfl rfl ?_
            cases h
            exact x_ret (ret := some .boolean) (C := narrow .boolean (.int (0 : Int32)) = .int (0 : Int32)) (v := some (.int (0 : Int32))) r293_896 rt293 rfl rfl rfl rfl rfl rfl rfl rfl (by decide) hQ
    rcases am_ifE h382 with ⟨c383, h382⟩ | ⟨c383, h382⟩
    · refine x_ifeqT r293_758 c383 ?_
      refine x_ic (v := 0) r293_826 rfl rfl ?_
      cases h382
      exact kj381
    · refine x_ifeqF r293_758 c383 rfl ?_
      refine x_ld (v := .ref 0) r293_761 rfl rfl rfl ?_
      refine x_bi (v := 15) r293_762 rfl rfl ?_
      obtain ⟨q384, h385, h382⟩ := Option.bind_eq_some_iff.mp h382
      obtain ⟨x386, h387, h382⟩ := Option.bind_eq_some_iff.mp h382
      refine m_call1 (as := [.ref 0, .int (15 : Int32)]) (rest := []) ht r293_764 rfl rfl rfl (by decide) (Nat.le_of_ble_eq_true rfl) (m22_okv h385 h387) (Nat.le_trans (by decide) hd) rfl ?_
      rcases am_ifE h382 with ⟨c388, h382⟩ | ⟨c388, h382⟩
      · refine x_ifeqT r293_767 c388 ?_
        refine x_ld (v := .int x378) r293_794 rfl rfl rfl ?_
        refine x_ic (v := -1) r293_796 rfl rfl ?_
        obtain ⟨q389, h391, h382⟩ := am_ltE h382
        replace h391 := h391.symm
        have kj390 : am_X xs L 293 d 2 12 805 [.ref 0, .ref (106 + t.length), .ref (107 + t.length), .int q161.1, .int q161.2.1, am_dead, .int q374.1, am_dead, .int x378, am_dead, am_dead] [.int q389] (am_mh t q374.2) 2 12 Q := by
          refine x_ld (v := .ref 0) r293_805 rfl rfl rfl ?_
          refine x_ic (v := 0) r293_806 rfl rfl ?_
          obtain ⟨q393, h394, h382⟩ := Option.bind_eq_some_iff.mp h382
          obtain ⟨x395, h396, h382⟩ := Option.bind_eq_some_iff.mp h382
          refine m_call1 (as := [.ref 0, .int (0 : Int32)]) (rest := [.int q389]) ht r293_807 rfl rfl rfl (by decide) (Nat.le_of_ble_eq_true rfl) (m22_okv h394 h396) (Nat.le_trans (by decide) hd) rfl ?_
          refine x_ic (v := 1) r293_810 rfl rfl ?_
          obtain ⟨q397, h399, h382⟩ := am_ltE h382
          replace h399 := h399.symm
          have kj398 : am_X xs L 293 d 2 12 819 [.ref 0, .ref (106 + t.length), .ref (107 + t.length), .int q161.1, .int q161.2.1, am_dead, .int q374.1, am_dead, .int x378, am_dead, am_dead] [.int q397, .int q389] (am_mh t q374.2) 2 12 Q := by
            rcases am_ifE h382 with ⟨c401, h382⟩ | ⟨c401, h382⟩
            · refine x_icneT r293_819 c401 rfl ?_
              refine x_ic (v := 1) r293_822 rfl rfl ?_
              refine x_goto r293_823 ?_
              cases h382
              exact kj381
            · refine x_icneF r293_819 c401 ?_
              refine x_ic (v := 0) r293_826 rfl rfl ?_
              cases h382
              exact kj381
          rcases am_ifE h399 with ⟨c400, h399⟩ | ⟨c400, h399⟩
          · refine x_iceqT r293_811 c400 ?_
            refine x_ic (v := 0) r293_818 rfl rfl ?_
            subst h399
            exact kj398
          · refine x_iceqF r293_811 c400 rfl ?_
            refine x_ic (v := 1) r293_814 rfl rfl ?_
            refine x_goto r293_815 ?_
            subst h399
            exact kj398
        rcases am_ifE h391 with ⟨c392, h391⟩ | ⟨c392, h391⟩
        · refine x_icneT r293_797 c392 rfl ?_
          refine x_ic (v := 1) r293_800 rfl rfl ?_
          refine x_goto r293_801 ?_
          subst h391
          exact kj390
        · refine x_icneF r293_797 c392 ?_
          refine x_ic (v := 0) r293_804 rfl rfl ?_
          subst h391
          exact kj390
      · refine x_ifeqF r293_767 c388 rfl ?_
        refine x_ld (v := .ref 0) r293_770 rfl rfl rfl ?_
        refine x_ic (v := 2) r293_771 rfl rfl ?_
        obtain ⟨q402, h403, h382⟩ := Option.bind_eq_some_iff.mp h382
        obtain ⟨x404, h405, h382⟩ := Option.bind_eq_some_iff.mp h382
        refine m_call1 (as := [.ref 0, .int (2 : Int32)]) (rest := []) ht r293_772 rfl rfl rfl (by decide) (Nat.le_of_ble_eq_true rfl) (m22_okv h403 h405) (Nat.le_trans (by decide) hd) rfl ?_
        refine x_ld (v := .int x378) r293_775 rfl rfl rfl ?_
        rcases am_ifE h382 with ⟨c406, h382⟩ | ⟨c406, h382⟩
        · refine x_iceqT r293_777 c406 ?_
          refine x_ic (v := 0) r293_826 rfl rfl ?_
          cases h382
          exact kj381
        · refine x_iceqF r293_777 c406 rfl ?_
          refine x_ld (v := .ref 0) r293_780 rfl rfl rfl ?_
          refine x_ic (v := 2) r293_781 rfl rfl ?_
          obtain ⟨q407, h408, h382⟩ := Option.bind_eq_some_iff.mp h382
          obtain ⟨x409, h410, h382⟩ := Option.bind_eq_some_iff.mp h382
          refine m_call1 (as := [.ref 0, .int (2 : Int32)]) (rest := []) ht r293_782 rfl rfl rfl (by decide) (Nat.le_of_ble_eq_true rfl) (m22_okv h408 h410) (Nat.le_trans (by decide) hd) rfl ?_
          refine x_ld (v := .ref 0) r293_785 rfl rfl rfl ?_
          refine x_bi (v := 16) r293_786 rfl rfl ?_
          obtain ⟨q411, h412, h382⟩ := Option.bind_eq_some_iff.mp h382
          obtain ⟨x413, h414, h382⟩ := Option.bind_eq_some_iff.mp h382
          refine m_call1 (as := [.ref 0, .int (16 : Int32)]) (rest := [.int x409]) ht r293_788 rfl rfl rfl (by decide) (Nat.le_of_ble_eq_true rfl) (m22_okv h412 h414) (Nat.le_trans (by decide) hd) rfl ?_
          rcases am_ifE h382 with ⟨c415, h382⟩ | ⟨c415, h382⟩
          · refine x_iceqT r293_791 c415 ?_
            refine x_ic (v := 0) r293_826 rfl rfl ?_
            cases h382
            exact kj381
          · refine x_iceqF r293_791 c415 rfl ?_
            refine x_ld (v := .int x378) r293_794 rfl rfl rfl ?_
            refine x_ic (v := -1) r293_796 rfl rfl ?_
            obtain ⟨q416, h418, h382⟩ := am_ltE h382
            replace h418 := h418.symm
            have kj417 : am_X xs L 293 d 2 12 805 [.ref 0, .ref (106 + t.length), .ref (107 + t.length), .int q161.1, .int q161.2.1, am_dead, .int q374.1, am_dead, .int x378, am_dead, am_dead] [.int q416] (am_mh t q374.2) 2 12 Q := by
              refine x_ld (v := .ref 0) r293_805 rfl rfl rfl ?_
              refine x_ic (v := 0) r293_806 rfl rfl ?_
              obtain ⟨q420, h421, h382⟩ := Option.bind_eq_some_iff.mp h382
              obtain ⟨x422, h423, h382⟩ := Option.bind_eq_some_iff.mp h382
              refine m_call1 (as := [.ref 0, .int (0 : Int32)]) (rest := [.int q416]) ht r293_807 rfl rfl rfl (by decide) (Nat.le_of_ble_eq_true rfl) (m22_okv h421 h423) (Nat.le_trans (by decide) hd) rfl ?_
              refine x_ic (v := 1) r293_810 rfl rfl ?_
              obtain ⟨q424, h426, h382⟩ := am_ltE h382
              replace h426 := h426.symm
              have kj425 : am_X xs L 293 d 2 12 819 [.ref 0, .ref (106 + t.length), .ref (107 + t.length), .int q161.1, .int q161.2.1, am_dead, .int q374.1, am_dead, .int x378, am_dead, am_dead] [.int q424, .int q416] (am_mh t q374.2) 2 12 Q := by
                rcases am_ifE h382 with ⟨c428, h382⟩ | ⟨c428, h382⟩
                · refine x_icneT r293_819 c428 rfl ?_
                  refine x_ic (v := 1) r293_822 rfl rfl ?_
                  refine x_goto r293_823 ?_
                  cases h382
                  exact kj381
                · refine x_icneF r293_819 c428 ?_
                  refine x_ic (v := 0) r293_826 rfl rfl ?_
                  cases h382
                  exact kj381
              rcases am_ifE h426 with ⟨c427, h426⟩ | ⟨c427, h426⟩
              · refine x_iceqT r293_811 c427 ?_
                refine x_ic (v := 0) r293_818 rfl rfl ?_
                subst h426
                exact kj425
              · refine x_iceqF r293_811 c427 rfl ?_
                refine x_ic (v := 1) r293_814 rfl rfl ?_
                refine x_goto r293_815 ?_
                subst h426
                exact kj425
            rcases am_ifE h418 with ⟨c419, h418⟩ | ⟨c419, h418⟩
            · refine x_icneT r293_797 c419 rfl ?_
              refine x_ic (v := 1) r293_800 rfl rfl ?_
              refine x_goto r293_801 ?_
              subst h418
              exact kj417
            · refine x_icneF r293_797 c419 ?_
              refine x_ic (v := 0) r293_804 rfl rfl ?_
              subst h418
              exact kj417
  rcases am_ifE h299 with ⟨c300, h299⟩ | ⟨c300, h299⟩
  · refine x_ifeqT r293_540 c300 ?_
    refine x_ic (v := 0) r293_616 rfl rfl ?_
    cases h299
    exact kj298
  · refine x_ifeqF r293_540 c300 rfl ?_
    refine x_ld (v := .int q291.1) r293_543 rfl rfl rfl ?_
    refine x_ic (v := 1) r293_545 rfl rfl ?_
    refine x_ld (v := .int x295) r293_546 rfl rfl rfl ?_
    refine x_ic (v := 1) r293_548 rfl rfl ?_
    refine x_ar r293_549 rfl trivial rfl ?_
    refine x_ar r293_550 rfl trivial rfl ?_
    refine x_ic (v := 2) r293_551 rfl rfl ?_
    refine x_ar r293_552 rfl trivial rfl ?_
    rcases am_ifE h299 with ⟨c301, h299⟩ | ⟨c301, h299⟩
    · refine x_icneT r293_553 c301 rfl ?_
      refine x_ld (v := .int x295) r293_556 rfl rfl rfl ?_
      refine x_ld (v := .ref (107 + t.length)) r293_558 rfl rfl rfl ?_
      refine x_ic (v := 4) r293_559 rfl rfl ?_
      refine m_ial1 r293_560 (by decide) (e := 4) (by decide) rfl ?_
      rcases am_ifE h299 with ⟨c302, h299⟩ | ⟨c302, h299⟩
      · refine x_icneT r293_561 c302 rfl ?_
        refine x_ld (v := .ref 0) r293_564 rfl rfl rfl ?_
        refine x_bi (v := 14) r293_565 rfl rfl ?_
        obtain ⟨q303, h304, h299⟩ := Option.bind_eq_some_iff.mp h299
        obtain ⟨x305, h306, h299⟩ := Option.bind_eq_some_iff.mp h299
        refine m_call1 (as := [.ref 0, .int (14 : Int32)]) (rest := []) ht r293_567 rfl rfl rfl (by decide) (Nat.le_of_ble_eq_true rfl) (m22_okv h304 h306) (Nat.le_trans (by decide) hd) rfl ?_
        refine x_ld (v := .ref (107 + t.length)) r293_570 rfl rfl rfl ?_
        refine x_ic (v := 5) r293_571 rfl rfl ?_
        refine m_ial1 r293_572 (by decide) (e := 5) (by decide) rfl ?_
        rcases am_ifE h299 with ⟨c307, h299⟩ | ⟨c307, h299⟩
        · refine x_icneT r293_573 c307 rfl ?_
          refine x_ld (v := .int x295) r293_576 rfl rfl rfl ?_
          rcases am_ifE h299 with ⟨c308, h299⟩ | ⟨c308, h299⟩
          · refine x_ifeqT r293_578 c308 ?_
            refine x_ic (v := 1) r293_612 rfl rfl ?_
            refine x_goto r293_613 ?_
            cases h299
            exact kj298
          · refine x_ifeqF r293_578 c308 rfl ?_
            refine x_ld (v := .ref 0) r293_581 rfl rfl rfl ?_
            refine x_ic (v := 4) r293_582 rfl rfl ?_
            obtain ⟨q309, h310, h299⟩ := Option.bind_eq_some_iff.mp h299
            obtain ⟨x311, h312, h299⟩ := Option.bind_eq_some_iff.mp h299
            refine m_call1 (as := [.ref 0, .int (4 : Int32)]) (rest := []) ht r293_583 rfl rfl rfl (by decide) (Nat.le_of_ble_eq_true rfl) (m22_okv h310 h312) (Nat.le_trans (by decide) hd) rfl ?_
            refine x_ld (v := .ref 0) r293_586 rfl rfl rfl ?_
            refine x_ic (v := 0) r293_587 rfl rfl ?_
            refine x_ic (v := 1) r293_588 rfl rfl ?_
            obtain ⟨q313, h314, h299⟩ := am_ltE h299
            replace h314 := h314.symm
            obtain ⟨x315, h316, h299⟩ := Option.bind_eq_some_iff.mp h299
            refine m_call1 (as := [.ref 0, .int (0 : Int32), .int (1 : Int32)]) (rest := [.int x311]) ht r293_589 rfl rfl rfl (by decide) (Nat.le_of_ble_eq_true rfl) (m20_okv h314 h316) (Nat.le_trans (by decide) hd) rfl ?_
            rcases am_ifE h299 with ⟨c317, h299⟩ | ⟨c317, h299⟩
            · refine x_icneT r293_592 c317 rfl ?_
              refine x_ld (v := .ref 0) r293_595 rfl rfl rfl ?_
              refine x_ic (v := 5) r293_596 rfl rfl ?_
              obtain ⟨q318, h319, h299⟩ := Option.bind_eq_some_iff.mp h299
              obtain ⟨x320, h321, h299⟩ := Option.bind_eq_some_iff.mp h299
              refine m_call1 (as := [.ref 0, .int (5 : Int32)]) (rest := []) ht r293_597 rfl rfl rfl (by decide) (Nat.le_of_ble_eq_true rfl) (m22_okv h319 h321) (Nat.le_trans (by decide) hd) rfl ?_
              refine x_ld (v := .ref 0) r293_600 rfl rfl rfl ?_
              refine x_ld (v := .int x295) r293_601 rfl rfl rfl ?_
              refine x_ic (v := 1) r293_603 rfl rfl ?_
              refine x_ar r293_604 rfl trivial rfl ?_
              refine x_ic (v := 2) r293_605 rfl rfl ?_
              obtain ⟨q322, h323, h299⟩ := am_ltE h299
              replace h323 := h323.symm
              obtain ⟨x324, h325, h299⟩ := Option.bind_eq_some_iff.mp h299
              refine m_call1 (as := [.ref 0, .int (x295 - (1 : Int32)), .int (2 : Int32)]) (rest := [.int x320]) ht r293_606 rfl rfl rfl (by decide) (Nat.le_of_ble_eq_true rfl) (m20_okv h323 h325) (Nat.le_trans (by decide) hd) rfl ?_
              rcases am_ifE h299 with ⟨c326, h299⟩ | ⟨c326, h299⟩
              · refine x_icneT r293_609 c326 rfl ?_
                refine x_ic (v := 1) r293_612 rfl rfl ?_
                refine x_goto r293_613 ?_
                cases h299
                exact kj298
              · refine x_icneF r293_609 c326 ?_
                refine x_ic (v := 0) r293_616 rfl rfl ?_
                cases h299
                exact kj298
            · refine x_icneF r293_592 c317 ?_
              refine x_ic (v := 0) r293_616 rfl rfl ?_
              cases h299
              exact kj298
        · refine x_icneF r293_573 c307 ?_
          refine x_ic (v := 0) r293_616 rfl rfl ?_
          cases h299
          exact kj298
      · refine x_icneF r293_561 c302 ?_
        refine x_ic (v := 0) r293_616 rfl rfl ?_
        cases h299
        exact kj298
    · refine x_icneF r293_553 c301 ?_
      refine x_ic (v := 0) r293_616 rfl rfl ?_
      cases h299
      exact kj298
end XE
