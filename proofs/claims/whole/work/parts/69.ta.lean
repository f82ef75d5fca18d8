/-! the law (by wip/tools/gen_law.py) -/
section TA0
variable {xs : Nat → Int32} {L N K i d mc ms c s : Nat} {D : am_D} {Q : am_O → am_AH → Prop}
theorem q_vx {n : Nat} (hL : L ≤ 2560) (h : n < L) : 0 ≤ Int32.ofNat n ∧ (Int32.ofNat n).toNatClampNeg < L := ⟨(q_in (n := 2560) (i := n) (by omega) (by omega)).1, by rw [q_tn (by omega)]; exact h⟩
theorem q_lgc (x : Int64) : lg_cmp x x = 0 := by
  unfold lg_cmp
  rw [if_neg (fun q => Int64.lt_irrefl q), if_pos rfl]
set_option maxRecDepth 100000 in
theorem rt287 : am_rtt 287 = some ret := by decide +kernel
theorem r287_0 : am_at 287 0 = some (.new 8, 3, [0, 7, 112, 113, 92]) := by decide +kernel
theorem r287_3 : am_at 287 3 = some (.dup, 1, []) := by decide +kernel
theorem r287_4 : am_at 287 4 = some (.invokespecial 102, 3, [0, 1, 114, 0]) := by decide +kernel
theorem r287_7 : am_at 287 7 = some (.astore_n 1, 1, [1]) := by decide +kernel
theorem r287_8 : am_at 287 8 = some (.new 103, 3, [0, 8, 1209, 1210, 100]) := by decide +kernel
theorem r287_11 : am_at 287 11 = some (.dup, 1, []) := by decide +kernel
theorem r287_12 : am_at 287 12 = some (.invokespecial 105, 3, [44, 1, 1211, 0]) := by decide +kernel
theorem r287_15 : am_at 287 15 = some (.astore_n 2, 1, [2]) := by decide +kernel
theorem r287_16 : am_at 287 16 = some (.iconst (1), 1, []) := by decide +kernel
theorem r287_17 : am_at 287 17 = some (.newarray .long, 2, [1]) := by decide +kernel
theorem r287_19 : am_at 287 19 = some (.astore_n 3, 1, [3]) := by decide +kernel
theorem r287_20 : am_at 287 20 = some (.iconst (1), 1, []) := by decide +kernel
theorem r287_21 : am_at 287 21 = some (.newarray .double, 2, [2]) := by decide +kernel
theorem r287_23 : am_at 287 23 = some (.astore 4, 2, [4]) := by decide +kernel
theorem r287_25 : am_at 287 25 = some (.iconst (0), 1, []) := by decide +kernel
theorem r287_26 : am_at 287 26 = some (.istore 5, 2, [5]) := by decide +kernel
theorem r287_28 : am_at 287 28 = some (.iload 5, 2, [5]) := by decide +kernel
theorem r287_30 : am_at 287 30 = some (.aload_n 0, 1, [0]) := by decide +kernel
theorem r287_31 : am_at 287 31 = some (.arraylength, 1, []) := by decide +kernel
theorem r287_32 : am_at 287 32 = some (.iconst (5), 1, []) := by decide +kernel
theorem r287_33 : am_at 287 33 = some (.isub, 1, []) := by decide +kernel
theorem r287_34 : am_at 287 34 = some (.if_icmp .gt (1928), 3, [1962]) := by decide +kernel
theorem r287_37 : am_at 287 37 = some (.aload_n 0, 1, [0]) := by decide +kernel
theorem r287_38 : am_at 287 38 = some (.iload 5, 2, [5]) := by decide +kernel
theorem r287_40 : am_at 287 40 = some (.iaload, 1, []) := by decide +kernel
theorem r287_41 : am_at 287 41 = some (.bipush (31), 2, []) := by decide +kernel
theorem r287_43 : am_at 287 43 = some (.iand, 1, []) := by decide +kernel
theorem r287_44 : am_at 287 44 = some (.tableswitch (1912) (0) (30) #[140, 208, 264, 320, 364, 444, 500, 556, 612, 668, 724, 737, 793, 837, 881, 894, 938, 982, 1050, 1118, 1186, 1254, 1310, 1390, 1458, 1538, 1606, 1707, 1799, 1855, 1898], 140, [1956, 0, 184, 1, 252, 2, 308, 3, 364, 4, 408, 5, 488, 6, 544, 7, 600, 8, 656, 9, 712, 10, 768, 11, 781, 12, 837, 13, 881, 14, 925, 15, 938, 16, 982, 17, 1026, 18, 1094, 19, 1162, 20, 1230, 21, 1298, 22, 1354, 23, 1434, 24, 1502, 25, 1582, 26, 1650, 27, 1751, 28, 1843, 29, 1899, 30, 1942]) := by decide +kernel
theorem r287_184 : am_at 287 184 = some (.aload_n 1, 1, [1]) := by decide +kernel
theorem r287_185 : am_at 287 185 = some (.aload_n 0, 1, [0]) := by decide +kernel
theorem r287_186 : am_at 287 186 = some (.iload 5, 2, [5]) := by decide +kernel
theorem r287_188 : am_at 287 188 = some (.iconst (1), 1, []) := by decide +kernel
theorem r287_189 : am_at 287 189 = some (.iadd, 1, []) := by decide +kernel
theorem r287_190 : am_at 287 190 = some (.iaload, 1, []) := by decide +kernel
theorem r287_191 : am_at 287 191 = some (.aload_n 0, 1, [0]) := by decide +kernel
theorem r287_192 : am_at 287 192 = some (.iload 5, 2, [5]) := by decide +kernel
theorem r287_194 : am_at 287 194 = some (.iconst (2), 1, []) := by decide +kernel
theorem r287_195 : am_at 287 195 = some (.iadd, 1, []) := by decide +kernel
theorem r287_196 : am_at 287 196 = some (.iaload, 1, []) := by decide +kernel
theorem r287_197 : am_at 287 197 = some (.aload_n 3, 1, [3]) := by decide +kernel
theorem r287_198 : am_at 287 198 = some (.invokestatic 106, 3, [260, 4, 790, 0]) := by decide +kernel
theorem r287_201 : am_at 287 201 = some (.istore 6, 2, [6]) := by decide +kernel
theorem r287_203 : am_at 287 203 = some (.aload_n 2, 1, [2]) := by decide +kernel
theorem r287_204 : am_at 287 204 = some (.aload_n 0, 1, [0]) := by decide +kernel
theorem r287_205 : am_at 287 205 = some (.iload 5, 2, [5]) := by decide +kernel
theorem r287_207 : am_at 287 207 = some (.iconst (1), 1, []) := by decide +kernel
theorem r287_208 : am_at 287 208 = some (.iadd, 1, []) := by decide +kernel
theorem r287_209 : am_at 287 209 = some (.iaload, 1, []) := by decide +kernel
theorem r287_210 : am_at 287 210 = some (.aload_n 0, 1, [0]) := by decide +kernel
theorem r287_211 : am_at 287 211 = some (.iload 5, 2, [5]) := by decide +kernel
theorem r287_213 : am_at 287 213 = some (.iconst (2), 1, []) := by decide +kernel
theorem r287_214 : am_at 287 214 = some (.iadd, 1, []) := by decide +kernel
theorem r287_215 : am_at 287 215 = some (.iaload, 1, []) := by decide +kernel
theorem r287_216 : am_at 287 216 = some (.invokevirtual 111, 3, [78, 3, 1298, 0]) := by decide +kernel
theorem r287_219 : am_at 287 219 = some (.istore 7, 2, [7]) := by decide +kernel
theorem r287_221 : am_at 287 221 = some (.aload_n 2, 1, [2]) := by decide +kernel
theorem r287_222 : am_at 287 222 = some (.invokevirtual 112, 3, [45, 1, 1294, 0]) := by decide +kernel
theorem r287_225 : am_at 287 225 = some (.iload 6, 2, [6]) := by decide +kernel
theorem r287_227 : am_at 287 227 = some (.if_icmp .eq (5), 3, [232]) := by decide +kernel
theorem r287_230 : am_at 287 230 = some (.iconst (0), 1, []) := by decide +kernel
theorem r287_231 : am_at 287 231 = some (.ireturn, 1, []) := by decide +kernel
theorem r287_232 : am_at 287 232 = some (.iload 6, 2, [6]) := by decide +kernel
theorem r287_234 : am_at 287 234 = some (.ifCond .ne (15), 3, [249]) := by decide +kernel
theorem r287_237 : am_at 287 237 = some (.aload_n 3, 1, [3]) := by decide +kernel
theorem r287_238 : am_at 287 238 = some (.iconst (0), 1, []) := by decide +kernel
theorem r287_239 : am_at 287 239 = some (.laload, 1, []) := by decide +kernel
theorem r287_240 : am_at 287 240 = some (.iload 7, 2, [7]) := by decide +kernel
theorem r287_242 : am_at 287 242 = some (.i2l, 1, []) := by decide +kernel
theorem r287_243 : am_at 287 243 = some (.lcmp, 1, []) := by decide +kernel
theorem r287_244 : am_at 287 244 = some (.ifCond .eq (5), 3, [249]) := by decide +kernel
theorem r287_247 : am_at 287 247 = some (.iconst (0), 1, []) := by decide +kernel
theorem r287_248 : am_at 287 248 = some (.ireturn, 1, []) := by decide +kernel
theorem r287_249 : am_at 287 249 = some (.goto (1707), 3, [1956]) := by decide +kernel
theorem r287_252 : am_at 287 252 = some (.aload_n 1, 1, [1]) := by decide +kernel
theorem r287_253 : am_at 287 253 = some (.aload_n 0, 1, [0]) := by decide +kernel
theorem r287_254 : am_at 287 254 = some (.iload 5, 2, [5]) := by decide +kernel
theorem r287_256 : am_at 287 256 = some (.iconst (1), 1, []) := by decide +kernel
theorem r287_257 : am_at 287 257 = some (.iadd, 1, []) := by decide +kernel
theorem r287_258 : am_at 287 258 = some (.iaload, 1, []) := by decide +kernel
theorem r287_259 : am_at 287 259 = some (.aload_n 3, 1, [3]) := by decide +kernel
theorem r287_260 : am_at 287 260 = some (.invokestatic 115, 3, [261, 3, 834, 0]) := by decide +kernel
theorem r287_263 : am_at 287 263 = some (.istore 6, 2, [6]) := by decide +kernel
theorem r287_265 : am_at 287 265 = some (.aload_n 2, 1, [2]) := by decide +kernel
theorem r287_266 : am_at 287 266 = some (.aload_n 0, 1, [0]) := by decide +kernel
theorem r287_267 : am_at 287 267 = some (.iload 5, 2, [5]) := by decide +kernel
theorem r287_269 : am_at 287 269 = some (.iconst (1), 1, []) := by decide +kernel
theorem r287_270 : am_at 287 270 = some (.iadd, 1, []) := by decide +kernel
theorem r287_271 : am_at 287 271 = some (.iaload, 1, []) := by decide +kernel
theorem r287_272 : am_at 287 272 = some (.invokevirtual 118, 3, [80, 2, 1335, 0]) := by decide +kernel
theorem r287_275 : am_at 287 275 = some (.istore 7, 2, [7]) := by decide +kernel
theorem r287_277 : am_at 287 277 = some (.aload_n 2, 1, [2]) := by decide +kernel
theorem r287_278 : am_at 287 278 = some (.invokevirtual 112, 3, [45, 1, 1294, 0]) := by decide +kernel
theorem r287_281 : am_at 287 281 = some (.iload 6, 2, [6]) := by decide +kernel
theorem r287_283 : am_at 287 283 = some (.if_icmp .eq (5), 3, [288]) := by decide +kernel
theorem r287_286 : am_at 287 286 = some (.iconst (0), 1, []) := by decide +kernel
theorem r287_287 : am_at 287 287 = some (.ireturn, 1, []) := by decide +kernel
theorem r287_288 : am_at 287 288 = some (.iload 6, 2, [6]) := by decide +kernel
theorem r287_290 : am_at 287 290 = some (.ifCond .ne (15), 3, [305]) := by decide +kernel
theorem r287_293 : am_at 287 293 = some (.aload_n 3, 1, [3]) := by decide +kernel
theorem r287_294 : am_at 287 294 = some (.iconst (0), 1, []) := by decide +kernel
theorem r287_295 : am_at 287 295 = some (.laload, 1, []) := by decide +kernel
theorem r287_296 : am_at 287 296 = some (.iload 7, 2, [7]) := by decide +kernel
theorem r287_298 : am_at 287 298 = some (.i2l, 1, []) := by decide +kernel
theorem r287_299 : am_at 287 299 = some (.lcmp, 1, []) := by decide +kernel
theorem r287_300 : am_at 287 300 = some (.ifCond .eq (5), 3, [305]) := by decide +kernel
theorem r287_303 : am_at 287 303 = some (.iconst (0), 1, []) := by decide +kernel
theorem r287_304 : am_at 287 304 = some (.ireturn, 1, []) := by decide +kernel
theorem r287_305 : am_at 287 305 = some (.goto (1651), 3, [1956]) := by decide +kernel
theorem r287_308 : am_at 287 308 = some (.aload_n 1, 1, [1]) := by decide +kernel
theorem r287_309 : am_at 287 309 = some (.aload_n 0, 1, [0]) := by decide +kernel
theorem r287_310 : am_at 287 310 = some (.iload 5, 2, [5]) := by decide +kernel
theorem r287_312 : am_at 287 312 = some (.iconst (1), 1, []) := by decide +kernel
theorem r287_313 : am_at 287 313 = some (.iadd, 1, []) := by decide +kernel
theorem r287_314 : am_at 287 314 = some (.iaload, 1, []) := by decide +kernel
theorem r287_315 : am_at 287 315 = some (.aload_n 3, 1, [3]) := by decide +kernel
theorem r287_316 : am_at 287 316 = some (.invokestatic 119, 3, [262, 3, 853, 0]) := by decide +kernel
theorem r287_319 : am_at 287 319 = some (.istore 6, 2, [6]) := by decide +kernel
theorem r287_321 : am_at 287 321 = some (.aload_n 2, 1, [2]) := by decide +kernel
theorem r287_322 : am_at 287 322 = some (.aload_n 0, 1, [0]) := by decide +kernel
theorem r287_323 : am_at 287 323 = some (.iload 5, 2, [5]) := by decide +kernel
theorem r287_325 : am_at 287 325 = some (.iconst (1), 1, []) := by decide +kernel
theorem r287_326 : am_at 287 326 = some (.iadd, 1, []) := by decide +kernel
theorem r287_327 : am_at 287 327 = some (.iaload, 1, []) := by decide +kernel
theorem r287_328 : am_at 287 328 = some (.invokevirtual 121, 3, [82, 2, 1343, 0]) := by decide +kernel
theorem r287_331 : am_at 287 331 = some (.istore 7, 2, [7]) := by decide +kernel
theorem r287_333 : am_at 287 333 = some (.aload_n 2, 1, [2]) := by decide +kernel
theorem r287_334 : am_at 287 334 = some (.invokevirtual 112, 3, [45, 1, 1294, 0]) := by decide +kernel
theorem r287_337 : am_at 287 337 = some (.iload 6, 2, [6]) := by decide +kernel
theorem r287_339 : am_at 287 339 = some (.if_icmp .eq (5), 3, [344]) := by decide +kernel
theorem r287_342 : am_at 287 342 = some (.iconst (0), 1, []) := by decide +kernel
theorem r287_343 : am_at 287 343 = some (.ireturn, 1, []) := by decide +kernel
theorem r287_344 : am_at 287 344 = some (.iload 6, 2, [6]) := by decide +kernel
theorem r287_346 : am_at 287 346 = some (.ifCond .ne (15), 3, [361]) := by decide +kernel
theorem r287_349 : am_at 287 349 = some (.aload_n 3, 1, [3]) := by decide +kernel
theorem r287_350 : am_at 287 350 = some (.iconst (0), 1, []) := by decide +kernel
theorem r287_351 : am_at 287 351 = some (.laload, 1, []) := by decide +kernel
theorem r287_352 : am_at 287 352 = some (.iload 7, 2, [7]) := by decide +kernel
theorem r287_354 : am_at 287 354 = some (.i2l, 1, []) := by decide +kernel
theorem r287_355 : am_at 287 355 = some (.lcmp, 1, []) := by decide +kernel
theorem r287_356 : am_at 287 356 = some (.ifCond .eq (5), 3, [361]) := by decide +kernel
theorem r287_359 : am_at 287 359 = some (.iconst (0), 1, []) := by decide +kernel
theorem r287_360 : am_at 287 360 = some (.ireturn, 1, []) := by decide +kernel
theorem r287_361 : am_at 287 361 = some (.goto (1595), 3, [1956]) := by decide +kernel
theorem r287_364 : am_at 287 364 = some (.aload_n 1, 1, [1]) := by decide +kernel
theorem r287_365 : am_at 287 365 = some (.aload_n 3, 1, [3]) := by decide +kernel
theorem r287_366 : am_at 287 366 = some (.invokestatic 122, 3, [263, 2, 872, 0]) := by decide +kernel
theorem r287_369 : am_at 287 369 = some (.istore 6, 2, [6]) := by decide +kernel
theorem r287_371 : am_at 287 371 = some (.aload_n 2, 1, [2]) := by decide +kernel
theorem r287_372 : am_at 287 372 = some (.invokevirtual 125, 3, [83, 1, 1355, 0]) := by decide +kernel
theorem r287_375 : am_at 287 375 = some (.istore 7, 2, [7]) := by decide +kernel
theorem r287_377 : am_at 287 377 = some (.aload_n 2, 1, [2]) := by decide +kernel
theorem r287_378 : am_at 287 378 = some (.invokevirtual 112, 3, [45, 1, 1294, 0]) := by decide +kernel
theorem r287_381 : am_at 287 381 = some (.iload 6, 2, [6]) := by decide +kernel
theorem r287_383 : am_at 287 383 = some (.if_icmp .eq (5), 3, [388]) := by decide +kernel
theorem r287_386 : am_at 287 386 = some (.iconst (0), 1, []) := by decide +kernel
theorem r287_387 : am_at 287 387 = some (.ireturn, 1, []) := by decide +kernel
theorem r287_388 : am_at 287 388 = some (.iload 6, 2, [6]) := by decide +kernel
theorem r287_390 : am_at 287 390 = some (.ifCond .ne (15), 3, [405]) := by decide +kernel
theorem r287_393 : am_at 287 393 = some (.aload_n 3, 1, [3]) := by decide +kernel
theorem r287_394 : am_at 287 394 = some (.iconst (0), 1, []) := by decide +kernel
theorem r287_395 : am_at 287 395 = some (.laload, 1, []) := by decide +kernel
theorem r287_396 : am_at 287 396 = some (.iload 7, 2, [7]) := by decide +kernel
theorem r287_398 : am_at 287 398 = some (.i2l, 1, []) := by decide +kernel
theorem r287_399 : am_at 287 399 = some (.lcmp, 1, []) := by decide +kernel
theorem r287_400 : am_at 287 400 = some (.ifCond .eq (5), 3, [405]) := by decide +kernel
theorem r287_403 : am_at 287 403 = some (.iconst (0), 1, []) := by decide +kernel
theorem r287_404 : am_at 287 404 = some (.ireturn, 1, []) := by decide +kernel
theorem r287_405 : am_at 287 405 = some (.goto (1551), 3, [1956]) := by decide +kernel
theorem r287_408 : am_at 287 408 = some (.aload_n 1, 1, [1]) := by decide +kernel
theorem r287_409 : am_at 287 409 = some (.aload_n 0, 1, [0]) := by decide +kernel
theorem r287_410 : am_at 287 410 = some (.iload 5, 2, [5]) := by decide +kernel
theorem r287_412 : am_at 287 412 = some (.iconst (1), 1, []) := by decide +kernel
theorem r287_413 : am_at 287 413 = some (.iadd, 1, []) := by decide +kernel
theorem r287_414 : am_at 287 414 = some (.iaload, 1, []) := by decide +kernel
theorem r287_415 : am_at 287 415 = some (.aload_n 0, 1, [0]) := by decide +kernel
theorem r287_416 : am_at 287 416 = some (.iload 5, 2, [5]) := by decide +kernel
theorem r287_418 : am_at 287 418 = some (.iconst (2), 1, []) := by decide +kernel
theorem r287_419 : am_at 287 419 = some (.iadd, 1, []) := by decide +kernel
theorem r287_420 : am_at 287 420 = some (.iaload, 1, []) := by decide +kernel
theorem r287_421 : am_at 287 421 = some (.aload_n 0, 1, [0]) := by decide +kernel
theorem r287_422 : am_at 287 422 = some (.iload 5, 2, [5]) := by decide +kernel
theorem r287_424 : am_at 287 424 = some (.iconst (3), 1, []) := by decide +kernel
theorem r287_425 : am_at 287 425 = some (.iadd, 1, []) := by decide +kernel
theorem r287_426 : am_at 287 426 = some (.iaload, 1, []) := by decide +kernel
theorem r287_427 : am_at 287 427 = some (.aload_n 3, 1, [3]) := by decide +kernel
theorem r287_428 : am_at 287 428 = some (.invokestatic 126, 3, [264, 5, 888, 0]) := by decide +kernel
theorem r287_431 : am_at 287 431 = some (.istore 6, 2, [6]) := by decide +kernel
theorem r287_433 : am_at 287 433 = some (.aload_n 2, 1, [2]) := by decide +kernel
theorem r287_434 : am_at 287 434 = some (.aload_n 0, 1, [0]) := by decide +kernel
theorem r287_435 : am_at 287 435 = some (.iload 5, 2, [5]) := by decide +kernel
theorem r287_437 : am_at 287 437 = some (.iconst (1), 1, []) := by decide +kernel
theorem r287_438 : am_at 287 438 = some (.iadd, 1, []) := by decide +kernel
theorem r287_439 : am_at 287 439 = some (.iaload, 1, []) := by decide +kernel
theorem r287_440 : am_at 287 440 = some (.aload_n 0, 1, [0]) := by decide +kernel
theorem r287_441 : am_at 287 441 = some (.iload 5, 2, [5]) := by decide +kernel
theorem r287_443 : am_at 287 443 = some (.iconst (2), 1, []) := by decide +kernel
theorem r287_444 : am_at 287 444 = some (.iadd, 1, []) := by decide +kernel
theorem r287_445 : am_at 287 445 = some (.iaload, 1, []) := by decide +kernel
theorem r287_446 : am_at 287 446 = some (.aload_n 0, 1, [0]) := by decide +kernel
theorem r287_447 : am_at 287 447 = some (.iload 5, 2, [5]) := by decide +kernel
theorem r287_449 : am_at 287 449 = some (.iconst (3), 1, []) := by decide +kernel
theorem r287_450 : am_at 287 450 = some (.iadd, 1, []) := by decide +kernel
theorem r287_451 : am_at 287 451 = some (.iaload, 1, []) := by decide +kernel
theorem r287_452 : am_at 287 452 = some (.invokevirtual 129, 3, [84, 4, 1359, 0]) := by decide +kernel
theorem r287_455 : am_at 287 455 = some (.istore 7, 2, [7]) := by decide +kernel
theorem r287_457 : am_at 287 457 = some (.aload_n 2, 1, [2]) := by decide +kernel
theorem r287_458 : am_at 287 458 = some (.invokevirtual 112, 3, [45, 1, 1294, 0]) := by decide +kernel
theorem r287_461 : am_at 287 461 = some (.iload 6, 2, [6]) := by decide +kernel
theorem r287_463 : am_at 287 463 = some (.if_icmp .eq (5), 3, [468]) := by decide +kernel
theorem r287_466 : am_at 287 466 = some (.iconst (0), 1, []) := by decide +kernel
theorem r287_467 : am_at 287 467 = some (.ireturn, 1, []) := by decide +kernel
theorem r287_468 : am_at 287 468 = some (.iload 6, 2, [6]) := by decide +kernel
theorem r287_470 : am_at 287 470 = some (.ifCond .ne (15), 3, [485]) := by decide +kernel
theorem r287_473 : am_at 287 473 = some (.aload_n 3, 1, [3]) := by decide +kernel
theorem r287_474 : am_at 287 474 = some (.iconst (0), 1, []) := by decide +kernel
theorem r287_475 : am_at 287 475 = some (.laload, 1, []) := by decide +kernel
theorem r287_476 : am_at 287 476 = some (.iload 7, 2, [7]) := by decide +kernel
theorem r287_478 : am_at 287 478 = some (.i2l, 1, []) := by decide +kernel
theorem r287_479 : am_at 287 479 = some (.lcmp, 1, []) := by decide +kernel
theorem r287_480 : am_at 287 480 = some (.ifCond .eq (5), 3, [485]) := by decide +kernel
theorem r287_483 : am_at 287 483 = some (.iconst (0), 1, []) := by decide +kernel
theorem r287_484 : am_at 287 484 = some (.ireturn, 1, []) := by decide +kernel
theorem r287_485 : am_at 287 485 = some (.goto (1471), 3, [1956]) := by decide +kernel
theorem law_0 (hi : i + 5 ≤ L) (hL : L ≤ 2560) (hN : 2000 ≤ N) (hI : q_I D) (hc : c + 1 ≤ mc) (hs : s + 6 ≤ ms) (hd : 57 ≤ d) (nx : ∀ D' c' s', q_I D' → c' ≤ c + 1 → s' ≤ s + 6 → am_X xs L 287 d mc ms 1956 [.ref 1000002, .ref 0, .ref 106, .ref 124, .ref 125, .int (Int32.ofNat i), am_dead, am_dead, am_dead, am_dead] [] (am_mk D') c' s' Q) : am_X xs L 287 d mc ms 184 [.ref 1000002, .ref 0, .ref 106, .ref 124, .ref 125, .int (Int32.ofNat i), am_dead, am_dead, am_dead, am_dead] [] (am_mk D) c s Q := by
  obtain ⟨r, D1, b, D2, h1, h2, h3, h4, h5⟩ := g_give hN hI (xs (i + 1)) (xs (i + 2))
  refine x_ld (v := .ref 0) r287_184 rfl rfl rfl ?_
  refine x_ld (v := .ref 1000002) r287_185 rfl rfl rfl ?_
  refine x_ld (v := .int (Int32.ofNat i)) r287_186 rfl rfl rfl ?_
  refine x_ic (v := 1) r287_188 rfl rfl ?_
  refine x_ar r287_189 rfl trivial rfl ?_
  refine am_topI (v := Int32.ofNat (i + 1)) (q_add i 1).symm ?_
  refine y_ialX (e := (i + 1)) r287_190 (q_vx hL (by omega)) (q_tn (by omega)) rfl ?_
  refine x_ld (v := .ref 1000002) r287_191 rfl rfl rfl ?_
  refine x_ld (v := .int (Int32.ofNat i)) r287_192 rfl rfl rfl ?_
  refine x_ic (v := 2) r287_194 rfl rfl ?_
  refine x_ar r287_195 rfl trivial rfl ?_
  refine am_topI (v := Int32.ofNat (i + 2)) (q_add i 2).symm ?_
  refine y_ialX (e := (i + 2)) r287_196 (q_vx hL (by omega)) (q_tn (by omega)) rfl ?_
  refine x_ld (v := .ref 124) r287_197 rfl rfl rfl ?_
  refine x_call1 (as := [.ref 0, .int (xs (i + 1)), .int (xs (i + 2)), .ref 124]) (rest := []) r287_198 rfl rfl rfl (by decide) (Nat.le_of_ble_eq_true rfl) (m260_ok h1) (Nat.le_trans (by decide) hd) hc hs rfl ?_
  refine x_sto (lc' := [.ref 1000002, .ref 0, .ref 106, .ref 124, .ref 125, .int (Int32.ofNat i), .int r, am_dead, am_dead, am_dead]) (st' := []) r287_201 rfl rfl rfl rfl ?_
  refine x_ld (v := .ref 106) r287_203 rfl rfl rfl ?_
  refine x_ld (v := .ref 1000002) r287_204 rfl rfl rfl ?_
  refine x_ld (v := .int (Int32.ofNat i)) r287_205 rfl rfl rfl ?_
  refine x_ic (v := 1) r287_207 rfl rfl ?_
  refine x_ar r287_208 rfl trivial rfl ?_
  refine am_topI (v := Int32.ofNat (i + 1)) (q_add i 1).symm ?_
  refine y_ialX (e := (i + 1)) r287_209 (q_vx hL (by omega)) (q_tn (by omega)) rfl ?_
  refine x_ld (v := .ref 1000002) r287_210 rfl rfl rfl ?_
  refine x_ld (v := .int (Int32.ofNat i)) r287_211 rfl rfl rfl ?_
  refine x_ic (v := 2) r287_213 rfl rfl ?_
  refine x_ar r287_214 rfl trivial rfl ?_
  refine am_topI (v := Int32.ofNat (i + 2)) (q_add i 2).symm ?_
  refine y_ialX (e := (i + 2)) r287_215 (q_vx hL (by omega)) (q_tn (by omega)) rfl ?_
  refine x_call1 (as := [.ref 106, .int (xs (i + 1)), .int (xs (i + 2))]) (rest := []) r287_216 rfl rfl rfl (by decide) (Nat.le_of_ble_eq_true rfl) (m78_ok h2) (Nat.le_trans (by decide) hd) hc hs rfl ?_
  refine x_sto (lc' := [.ref 1000002, .ref 0, .ref 106, .ref 124, .ref 125, .int (Int32.ofNat i), .int r, .int b, am_dead, am_dead]) (st' := []) r287_219 rfl rfl rfl rfl ?_
  refine x_ld (v := .ref 106) r287_221 rfl rfl rfl ?_
  refine x_call1 (as := [.ref 106]) (rest := []) r287_222 rfl rfl rfl (by decide) (Nat.le_of_ble_eq_true rfl) (m45_ok (r := D2.1 106 0) rfl) (Nat.le_trans (by decide) hd) hc hs rfl ?_
  refine x_ld (v := .int r) r287_225 rfl rfl rfl ?_
  refine x_iceqT r287_227 h3 ?_
  refine x_ld (v := .int r) r287_232 rfl rfl rfl ?_
  by_cases q : r = 0
  · refine x_ifneT r287_234 q rfl ?_
    refine x_ld (v := .ref 124) r287_237 rfl rfl rfl ?_
    refine x_ic (v := 0) r287_238 rfl rfl ?_
    refine y_lal (n := 1) (e := 0) r287_239 rfl (by decide) (by decide) rfl rfl ?_
    refine x_ld (v := .int b) r287_240 rfl rfl rfl ?_
    refine x_ar r287_242 rfl trivial rfl ?_
    refine x_ar r287_243 rfl trivial rfl ?_
    refine am_topI (v := 0) (by rw [h4 q, q_lgc]) ?_
    refine x_ifeqT r287_244 rfl ?_
    refine x_goto r287_249 ?_
    exact x_forget (lc0 := [.ref 1000002, .ref 0, .ref 106, .ref 124, .ref 125, .int (Int32.ofNat i), am_dead, am_dead, am_dead, am_dead]) ⟨Or.inl rfl, Or.inl rfl, Or.inl rfl, Or.inl rfl, Or.inl rfl, Or.inl rfl, Or.inr ⟨rfl, rfl⟩, Or.inr ⟨rfl, rfl⟩, Or.inl rfl, Or.inl rfl, trivial⟩ (nx D2 _ _ h5 (Nat.le_refl _) (Nat.le_refl _))
  · refine x_ifneF r287_234 q ?_
    refine x_goto r287_249 ?_
    exact x_forget (lc0 := [.ref 1000002, .ref 0, .ref 106, .ref 124, .ref 125, .int (Int32.ofNat i), am_dead, am_dead, am_dead, am_dead]) ⟨Or.inl rfl, Or.inl rfl, Or.inl rfl, Or.inl rfl, Or.inl rfl, Or.inl rfl, Or.inr ⟨rfl, rfl⟩, Or.inr ⟨rfl, rfl⟩, Or.inl rfl, Or.inl rfl, trivial⟩ (nx D2 _ _ h5 (Nat.le_refl _) (Nat.le_refl _))
theorem law_1 (hi : i + 5 ≤ L) (hL : L ≤ 2560) (hN : 2000 ≤ N) (hI : q_I D) (hc : c + 1 ≤ mc) (hs : s + 6 ≤ ms) (hd : 57 ≤ d) (nx : ∀ D' c' s', q_I D' → c' ≤ c + 1 → s' ≤ s + 6 → am_X xs L 287 d mc ms 1956 [.ref 1000002, .ref 0, .ref 106, .ref 124, .ref 125, .int (Int32.ofNat i), am_dead, am_dead, am_dead, am_dead] [] (am_mk D') c' s' Q) : am_X xs L 287 d mc ms 252 [.ref 1000002, .ref 0, .ref 106, .ref 124, .ref 125, .int (Int32.ofNat i), am_dead, am_dead, am_dead, am_dead] [] (am_mk D) c s Q := by
  obtain ⟨r, D1, b, D2, h1, h2, h3, h4, h5⟩ := g_deal hN hI (xs (i + 1))
  refine x_ld (v := .ref 0) r287_252 rfl rfl rfl ?_
  refine x_ld (v := .ref 1000002) r287_253 rfl rfl rfl ?_
  refine x_ld (v := .int (Int32.ofNat i)) r287_254 rfl rfl rfl ?_
  refine x_ic (v := 1) r287_256 rfl rfl ?_
  refine x_ar r287_257 rfl trivial rfl ?_
  refine am_topI (v := Int32.ofNat (i + 1)) (q_add i 1).symm ?_
  refine y_ialX (e := (i + 1)) r287_258 (q_vx hL (by omega)) (q_tn (by omega)) rfl ?_
  refine x_ld (v := .ref 124) r287_259 rfl rfl rfl ?_
  refine x_call1 (as := [.ref 0, .int (xs (i + 1)), .ref 124]) (rest := []) r287_260 rfl rfl rfl (by decide) (Nat.le_of_ble_eq_true rfl) (m261_ok h1) (Nat.le_trans (by decide) hd) hc hs rfl ?_
  refine x_sto (lc' := [.ref 1000002, .ref 0, .ref 106, .ref 124, .ref 125, .int (Int32.ofNat i), .int r, am_dead, am_dead, am_dead]) (st' := []) r287_263 rfl rfl rfl rfl ?_
  refine x_ld (v := .ref 106) r287_265 rfl rfl rfl ?_
  refine x_ld (v := .ref 1000002) r287_266 rfl rfl rfl ?_
  refine x_ld (v := .int (Int32.ofNat i)) r287_267 rfl rfl rfl ?_
  refine x_ic (v := 1) r287_269 rfl rfl ?_
  refine x_ar r287_270 rfl trivial rfl ?_
  refine am_topI (v := Int32.ofNat (i + 1)) (q_add i 1).symm ?_
  refine y_ialX (e := (i + 1)) r287_271 (q_vx hL (by omega)) (q_tn (by omega)) rfl ?_
  refine x_call1 (as := [.ref 106, .int (xs (i + 1))]) (rest := []) r287_272 rfl rfl rfl (by decide) (Nat.le_of_ble_eq_true rfl) (m80_ok h2) (Nat.le_trans (by decide) hd) hc hs rfl ?_
  refine x_sto (lc' := [.ref 1000002, .ref 0, .ref 106, .ref 124, .ref 125, .int (Int32.ofNat i), .int r, .int b, am_dead, am_dead]) (st' := []) r287_275 rfl rfl rfl rfl ?_
  refine x_ld (v := .ref 106) r287_277 rfl rfl rfl ?_
  refine x_call1 (as := [.ref 106]) (rest := []) r287_278 rfl rfl rfl (by decide) (Nat.le_of_ble_eq_true rfl) (m45_ok (r := D2.1 106 0) rfl) (Nat.le_trans (by decide) hd) hc hs rfl ?_
  refine x_ld (v := .int r) r287_281 rfl rfl rfl ?_
  refine x_iceqT r287_283 h3 ?_
  refine x_ld (v := .int r) r287_288 rfl rfl rfl ?_
  by_cases q : r = 0
  · refine x_ifneT r287_290 q rfl ?_
    refine x_ld (v := .ref 124) r287_293 rfl rfl rfl ?_
    refine x_ic (v := 0) r287_294 rfl rfl ?_
    refine y_lal (n := 1) (e := 0) r287_295 rfl (by decide) (by decide) rfl rfl ?_
    refine x_ld (v := .int b) r287_296 rfl rfl rfl ?_
    refine x_ar r287_298 rfl trivial rfl ?_
    refine x_ar r287_299 rfl trivial rfl ?_
    refine am_topI (v := 0) (by rw [h4 q, q_lgc]) ?_
    refine x_ifeqT r287_300 rfl ?_
    refine x_goto r287_305 ?_
    exact x_forget (lc0 := [.ref 1000002, .ref 0, .ref 106, .ref 124, .ref 125, .int (Int32.ofNat i), am_dead, am_dead, am_dead, am_dead]) ⟨Or.inl rfl, Or.inl rfl, Or.inl rfl, Or.inl rfl, Or.inl rfl, Or.inl rfl, Or.inr ⟨rfl, rfl⟩, Or.inr ⟨rfl, rfl⟩, Or.inl rfl, Or.inl rfl, trivial⟩ (nx D2 _ _ h5 (Nat.le_refl _) (Nat.le_refl _))
  · refine x_ifneF r287_290 q ?_
    refine x_goto r287_305 ?_
    exact x_forget (lc0 := [.ref 1000002, .ref 0, .ref 106, .ref 124, .ref 125, .int (Int32.ofNat i), am_dead, am_dead, am_dead, am_dead]) ⟨Or.inl rfl, Or.inl rfl, Or.inl rfl, Or.inl rfl, Or.inl rfl, Or.inl rfl, Or.inr ⟨rfl, rfl⟩, Or.inr ⟨rfl, rfl⟩, Or.inl rfl, Or.inl rfl, trivial⟩ (nx D2 _ _ h5 (Nat.le_refl _) (Nat.le_refl _))
theorem law_2 (hi : i + 5 ≤ L) (hL : L ≤ 2560) (hN : 2000 ≤ N) (hI : q_I D) (hc : c + 1 ≤ mc) (hs : s + 6 ≤ ms) (hd : 57 ≤ d) (nx : ∀ D' c' s', q_I D' → c' ≤ c + 1 → s' ≤ s + 6 → am_X xs L 287 d mc ms 1956 [.ref 1000002, .ref 0, .ref 106, .ref 124, .ref 125, .int (Int32.ofNat i), am_dead, am_dead, am_dead, am_dead] [] (am_mk D') c' s' Q) : am_X xs L 287 d mc ms 308 [.ref 1000002, .ref 0, .ref 106, .ref 124, .ref 125, .int (Int32.ofNat i), am_dead, am_dead, am_dead, am_dead] [] (am_mk D) c s Q := by
  obtain ⟨r, D1, b, D2, h1, h2, h3, h4, h5⟩ := g_begin hN hI (xs (i + 1))
  refine x_ld (v := .ref 0) r287_308 rfl rfl rfl ?_
  refine x_ld (v := .ref 1000002) r287_309 rfl rfl rfl ?_
  refine x_ld (v := .int (Int32.ofNat i)) r287_310 rfl rfl rfl ?_
  refine x_ic (v := 1) r287_312 rfl rfl ?_
  refine x_ar r287_313 rfl trivial rfl ?_
  refine am_topI (v := Int32.ofNat (i + 1)) (q_add i 1).symm ?_
  refine y_ialX (e := (i + 1)) r287_314 (q_vx hL (by omega)) (q_tn (by omega)) rfl ?_
  refine x_ld (v := .ref 124) r287_315 rfl rfl rfl ?_
  refine x_call1 (as := [.ref 0, .int (xs (i + 1)), .ref 124]) (rest := []) r287_316 rfl rfl rfl (by decide) (Nat.le_of_ble_eq_true rfl) (m262_ok h1) (Nat.le_trans (by decide) hd) hc hs rfl ?_
  refine x_sto (lc' := [.ref 1000002, .ref 0, .ref 106, .ref 124, .ref 125, .int (Int32.ofNat i), .int r, am_dead, am_dead, am_dead]) (st' := []) r287_319 rfl rfl rfl rfl ?_
  refine x_ld (v := .ref 106) r287_321 rfl rfl rfl ?_
  refine x_ld (v := .ref 1000002) r287_322 rfl rfl rfl ?_
  refine x_ld (v := .int (Int32.ofNat i)) r287_323 rfl rfl rfl ?_
  refine x_ic (v := 1) r287_325 rfl rfl ?_
  refine x_ar r287_326 rfl trivial rfl ?_
  refine am_topI (v := Int32.ofNat (i + 1)) (q_add i 1).symm ?_
  refine y_ialX (e := (i + 1)) r287_327 (q_vx hL (by omega)) (q_tn (by omega)) rfl ?_
  refine x_call1 (as := [.ref 106, .int (xs (i + 1))]) (rest := []) r287_328 rfl rfl rfl (by decide) (Nat.le_of_ble_eq_true rfl) (m82_ok h2) (Nat.le_trans (by decide) hd) hc hs rfl ?_
  refine x_sto (lc' := [.ref 1000002, .ref 0, .ref 106, .ref 124, .ref 125, .int (Int32.ofNat i), .int r, .int b, am_dead, am_dead]) (st' := []) r287_331 rfl rfl rfl rfl ?_
  refine x_ld (v := .ref 106) r287_333 rfl rfl rfl ?_
  refine x_call1 (as := [.ref 106]) (rest := []) r287_334 rfl rfl rfl (by decide) (Nat.le_of_ble_eq_true rfl) (m45_ok (r := D2.1 106 0) rfl) (Nat.le_trans (by decide) hd) hc hs rfl ?_
  refine x_ld (v := .int r) r287_337 rfl rfl rfl ?_
  refine x_iceqT r287_339 h3 ?_
  refine x_ld (v := .int r) r287_344 rfl rfl rfl ?_
  by_cases q : r = 0
  · refine x_ifneT r287_346 q rfl ?_
    refine x_ld (v := .ref 124) r287_349 rfl rfl rfl ?_
    refine x_ic (v := 0) r287_350 rfl rfl ?_
    refine y_lal (n := 1) (e := 0) r287_351 rfl (by decide) (by decide) rfl rfl ?_
    refine x_ld (v := .int b) r287_352 rfl rfl rfl ?_
    refine x_ar r287_354 rfl trivial rfl ?_
    refine x_ar r287_355 rfl trivial rfl ?_
    refine am_topI (v := 0) (by rw [h4 q, q_lgc]) ?_
    refine x_ifeqT r287_356 rfl ?_
    refine x_goto r287_361 ?_
    exact x_forget (lc0 := [.ref 1000002, .ref 0, .ref 106, .ref 124, .ref 125, .int (Int32.ofNat i), am_dead, am_dead, am_dead, am_dead]) ⟨Or.inl rfl, Or.inl rfl, Or.inl rfl, Or.inl rfl, Or.inl rfl, Or.inl rfl, Or.inr ⟨rfl, rfl⟩, Or.inr ⟨rfl, rfl⟩, Or.inl rfl, Or.inl rfl, trivial⟩ (nx D2 _ _ h5 (Nat.le_refl _) (Nat.le_refl _))
  · refine x_ifneF r287_346 q ?_
    refine x_goto r287_361 ?_
    exact x_forget (lc0 := [.ref 1000002, .ref 0, .ref 106, .ref 124, .ref 125, .int (Int32.ofNat i), am_dead, am_dead, am_dead, am_dead]) ⟨Or.inl rfl, Or.inl rfl, Or.inl rfl, Or.inl rfl, Or.inl rfl, Or.inl rfl, Or.inr ⟨rfl, rfl⟩, Or.inr ⟨rfl, rfl⟩, Or.inl rfl, Or.inl rfl, trivial⟩ (nx D2 _ _ h5 (Nat.le_refl _) (Nat.le_refl _))
theorem law_3 (hi : i + 5 ≤ L) (hL : L ≤ 2560) (hN : 2000 ≤ N) (hI : q_I D) (hc : c + 1 ≤ mc) (hs : s + 6 ≤ ms) (hd : 57 ≤ d) (nx : ∀ D' c' s', q_I D' → c' ≤ c + 1 → s' ≤ s + 6 → am_X xs L 287 d mc ms 1956 [.ref 1000002, .ref 0, .ref 106, .ref 124, .ref 125, .int (Int32.ofNat i), am_dead, am_dead, am_dead, am_dead] [] (am_mk D') c' s' Q) : am_X xs L 287 d mc ms 364 [.ref 1000002, .ref 0, .ref 106, .ref 124, .ref 125, .int (Int32.ofNat i), am_dead, am_dead, am_dead, am_dead] [] (am_mk D) c s Q := by
  obtain ⟨r, D1, b, D2, h1, h2, h3, h4, h5⟩ := g_gather hN hI
  refine x_ld (v := .ref 0) r287_364 rfl rfl rfl ?_
  refine x_ld (v := .ref 124) r287_365 rfl rfl rfl ?_
  refine x_call1 (as := [.ref 0, .ref 124]) (rest := []) r287_366 rfl rfl rfl (by decide) (Nat.le_of_ble_eq_true rfl) (m263_ok h1) (Nat.le_trans (by decide) hd) hc hs rfl ?_
  refine x_sto (lc' := [.ref 1000002, .ref 0, .ref 106, .ref 124, .ref 125, .int (Int32.ofNat i), .int r, am_dead, am_dead, am_dead]) (st' := []) r287_369 rfl rfl rfl rfl ?_
  refine x_ld (v := .ref 106) r287_371 rfl rfl rfl ?_
  refine x_call1 (as := [.ref 106]) (rest := []) r287_372 rfl rfl rfl (by decide) (Nat.le_of_ble_eq_true rfl) (m83_ok h2) (Nat.le_trans (by decide) hd) hc hs rfl ?_
  refine x_sto (lc' := [.ref 1000002, .ref 0, .ref 106, .ref 124, .ref 125, .int (Int32.ofNat i), .int r, .int b, am_dead, am_dead]) (st' := []) r287_375 rfl rfl rfl rfl ?_
  refine x_ld (v := .ref 106) r287_377 rfl rfl rfl ?_
  refine x_call1 (as := [.ref 106]) (rest := []) r287_378 rfl rfl rfl (by decide) (Nat.le_of_ble_eq_true rfl) (m45_ok (r := D2.1 106 0) rfl) (Nat.le_trans (by decide) hd) hc hs rfl ?_
  refine x_ld (v := .int r) r287_381 rfl rfl rfl ?_
  refine x_iceqT r287_383 h3 ?_
  refine x_ld (v := .int r) r287_388 rfl rfl rfl ?_
  by_cases q : r = 0
  · refine x_ifneT r287_390 q rfl ?_
    refine x_ld (v := .ref 124) r287_393 rfl rfl rfl ?_
    refine x_ic (v := 0) r287_394 rfl rfl ?_
    refine y_lal (n := 1) (e := 0) r287_395 rfl (by decide) (by decide) rfl rfl ?_
    refine x_ld (v := .int b) r287_396 rfl rfl rfl ?_
    refine x_ar r287_398 rfl trivial rfl ?_
    refine x_ar r287_399 rfl trivial rfl ?_
    refine am_topI (v := 0) (by rw [h4 q, q_lgc]) ?_
    refine x_ifeqT r287_400 rfl ?_
    refine x_goto r287_405 ?_
    exact x_forget (lc0 := [.ref 1000002, .ref 0, .ref 106, .ref 124, .ref 125, .int (Int32.ofNat i), am_dead, am_dead, am_dead, am_dead]) ⟨Or.inl rfl, Or.inl rfl, Or.inl rfl, Or.inl rfl, Or.inl rfl, Or.inl rfl, Or.inr ⟨rfl, rfl⟩, Or.inr ⟨rfl, rfl⟩, Or.inl rfl, Or.inl rfl, trivial⟩ (nx D2 _ _ h5 (Nat.le_refl _) (Nat.le_refl _))
  · refine x_ifneF r287_390 q ?_
    refine x_goto r287_405 ?_
    exact x_forget (lc0 := [.ref 1000002, .ref 0, .ref 106, .ref 124, .ref 125, .int (Int32.ofNat i), am_dead, am_dead, am_dead, am_dead]) ⟨Or.inl rfl, Or.inl rfl, Or.inl rfl, Or.inl rfl, Or.inl rfl, Or.inl rfl, Or.inr ⟨rfl, rfl⟩, Or.inr ⟨rfl, rfl⟩, Or.inl rfl, Or.inl rfl, trivial⟩ (nx D2 _ _ h5 (Nat.le_refl _) (Nat.le_refl _))
theorem law_4 (hi : i + 5 ≤ L) (hL : L ≤ 2560) (hN : 2000 ≤ N) (hI : q_I D) (hc : c + 1 ≤ mc) (hs : s + 6 ≤ ms) (hd : 57 ≤ d) (nx : ∀ D' c' s', q_I D' → c' ≤ c + 1 → s' ≤ s + 6 → am_X xs L 287 d mc ms 1956 [.ref 1000002, .ref 0, .ref 106, .ref 124, .ref 125, .int (Int32.ofNat i), am_dead, am_dead, am_dead, am_dead] [] (am_mk D') c' s' Q) : am_X xs L 287 d mc ms 408 [.ref 1000002, .ref 0, .ref 106, .ref 124, .ref 125, .int (Int32.ofNat i), am_dead, am_dead, am_dead, am_dead] [] (am_mk D) c s Q := by
  obtain ⟨r, D1, b, D2, h1, h2, h3, h4, h5⟩ := g_lay hN hI (xs (i + 1)) (xs (i + 2)) (xs (i + 3))
  refine x_ld (v := .ref 0) r287_408 rfl rfl rfl ?_
  refine x_ld (v := .ref 1000002) r287_409 rfl rfl rfl ?_
  refine x_ld (v := .int (Int32.ofNat i)) r287_410 rfl rfl rfl ?_
  refine x_ic (v := 1) r287_412 rfl rfl ?_
  refine x_ar r287_413 rfl trivial rfl ?_
  refine am_topI (v := Int32.ofNat (i + 1)) (q_add i 1).symm ?_
  refine y_ialX (e := (i + 1)) r287_414 (q_vx hL (by omega)) (q_tn (by omega)) rfl ?_
  refine x_ld (v := .ref 1000002) r287_415 rfl rfl rfl ?_
  refine x_ld (v := .int (Int32.ofNat i)) r287_416 rfl rfl rfl ?_
  refine x_ic (v := 2) r287_418 rfl rfl ?_
  refine x_ar r287_419 rfl trivial rfl ?_
  refine am_topI (v := Int32.ofNat (i + 2)) (q_add i 2).symm ?_
  refine y_ialX (e := (i + 2)) r287_420 (q_vx hL (by omega)) (q_tn (by omega)) rfl ?_
  refine x_ld (v := .ref 1000002) r287_421 rfl rfl rfl ?_
  refine x_ld (v := .int (Int32.ofNat i)) r287_422 rfl rfl rfl ?_
  refine x_ic (v := 3) r287_424 rfl rfl ?_
  refine x_ar r287_425 rfl trivial rfl ?_
  refine am_topI (v := Int32.ofNat (i + 3)) (q_add i 3).symm ?_
  refine y_ialX (e := (i + 3)) r287_426 (q_vx hL (by omega)) (q_tn (by omega)) rfl ?_
  refine x_ld (v := .ref 124) r287_427 rfl rfl rfl ?_
  refine x_call1 (as := [.ref 0, .int (xs (i + 1)), .int (xs (i + 2)), .int (xs (i + 3)), .ref 124]) (rest := []) r287_428 rfl rfl rfl (by decide) (Nat.le_of_ble_eq_true rfl) (m264_ok h1) (Nat.le_trans (by decide) hd) hc hs rfl ?_
  refine x_sto (lc' := [.ref 1000002, .ref 0, .ref 106, .ref 124, .ref 125, .int (Int32.ofNat i), .int r, am_dead, am_dead, am_dead]) (st' := []) r287_431 rfl rfl rfl rfl ?_
  refine x_ld (v := .ref 106) r287_433 rfl rfl rfl ?_
  refine x_ld (v := .ref 1000002) r287_434 rfl rfl rfl ?_
  refine x_ld (v := .int (Int32.ofNat i)) r287_435 rfl rfl rfl ?_
  refine x_ic (v := 1) r287_437 rfl rfl ?_
  refine x_ar r287_438 rfl trivial rfl ?_
  refine am_topI (v := Int32.ofNat (i + 1)) (q_add i 1).symm ?_
  refine y_ialX (e := (i + 1)) r287_439 (q_vx hL (by omega)) (q_tn (by omega)) rfl ?_
  refine x_ld (v := .ref 1000002) r287_440 rfl rfl rfl ?_
  refine x_ld (v := .int (Int32.ofNat i)) r287_441 rfl rfl rfl ?_
  refine x_ic (v := 2) r287_443 rfl rfl ?_
  refine x_ar r287_444 rfl trivial rfl ?_
  refine am_topI (v := Int32.ofNat (i + 2)) (q_add i 2).symm ?_
  refine y_ialX (e := (i + 2)) r287_445 (q_vx hL (by omega)) (q_tn (by omega)) rfl ?_
  refine x_ld (v := .ref 1000002) r287_446 rfl rfl rfl ?_
  refine x_ld (v := .int (Int32.ofNat i)) r287_447 rfl rfl rfl ?_
  refine x_ic (v := 3) r287_449 rfl rfl ?_
  refine x_ar r287_450 rfl trivial rfl ?_
  refine am_topI (v := Int32.ofNat (i + 3)) (q_add i 3).symm ?_
  refine y_ialX (e := (i + 3)) r287_451 (q_vx hL (by omega)) (q_tn (by omega)) rfl ?_
  refine x_call1 (as := [.ref 106, .int (xs (i + 1)), .int (xs (i + 2)), .int (xs (i + 3))]) (rest := []) r287_452 rfl rfl rfl (by decide) (Nat.le_of_ble_eq_true rfl) (m84_ok h2) (Nat.le_trans (by decide) hd) hc hs rfl ?_
  refine x_sto (lc' := [.ref 1000002, .ref 0, .ref 106, .ref 124, .ref 125, .int (Int32.ofNat i), .int r, .int b, am_dead, am_dead]) (st' := []) r287_455 rfl rfl rfl rfl ?_
  refine x_ld (v := .ref 106) r287_457 rfl rfl rfl ?_
  refine x_call1 (as := [.ref 106]) (rest := []) r287_458 rfl rfl rfl (by decide) (Nat.le_of_ble_eq_true rfl) (m45_ok (r := D2.1 106 0) rfl) (Nat.le_trans (by decide) hd) hc hs rfl ?_
  refine x_ld (v := .int r) r287_461 rfl rfl rfl ?_
  refine x_iceqT r287_463 h3 ?_
  refine x_ld (v := .int r) r287_468 rfl rfl rfl ?_
  by_cases q : r = 0
  · refine x_ifneT r287_470 q rfl ?_
    refine x_ld (v := .ref 124) r287_473 rfl rfl rfl ?_
    refine x_ic (v := 0) r287_474 rfl rfl ?_
    refine y_lal (n := 1) (e := 0) r287_475 rfl (by decide) (by decide) rfl rfl ?_
    refine x_ld (v := .int b) r287_476 rfl rfl rfl ?_
    refine x_ar r287_478 rfl trivial rfl ?_
    refine x_ar r287_479 rfl trivial rfl ?_
    refine am_topI (v := 0) (by rw [h4 q, q_lgc]) ?_
    refine x_ifeqT r287_480 rfl ?_
    refine x_goto r287_485 ?_
    exact x_forget (lc0 := [.ref 1000002, .ref 0, .ref 106, .ref 124, .ref 125, .int (Int32.ofNat i), am_dead, am_dead, am_dead, am_dead]) ⟨Or.inl rfl, Or.inl rfl, Or.inl rfl, Or.inl rfl, Or.inl rfl, Or.inl rfl, Or.inr ⟨rfl, rfl⟩, Or.inr ⟨rfl, rfl⟩, Or.inl rfl, Or.inl rfl, trivial⟩ (nx D2 _ _ h5 (Nat.le_refl _) (Nat.le_refl _))
  · refine x_ifneF r287_470 q ?_
    refine x_goto r287_485 ?_
    exact x_forget (lc0 := [.ref 1000002, .ref 0, .ref 106, .ref 124, .ref 125, .int (Int32.ofNat i), am_dead, am_dead, am_dead, am_dead]) ⟨Or.inl rfl, Or.inl rfl, Or.inl rfl, Or.inl rfl, Or.inl rfl, Or.inl rfl, Or.inr ⟨rfl, rfl⟩, Or.inr ⟨rfl, rfl⟩, Or.inl rfl, Or.inl rfl, trivial⟩ (nx D2 _ _ h5 (Nat.le_refl _) (Nat.le_refl _))
end TA0
