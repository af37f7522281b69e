/-! decode rows of FilterBench$Runner, methods 0 to 99 (by program: wip/gen/decs.py) -/
theorem d_N_init_0 : decode b_N_init 0 = .ok (.aload_n 0, 1) := by decide +kernel
theorem d_N_init_1 : decode b_N_init 1 = .ok (.invokespecial 3, 3) := by decide +kernel
theorem d_N_init_4 : decode b_N_init 4 = .ok (.aload_n 0, 1) := by decide +kernel
theorem d_N_init_5 : decode b_N_init 5 = .ok (.iconst 4, 1) := by decide +kernel
theorem d_N_init_6 : decode b_N_init 6 = .ok (.newarray .int, 2) := by decide +kernel
theorem d_N_init_8 : decode b_N_init 8 = .ok (.putfield 9, 3) := by decide +kernel
theorem d_N_init_11 : decode b_N_init 11 = .ok (.aload_n 0, 1) := by decide +kernel
theorem d_N_init_12 : decode b_N_init 12 = .ok (.bipush 16, 2) := by decide +kernel
theorem d_N_init_14 : decode b_N_init 14 = .ok (.anewarray 17, 3) := by decide +kernel
theorem d_N_init_17 : decode b_N_init 17 = .ok (.putfield 19, 3) := by decide +kernel
theorem d_N_init_20 : decode b_N_init 20 = .ok (.aload_n 0, 1) := by decide +kernel
theorem d_N_init_21 : decode b_N_init 21 = .ok (.aload_n 1, 1) := by decide +kernel
theorem d_N_init_22 : decode b_N_init 22 = .ok (.putfield 23, 3) := by decide +kernel
theorem d_N_init_25 : decode b_N_init 25 = .ok (.aload_n 0, 1) := by decide +kernel
theorem d_N_init_26 : decode b_N_init 26 = .ok (.aload_n 2, 1) := by decide +kernel
theorem d_N_init_27 : decode b_N_init 27 = .ok (.putfield 27, 3) := by decide +kernel
theorem d_N_init_30 : decode b_N_init 30 = .ok (.aload_n 0, 1) := by decide +kernel
theorem d_N_init_31 : decode b_N_init 31 = .ok (.aload_n 3, 1) := by decide +kernel
theorem d_N_init_32 : decode b_N_init 32 = .ok (.putfield 30, 3) := by decide +kernel
theorem d_N_init_35 : decode b_N_init 35 = .ok (.iconst 0, 1) := by decide +kernel
theorem d_N_init_36 : decode b_N_init 36 = .ok (.istore 4, 2) := by decide +kernel
theorem d_N_init_38 : decode b_N_init 38 = .ok (.iload 4, 2) := by decide +kernel
theorem d_N_init_40 : decode b_N_init 40 = .ok (.aload_n 0, 1) := by decide +kernel
theorem d_N_init_41 : decode b_N_init 41 = .ok (.getfield 19, 3) := by decide +kernel
theorem d_N_init_44 : decode b_N_init 44 = .ok (.arraylength, 1) := by decide +kernel
theorem d_N_init_45 : decode b_N_init 45 = .ok (.if_icmp .ge 23, 3) := by decide +kernel
theorem d_N_init_48 : decode b_N_init 48 = .ok (.aload_n 0, 1) := by decide +kernel
theorem d_N_init_49 : decode b_N_init 49 = .ok (.getfield 19, 3) := by decide +kernel
theorem d_N_init_52 : decode b_N_init 52 = .ok (.iload 4, 2) := by decide +kernel
theorem d_N_init_54 : decode b_N_init 54 = .ok (.new 17, 3) := by decide +kernel
theorem d_N_init_57 : decode b_N_init 57 = .ok (.dup, 1) := by decide +kernel
theorem d_N_init_58 : decode b_N_init 58 = .ok (.invokespecial 34, 3) := by decide +kernel
theorem d_N_init_61 : decode b_N_init 61 = .ok (.aastore, 1) := by decide +kernel
theorem d_N_init_62 : decode b_N_init 62 = .ok (.iinc 4 1, 3) := by decide +kernel
theorem d_N_init_65 : decode b_N_init 65 = .ok (.goto (-27), 3) := by decide +kernel
theorem d_N_init_68 : decode b_N_init 68 = .ok (.return_, 1) := by decide +kernel
theorem d_N_start_0 : decode b_N_start 0 = .ok (.aload_n 0, 1) := by decide +kernel
theorem d_N_start_1 : decode b_N_start 1 = .ok (.aload_n 1, 1) := by decide +kernel
theorem d_N_start_2 : decode b_N_start 2 = .ok (.putfield 30, 3) := by decide +kernel
theorem d_N_start_5 : decode b_N_start 5 = .ok (.aload_n 0, 1) := by decide +kernel
theorem d_N_start_6 : decode b_N_start 6 = .ok (.iconst 0, 1) := by decide +kernel
theorem d_N_start_7 : decode b_N_start 7 = .ok (.putfield 35, 3) := by decide +kernel
theorem d_N_start_10 : decode b_N_start 10 = .ok (.aload_n 0, 1) := by decide +kernel
theorem d_N_start_11 : decode b_N_start 11 = .ok (.getfield 9, 3) := by decide +kernel
theorem d_N_start_14 : decode b_N_start 14 = .ok (.iconst 0, 1) := by decide +kernel
theorem d_N_start_15 : decode b_N_start 15 = .ok (.invokestatic 41, 3) := by decide +kernel
theorem d_N_start_18 : decode b_N_start 18 = .ok (.return_, 1) := by decide +kernel
theorem d_N_steps_0 : decode b_N_steps 0 = .ok (.aload_n 0, 1) := by decide +kernel
theorem d_N_steps_1 : decode b_N_steps 1 = .ok (.getfield 35, 3) := by decide +kernel
theorem d_N_steps_4 : decode b_N_steps 4 = .ok (.ireturn, 1) := by decide +kernel
theorem d_N_work_0 : decode b_N_work 0 = .ok (.aload_n 0, 1) := by decide +kernel
theorem d_N_work_1 : decode b_N_work 1 = .ok (.getfield 35, 3) := by decide +kernel
theorem d_N_work_4 : decode b_N_work 4 = .ok (.sipush 150, 3) := by decide +kernel
theorem d_N_work_7 : decode b_N_work 7 = .ok (.if_icmp .ne 13, 3) := by decide +kernel
theorem d_N_work_10 : decode b_N_work 10 = .ok (.new 47, 3) := by decide +kernel
theorem d_N_work_13 : decode b_N_work 13 = .ok (.dup, 1) := by decide +kernel
theorem d_N_work_14 : decode b_N_work 14 = .ok (.ldc 49, 2) := by decide +kernel
theorem d_N_work_16 : decode b_N_work 16 = .ok (.invokespecial 51, 3) := by decide +kernel
theorem d_N_work_19 : decode b_N_work 19 = .ok (.athrow, 1) := by decide +kernel
theorem d_N_work_20 : decode b_N_work 20 = .ok (.aload_n 0, 1) := by decide +kernel
theorem d_N_work_21 : decode b_N_work 21 = .ok (.dup, 1) := by decide +kernel
theorem d_N_work_22 : decode b_N_work 22 = .ok (.getfield 35, 3) := by decide +kernel
theorem d_N_work_25 : decode b_N_work 25 = .ok (.iconst 1, 1) := by decide +kernel
theorem d_N_work_26 : decode b_N_work 26 = .ok (.iadd, 1) := by decide +kernel
theorem d_N_work_27 : decode b_N_work 27 = .ok (.putfield 35, 3) := by decide +kernel
theorem d_N_work_30 : decode b_N_work 30 = .ok (.aload_n 0, 1) := by decide +kernel
theorem d_N_work_31 : decode b_N_work 31 = .ok (.getfield 30, 3) := by decide +kernel
theorem d_N_work_34 : decode b_N_work 34 = .ok (.iload_n 1, 1) := by decide +kernel
theorem d_N_work_35 : decode b_N_work 35 = .ok (.invokevirtual 54, 3) := by decide +kernel
theorem d_N_work_38 : decode b_N_work 38 = .ok (.istore 5, 2) := by decide +kernel
theorem d_N_work_40 : decode b_N_work 40 = .ok (.aload_n 0, 1) := by decide +kernel
theorem d_N_work_41 : decode b_N_work 41 = .ok (.getfield 30, 3) := by decide +kernel
theorem d_N_work_44 : decode b_N_work 44 = .ok (.iload_n 1, 1) := by decide +kernel
theorem d_N_work_45 : decode b_N_work 45 = .ok (.invokevirtual 58, 3) := by decide +kernel
theorem d_N_work_48 : decode b_N_work 48 = .ok (.tableswitch 502 0 34 #[156, 165, 502, 189, 502, 199, 211, 230, 245, 262, 274, 502, 289, 289, 502, 502, 301, 502, 332, 344, 502, 356, 371, 383, 400, 417, 420, 429, 446, 502, 463, 473, 502, 502, 485], 156) := by decide +kernel
theorem d_N_work_204 : decode b_N_work 204 = .ok (.aload 4, 2) := by decide +kernel
theorem d_N_work_206 : decode b_N_work 206 = .ok (.iload_n 2, 1) := by decide +kernel
theorem d_N_work_207 : decode b_N_work 207 = .ok (.invokevirtual 61, 3) := by decide +kernel
theorem d_N_work_210 : decode b_N_work 210 = .ok (.goto 349, 3) := by decide +kernel
theorem d_N_work_213 : decode b_N_work 213 = .ok (.aload_n 0, 1) := by decide +kernel
theorem d_N_work_214 : decode b_N_work 214 = .ok (.aload_n 0, 1) := by decide +kernel
theorem d_N_work_215 : decode b_N_work 215 = .ok (.getfield 23, 3) := by decide +kernel
theorem d_N_work_218 : decode b_N_work 218 = .ok (.iload_n 2, 1) := by decide +kernel
theorem d_N_work_219 : decode b_N_work 219 = .ok (.aload_n 0, 1) := by decide +kernel
theorem d_N_work_220 : decode b_N_work 220 = .ok (.getfield 27, 3) := by decide +kernel
theorem d_N_work_223 : decode b_N_work 223 = .ok (.iload 5, 2) := by decide +kernel
theorem d_N_work_225 : decode b_N_work 225 = .ok (.iaload, 1) := by decide +kernel
theorem d_N_work_226 : decode b_N_work 226 = .ok (.invokevirtual 65, 3) := by decide +kernel
theorem d_N_work_229 : decode b_N_work 229 = .ok (.aload 4, 2) := by decide +kernel
theorem d_N_work_231 : decode b_N_work 231 = .ok (.invokevirtual 69, 3) := by decide +kernel
theorem d_N_work_234 : decode b_N_work 234 = .ok (.goto 325, 3) := by decide +kernel
theorem d_N_work_237 : decode b_N_work 237 = .ok (.aload_n 0, 1) := by decide +kernel
theorem d_N_work_238 : decode b_N_work 238 = .ok (.iload_n 2, 1) := by decide +kernel
theorem d_N_work_239 : decode b_N_work 239 = .ok (.aload 4, 2) := by decide +kernel
theorem d_N_work_241 : decode b_N_work 241 = .ok (.invokevirtual 73, 3) := by decide +kernel
theorem d_N_work_244 : decode b_N_work 244 = .ok (.goto 315, 3) := by decide +kernel
theorem d_N_work_247 : decode b_N_work 247 = .ok (.aload_n 0, 1) := by decide +kernel
theorem d_N_work_248 : decode b_N_work 248 = .ok (.iload_n 1, 1) := by decide +kernel
theorem d_N_work_249 : decode b_N_work 249 = .ok (.iload_n 2, 1) := by decide +kernel
theorem d_N_work_250 : decode b_N_work 250 = .ok (.iload_n 3, 1) := by decide +kernel
theorem d_N_work_251 : decode b_N_work 251 = .ok (.aload 4, 2) := by decide +kernel
theorem d_N_work_253 : decode b_N_work 253 = .ok (.invokevirtual 76, 3) := by decide +kernel
theorem d_N_work_256 : decode b_N_work 256 = .ok (.goto 303, 3) := by decide +kernel
theorem d_N_work_259 : decode b_N_work 259 = .ok (.aload 4, 2) := by decide +kernel
theorem d_N_work_261 : decode b_N_work 261 = .ok (.aload_n 0, 1) := by decide +kernel
theorem d_N_work_262 : decode b_N_work 262 = .ok (.getfield 23, 3) := by decide +kernel
theorem d_N_work_265 : decode b_N_work 265 = .ok (.iload 5, 2) := by decide +kernel
theorem d_N_work_267 : decode b_N_work 267 = .ok (.i2l, 1) := by decide +kernel
theorem d_N_work_268 : decode b_N_work 268 = .ok (.iconst 3, 1) := by decide +kernel
theorem d_N_work_269 : decode b_N_work 269 = .ok (.invokevirtual 80, 3) := by decide +kernel
theorem d_N_work_272 : decode b_N_work 272 = .ok (.invokevirtual 61, 3) := by decide +kernel
theorem d_N_work_275 : decode b_N_work 275 = .ok (.goto 284, 3) := by decide +kernel
theorem d_N_work_278 : decode b_N_work 278 = .ok (.aload 4, 2) := by decide +kernel
theorem d_N_work_280 : decode b_N_work 280 = .ok (.aload_n 0, 1) := by decide +kernel
theorem d_N_work_281 : decode b_N_work 281 = .ok (.getfield 27, 3) := by decide +kernel
theorem d_N_work_284 : decode b_N_work 284 = .ok (.iload 5, 2) := by decide +kernel
theorem d_N_work_286 : decode b_N_work 286 = .ok (.iaload, 1) := by decide +kernel
theorem d_N_work_287 : decode b_N_work 287 = .ok (.invokevirtual 61, 3) := by decide +kernel
theorem d_N_work_290 : decode b_N_work 290 = .ok (.goto 269, 3) := by decide +kernel
theorem d_N_work_293 : decode b_N_work 293 = .ok (.aload 4, 2) := by decide +kernel
theorem d_N_work_295 : decode b_N_work 295 = .ok (.aload_n 0, 1) := by decide +kernel
theorem d_N_work_296 : decode b_N_work 296 = .ok (.getfield 23, 3) := by decide +kernel
theorem d_N_work_299 : decode b_N_work 299 = .ok (.iload 5, 2) := by decide +kernel
theorem d_N_work_301 : decode b_N_work 301 = .ok (.invokevirtual 84, 3) := by decide +kernel
theorem d_N_work_304 : decode b_N_work 304 = .ok (.invokevirtual 61, 3) := by decide +kernel
theorem d_N_work_307 : decode b_N_work 307 = .ok (.goto 252, 3) := by decide +kernel
theorem d_N_work_310 : decode b_N_work 310 = .ok (.aload_n 0, 1) := by decide +kernel
theorem d_N_work_311 : decode b_N_work 311 = .ok (.iload_n 1, 1) := by decide +kernel
theorem d_N_work_312 : decode b_N_work 312 = .ok (.iload_n 2, 1) := by decide +kernel
theorem d_N_work_313 : decode b_N_work 313 = .ok (.iload_n 3, 1) := by decide +kernel
theorem d_N_work_314 : decode b_N_work 314 = .ok (.aload 4, 2) := by decide +kernel
theorem d_N_work_316 : decode b_N_work 316 = .ok (.invokevirtual 87, 3) := by decide +kernel
theorem d_N_work_319 : decode b_N_work 319 = .ok (.goto 240, 3) := by decide +kernel
theorem d_N_work_322 : decode b_N_work 322 = .ok (.aload 4, 2) := by decide +kernel
theorem d_N_work_324 : decode b_N_work 324 = .ok (.aload_n 0, 1) := by decide +kernel
theorem d_N_work_325 : decode b_N_work 325 = .ok (.getfield 23, 3) := by decide +kernel
theorem d_N_work_328 : decode b_N_work 328 = .ok (.invokevirtual 90, 3) := by decide +kernel
theorem d_N_work_331 : decode b_N_work 331 = .ok (.invokevirtual 61, 3) := by decide +kernel
theorem d_N_work_334 : decode b_N_work 334 = .ok (.goto 225, 3) := by decide +kernel
theorem d_N_work_337 : decode b_N_work 337 = .ok (.aload_n 0, 1) := by decide +kernel
theorem d_N_work_338 : decode b_N_work 338 = .ok (.iload_n 1, 1) := by decide +kernel
theorem d_N_work_339 : decode b_N_work 339 = .ok (.iload_n 2, 1) := by decide +kernel
theorem d_N_work_340 : decode b_N_work 340 = .ok (.iload_n 3, 1) := by decide +kernel
theorem d_N_work_341 : decode b_N_work 341 = .ok (.aload 4, 2) := by decide +kernel
theorem d_N_work_343 : decode b_N_work 343 = .ok (.invokevirtual 94, 3) := by decide +kernel
theorem d_N_work_346 : decode b_N_work 346 = .ok (.goto 213, 3) := by decide +kernel
theorem d_N_work_349 : decode b_N_work 349 = .ok (.aload 4, 2) := by decide +kernel
theorem d_N_work_351 : decode b_N_work 351 = .ok (.aload_n 0, 1) := by decide +kernel
theorem d_N_work_352 : decode b_N_work 352 = .ok (.getfield 23, 3) := by decide +kernel
theorem d_N_work_355 : decode b_N_work 355 = .ok (.aload_n 0, 1) := by decide +kernel
theorem d_N_work_356 : decode b_N_work 356 = .ok (.getfield 23, 3) := by decide +kernel
theorem d_N_work_359 : decode b_N_work 359 = .ok (.iload_n 2, 1) := by decide +kernel
theorem d_N_work_360 : decode b_N_work 360 = .ok (.invokevirtual 97, 3) := by decide +kernel
theorem d_N_work_363 : decode b_N_work 363 = .ok (.ifCond .ne 7, 3) := by decide +kernel
theorem d_N_work_366 : decode b_N_work 366 = .ok (.iconst 1, 1) := by decide +kernel
theorem d_N_work_367 : decode b_N_work 367 = .ok (.goto 4, 3) := by decide +kernel
theorem d_N_work_370 : decode b_N_work 370 = .ok (.iconst 0, 1) := by decide +kernel
theorem d_N_work_371 : decode b_N_work 371 = .ok (.invokevirtual 101, 3) := by decide +kernel
theorem d_N_work_374 : decode b_N_work 374 = .ok (.invokevirtual 61, 3) := by decide +kernel
theorem d_N_work_377 : decode b_N_work 377 = .ok (.goto 182, 3) := by decide +kernel
theorem d_N_work_380 : decode b_N_work 380 = .ok (.aload_n 0, 1) := by decide +kernel
theorem d_N_work_381 : decode b_N_work 381 = .ok (.iload_n 1, 1) := by decide +kernel
theorem d_N_work_382 : decode b_N_work 382 = .ok (.iload_n 2, 1) := by decide +kernel
theorem d_N_work_383 : decode b_N_work 383 = .ok (.iload_n 3, 1) := by decide +kernel
theorem d_N_work_384 : decode b_N_work 384 = .ok (.aload 4, 2) := by decide +kernel
theorem d_N_work_386 : decode b_N_work 386 = .ok (.invokevirtual 105, 3) := by decide +kernel
theorem d_N_work_389 : decode b_N_work 389 = .ok (.goto 170, 3) := by decide +kernel
theorem d_N_work_392 : decode b_N_work 392 = .ok (.aload_n 0, 1) := by decide +kernel
theorem d_N_work_393 : decode b_N_work 393 = .ok (.iload_n 1, 1) := by decide +kernel
theorem d_N_work_394 : decode b_N_work 394 = .ok (.iload_n 2, 1) := by decide +kernel
theorem d_N_work_395 : decode b_N_work 395 = .ok (.iload_n 3, 1) := by decide +kernel
theorem d_N_work_396 : decode b_N_work 396 = .ok (.aload 4, 2) := by decide +kernel
theorem d_N_work_398 : decode b_N_work 398 = .ok (.invokevirtual 108, 3) := by decide +kernel
theorem d_N_work_401 : decode b_N_work 401 = .ok (.goto 158, 3) := by decide +kernel
theorem d_N_work_404 : decode b_N_work 404 = .ok (.aload 4, 2) := by decide +kernel
theorem d_N_work_406 : decode b_N_work 406 = .ok (.aload_n 0, 1) := by decide +kernel
theorem d_N_work_407 : decode b_N_work 407 = .ok (.getfield 9, 3) := by decide +kernel
theorem d_N_work_410 : decode b_N_work 410 = .ok (.iload 5, 2) := by decide +kernel
theorem d_N_work_412 : decode b_N_work 412 = .ok (.iaload, 1) := by decide +kernel
theorem d_N_work_413 : decode b_N_work 413 = .ok (.invokevirtual 61, 3) := by decide +kernel
theorem d_N_work_416 : decode b_N_work 416 = .ok (.goto 143, 3) := by decide +kernel
theorem d_N_work_419 : decode b_N_work 419 = .ok (.aload_n 0, 1) := by decide +kernel
theorem d_N_work_420 : decode b_N_work 420 = .ok (.iload_n 1, 1) := by decide +kernel
theorem d_N_work_421 : decode b_N_work 421 = .ok (.iload_n 2, 1) := by decide +kernel
theorem d_N_work_422 : decode b_N_work 422 = .ok (.iload_n 3, 1) := by decide +kernel
theorem d_N_work_423 : decode b_N_work 423 = .ok (.aload 4, 2) := by decide +kernel
theorem d_N_work_425 : decode b_N_work 425 = .ok (.invokevirtual 111, 3) := by decide +kernel
theorem d_N_work_428 : decode b_N_work 428 = .ok (.goto 131, 3) := by decide +kernel
theorem d_N_work_431 : decode b_N_work 431 = .ok (.aload_n 0, 1) := by decide +kernel
theorem d_N_work_432 : decode b_N_work 432 = .ok (.aload_n 0, 1) := by decide +kernel
theorem d_N_work_433 : decode b_N_work 433 = .ok (.getfield 23, 3) := by decide +kernel
theorem d_N_work_436 : decode b_N_work 436 = .ok (.iload_n 2, 1) := by decide +kernel
theorem d_N_work_437 : decode b_N_work 437 = .ok (.invokevirtual 114, 3) := by decide +kernel
theorem d_N_work_440 : decode b_N_work 440 = .ok (.aload 4, 2) := by decide +kernel
theorem d_N_work_442 : decode b_N_work 442 = .ok (.invokevirtual 69, 3) := by decide +kernel
theorem d_N_work_445 : decode b_N_work 445 = .ok (.goto 114, 3) := by decide +kernel
theorem d_N_work_448 : decode b_N_work 448 = .ok (.aload_n 0, 1) := by decide +kernel
theorem d_N_work_449 : decode b_N_work 449 = .ok (.aload_n 0, 1) := by decide +kernel
theorem d_N_work_450 : decode b_N_work 450 = .ok (.getfield 23, 3) := by decide +kernel
theorem d_N_work_453 : decode b_N_work 453 = .ok (.iload_n 2, 1) := by decide +kernel
theorem d_N_work_454 : decode b_N_work 454 = .ok (.invokevirtual 117, 3) := by decide +kernel
theorem d_N_work_457 : decode b_N_work 457 = .ok (.aload 4, 2) := by decide +kernel
theorem d_N_work_459 : decode b_N_work 459 = .ok (.invokevirtual 69, 3) := by decide +kernel
theorem d_N_work_462 : decode b_N_work 462 = .ok (.goto 97, 3) := by decide +kernel
theorem d_N_work_465 : decode b_N_work 465 = .ok (.goto 94, 3) := by decide +kernel
theorem d_N_work_468 : decode b_N_work 468 = .ok (.aload 4, 2) := by decide +kernel
theorem d_N_work_470 : decode b_N_work 470 = .ok (.iload_n 2, 1) := by decide +kernel
theorem d_N_work_471 : decode b_N_work 471 = .ok (.invokevirtual 120, 3) := by decide +kernel
theorem d_N_work_474 : decode b_N_work 474 = .ok (.goto 85, 3) := by decide +kernel
theorem d_N_work_477 : decode b_N_work 477 = .ok (.aload_n 0, 1) := by decide +kernel
theorem d_N_work_478 : decode b_N_work 478 = .ok (.aload_n 0, 1) := by decide +kernel
theorem d_N_work_479 : decode b_N_work 479 = .ok (.getfield 23, 3) := by decide +kernel
theorem d_N_work_482 : decode b_N_work 482 = .ok (.iload_n 2, 1) := by decide +kernel
theorem d_N_work_483 : decode b_N_work 483 = .ok (.invokevirtual 123, 3) := by decide +kernel
theorem d_N_work_486 : decode b_N_work 486 = .ok (.aload 4, 2) := by decide +kernel
theorem d_N_work_488 : decode b_N_work 488 = .ok (.invokevirtual 69, 3) := by decide +kernel
theorem d_N_work_491 : decode b_N_work 491 = .ok (.goto 68, 3) := by decide +kernel
theorem d_N_work_494 : decode b_N_work 494 = .ok (.aload_n 0, 1) := by decide +kernel
theorem d_N_work_495 : decode b_N_work 495 = .ok (.aload_n 0, 1) := by decide +kernel
theorem d_N_work_496 : decode b_N_work 496 = .ok (.getfield 23, 3) := by decide +kernel
theorem d_N_work_499 : decode b_N_work 499 = .ok (.iload_n 2, 1) := by decide +kernel
theorem d_N_work_500 : decode b_N_work 500 = .ok (.invokevirtual 126, 3) := by decide +kernel
theorem d_N_work_503 : decode b_N_work 503 = .ok (.aload 4, 2) := by decide +kernel
theorem d_N_work_505 : decode b_N_work 505 = .ok (.invokevirtual 69, 3) := by decide +kernel
theorem d_N_work_508 : decode b_N_work 508 = .ok (.goto 51, 3) := by decide +kernel
theorem d_N_work_511 : decode b_N_work 511 = .ok (.aload_n 0, 1) := by decide +kernel
theorem d_N_work_512 : decode b_N_work 512 = .ok (.iload_n 2, 1) := by decide +kernel
theorem d_N_work_513 : decode b_N_work 513 = .ok (.aload 4, 2) := by decide +kernel
theorem d_N_work_515 : decode b_N_work 515 = .ok (.invokevirtual 129, 3) := by decide +kernel
theorem d_N_work_518 : decode b_N_work 518 = .ok (.goto 41, 3) := by decide +kernel
theorem d_N_work_521 : decode b_N_work 521 = .ok (.aload_n 0, 1) := by decide +kernel
theorem d_N_work_522 : decode b_N_work 522 = .ok (.iload_n 1, 1) := by decide +kernel
theorem d_N_work_523 : decode b_N_work 523 = .ok (.iload_n 2, 1) := by decide +kernel
theorem d_N_work_524 : decode b_N_work 524 = .ok (.iload_n 3, 1) := by decide +kernel
theorem d_N_work_525 : decode b_N_work 525 = .ok (.aload 4, 2) := by decide +kernel
theorem d_N_work_527 : decode b_N_work 527 = .ok (.invokevirtual 132, 3) := by decide +kernel
theorem d_N_work_530 : decode b_N_work 530 = .ok (.goto 29, 3) := by decide +kernel
theorem d_N_work_533 : decode b_N_work 533 = .ok (.aload_n 0, 1) := by decide +kernel
theorem d_N_work_534 : decode b_N_work 534 = .ok (.aload_n 0, 1) := by decide +kernel
theorem d_N_work_535 : decode b_N_work 535 = .ok (.getfield 23, 3) := by decide +kernel
theorem d_N_work_538 : decode b_N_work 538 = .ok (.iload_n 2, 1) := by decide +kernel
theorem d_N_work_539 : decode b_N_work 539 = .ok (.invokevirtual 135, 3) := by decide +kernel
theorem d_N_work_542 : decode b_N_work 542 = .ok (.aload 4, 2) := by decide +kernel
theorem d_N_work_544 : decode b_N_work 544 = .ok (.invokevirtual 69, 3) := by decide +kernel
theorem d_N_work_547 : decode b_N_work 547 = .ok (.goto 12, 3) := by decide +kernel
theorem d_N_work_550 : decode b_N_work 550 = .ok (.aload_n 0, 1) := by decide +kernel
theorem d_N_work_551 : decode b_N_work 551 = .ok (.iload_n 1, 1) := by decide +kernel
theorem d_N_work_552 : decode b_N_work 552 = .ok (.iload_n 2, 1) := by decide +kernel
theorem d_N_work_553 : decode b_N_work 553 = .ok (.iload_n 3, 1) := by decide +kernel
theorem d_N_work_554 : decode b_N_work 554 = .ok (.aload 4, 2) := by decide +kernel
theorem d_N_work_556 : decode b_N_work 556 = .ok (.invokevirtual 138, 3) := by decide +kernel
theorem d_N_work_559 : decode b_N_work 559 = .ok (.return_, 1) := by decide +kernel
theorem d_N_rowOf_0 : decode b_N_rowOf 0 = .ok (.aload_n 0, 1) := by decide +kernel
theorem d_N_rowOf_1 : decode b_N_rowOf 1 = .ok (.getfield 19, 3) := by decide +kernel
theorem d_N_rowOf_4 : decode b_N_rowOf 4 = .ok (.iload_n 3, 1) := by decide +kernel
theorem d_N_rowOf_5 : decode b_N_rowOf 5 = .ok (.iconst 2, 1) := by decide +kernel
theorem d_N_rowOf_6 : decode b_N_rowOf 6 = .ok (.imul, 1) := by decide +kernel
theorem d_N_rowOf_7 : decode b_N_rowOf 7 = .ok (.iload 4, 2) := by decide +kernel
theorem d_N_rowOf_9 : decode b_N_rowOf 9 = .ok (.iadd, 1) := by decide +kernel
theorem d_N_rowOf_10 : decode b_N_rowOf 10 = .ok (.aaload, 1) := by decide +kernel
theorem d_N_rowOf_11 : decode b_N_rowOf 11 = .ok (.astore 5, 2) := by decide +kernel
theorem d_N_rowOf_13 : decode b_N_rowOf 13 = .ok (.aload 5, 2) := by decide +kernel
theorem d_N_rowOf_15 : decode b_N_rowOf 15 = .ok (.invokevirtual 141, 3) := by decide +kernel
theorem d_N_rowOf_18 : decode b_N_rowOf 18 = .ok (.aload_n 0, 1) := by decide +kernel
theorem d_N_rowOf_19 : decode b_N_rowOf 19 = .ok (.iload_n 1, 1) := by decide +kernel
theorem d_N_rowOf_20 : decode b_N_rowOf 20 = .ok (.iload_n 2, 1) := by decide +kernel
theorem d_N_rowOf_21 : decode b_N_rowOf 21 = .ok (.iload_n 3, 1) := by decide +kernel
theorem d_N_rowOf_22 : decode b_N_rowOf 22 = .ok (.iconst 1, 1) := by decide +kernel
theorem d_N_rowOf_23 : decode b_N_rowOf 23 = .ok (.iadd, 1) := by decide +kernel
theorem d_N_rowOf_24 : decode b_N_rowOf 24 = .ok (.aload 5, 2) := by decide +kernel
theorem d_N_rowOf_26 : decode b_N_rowOf 26 = .ok (.invokevirtual 144, 3) := by decide +kernel
theorem d_N_rowOf_29 : decode b_N_rowOf 29 = .ok (.aload 5, 2) := by decide +kernel
theorem d_N_rowOf_31 : decode b_N_rowOf 31 = .ok (.areturn, 1) := by decide +kernel
theorem d_N_give_0 : decode b_N_give 0 = .ok (.iload_n 1, 1) := by decide +kernel
theorem d_N_give_1 : decode b_N_give 1 = .ok (.ifCond .lt 11, 3) := by decide +kernel
theorem d_N_give_4 : decode b_N_give 4 = .ok (.aload_n 2, 1) := by decide +kernel
theorem d_N_give_5 : decode b_N_give 5 = .ok (.iload_n 1, 1) := by decide +kernel
theorem d_N_give_6 : decode b_N_give 6 = .ok (.invokevirtual 61, 3) := by decide +kernel
theorem d_N_give_9 : decode b_N_give 9 = .ok (.goto 16, 3) := by decide +kernel
theorem d_N_give_12 : decode b_N_give 12 = .ok (.aload_n 2, 1) := by decide +kernel
theorem d_N_give_13 : decode b_N_give 13 = .ok (.aload_n 0, 1) := by decide +kernel
theorem d_N_give_14 : decode b_N_give 14 = .ok (.getfield 23, 3) := by decide +kernel
theorem d_N_give_17 : decode b_N_give 17 = .ok (.iload_n 1, 1) := by decide +kernel
theorem d_N_give_18 : decode b_N_give 18 = .ok (.ineg, 1) := by decide +kernel
theorem d_N_give_19 : decode b_N_give 19 = .ok (.invokevirtual 147, 3) := by decide +kernel
theorem d_N_give_22 : decode b_N_give 22 = .ok (.invokevirtual 120, 3) := by decide +kernel
theorem d_N_give_25 : decode b_N_give 25 = .ok (.return_, 1) := by decide +kernel
theorem d_N_forEach_0 : decode b_N_forEach 0 = .ok (.aload_n 0, 1) := by decide +kernel
theorem d_N_forEach_1 : decode b_N_forEach 1 = .ok (.aload_n 0, 1) := by decide +kernel
theorem d_N_forEach_2 : decode b_N_forEach 2 = .ok (.getfield 30, 3) := by decide +kernel
theorem d_N_forEach_5 : decode b_N_forEach 5 = .ok (.iload_n 1, 1) := by decide +kernel
theorem d_N_forEach_6 : decode b_N_forEach 6 = .ok (.invokevirtual 150, 3) := by decide +kernel
theorem d_N_forEach_9 : decode b_N_forEach 9 = .ok (.iload_n 2, 1) := by decide +kernel
theorem d_N_forEach_10 : decode b_N_forEach 10 = .ok (.iload_n 3, 1) := by decide +kernel
theorem d_N_forEach_11 : decode b_N_forEach 11 = .ok (.iconst 0, 1) := by decide +kernel
theorem d_N_forEach_12 : decode b_N_forEach 12 = .ok (.invokevirtual 153, 3) := by decide +kernel
theorem d_N_forEach_15 : decode b_N_forEach 15 = .ok (.astore 5, 2) := by decide +kernel
theorem d_N_forEach_17 : decode b_N_forEach 17 = .ok (.iconst 0, 1) := by decide +kernel
theorem d_N_forEach_18 : decode b_N_forEach 18 = .ok (.istore 6, 2) := by decide +kernel
theorem d_N_forEach_20 : decode b_N_forEach 20 = .ok (.iload 6, 2) := by decide +kernel
theorem d_N_forEach_22 : decode b_N_forEach 22 = .ok (.aload 5, 2) := by decide +kernel
theorem d_N_forEach_24 : decode b_N_forEach 24 = .ok (.invokevirtual 157, 3) := by decide +kernel
theorem d_N_forEach_27 : decode b_N_forEach 27 = .ok (.if_icmp .ge 33, 3) := by decide +kernel
theorem d_N_forEach_30 : decode b_N_forEach 30 = .ok (.aload 4, 2) := by decide +kernel
theorem d_N_forEach_32 : decode b_N_forEach 32 = .ok (.invokevirtual 160, 3) := by decide +kernel
theorem d_N_forEach_35 : decode b_N_forEach 35 = .ok (.ifCond .ne 25, 3) := by decide +kernel
theorem d_N_forEach_38 : decode b_N_forEach 38 = .ok (.aload_n 0, 1) := by decide +kernel
theorem d_N_forEach_39 : decode b_N_forEach 39 = .ok (.iload_n 1, 1) := by decide +kernel
theorem d_N_forEach_40 : decode b_N_forEach 40 = .ok (.iload_n 2, 1) := by decide +kernel
theorem d_N_forEach_41 : decode b_N_forEach 41 = .ok (.aload 5, 2) := by decide +kernel
theorem d_N_forEach_43 : decode b_N_forEach 43 = .ok (.iload 6, 2) := by decide +kernel
theorem d_N_forEach_45 : decode b_N_forEach 45 = .ok (.invokevirtual 164, 3) := by decide +kernel
theorem d_N_forEach_48 : decode b_N_forEach 48 = .ok (.iload_n 3, 1) := by decide +kernel
theorem d_N_forEach_49 : decode b_N_forEach 49 = .ok (.aload 4, 2) := by decide +kernel
theorem d_N_forEach_51 : decode b_N_forEach 51 = .ok (.invokevirtual 167, 3) := by decide +kernel
theorem d_N_forEach_54 : decode b_N_forEach 54 = .ok (.iinc 6 1, 3) := by decide +kernel
theorem d_N_forEach_57 : decode b_N_forEach 57 = .ok (.goto (-37), 3) := by decide +kernel
theorem d_N_forEach_60 : decode b_N_forEach 60 = .ok (.aload 4, 2) := by decide +kernel
theorem d_N_forEach_62 : decode b_N_forEach 62 = .ok (.aload 5, 2) := by decide +kernel
theorem d_N_forEach_64 : decode b_N_forEach 64 = .ok (.invokevirtual 171, 3) := by decide +kernel
theorem d_N_forEach_67 : decode b_N_forEach 67 = .ok (.return_, 1) := by decide +kernel
theorem d_N_follow_0 : decode b_N_follow 0 = .ok (.aload_n 0, 1) := by decide +kernel
theorem d_N_follow_1 : decode b_N_follow 1 = .ok (.getfield 30, 3) := by decide +kernel
theorem d_N_follow_4 : decode b_N_follow 4 = .ok (.iload_n 1, 1) := by decide +kernel
theorem d_N_follow_5 : decode b_N_follow 5 = .ok (.invokevirtual 58, 3) := by decide +kernel
theorem d_N_follow_8 : decode b_N_follow 8 = .ok (.tableswitch 294 2 33 #[144, 294, 162, 294, 294, 294, 294, 294, 294, 184, 294, 294, 213, 213, 294, 227, 294, 294, 241, 294, 294, 294, 294, 294, 294, 294, 294, 255, 294, 294, 265, 283], 144) := by decide +kernel
theorem d_N_follow_152 : decode b_N_follow 152 = .ok (.aload_n 0, 1) := by decide +kernel
theorem d_N_follow_153 : decode b_N_follow 153 = .ok (.aload_n 0, 1) := by decide +kernel
theorem d_N_follow_154 : decode b_N_follow 154 = .ok (.getfield 23, 3) := by decide +kernel
theorem d_N_follow_157 : decode b_N_follow 157 = .ok (.iload_n 2, 1) := by decide +kernel
theorem d_N_follow_158 : decode b_N_follow 158 = .ok (.iload_n 3, 1) := by decide +kernel
theorem d_N_follow_159 : decode b_N_follow 159 = .ok (.invokevirtual 175, 3) := by decide +kernel
theorem d_N_follow_162 : decode b_N_follow 162 = .ok (.aload 5, 2) := by decide +kernel
theorem d_N_follow_164 : decode b_N_follow 164 = .ok (.invokevirtual 69, 3) := by decide +kernel
theorem d_N_follow_167 : decode b_N_follow 167 = .ok (.goto 135, 3) := by decide +kernel
theorem d_N_follow_170 : decode b_N_follow 170 = .ok (.aload_n 0, 1) := by decide +kernel
theorem d_N_follow_171 : decode b_N_follow 171 = .ok (.aload_n 0, 1) := by decide +kernel
theorem d_N_follow_172 : decode b_N_follow 172 = .ok (.getfield 30, 3) := by decide +kernel
theorem d_N_follow_175 : decode b_N_follow 175 = .ok (.iload_n 1, 1) := by decide +kernel
theorem d_N_follow_176 : decode b_N_follow 176 = .ok (.invokevirtual 178, 3) := by decide +kernel
theorem d_N_follow_179 : decode b_N_follow 179 = .ok (.iload_n 3, 1) := by decide +kernel
theorem d_N_follow_180 : decode b_N_follow 180 = .ok (.iload 4, 2) := by decide +kernel
theorem d_N_follow_182 : decode b_N_follow 182 = .ok (.iconst 1, 1) := by decide +kernel
theorem d_N_follow_183 : decode b_N_follow 183 = .ok (.iadd, 1) := by decide +kernel
theorem d_N_follow_184 : decode b_N_follow 184 = .ok (.aload 5, 2) := by decide +kernel
theorem d_N_follow_186 : decode b_N_follow 186 = .ok (.invokevirtual 144, 3) := by decide +kernel
theorem d_N_follow_189 : decode b_N_follow 189 = .ok (.goto 113, 3) := by decide +kernel
theorem d_N_follow_192 : decode b_N_follow 192 = .ok (.aload 5, 2) := by decide +kernel
theorem d_N_follow_194 : decode b_N_follow 194 = .ok (.aload_n 0, 1) := by decide +kernel
theorem d_N_follow_195 : decode b_N_follow 195 = .ok (.getfield 23, 3) := by decide +kernel
theorem d_N_follow_198 : decode b_N_follow 198 = .ok (.aload_n 0, 1) := by decide +kernel
theorem d_N_follow_199 : decode b_N_follow 199 = .ok (.getfield 27, 3) := by decide +kernel
theorem d_N_follow_202 : decode b_N_follow 202 = .ok (.aload_n 0, 1) := by decide +kernel
theorem d_N_follow_203 : decode b_N_follow 203 = .ok (.getfield 30, 3) := by decide +kernel
theorem d_N_follow_206 : decode b_N_follow 206 = .ok (.iload_n 1, 1) := by decide +kernel
theorem d_N_follow_207 : decode b_N_follow 207 = .ok (.invokevirtual 54, 3) := by decide +kernel
theorem d_N_follow_210 : decode b_N_follow 210 = .ok (.iaload, 1) := by decide +kernel
theorem d_N_follow_211 : decode b_N_follow 211 = .ok (.iload_n 3, 1) := by decide +kernel
theorem d_N_follow_212 : decode b_N_follow 212 = .ok (.invokevirtual 181, 3) := by decide +kernel
theorem d_N_follow_215 : decode b_N_follow 215 = .ok (.invokevirtual 61, 3) := by decide +kernel
theorem d_N_follow_218 : decode b_N_follow 218 = .ok (.goto 84, 3) := by decide +kernel
theorem d_N_follow_221 : decode b_N_follow 221 = .ok (.aload_n 0, 1) := by decide +kernel
theorem d_N_follow_222 : decode b_N_follow 222 = .ok (.iload_n 1, 1) := by decide +kernel
theorem d_N_follow_223 : decode b_N_follow 223 = .ok (.iload_n 2, 1) := by decide +kernel
theorem d_N_follow_224 : decode b_N_follow 224 = .ok (.iload_n 3, 1) := by decide +kernel
theorem d_N_follow_225 : decode b_N_follow 225 = .ok (.iload 4, 2) := by decide +kernel
theorem d_N_follow_227 : decode b_N_follow 227 = .ok (.aload 5, 2) := by decide +kernel
theorem d_N_follow_229 : decode b_N_follow 229 = .ok (.invokevirtual 184, 3) := by decide +kernel
theorem d_N_follow_232 : decode b_N_follow 232 = .ok (.goto 70, 3) := by decide +kernel
theorem d_N_follow_235 : decode b_N_follow 235 = .ok (.aload_n 0, 1) := by decide +kernel
theorem d_N_follow_236 : decode b_N_follow 236 = .ok (.iload_n 1, 1) := by decide +kernel
theorem d_N_follow_237 : decode b_N_follow 237 = .ok (.iload_n 2, 1) := by decide +kernel
theorem d_N_follow_238 : decode b_N_follow 238 = .ok (.iload_n 3, 1) := by decide +kernel
theorem d_N_follow_239 : decode b_N_follow 239 = .ok (.iload 4, 2) := by decide +kernel
theorem d_N_follow_241 : decode b_N_follow 241 = .ok (.aload 5, 2) := by decide +kernel
theorem d_N_follow_243 : decode b_N_follow 243 = .ok (.invokevirtual 187, 3) := by decide +kernel
theorem d_N_follow_246 : decode b_N_follow 246 = .ok (.goto 56, 3) := by decide +kernel
theorem d_N_follow_249 : decode b_N_follow 249 = .ok (.aload_n 0, 1) := by decide +kernel
theorem d_N_follow_250 : decode b_N_follow 250 = .ok (.iload_n 1, 1) := by decide +kernel
theorem d_N_follow_251 : decode b_N_follow 251 = .ok (.iload_n 2, 1) := by decide +kernel
theorem d_N_follow_252 : decode b_N_follow 252 = .ok (.iload_n 3, 1) := by decide +kernel
theorem d_N_follow_253 : decode b_N_follow 253 = .ok (.iload 4, 2) := by decide +kernel
theorem d_N_follow_255 : decode b_N_follow 255 = .ok (.aload 5, 2) := by decide +kernel
theorem d_N_follow_257 : decode b_N_follow 257 = .ok (.invokevirtual 190, 3) := by decide +kernel
theorem d_N_follow_260 : decode b_N_follow 260 = .ok (.goto 42, 3) := by decide +kernel
theorem d_N_follow_263 : decode b_N_follow 263 = .ok (.aload_n 0, 1) := by decide +kernel
theorem d_N_follow_264 : decode b_N_follow 264 = .ok (.iload_n 3, 1) := by decide +kernel
theorem d_N_follow_265 : decode b_N_follow 265 = .ok (.aload 5, 2) := by decide +kernel
theorem d_N_follow_267 : decode b_N_follow 267 = .ok (.invokevirtual 193, 3) := by decide +kernel
theorem d_N_follow_270 : decode b_N_follow 270 = .ok (.goto 32, 3) := by decide +kernel
theorem d_N_follow_273 : decode b_N_follow 273 = .ok (.aload_n 0, 1) := by decide +kernel
theorem d_N_follow_274 : decode b_N_follow 274 = .ok (.aload_n 0, 1) := by decide +kernel
theorem d_N_follow_275 : decode b_N_follow 275 = .ok (.getfield 23, 3) := by decide +kernel
theorem d_N_follow_278 : decode b_N_follow 278 = .ok (.iload_n 2, 1) := by decide +kernel
theorem d_N_follow_279 : decode b_N_follow 279 = .ok (.iload_n 3, 1) := by decide +kernel
theorem d_N_follow_280 : decode b_N_follow 280 = .ok (.invokevirtual 196, 3) := by decide +kernel
theorem d_N_follow_283 : decode b_N_follow 283 = .ok (.aload 5, 2) := by decide +kernel
theorem d_N_follow_285 : decode b_N_follow 285 = .ok (.invokevirtual 69, 3) := by decide +kernel
theorem d_N_follow_288 : decode b_N_follow 288 = .ok (.goto 14, 3) := by decide +kernel
theorem d_N_follow_291 : decode b_N_follow 291 = .ok (.aload_n 0, 1) := by decide +kernel
theorem d_N_follow_292 : decode b_N_follow 292 = .ok (.iload_n 2, 1) := by decide +kernel
theorem d_N_follow_293 : decode b_N_follow 293 = .ok (.iload_n 3, 1) := by decide +kernel
theorem d_N_follow_294 : decode b_N_follow 294 = .ok (.aload 5, 2) := by decide +kernel
theorem d_N_follow_296 : decode b_N_follow 296 = .ok (.invokevirtual 199, 3) := by decide +kernel
theorem d_N_follow_299 : decode b_N_follow 299 = .ok (.goto 3, 3) := by decide +kernel
theorem d_N_follow_302 : decode b_N_follow 302 = .ok (.return_, 1) := by decide +kernel
theorem d_N_bothOrEither_0 : decode b_N_bothOrEither 0 = .ok (.aload_n 0, 1) := by decide +kernel
theorem d_N_bothOrEither_1 : decode b_N_bothOrEither 1 = .ok (.getfield 30, 3) := by decide +kernel
theorem d_N_bothOrEither_4 : decode b_N_bothOrEither 4 = .ok (.iload_n 1, 1) := by decide +kernel
theorem d_N_bothOrEither_5 : decode b_N_bothOrEither 5 = .ok (.invokevirtual 58, 3) := by decide +kernel
theorem d_N_bothOrEither_8 : decode b_N_bothOrEither 8 = .ok (.bipush 15, 2) := by decide +kernel
theorem d_N_bothOrEither_10 : decode b_N_bothOrEither 10 = .ok (.if_icmp .ne 7, 3) := by decide +kernel
theorem d_N_bothOrEither_13 : decode b_N_bothOrEither 13 = .ok (.iconst 1, 1) := by decide +kernel
theorem d_N_bothOrEither_14 : decode b_N_bothOrEither 14 = .ok (.goto 4, 3) := by decide +kernel
theorem d_N_bothOrEither_17 : decode b_N_bothOrEither 17 = .ok (.iconst 0, 1) := by decide +kernel
theorem d_N_bothOrEither_18 : decode b_N_bothOrEither 18 = .ok (.istore 6, 2) := by decide +kernel
theorem d_N_bothOrEither_20 : decode b_N_bothOrEither 20 = .ok (.aload_n 0, 1) := by decide +kernel
theorem d_N_bothOrEither_21 : decode b_N_bothOrEither 21 = .ok (.getfield 23, 3) := by decide +kernel
theorem d_N_bothOrEither_24 : decode b_N_bothOrEither 24 = .ok (.iload_n 3, 1) := by decide +kernel
theorem d_N_bothOrEither_25 : decode b_N_bothOrEither 25 = .ok (.invokevirtual 97, 3) := by decide +kernel
theorem d_N_bothOrEither_28 : decode b_N_bothOrEither 28 = .ok (.iload 6, 2) := by decide +kernel
theorem d_N_bothOrEither_30 : decode b_N_bothOrEither 30 = .ok (.if_icmp .ne 18, 3) := by decide +kernel
theorem d_N_bothOrEither_33 : decode b_N_bothOrEither 33 = .ok (.aload 5, 2) := by decide +kernel
theorem d_N_bothOrEither_35 : decode b_N_bothOrEither 35 = .ok (.aload_n 0, 1) := by decide +kernel
theorem d_N_bothOrEither_36 : decode b_N_bothOrEither 36 = .ok (.getfield 23, 3) := by decide +kernel
theorem d_N_bothOrEither_39 : decode b_N_bothOrEither 39 = .ok (.iload 6, 2) := by decide +kernel
theorem d_N_bothOrEither_41 : decode b_N_bothOrEither 41 = .ok (.invokevirtual 101, 3) := by decide +kernel
theorem d_N_bothOrEither_44 : decode b_N_bothOrEither 44 = .ok (.invokevirtual 61, 3) := by decide +kernel
theorem d_N_bothOrEither_47 : decode b_N_bothOrEither 47 = .ok (.return_, 1) := by decide +kernel
theorem d_N_bothOrEither_48 : decode b_N_bothOrEither 48 = .ok (.aload_n 0, 1) := by decide +kernel
theorem d_N_bothOrEither_49 : decode b_N_bothOrEither 49 = .ok (.aload_n 0, 1) := by decide +kernel
theorem d_N_bothOrEither_50 : decode b_N_bothOrEither 50 = .ok (.getfield 30, 3) := by decide +kernel
theorem d_N_bothOrEither_53 : decode b_N_bothOrEither 53 = .ok (.iload_n 1, 1) := by decide +kernel
theorem d_N_bothOrEither_54 : decode b_N_bothOrEither 54 = .ok (.invokevirtual 178, 3) := by decide +kernel
theorem d_N_bothOrEither_57 : decode b_N_bothOrEither 57 = .ok (.iload_n 2, 1) := by decide +kernel
theorem d_N_bothOrEither_58 : decode b_N_bothOrEither 58 = .ok (.iload 4, 2) := by decide +kernel
theorem d_N_bothOrEither_60 : decode b_N_bothOrEither 60 = .ok (.iconst 1, 1) := by decide +kernel
theorem d_N_bothOrEither_61 : decode b_N_bothOrEither 61 = .ok (.invokevirtual 153, 3) := by decide +kernel
theorem d_N_bothOrEither_64 : decode b_N_bothOrEither 64 = .ok (.astore 7, 2) := by decide +kernel
theorem d_N_bothOrEither_66 : decode b_N_bothOrEither 66 = .ok (.iconst 0, 1) := by decide +kernel
theorem d_N_bothOrEither_67 : decode b_N_bothOrEither 67 = .ok (.istore 8, 2) := by decide +kernel
theorem d_N_bothOrEither_69 : decode b_N_bothOrEither 69 = .ok (.iload 8, 2) := by decide +kernel
theorem d_N_bothOrEither_71 : decode b_N_bothOrEither 71 = .ok (.aload 7, 2) := by decide +kernel
theorem d_N_bothOrEither_73 : decode b_N_bothOrEither 73 = .ok (.invokevirtual 157, 3) := by decide +kernel
theorem d_N_bothOrEither_76 : decode b_N_bothOrEither 76 = .ok (.if_icmp .ge 35, 3) := by decide +kernel
theorem d_N_bothOrEither_79 : decode b_N_bothOrEither 79 = .ok (.aload 5, 2) := by decide +kernel
theorem d_N_bothOrEither_81 : decode b_N_bothOrEither 81 = .ok (.aload_n 0, 1) := by decide +kernel
theorem d_N_bothOrEither_82 : decode b_N_bothOrEither 82 = .ok (.getfield 23, 3) := by decide +kernel
theorem d_N_bothOrEither_85 : decode b_N_bothOrEither 85 = .ok (.aload_n 0, 1) := by decide +kernel
theorem d_N_bothOrEither_86 : decode b_N_bothOrEither 86 = .ok (.getfield 23, 3) := by decide +kernel
theorem d_N_bothOrEither_89 : decode b_N_bothOrEither 89 = .ok (.aload 7, 2) := by decide +kernel
theorem d_N_bothOrEither_91 : decode b_N_bothOrEither 91 = .ok (.iload 8, 2) := by decide +kernel
theorem d_N_bothOrEither_93 : decode b_N_bothOrEither 93 = .ok (.invokevirtual 164, 3) := by decide +kernel
theorem d_N_bothOrEither_96 : decode b_N_bothOrEither 96 = .ok (.invokevirtual 97, 3) := by decide +kernel
theorem d_N_bothOrEither_99 : decode b_N_bothOrEither 99 = .ok (.invokevirtual 101, 3) := by decide +kernel
theorem d_N_bothOrEither_102 : decode b_N_bothOrEither 102 = .ok (.invokevirtual 61, 3) := by decide +kernel
theorem d_N_bothOrEither_105 : decode b_N_bothOrEither 105 = .ok (.iinc 8 1, 3) := by decide +kernel
theorem d_N_bothOrEither_108 : decode b_N_bothOrEither 108 = .ok (.goto (-39), 3) := by decide +kernel
theorem d_N_bothOrEither_111 : decode b_N_bothOrEither 111 = .ok (.aload 5, 2) := by decide +kernel
theorem d_N_bothOrEither_113 : decode b_N_bothOrEither 113 = .ok (.aload 7, 2) := by decide +kernel
theorem d_N_bothOrEither_115 : decode b_N_bothOrEither 115 = .ok (.invokevirtual 171, 3) := by decide +kernel
theorem d_N_bothOrEither_118 : decode b_N_bothOrEither 118 = .ok (.return_, 1) := by decide +kernel
theorem d_N_choose_0 : decode b_N_choose 0 = .ok (.aload_n 0, 1) := by decide +kernel
theorem d_N_choose_1 : decode b_N_choose 1 = .ok (.getfield 23, 3) := by decide +kernel
theorem d_N_choose_4 : decode b_N_choose 4 = .ok (.iload_n 3, 1) := by decide +kernel
theorem d_N_choose_5 : decode b_N_choose 5 = .ok (.invokevirtual 97, 3) := by decide +kernel
theorem d_N_choose_8 : decode b_N_choose 8 = .ok (.ifCond .eq 14, 3) := by decide +kernel
theorem d_N_choose_11 : decode b_N_choose 11 = .ok (.aload_n 0, 1) := by decide +kernel
theorem d_N_choose_12 : decode b_N_choose 12 = .ok (.getfield 30, 3) := by decide +kernel
theorem d_N_choose_15 : decode b_N_choose 15 = .ok (.iload_n 1, 1) := by decide +kernel
theorem d_N_choose_16 : decode b_N_choose 16 = .ok (.invokevirtual 178, 3) := by decide +kernel
theorem d_N_choose_19 : decode b_N_choose 19 = .ok (.goto 11, 3) := by decide +kernel
theorem d_N_choose_22 : decode b_N_choose 22 = .ok (.aload_n 0, 1) := by decide +kernel
theorem d_N_choose_23 : decode b_N_choose 23 = .ok (.getfield 30, 3) := by decide +kernel
theorem d_N_choose_26 : decode b_N_choose 26 = .ok (.iload_n 1, 1) := by decide +kernel
theorem d_N_choose_27 : decode b_N_choose 27 = .ok (.invokevirtual 205, 3) := by decide +kernel
theorem d_N_choose_30 : decode b_N_choose 30 = .ok (.istore 6, 2) := by decide +kernel
theorem d_N_choose_32 : decode b_N_choose 32 = .ok (.aload_n 0, 1) := by decide +kernel
theorem d_N_choose_33 : decode b_N_choose 33 = .ok (.iload 6, 2) := by decide +kernel
theorem d_N_choose_35 : decode b_N_choose 35 = .ok (.iload_n 2, 1) := by decide +kernel
theorem d_N_choose_36 : decode b_N_choose 36 = .ok (.iload 4, 2) := by decide +kernel
theorem d_N_choose_38 : decode b_N_choose 38 = .ok (.iconst 1, 1) := by decide +kernel
theorem d_N_choose_39 : decode b_N_choose 39 = .ok (.iadd, 1) := by decide +kernel
theorem d_N_choose_40 : decode b_N_choose 40 = .ok (.aload 5, 2) := by decide +kernel
theorem d_N_choose_42 : decode b_N_choose 42 = .ok (.invokevirtual 144, 3) := by decide +kernel
theorem d_N_choose_45 : decode b_N_choose 45 = .ok (.return_, 1) := by decide +kernel
theorem d_N_bind_0 : decode b_N_bind 0 = .ok (.aload_n 0, 1) := by decide +kernel
theorem d_N_bind_1 : decode b_N_bind 1 = .ok (.getfield 30, 3) := by decide +kernel
theorem d_N_bind_4 : decode b_N_bind 4 = .ok (.iload_n 1, 1) := by decide +kernel
theorem d_N_bind_5 : decode b_N_bind 5 = .ok (.invokevirtual 54, 3) := by decide +kernel
theorem d_N_bind_8 : decode b_N_bind 8 = .ok (.istore 6, 2) := by decide +kernel
theorem d_N_bind_10 : decode b_N_bind 10 = .ok (.aload_n 0, 1) := by decide +kernel
theorem d_N_bind_11 : decode b_N_bind 11 = .ok (.getfield 9, 3) := by decide +kernel
theorem d_N_bind_14 : decode b_N_bind 14 = .ok (.iload 6, 2) := by decide +kernel
theorem d_N_bind_16 : decode b_N_bind 16 = .ok (.iaload, 1) := by decide +kernel
theorem d_N_bind_17 : decode b_N_bind 17 = .ok (.istore 7, 2) := by decide +kernel
theorem d_N_bind_19 : decode b_N_bind 19 = .ok (.aload_n 0, 1) := by decide +kernel
theorem d_N_bind_20 : decode b_N_bind 20 = .ok (.getfield 9, 3) := by decide +kernel
theorem d_N_bind_23 : decode b_N_bind 23 = .ok (.iload 6, 2) := by decide +kernel
theorem d_N_bind_25 : decode b_N_bind 25 = .ok (.iload_n 3, 1) := by decide +kernel
theorem d_N_bind_26 : decode b_N_bind 26 = .ok (.iastore, 1) := by decide +kernel
theorem d_N_bind_27 : decode b_N_bind 27 = .ok (.aload_n 0, 1) := by decide +kernel
theorem d_N_bind_28 : decode b_N_bind 28 = .ok (.aload_n 0, 1) := by decide +kernel
theorem d_N_bind_29 : decode b_N_bind 29 = .ok (.getfield 30, 3) := by decide +kernel
theorem d_N_bind_32 : decode b_N_bind 32 = .ok (.iload_n 1, 1) := by decide +kernel
theorem d_N_bind_33 : decode b_N_bind 33 = .ok (.invokevirtual 178, 3) := by decide +kernel
theorem d_N_bind_36 : decode b_N_bind 36 = .ok (.iload_n 2, 1) := by decide +kernel
theorem d_N_bind_37 : decode b_N_bind 37 = .ok (.iload 4, 2) := by decide +kernel
theorem d_N_bind_39 : decode b_N_bind 39 = .ok (.iconst 1, 1) := by decide +kernel
theorem d_N_bind_40 : decode b_N_bind 40 = .ok (.iadd, 1) := by decide +kernel
theorem d_N_bind_41 : decode b_N_bind 41 = .ok (.aload 5, 2) := by decide +kernel
theorem d_N_bind_43 : decode b_N_bind 43 = .ok (.invokevirtual 144, 3) := by decide +kernel
theorem d_N_bind_46 : decode b_N_bind 46 = .ok (.aload_n 0, 1) := by decide +kernel
theorem d_N_bind_47 : decode b_N_bind 47 = .ok (.getfield 9, 3) := by decide +kernel
theorem d_N_bind_50 : decode b_N_bind 50 = .ok (.iload 6, 2) := by decide +kernel
theorem d_N_bind_52 : decode b_N_bind 52 = .ok (.iload 7, 2) := by decide +kernel
theorem d_N_bind_54 : decode b_N_bind 54 = .ok (.iastore, 1) := by decide +kernel
theorem d_N_bind_55 : decode b_N_bind 55 = .ok (.return_, 1) := by decide +kernel
theorem d_N_range_0 : decode b_N_range 0 = .ok (.aload_n 0, 1) := by decide +kernel
theorem d_N_range_1 : decode b_N_range 1 = .ok (.getfield 23, 3) := by decide +kernel
theorem d_N_range_4 : decode b_N_range 4 = .ok (.iload_n 1, 1) := by decide +kernel
theorem d_N_range_5 : decode b_N_range 5 = .ok (.invokevirtual 208, 3) := by decide +kernel
theorem d_N_range_8 : decode b_N_range 8 = .ok (.iconst 3, 1) := by decide +kernel
theorem d_N_range_9 : decode b_N_range 9 = .ok (.if_icmp .eq 10, 3) := by decide +kernel
theorem d_N_range_12 : decode b_N_range 12 = .ok (.aload_n 0, 1) := by decide +kernel
theorem d_N_range_13 : decode b_N_range 13 = .ok (.iconst (-1), 1) := by decide +kernel
theorem d_N_range_14 : decode b_N_range 14 = .ok (.aload_n 2, 1) := by decide +kernel
theorem d_N_range_15 : decode b_N_range 15 = .ok (.invokevirtual 69, 3) := by decide +kernel
theorem d_N_range_18 : decode b_N_range 18 = .ok (.return_, 1) := by decide +kernel
theorem d_N_range_19 : decode b_N_range 19 = .ok (.iconst 0, 1) := by decide +kernel
theorem d_N_range_20 : decode b_N_range 20 = .ok (.istore_n 3, 1) := by decide +kernel
theorem d_N_range_21 : decode b_N_range 21 = .ok (.iload_n 3, 1) := by decide +kernel
theorem d_N_range_22 : decode b_N_range 22 = .ok (.bipush 16, 2) := by decide +kernel
theorem d_N_range_24 : decode b_N_range 24 = .ok (.if_icmp .gt 40, 3) := by decide +kernel
theorem d_N_range_27 : decode b_N_range 27 = .ok (.aload_n 0, 1) := by decide +kernel
theorem d_N_range_28 : decode b_N_range 28 = .ok (.getfield 23, 3) := by decide +kernel
theorem d_N_range_31 : decode b_N_range 31 = .ok (.aload_n 0, 1) := by decide +kernel
theorem d_N_range_32 : decode b_N_range 32 = .ok (.getfield 23, 3) := by decide +kernel
theorem d_N_range_35 : decode b_N_range 35 = .ok (.iload_n 3, 1) := by decide +kernel
theorem d_N_range_36 : decode b_N_range 36 = .ok (.invokevirtual 147, 3) := by decide +kernel
theorem d_N_range_39 : decode b_N_range 39 = .ok (.iload_n 1, 1) := by decide +kernel
theorem d_N_range_40 : decode b_N_range 40 = .ok (.invokevirtual 213, 3) := by decide +kernel
theorem d_N_range_43 : decode b_N_range 43 = .ok (.ifCond .ge 21, 3) := by decide +kernel
theorem d_N_range_46 : decode b_N_range 46 = .ok (.aload_n 2, 1) := by decide +kernel
theorem d_N_range_47 : decode b_N_range 47 = .ok (.aload_n 0, 1) := by decide +kernel
theorem d_N_range_48 : decode b_N_range 48 = .ok (.getfield 23, 3) := by decide +kernel
theorem d_N_range_51 : decode b_N_range 51 = .ok (.iload_n 3, 1) := by decide +kernel
theorem d_N_range_52 : decode b_N_range 52 = .ok (.invokevirtual 147, 3) := by decide +kernel
theorem d_N_range_55 : decode b_N_range 55 = .ok (.invokevirtual 61, 3) := by decide +kernel
theorem d_N_range_58 : decode b_N_range 58 = .ok (.iinc 3 1, 3) := by decide +kernel
theorem d_N_range_61 : decode b_N_range 61 = .ok (.goto (-40), 3) := by decide +kernel
theorem d_N_range_64 : decode b_N_range 64 = .ok (.return_, 1) := by decide +kernel
theorem d_N_select_0 : decode b_N_select 0 = .ok (.aload_n 0, 1) := by decide +kernel
theorem d_N_select_1 : decode b_N_select 1 = .ok (.getfield 23, 3) := by decide +kernel
theorem d_N_select_4 : decode b_N_select 4 = .ok (.iload_n 2, 1) := by decide +kernel
theorem d_N_select_5 : decode b_N_select 5 = .ok (.invokevirtual 97, 3) := by decide +kernel
theorem d_N_select_8 : decode b_N_select 8 = .ok (.ifCond .eq 8, 3) := by decide +kernel
theorem d_N_select_11 : decode b_N_select 11 = .ok (.aload_n 3, 1) := by decide +kernel
theorem d_N_select_12 : decode b_N_select 12 = .ok (.iload_n 1, 1) := by decide +kernel
theorem d_N_select_13 : decode b_N_select 13 = .ok (.invokevirtual 61, 3) := by decide +kernel
theorem d_N_select_16 : decode b_N_select 16 = .ok (.return_, 1) := by decide +kernel
theorem d_N_forEachPair_0 : decode b_N_forEachPair 0 = .ok (.aload_n 0, 1) := by decide +kernel
theorem d_N_forEachPair_1 : decode b_N_forEachPair 1 = .ok (.aload_n 0, 1) := by decide +kernel
theorem d_N_forEachPair_2 : decode b_N_forEachPair 2 = .ok (.getfield 30, 3) := by decide +kernel
theorem d_N_forEachPair_5 : decode b_N_forEachPair 5 = .ok (.iload_n 1, 1) := by decide +kernel
theorem d_N_forEachPair_6 : decode b_N_forEachPair 6 = .ok (.invokevirtual 178, 3) := by decide +kernel
theorem d_N_forEachPair_9 : decode b_N_forEachPair 9 = .ok (.iload_n 2, 1) := by decide +kernel
theorem d_N_forEachPair_10 : decode b_N_forEachPair 10 = .ok (.iload_n 3, 1) := by decide +kernel
theorem d_N_forEachPair_11 : decode b_N_forEachPair 11 = .ok (.iconst 0, 1) := by decide +kernel
theorem d_N_forEachPair_12 : decode b_N_forEachPair 12 = .ok (.invokevirtual 153, 3) := by decide +kernel
theorem d_N_forEachPair_15 : decode b_N_forEachPair 15 = .ok (.astore 5, 2) := by decide +kernel
theorem d_N_forEachPair_17 : decode b_N_forEachPair 17 = .ok (.iconst 0, 1) := by decide +kernel
theorem d_N_forEachPair_18 : decode b_N_forEachPair 18 = .ok (.istore 6, 2) := by decide +kernel
theorem d_N_forEachPair_20 : decode b_N_forEachPair 20 = .ok (.iload 6, 2) := by decide +kernel
theorem d_N_forEachPair_22 : decode b_N_forEachPair 22 = .ok (.aload 5, 2) := by decide +kernel
theorem d_N_forEachPair_24 : decode b_N_forEachPair 24 = .ok (.invokevirtual 157, 3) := by decide +kernel
theorem d_N_forEachPair_27 : decode b_N_forEachPair 27 = .ok (.if_icmp .ge 93, 3) := by decide +kernel
theorem d_N_forEachPair_30 : decode b_N_forEachPair 30 = .ok (.aload 4, 2) := by decide +kernel
theorem d_N_forEachPair_32 : decode b_N_forEachPair 32 = .ok (.invokevirtual 160, 3) := by decide +kernel
theorem d_N_forEachPair_35 : decode b_N_forEachPair 35 = .ok (.ifCond .ne 85, 3) := by decide +kernel
theorem d_N_forEachPair_38 : decode b_N_forEachPair 38 = .ok (.aload_n 0, 1) := by decide +kernel
theorem d_N_forEachPair_39 : decode b_N_forEachPair 39 = .ok (.aload_n 0, 1) := by decide +kernel
theorem d_N_forEachPair_40 : decode b_N_forEachPair 40 = .ok (.getfield 30, 3) := by decide +kernel
theorem d_N_forEachPair_43 : decode b_N_forEachPair 43 = .ok (.iload_n 1, 1) := by decide +kernel
theorem d_N_forEachPair_44 : decode b_N_forEachPair 44 = .ok (.invokevirtual 150, 3) := by decide +kernel
theorem d_N_forEachPair_47 : decode b_N_forEachPair 47 = .ok (.iload_n 2, 1) := by decide +kernel
theorem d_N_forEachPair_48 : decode b_N_forEachPair 48 = .ok (.iload_n 3, 1) := by decide +kernel
theorem d_N_forEachPair_49 : decode b_N_forEachPair 49 = .ok (.iconst 1, 1) := by decide +kernel
theorem d_N_forEachPair_50 : decode b_N_forEachPair 50 = .ok (.invokevirtual 153, 3) := by decide +kernel
theorem d_N_forEachPair_53 : decode b_N_forEachPair 53 = .ok (.astore 7, 2) := by decide +kernel
theorem d_N_forEachPair_55 : decode b_N_forEachPair 55 = .ok (.iconst 0, 1) := by decide +kernel
theorem d_N_forEachPair_56 : decode b_N_forEachPair 56 = .ok (.istore 8, 2) := by decide +kernel
theorem d_N_forEachPair_58 : decode b_N_forEachPair 58 = .ok (.iload 8, 2) := by decide +kernel
theorem d_N_forEachPair_60 : decode b_N_forEachPair 60 = .ok (.aload 7, 2) := by decide +kernel
theorem d_N_forEachPair_62 : decode b_N_forEachPair 62 = .ok (.invokevirtual 157, 3) := by decide +kernel
theorem d_N_forEachPair_65 : decode b_N_forEachPair 65 = .ok (.if_icmp .ge 42, 3) := by decide +kernel
theorem d_N_forEachPair_68 : decode b_N_forEachPair 68 = .ok (.aload 4, 2) := by decide +kernel
theorem d_N_forEachPair_70 : decode b_N_forEachPair 70 = .ok (.invokevirtual 160, 3) := by decide +kernel
theorem d_N_forEachPair_73 : decode b_N_forEachPair 73 = .ok (.ifCond .ne 34, 3) := by decide +kernel
theorem d_N_forEachPair_76 : decode b_N_forEachPair 76 = .ok (.aload_n 0, 1) := by decide +kernel
theorem d_N_forEachPair_77 : decode b_N_forEachPair 77 = .ok (.aload_n 0, 1) := by decide +kernel
theorem d_N_forEachPair_78 : decode b_N_forEachPair 78 = .ok (.iload_n 1, 1) := by decide +kernel
theorem d_N_forEachPair_79 : decode b_N_forEachPair 79 = .ok (.aload 7, 2) := by decide +kernel
theorem d_N_forEachPair_81 : decode b_N_forEachPair 81 = .ok (.iload 8, 2) := by decide +kernel
theorem d_N_forEachPair_83 : decode b_N_forEachPair 83 = .ok (.invokevirtual 164, 3) := by decide +kernel
theorem d_N_forEachPair_86 : decode b_N_forEachPair 86 = .ok (.aload 5, 2) := by decide +kernel
theorem d_N_forEachPair_88 : decode b_N_forEachPair 88 = .ok (.iload 6, 2) := by decide +kernel
theorem d_N_forEachPair_90 : decode b_N_forEachPair 90 = .ok (.invokevirtual 164, 3) := by decide +kernel
theorem d_N_forEachPair_93 : decode b_N_forEachPair 93 = .ok (.invokevirtual 216, 3) := by decide +kernel
theorem d_N_forEachPair_96 : decode b_N_forEachPair 96 = .ok (.aload 4, 2) := by decide +kernel
theorem d_N_forEachPair_98 : decode b_N_forEachPair 98 = .ok (.invokevirtual 69, 3) := by decide +kernel
theorem d_N_forEachPair_101 : decode b_N_forEachPair 101 = .ok (.iinc 8 1, 3) := by decide +kernel
theorem d_N_forEachPair_104 : decode b_N_forEachPair 104 = .ok (.goto (-46), 3) := by decide +kernel
theorem d_N_forEachPair_107 : decode b_N_forEachPair 107 = .ok (.aload 4, 2) := by decide +kernel
theorem d_N_forEachPair_109 : decode b_N_forEachPair 109 = .ok (.aload 7, 2) := by decide +kernel
theorem d_N_forEachPair_111 : decode b_N_forEachPair 111 = .ok (.invokevirtual 171, 3) := by decide +kernel
theorem d_N_forEachPair_114 : decode b_N_forEachPair 114 = .ok (.iinc 6 1, 3) := by decide +kernel
theorem d_N_forEachPair_117 : decode b_N_forEachPair 117 = .ok (.goto (-97), 3) := by decide +kernel
theorem d_N_forEachPair_120 : decode b_N_forEachPair 120 = .ok (.aload 4, 2) := by decide +kernel
theorem d_N_forEachPair_122 : decode b_N_forEachPair 122 = .ok (.aload 5, 2) := by decide +kernel
theorem d_N_forEachPair_124 : decode b_N_forEachPair 124 = .ok (.invokevirtual 171, 3) := by decide +kernel
theorem d_N_forEachPair_127 : decode b_N_forEachPair 127 = .ok (.return_, 1) := by decide +kernel
theorem d_N_paired_0 : decode b_N_paired 0 = .ok (.aload_n 0, 1) := by decide +kernel
theorem d_N_paired_1 : decode b_N_paired 1 = .ok (.getfield 30, 3) := by decide +kernel
theorem d_N_paired_4 : decode b_N_paired 4 = .ok (.iload_n 1, 1) := by decide +kernel
theorem d_N_paired_5 : decode b_N_paired 5 = .ok (.invokevirtual 54, 3) := by decide +kernel
theorem d_N_paired_8 : decode b_N_paired 8 = .ok (.istore 4, 2) := by decide +kernel
theorem d_N_paired_10 : decode b_N_paired 10 = .ok (.aload_n 0, 1) := by decide +kernel
theorem d_N_paired_11 : decode b_N_paired 11 = .ok (.getfield 30, 3) := by decide +kernel
theorem d_N_paired_14 : decode b_N_paired 14 = .ok (.iload_n 1, 1) := by decide +kernel
theorem d_N_paired_15 : decode b_N_paired 15 = .ok (.invokevirtual 58, 3) := by decide +kernel
theorem d_N_paired_18 : decode b_N_paired 18 = .ok (.bipush 13, 2) := by decide +kernel
theorem d_N_paired_20 : decode b_N_paired 20 = .ok (.if_icmp .ne 25, 3) := by decide +kernel
theorem d_N_paired_23 : decode b_N_paired 23 = .ok (.aload_n 0, 1) := by decide +kernel
theorem d_N_paired_24 : decode b_N_paired 24 = .ok (.getfield 23, 3) := by decide +kernel
theorem d_N_paired_27 : decode b_N_paired 27 = .ok (.iload 4, 2) := by decide +kernel
theorem d_N_paired_29 : decode b_N_paired 29 = .ok (.aload_n 0, 1) := by decide +kernel
theorem d_N_paired_30 : decode b_N_paired 30 = .ok (.getfield 23, 3) := by decide +kernel
theorem d_N_paired_33 : decode b_N_paired 33 = .ok (.iload_n 2, 1) := by decide +kernel
theorem d_N_paired_34 : decode b_N_paired 34 = .ok (.iload_n 3, 1) := by decide +kernel
theorem d_N_paired_35 : decode b_N_paired 35 = .ok (.invokevirtual 213, 3) := by decide +kernel
theorem d_N_paired_38 : decode b_N_paired 38 = .ok (.invokestatic 220, 3) := by decide +kernel
theorem d_N_paired_41 : decode b_N_paired 41 = .ok (.invokevirtual 101, 3) := by decide +kernel
theorem d_N_paired_44 : decode b_N_paired 44 = .ok (.ireturn, 1) := by decide +kernel
theorem d_N_paired_45 : decode b_N_paired 45 = .ok (.iload 4, 2) := by decide +kernel
theorem d_N_paired_47 : decode b_N_paired 47 = .ok (.tableswitch 55 0 2 #[25, 35, 45], 25) := by decide +kernel
theorem d_N_paired_72 : decode b_N_paired 72 = .ok (.aload_n 0, 1) := by decide +kernel
theorem d_N_paired_73 : decode b_N_paired 73 = .ok (.getfield 23, 3) := by decide +kernel
theorem d_N_paired_76 : decode b_N_paired 76 = .ok (.iload_n 2, 1) := by decide +kernel
theorem d_N_paired_77 : decode b_N_paired 77 = .ok (.iload_n 3, 1) := by decide +kernel
theorem d_N_paired_78 : decode b_N_paired 78 = .ok (.invokevirtual 224, 3) := by decide +kernel
theorem d_N_paired_81 : decode b_N_paired 81 = .ok (.ireturn, 1) := by decide +kernel
theorem d_N_paired_82 : decode b_N_paired 82 = .ok (.aload_n 0, 1) := by decide +kernel
theorem d_N_paired_83 : decode b_N_paired 83 = .ok (.getfield 23, 3) := by decide +kernel
theorem d_N_paired_86 : decode b_N_paired 86 = .ok (.iload_n 2, 1) := by decide +kernel
theorem d_N_paired_87 : decode b_N_paired 87 = .ok (.iload_n 3, 1) := by decide +kernel
theorem d_N_paired_88 : decode b_N_paired 88 = .ok (.invokevirtual 227, 3) := by decide +kernel
theorem d_N_paired_91 : decode b_N_paired 91 = .ok (.ireturn, 1) := by decide +kernel
theorem d_N_paired_92 : decode b_N_paired 92 = .ok (.aload_n 0, 1) := by decide +kernel
theorem d_N_paired_93 : decode b_N_paired 93 = .ok (.getfield 23, 3) := by decide +kernel
theorem d_N_paired_96 : decode b_N_paired 96 = .ok (.iload_n 2, 1) := by decide +kernel
theorem d_N_paired_97 : decode b_N_paired 97 = .ok (.iload_n 3, 1) := by decide +kernel
theorem d_N_paired_98 : decode b_N_paired 98 = .ok (.invokevirtual 230, 3) := by decide +kernel
theorem d_N_paired_101 : decode b_N_paired 101 = .ok (.ireturn, 1) := by decide +kernel
theorem d_N_paired_102 : decode b_N_paired 102 = .ok (.aload_n 0, 1) := by decide +kernel
theorem d_N_paired_103 : decode b_N_paired 103 = .ok (.getfield 23, 3) := by decide +kernel
theorem d_N_paired_106 : decode b_N_paired 106 = .ok (.iload_n 2, 1) := by decide +kernel
theorem d_N_paired_107 : decode b_N_paired 107 = .ok (.iload_n 3, 1) := by decide +kernel
theorem d_N_paired_108 : decode b_N_paired 108 = .ok (.invokevirtual 233, 3) := by decide +kernel
theorem d_N_paired_111 : decode b_N_paired 111 = .ok (.ireturn, 1) := by decide +kernel
theorem d_N_holds_0 : decode b_N_holds 0 = .ok (.iload_n 0, 1) := by decide +kernel
theorem d_N_holds_1 : decode b_N_holds 1 = .ok (.tableswitch 85 0 4 #[35, 45, 55, 65, 75], 35) := by decide +kernel
theorem d_N_holds_36 : decode b_N_holds 36 = .ok (.iload_n 1, 1) := by decide +kernel
theorem d_N_holds_37 : decode b_N_holds 37 = .ok (.ifCond .ne 7, 3) := by decide +kernel
theorem d_N_holds_40 : decode b_N_holds 40 = .ok (.iconst 1, 1) := by decide +kernel
theorem d_N_holds_41 : decode b_N_holds 41 = .ok (.goto 4, 3) := by decide +kernel
theorem d_N_holds_44 : decode b_N_holds 44 = .ok (.iconst 0, 1) := by decide +kernel
theorem d_N_holds_45 : decode b_N_holds 45 = .ok (.ireturn, 1) := by decide +kernel
theorem d_N_holds_46 : decode b_N_holds 46 = .ok (.iload_n 1, 1) := by decide +kernel
theorem d_N_holds_47 : decode b_N_holds 47 = .ok (.ifCond .eq 7, 3) := by decide +kernel
theorem d_N_holds_50 : decode b_N_holds 50 = .ok (.iconst 1, 1) := by decide +kernel
theorem d_N_holds_51 : decode b_N_holds 51 = .ok (.goto 4, 3) := by decide +kernel
theorem d_N_holds_54 : decode b_N_holds 54 = .ok (.iconst 0, 1) := by decide +kernel
theorem d_N_holds_55 : decode b_N_holds 55 = .ok (.ireturn, 1) := by decide +kernel
theorem d_N_holds_56 : decode b_N_holds 56 = .ok (.iload_n 1, 1) := by decide +kernel
theorem d_N_holds_57 : decode b_N_holds 57 = .ok (.ifCond .ge 7, 3) := by decide +kernel
theorem d_N_holds_60 : decode b_N_holds 60 = .ok (.iconst 1, 1) := by decide +kernel
theorem d_N_holds_61 : decode b_N_holds 61 = .ok (.goto 4, 3) := by decide +kernel
theorem d_N_holds_64 : decode b_N_holds 64 = .ok (.iconst 0, 1) := by decide +kernel
theorem d_N_holds_65 : decode b_N_holds 65 = .ok (.ireturn, 1) := by decide +kernel
theorem d_N_holds_66 : decode b_N_holds 66 = .ok (.iload_n 1, 1) := by decide +kernel
theorem d_N_holds_67 : decode b_N_holds 67 = .ok (.ifCond .gt 7, 3) := by decide +kernel
theorem d_N_holds_70 : decode b_N_holds 70 = .ok (.iconst 1, 1) := by decide +kernel
theorem d_N_holds_71 : decode b_N_holds 71 = .ok (.goto 4, 3) := by decide +kernel
theorem d_N_holds_74 : decode b_N_holds 74 = .ok (.iconst 0, 1) := by decide +kernel
theorem d_N_holds_75 : decode b_N_holds 75 = .ok (.ireturn, 1) := by decide +kernel
theorem d_N_holds_76 : decode b_N_holds 76 = .ok (.iload_n 1, 1) := by decide +kernel
theorem d_N_holds_77 : decode b_N_holds 77 = .ok (.ifCond .le 7, 3) := by decide +kernel
theorem d_N_holds_80 : decode b_N_holds 80 = .ok (.iconst 1, 1) := by decide +kernel
theorem d_N_holds_81 : decode b_N_holds 81 = .ok (.goto 4, 3) := by decide +kernel
theorem d_N_holds_84 : decode b_N_holds 84 = .ok (.iconst 0, 1) := by decide +kernel
theorem d_N_holds_85 : decode b_N_holds 85 = .ok (.ireturn, 1) := by decide +kernel
theorem d_N_holds_86 : decode b_N_holds 86 = .ok (.iload_n 1, 1) := by decide +kernel
theorem d_N_holds_87 : decode b_N_holds 87 = .ok (.ifCond .lt 7, 3) := by decide +kernel
theorem d_N_holds_90 : decode b_N_holds 90 = .ok (.iconst 1, 1) := by decide +kernel
theorem d_N_holds_91 : decode b_N_holds 91 = .ok (.goto 4, 3) := by decide +kernel
theorem d_N_holds_94 : decode b_N_holds 94 = .ok (.iconst 0, 1) := by decide +kernel
theorem d_N_holds_95 : decode b_N_holds 95 = .ok (.ireturn, 1) := by decide +kernel
theorem d_N_each_0 : decode b_N_each 0 = .ok (.aload_n 0, 1) := by decide +kernel
theorem d_N_each_1 : decode b_N_each 1 = .ok (.getfield 23, 3) := by decide +kernel
theorem d_N_each_4 : decode b_N_each 4 = .ok (.iload_n 1, 1) := by decide +kernel
theorem d_N_each_5 : decode b_N_each 5 = .ok (.invokevirtual 236, 3) := by decide +kernel
theorem d_N_each_8 : decode b_N_each 8 = .ok (.ifCond .ne 10, 3) := by decide +kernel
theorem d_N_each_11 : decode b_N_each 11 = .ok (.aload_n 0, 1) := by decide +kernel
theorem d_N_each_12 : decode b_N_each 12 = .ok (.iconst (-1), 1) := by decide +kernel
theorem d_N_each_13 : decode b_N_each 13 = .ok (.aload_n 2, 1) := by decide +kernel
theorem d_N_each_14 : decode b_N_each 14 = .ok (.invokevirtual 69, 3) := by decide +kernel
theorem d_N_each_17 : decode b_N_each 17 = .ok (.return_, 1) := by decide +kernel
theorem d_N_each_18 : decode b_N_each 18 = .ok (.iconst 0, 1) := by decide +kernel
theorem d_N_each_19 : decode b_N_each 19 = .ok (.istore_n 3, 1) := by decide +kernel
theorem d_N_each_20 : decode b_N_each 20 = .ok (.iload_n 3, 1) := by decide +kernel
theorem d_N_each_21 : decode b_N_each 21 = .ok (.aload_n 0, 1) := by decide +kernel
theorem d_N_each_22 : decode b_N_each 22 = .ok (.getfield 23, 3) := by decide +kernel
theorem d_N_each_25 : decode b_N_each 25 = .ok (.iload_n 1, 1) := by decide +kernel
theorem d_N_each_26 : decode b_N_each 26 = .ok (.invokevirtual 239, 3) := by decide +kernel
theorem d_N_each_29 : decode b_N_each 29 = .ok (.if_icmp .ge 22, 3) := by decide +kernel
theorem d_N_each_32 : decode b_N_each 32 = .ok (.aload_n 2, 1) := by decide +kernel
theorem d_N_each_33 : decode b_N_each 33 = .ok (.aload_n 0, 1) := by decide +kernel
theorem d_N_each_34 : decode b_N_each 34 = .ok (.getfield 23, 3) := by decide +kernel
theorem d_N_each_37 : decode b_N_each 37 = .ok (.iload_n 1, 1) := by decide +kernel
theorem d_N_each_38 : decode b_N_each 38 = .ok (.iload_n 3, 1) := by decide +kernel
theorem d_N_each_39 : decode b_N_each 39 = .ok (.invokevirtual 242, 3) := by decide +kernel
theorem d_N_each_42 : decode b_N_each 42 = .ok (.invokevirtual 61, 3) := by decide +kernel
theorem d_N_each_45 : decode b_N_each 45 = .ok (.iinc 3 1, 3) := by decide +kernel
theorem d_N_each_48 : decode b_N_each 48 = .ok (.goto (-28), 3) := by decide +kernel
theorem d_N_each_51 : decode b_N_each 51 = .ok (.return_, 1) := by decide +kernel
theorem d_N_all_0 : decode b_N_all 0 = .ok (.aload_n 2, 1) := by decide +kernel
theorem d_N_all_1 : decode b_N_all 1 = .ok (.iload_n 1, 1) := by decide +kernel
theorem d_N_all_2 : decode b_N_all 2 = .ok (.invokevirtual 61, 3) := by decide +kernel
theorem d_N_all_5 : decode b_N_all 5 = .ok (.aload_n 0, 1) := by decide +kernel
theorem d_N_all_6 : decode b_N_all 6 = .ok (.getfield 23, 3) := by decide +kernel
theorem d_N_all_9 : decode b_N_all 9 = .ok (.iload_n 1, 1) := by decide +kernel
theorem d_N_all_10 : decode b_N_all 10 = .ok (.invokevirtual 236, 3) := by decide +kernel
theorem d_N_all_13 : decode b_N_all 13 = .ok (.ifCond .eq 37, 3) := by decide +kernel
theorem d_N_all_16 : decode b_N_all 16 = .ok (.iconst 0, 1) := by decide +kernel
theorem d_N_all_17 : decode b_N_all 17 = .ok (.istore_n 3, 1) := by decide +kernel
theorem d_N_all_18 : decode b_N_all 18 = .ok (.iload_n 3, 1) := by decide +kernel
theorem d_N_all_19 : decode b_N_all 19 = .ok (.aload_n 0, 1) := by decide +kernel
theorem d_N_all_20 : decode b_N_all 20 = .ok (.getfield 23, 3) := by decide +kernel
theorem d_N_all_23 : decode b_N_all 23 = .ok (.iload_n 1, 1) := by decide +kernel
theorem d_N_all_24 : decode b_N_all 24 = .ok (.invokevirtual 239, 3) := by decide +kernel
theorem d_N_all_27 : decode b_N_all 27 = .ok (.if_icmp .ge 23, 3) := by decide +kernel
theorem d_N_all_30 : decode b_N_all 30 = .ok (.aload_n 0, 1) := by decide +kernel
theorem d_N_all_31 : decode b_N_all 31 = .ok (.aload_n 0, 1) := by decide +kernel
theorem d_N_all_32 : decode b_N_all 32 = .ok (.getfield 23, 3) := by decide +kernel
theorem d_N_all_35 : decode b_N_all 35 = .ok (.iload_n 1, 1) := by decide +kernel
theorem d_N_all_36 : decode b_N_all 36 = .ok (.iload_n 3, 1) := by decide +kernel
theorem d_N_all_37 : decode b_N_all 37 = .ok (.invokevirtual 242, 3) := by decide +kernel
theorem d_N_all_40 : decode b_N_all 40 = .ok (.aload_n 2, 1) := by decide +kernel
theorem d_N_all_41 : decode b_N_all 41 = .ok (.invokevirtual 129, 3) := by decide +kernel
theorem d_N_all_44 : decode b_N_all 44 = .ok (.iinc 3 1, 3) := by decide +kernel
theorem d_N_all_47 : decode b_N_all 47 = .ok (.goto (-29), 3) := by decide +kernel
theorem d_N_all_50 : decode b_N_all 50 = .ok (.return_, 1) := by decide +kernel
theorem d_N_comma_0 : decode b_N_comma 0 = .ok (.aload_n 0, 1) := by decide +kernel
theorem d_N_comma_1 : decode b_N_comma 1 = .ok (.aload_n 0, 1) := by decide +kernel
theorem d_N_comma_2 : decode b_N_comma 2 = .ok (.getfield 30, 3) := by decide +kernel
theorem d_N_comma_5 : decode b_N_comma 5 = .ok (.iload_n 1, 1) := by decide +kernel
theorem d_N_comma_6 : decode b_N_comma 6 = .ok (.invokevirtual 150, 3) := by decide +kernel
theorem d_N_comma_9 : decode b_N_comma 9 = .ok (.iload_n 2, 1) := by decide +kernel
theorem d_N_comma_10 : decode b_N_comma 10 = .ok (.iload_n 3, 1) := by decide +kernel
theorem d_N_comma_11 : decode b_N_comma 11 = .ok (.iconst 1, 1) := by decide +kernel
theorem d_N_comma_12 : decode b_N_comma 12 = .ok (.iadd, 1) := by decide +kernel
theorem d_N_comma_13 : decode b_N_comma 13 = .ok (.aload 4, 2) := by decide +kernel
theorem d_N_comma_15 : decode b_N_comma 15 = .ok (.invokevirtual 144, 3) := by decide +kernel
theorem d_N_comma_18 : decode b_N_comma 18 = .ok (.aload 4, 2) := by decide +kernel
theorem d_N_comma_20 : decode b_N_comma 20 = .ok (.invokevirtual 160, 3) := by decide +kernel
theorem d_N_comma_23 : decode b_N_comma 23 = .ok (.ifCond .ne 21, 3) := by decide +kernel
theorem d_N_comma_26 : decode b_N_comma 26 = .ok (.aload_n 0, 1) := by decide +kernel
theorem d_N_comma_27 : decode b_N_comma 27 = .ok (.aload_n 0, 1) := by decide +kernel
theorem d_N_comma_28 : decode b_N_comma 28 = .ok (.getfield 30, 3) := by decide +kernel
theorem d_N_comma_31 : decode b_N_comma 31 = .ok (.iload_n 1, 1) := by decide +kernel
theorem d_N_comma_32 : decode b_N_comma 32 = .ok (.invokevirtual 178, 3) := by decide +kernel
theorem d_N_comma_35 : decode b_N_comma 35 = .ok (.iload_n 2, 1) := by decide +kernel
theorem d_N_comma_36 : decode b_N_comma 36 = .ok (.iload_n 3, 1) := by decide +kernel
theorem d_N_comma_37 : decode b_N_comma 37 = .ok (.iconst 1, 1) := by decide +kernel
theorem d_N_comma_38 : decode b_N_comma 38 = .ok (.iadd, 1) := by decide +kernel
theorem d_N_comma_39 : decode b_N_comma 39 = .ok (.aload 4, 2) := by decide +kernel
theorem d_N_comma_41 : decode b_N_comma 41 = .ok (.invokevirtual 144, 3) := by decide +kernel
theorem d_N_comma_44 : decode b_N_comma 44 = .ok (.return_, 1) := by decide +kernel
theorem d_N_array_0 : decode b_N_array 0 = .ok (.aload_n 0, 1) := by decide +kernel
theorem d_N_array_1 : decode b_N_array 1 = .ok (.aload_n 0, 1) := by decide +kernel
theorem d_N_array_2 : decode b_N_array 2 = .ok (.getfield 30, 3) := by decide +kernel
theorem d_N_array_5 : decode b_N_array 5 = .ok (.iload_n 1, 1) := by decide +kernel
theorem d_N_array_6 : decode b_N_array 6 = .ok (.invokevirtual 150, 3) := by decide +kernel
theorem d_N_array_9 : decode b_N_array 9 = .ok (.iload_n 2, 1) := by decide +kernel
theorem d_N_array_10 : decode b_N_array 10 = .ok (.iload_n 3, 1) := by decide +kernel
theorem d_N_array_11 : decode b_N_array 11 = .ok (.iconst 0, 1) := by decide +kernel
theorem d_N_array_12 : decode b_N_array 12 = .ok (.invokevirtual 153, 3) := by decide +kernel
theorem d_N_array_15 : decode b_N_array 15 = .ok (.astore 5, 2) := by decide +kernel
theorem d_N_array_17 : decode b_N_array 17 = .ok (.aload 5, 2) := by decide +kernel
theorem d_N_array_19 : decode b_N_array 19 = .ok (.invokevirtual 160, 3) := by decide +kernel
theorem d_N_array_22 : decode b_N_array 22 = .ok (.ifCond .eq 13, 3) := by decide +kernel
theorem d_N_array_25 : decode b_N_array 25 = .ok (.aload 4, 2) := by decide +kernel
theorem d_N_array_27 : decode b_N_array 27 = .ok (.aload 5, 2) := by decide +kernel
theorem d_N_array_29 : decode b_N_array 29 = .ok (.invokevirtual 171, 3) := by decide +kernel
theorem d_N_array_32 : decode b_N_array 32 = .ok (.goto 25, 3) := by decide +kernel
theorem d_N_array_35 : decode b_N_array 35 = .ok (.aload 4, 2) := by decide +kernel
theorem d_N_array_37 : decode b_N_array 37 = .ok (.aload_n 0, 1) := by decide +kernel
theorem d_N_array_38 : decode b_N_array 38 = .ok (.getfield 23, 3) := by decide +kernel
theorem d_N_array_41 : decode b_N_array 41 = .ok (.aload 5, 2) := by decide +kernel
theorem d_N_array_43 : decode b_N_array 43 = .ok (.invokevirtual 245, 3) := by decide +kernel
theorem d_N_array_46 : decode b_N_array 46 = .ok (.aload 5, 2) := by decide +kernel
theorem d_N_array_48 : decode b_N_array 48 = .ok (.invokevirtual 157, 3) := by decide +kernel
theorem d_N_array_51 : decode b_N_array 51 = .ok (.invokevirtual 249, 3) := by decide +kernel
theorem d_N_array_54 : decode b_N_array 54 = .ok (.invokevirtual 61, 3) := by decide +kernel
theorem d_N_array_57 : decode b_N_array 57 = .ok (.return_, 1) := by decide +kernel
theorem d_N_attempt_0 : decode b_N_attempt 0 = .ok (.aload_n 0, 1) := by decide +kernel
theorem d_N_attempt_1 : decode b_N_attempt 1 = .ok (.aload_n 0, 1) := by decide +kernel
theorem d_N_attempt_2 : decode b_N_attempt 2 = .ok (.getfield 30, 3) := by decide +kernel
theorem d_N_attempt_5 : decode b_N_attempt 5 = .ok (.iload_n 1, 1) := by decide +kernel
theorem d_N_attempt_6 : decode b_N_attempt 6 = .ok (.invokevirtual 150, 3) := by decide +kernel
theorem d_N_attempt_9 : decode b_N_attempt 9 = .ok (.iload_n 2, 1) := by decide +kernel
theorem d_N_attempt_10 : decode b_N_attempt 10 = .ok (.iload_n 3, 1) := by decide +kernel
theorem d_N_attempt_11 : decode b_N_attempt 11 = .ok (.iconst 1, 1) := by decide +kernel
theorem d_N_attempt_12 : decode b_N_attempt 12 = .ok (.iadd, 1) := by decide +kernel
theorem d_N_attempt_13 : decode b_N_attempt 13 = .ok (.aload 4, 2) := by decide +kernel
theorem d_N_attempt_15 : decode b_N_attempt 15 = .ok (.invokevirtual 144, 3) := by decide +kernel
theorem d_N_attempt_18 : decode b_N_attempt 18 = .ok (.aload 4, 2) := by decide +kernel
theorem d_N_attempt_20 : decode b_N_attempt 20 = .ok (.invokevirtual 160, 3) := by decide +kernel
theorem d_N_attempt_23 : decode b_N_attempt 23 = .ok (.ifCond .eq 25, 3) := by decide +kernel
theorem d_N_attempt_26 : decode b_N_attempt 26 = .ok (.aload_n 0, 1) := by decide +kernel
theorem d_N_attempt_27 : decode b_N_attempt 27 = .ok (.aload_n 0, 1) := by decide +kernel
theorem d_N_attempt_28 : decode b_N_attempt 28 = .ok (.getfield 30, 3) := by decide +kernel
theorem d_N_attempt_31 : decode b_N_attempt 31 = .ok (.iload_n 1, 1) := by decide +kernel
theorem d_N_attempt_32 : decode b_N_attempt 32 = .ok (.invokevirtual 178, 3) := by decide +kernel
theorem d_N_attempt_35 : decode b_N_attempt 35 = .ok (.aload 4, 2) := by decide +kernel
theorem d_N_attempt_37 : decode b_N_attempt 37 = .ok (.invokevirtual 253, 3) := by decide +kernel
theorem d_N_attempt_40 : decode b_N_attempt 40 = .ok (.iload_n 3, 1) := by decide +kernel
theorem d_N_attempt_41 : decode b_N_attempt 41 = .ok (.iconst 1, 1) := by decide +kernel
theorem d_N_attempt_42 : decode b_N_attempt 42 = .ok (.iadd, 1) := by decide +kernel
theorem d_N_attempt_43 : decode b_N_attempt 43 = .ok (.aload 4, 2) := by decide +kernel
theorem d_N_attempt_45 : decode b_N_attempt 45 = .ok (.invokevirtual 144, 3) := by decide +kernel
theorem d_N_attempt_48 : decode b_N_attempt 48 = .ok (.return_, 1) := by decide +kernel
theorem d_N_alternative_0 : decode b_N_alternative 0 = .ok (.aload_n 0, 1) := by decide +kernel
theorem d_N_alternative_1 : decode b_N_alternative 1 = .ok (.aload_n 0, 1) := by decide +kernel
theorem d_N_alternative_2 : decode b_N_alternative 2 = .ok (.getfield 30, 3) := by decide +kernel
theorem d_N_alternative_5 : decode b_N_alternative 5 = .ok (.iload_n 1, 1) := by decide +kernel
theorem d_N_alternative_6 : decode b_N_alternative 6 = .ok (.invokevirtual 150, 3) := by decide +kernel
theorem d_N_alternative_9 : decode b_N_alternative 9 = .ok (.iload_n 2, 1) := by decide +kernel
theorem d_N_alternative_10 : decode b_N_alternative 10 = .ok (.iload_n 3, 1) := by decide +kernel
theorem d_N_alternative_11 : decode b_N_alternative 11 = .ok (.iconst 0, 1) := by decide +kernel
theorem d_N_alternative_12 : decode b_N_alternative 12 = .ok (.invokevirtual 153, 3) := by decide +kernel
theorem d_N_alternative_15 : decode b_N_alternative 15 = .ok (.astore 5, 2) := by decide +kernel
theorem d_N_alternative_17 : decode b_N_alternative 17 = .ok (.iconst 1, 1) := by decide +kernel
theorem d_N_alternative_18 : decode b_N_alternative 18 = .ok (.istore 6, 2) := by decide +kernel
theorem d_N_alternative_20 : decode b_N_alternative 20 = .ok (.iconst 0, 1) := by decide +kernel
theorem d_N_alternative_21 : decode b_N_alternative 21 = .ok (.istore 7, 2) := by decide +kernel
theorem d_N_alternative_23 : decode b_N_alternative 23 = .ok (.iload 7, 2) := by decide +kernel
theorem d_N_alternative_25 : decode b_N_alternative 25 = .ok (.aload 5, 2) := by decide +kernel
theorem d_N_alternative_27 : decode b_N_alternative 27 = .ok (.invokevirtual 157, 3) := by decide +kernel
theorem d_N_alternative_30 : decode b_N_alternative 30 = .ok (.if_icmp .ge 41, 3) := by decide +kernel
theorem d_N_alternative_33 : decode b_N_alternative 33 = .ok (.aload_n 0, 1) := by decide +kernel
theorem d_N_alternative_34 : decode b_N_alternative 34 = .ok (.getfield 23, 3) := by decide +kernel
theorem d_N_alternative_37 : decode b_N_alternative 37 = .ok (.aload 5, 2) := by decide +kernel
theorem d_N_alternative_39 : decode b_N_alternative 39 = .ok (.iload 7, 2) := by decide +kernel
theorem d_N_alternative_41 : decode b_N_alternative 41 = .ok (.invokevirtual 164, 3) := by decide +kernel
theorem d_N_alternative_44 : decode b_N_alternative 44 = .ok (.invokevirtual 97, 3) := by decide +kernel
theorem d_N_alternative_47 : decode b_N_alternative 47 = .ok (.ifCond .eq 18, 3) := by decide +kernel
theorem d_N_alternative_50 : decode b_N_alternative 50 = .ok (.aload 4, 2) := by decide +kernel
theorem d_N_alternative_52 : decode b_N_alternative 52 = .ok (.aload 5, 2) := by decide +kernel
theorem d_N_alternative_54 : decode b_N_alternative 54 = .ok (.iload 7, 2) := by decide +kernel
theorem d_N_alternative_56 : decode b_N_alternative 56 = .ok (.invokevirtual 164, 3) := by decide +kernel
theorem d_N_alternative_59 : decode b_N_alternative 59 = .ok (.invokevirtual 61, 3) := by decide +kernel
theorem d_N_alternative_62 : decode b_N_alternative 62 = .ok (.iconst 0, 1) := by decide +kernel
theorem d_N_alternative_63 : decode b_N_alternative 63 = .ok (.istore 6, 2) := by decide +kernel
theorem d_N_alternative_65 : decode b_N_alternative 65 = .ok (.iinc 7 1, 3) := by decide +kernel
theorem d_N_alternative_68 : decode b_N_alternative 68 = .ok (.goto (-45), 3) := by decide +kernel
theorem d_N_alternative_71 : decode b_N_alternative 71 = .ok (.iload 6, 2) := by decide +kernel
theorem d_N_alternative_73 : decode b_N_alternative 73 = .ok (.ifCond .eq 21, 3) := by decide +kernel
theorem d_N_alternative_76 : decode b_N_alternative 76 = .ok (.aload_n 0, 1) := by decide +kernel
theorem d_N_alternative_77 : decode b_N_alternative 77 = .ok (.aload_n 0, 1) := by decide +kernel
theorem d_N_alternative_78 : decode b_N_alternative 78 = .ok (.getfield 30, 3) := by decide +kernel
theorem d_N_alternative_81 : decode b_N_alternative 81 = .ok (.iload_n 1, 1) := by decide +kernel
theorem d_N_alternative_82 : decode b_N_alternative 82 = .ok (.invokevirtual 178, 3) := by decide +kernel
theorem d_N_alternative_85 : decode b_N_alternative 85 = .ok (.iload_n 2, 1) := by decide +kernel
theorem d_N_alternative_86 : decode b_N_alternative 86 = .ok (.iload_n 3, 1) := by decide +kernel
theorem d_N_alternative_87 : decode b_N_alternative 87 = .ok (.iconst 1, 1) := by decide +kernel
theorem d_N_alternative_88 : decode b_N_alternative 88 = .ok (.iadd, 1) := by decide +kernel
theorem d_N_alternative_89 : decode b_N_alternative 89 = .ok (.aload 4, 2) := by decide +kernel
theorem d_N_alternative_91 : decode b_N_alternative 91 = .ok (.invokevirtual 144, 3) := by decide +kernel
theorem d_N_alternative_94 : decode b_N_alternative 94 = .ok (.return_, 1) := by decide +kernel
theorem d_N_limit_0 : decode b_N_limit 0 = .ok (.aload_n 0, 1) := by decide +kernel
theorem d_N_limit_1 : decode b_N_limit 1 = .ok (.getfield 30, 3) := by decide +kernel
theorem d_N_limit_4 : decode b_N_limit 4 = .ok (.iload_n 1, 1) := by decide +kernel
theorem d_N_limit_5 : decode b_N_limit 5 = .ok (.invokevirtual 54, 3) := by decide +kernel
theorem d_N_limit_8 : decode b_N_limit 8 = .ok (.istore 5, 2) := by decide +kernel
theorem d_N_limit_10 : decode b_N_limit 10 = .ok (.iload 5, 2) := by decide +kernel
theorem d_N_limit_12 : decode b_N_limit 12 = .ok (.ifCond .ne 4, 3) := by decide +kernel
theorem d_N_limit_15 : decode b_N_limit 15 = .ok (.return_, 1) := by decide +kernel
theorem d_N_limit_16 : decode b_N_limit 16 = .ok (.aload_n 0, 1) := by decide +kernel
theorem d_N_limit_17 : decode b_N_limit 17 = .ok (.aload_n 0, 1) := by decide +kernel
theorem d_N_limit_18 : decode b_N_limit 18 = .ok (.getfield 30, 3) := by decide +kernel
theorem d_N_limit_21 : decode b_N_limit 21 = .ok (.iload_n 1, 1) := by decide +kernel
theorem d_N_limit_22 : decode b_N_limit 22 = .ok (.invokevirtual 150, 3) := by decide +kernel
theorem d_N_limit_25 : decode b_N_limit 25 = .ok (.iload_n 2, 1) := by decide +kernel
theorem d_N_limit_26 : decode b_N_limit 26 = .ok (.iload_n 3, 1) := by decide +kernel
theorem d_N_limit_27 : decode b_N_limit 27 = .ok (.iconst 0, 1) := by decide +kernel
theorem d_N_limit_28 : decode b_N_limit 28 = .ok (.invokevirtual 153, 3) := by decide +kernel
theorem d_N_limit_31 : decode b_N_limit 31 = .ok (.astore 6, 2) := by decide +kernel
theorem d_N_limit_33 : decode b_N_limit 33 = .ok (.iconst 0, 1) := by decide +kernel
theorem d_N_limit_34 : decode b_N_limit 34 = .ok (.istore 7, 2) := by decide +kernel
theorem d_N_limit_36 : decode b_N_limit 36 = .ok (.iload 7, 2) := by decide +kernel
theorem d_N_limit_38 : decode b_N_limit 38 = .ok (.aload 6, 2) := by decide +kernel
theorem d_N_limit_40 : decode b_N_limit 40 = .ok (.invokevirtual 157, 3) := by decide +kernel
theorem d_N_limit_43 : decode b_N_limit 43 = .ok (.if_icmp .ge 28, 3) := by decide +kernel
theorem d_N_limit_46 : decode b_N_limit 46 = .ok (.iload 7, 2) := by decide +kernel
theorem d_N_limit_48 : decode b_N_limit 48 = .ok (.iload 5, 2) := by decide +kernel
theorem d_N_limit_50 : decode b_N_limit 50 = .ok (.if_icmp .ge 21, 3) := by decide +kernel
theorem d_N_limit_53 : decode b_N_limit 53 = .ok (.aload 4, 2) := by decide +kernel
theorem d_N_limit_55 : decode b_N_limit 55 = .ok (.aload 6, 2) := by decide +kernel
theorem d_N_limit_57 : decode b_N_limit 57 = .ok (.iload 7, 2) := by decide +kernel
theorem d_N_limit_59 : decode b_N_limit 59 = .ok (.invokevirtual 164, 3) := by decide +kernel
theorem d_N_limit_62 : decode b_N_limit 62 = .ok (.invokevirtual 61, 3) := by decide +kernel
theorem d_N_limit_65 : decode b_N_limit 65 = .ok (.iinc 7 1, 3) := by decide +kernel
theorem d_N_limit_68 : decode b_N_limit 68 = .ok (.goto (-32), 3) := by decide +kernel
theorem d_N_limit_71 : decode b_N_limit 71 = .ok (.aload 6, 2) := by decide +kernel
theorem d_N_limit_73 : decode b_N_limit 73 = .ok (.invokevirtual 157, 3) := by decide +kernel
theorem d_N_limit_76 : decode b_N_limit 76 = .ok (.iload 5, 2) := by decide +kernel
theorem d_N_limit_78 : decode b_N_limit 78 = .ok (.if_icmp .ge 10, 3) := by decide +kernel
theorem d_N_limit_81 : decode b_N_limit 81 = .ok (.aload 4, 2) := by decide +kernel
theorem d_N_limit_83 : decode b_N_limit 83 = .ok (.aload 6, 2) := by decide +kernel
theorem d_N_limit_85 : decode b_N_limit 85 = .ok (.invokevirtual 171, 3) := by decide +kernel
theorem d_N_limit_88 : decode b_N_limit 88 = .ok (.return_, 1) := by decide +kernel
theorem d_N_reduce_0 : decode b_N_reduce 0 = .ok (.aload_n 0, 1) := by decide +kernel
theorem d_N_reduce_1 : decode b_N_reduce 1 = .ok (.aload_n 0, 1) := by decide +kernel
theorem d_N_reduce_2 : decode b_N_reduce 2 = .ok (.getfield 30, 3) := by decide +kernel
theorem d_N_reduce_5 : decode b_N_reduce 5 = .ok (.iload_n 1, 1) := by decide +kernel
theorem d_N_reduce_6 : decode b_N_reduce 6 = .ok (.invokevirtual 178, 3) := by decide +kernel
theorem d_N_reduce_9 : decode b_N_reduce 9 = .ok (.iload_n 2, 1) := by decide +kernel
theorem d_N_reduce_10 : decode b_N_reduce 10 = .ok (.iload_n 3, 1) := by decide +kernel
theorem d_N_reduce_11 : decode b_N_reduce 11 = .ok (.iconst 1, 1) := by decide +kernel
theorem d_N_reduce_12 : decode b_N_reduce 12 = .ok (.invokevirtual 153, 3) := by decide +kernel
theorem d_N_reduce_15 : decode b_N_reduce 15 = .ok (.astore 5, 2) := by decide +kernel
theorem d_N_reduce_17 : decode b_N_reduce 17 = .ok (.aload 5, 2) := by decide +kernel
theorem d_N_reduce_19 : decode b_N_reduce 19 = .ok (.invokevirtual 160, 3) := by decide +kernel
theorem d_N_reduce_22 : decode b_N_reduce 22 = .ok (.ifCond .eq 11, 3) := by decide +kernel
theorem d_N_reduce_25 : decode b_N_reduce 25 = .ok (.aload 4, 2) := by decide +kernel
theorem d_N_reduce_27 : decode b_N_reduce 27 = .ok (.aload 5, 2) := by decide +kernel
theorem d_N_reduce_29 : decode b_N_reduce 29 = .ok (.invokevirtual 171, 3) := by decide +kernel
theorem d_N_reduce_32 : decode b_N_reduce 32 = .ok (.return_, 1) := by decide +kernel
theorem d_N_reduce_33 : decode b_N_reduce 33 = .ok (.aload 5, 2) := by decide +kernel
theorem d_N_reduce_35 : decode b_N_reduce 35 = .ok (.invokevirtual 157, 3) := by decide +kernel
theorem d_N_reduce_38 : decode b_N_reduce 38 = .ok (.ifCond .ne 7, 3) := by decide +kernel
theorem d_N_reduce_41 : decode b_N_reduce 41 = .ok (.iconst 0, 1) := by decide +kernel
theorem d_N_reduce_42 : decode b_N_reduce 42 = .ok (.goto 9, 3) := by decide +kernel
theorem d_N_reduce_45 : decode b_N_reduce 45 = .ok (.aload 5, 2) := by decide +kernel
theorem d_N_reduce_47 : decode b_N_reduce 47 = .ok (.iconst 0, 1) := by decide +kernel
theorem d_N_reduce_48 : decode b_N_reduce 48 = .ok (.invokevirtual 164, 3) := by decide +kernel
theorem d_N_reduce_51 : decode b_N_reduce 51 = .ok (.istore 6, 2) := by decide +kernel
theorem d_N_reduce_53 : decode b_N_reduce 53 = .ok (.aload_n 0, 1) := by decide +kernel
theorem d_N_reduce_54 : decode b_N_reduce 54 = .ok (.getfield 30, 3) := by decide +kernel
theorem d_N_reduce_57 : decode b_N_reduce 57 = .ok (.iload_n 1, 1) := by decide +kernel
theorem d_N_reduce_58 : decode b_N_reduce 58 = .ok (.invokevirtual 54, 3) := by decide +kernel
theorem d_N_reduce_61 : decode b_N_reduce 61 = .ok (.istore 7, 2) := by decide +kernel
theorem d_N_reduce_63 : decode b_N_reduce 63 = .ok (.aload_n 0, 1) := by decide +kernel
theorem d_N_reduce_64 : decode b_N_reduce 64 = .ok (.getfield 9, 3) := by decide +kernel
theorem d_N_reduce_67 : decode b_N_reduce 67 = .ok (.iload 7, 2) := by decide +kernel
theorem d_N_reduce_69 : decode b_N_reduce 69 = .ok (.iaload, 1) := by decide +kernel
theorem d_N_reduce_70 : decode b_N_reduce 70 = .ok (.istore 8, 2) := by decide +kernel
theorem d_N_reduce_72 : decode b_N_reduce 72 = .ok (.aload_n 0, 1) := by decide +kernel
theorem d_N_reduce_73 : decode b_N_reduce 73 = .ok (.aload_n 0, 1) := by decide +kernel
theorem d_N_reduce_74 : decode b_N_reduce 74 = .ok (.getfield 30, 3) := by decide +kernel
theorem d_N_reduce_77 : decode b_N_reduce 77 = .ok (.iload_n 1, 1) := by decide +kernel
theorem d_N_reduce_78 : decode b_N_reduce 78 = .ok (.invokevirtual 150, 3) := by decide +kernel
theorem d_N_reduce_81 : decode b_N_reduce 81 = .ok (.iload_n 2, 1) := by decide +kernel
theorem d_N_reduce_82 : decode b_N_reduce 82 = .ok (.iload_n 3, 1) := by decide +kernel
theorem d_N_reduce_83 : decode b_N_reduce 83 = .ok (.iconst 0, 1) := by decide +kernel
theorem d_N_reduce_84 : decode b_N_reduce 84 = .ok (.invokevirtual 153, 3) := by decide +kernel
theorem d_N_reduce_87 : decode b_N_reduce 87 = .ok (.astore 9, 2) := by decide +kernel
theorem d_N_reduce_89 : decode b_N_reduce 89 = .ok (.iconst 0, 1) := by decide +kernel
theorem d_N_reduce_90 : decode b_N_reduce 90 = .ok (.istore 10, 2) := by decide +kernel
theorem d_N_reduce_92 : decode b_N_reduce 92 = .ok (.iload 10, 2) := by decide +kernel
theorem d_N_reduce_94 : decode b_N_reduce 94 = .ok (.aload 9, 2) := by decide +kernel
theorem d_N_reduce_96 : decode b_N_reduce 96 = .ok (.invokevirtual 157, 3) := by decide +kernel
theorem d_N_reduce_99 : decode b_N_reduce 99 = .ok (.if_icmp .ge 82, 3) := by decide +kernel
theorem d_N_reduce_102 : decode b_N_reduce 102 = .ok (.aload 4, 2) := by decide +kernel
theorem d_N_reduce_104 : decode b_N_reduce 104 = .ok (.invokevirtual 160, 3) := by decide +kernel
theorem d_N_reduce_107 : decode b_N_reduce 107 = .ok (.ifCond .ne 74, 3) := by decide +kernel
theorem d_N_reduce_110 : decode b_N_reduce 110 = .ok (.aload_n 0, 1) := by decide +kernel
theorem d_N_reduce_111 : decode b_N_reduce 111 = .ok (.getfield 9, 3) := by decide +kernel
theorem d_N_reduce_114 : decode b_N_reduce 114 = .ok (.iload 7, 2) := by decide +kernel
theorem d_N_reduce_116 : decode b_N_reduce 116 = .ok (.aload 9, 2) := by decide +kernel
theorem d_N_reduce_118 : decode b_N_reduce 118 = .ok (.iload 10, 2) := by decide +kernel
theorem d_N_reduce_120 : decode b_N_reduce 120 = .ok (.invokevirtual 164, 3) := by decide +kernel
theorem d_N_reduce_123 : decode b_N_reduce 123 = .ok (.iastore, 1) := by decide +kernel
theorem d_N_reduce_124 : decode b_N_reduce 124 = .ok (.aload_n 0, 1) := by decide +kernel
theorem d_N_reduce_125 : decode b_N_reduce 125 = .ok (.aload_n 0, 1) := by decide +kernel
theorem d_N_reduce_126 : decode b_N_reduce 126 = .ok (.getfield 30, 3) := by decide +kernel
theorem d_N_reduce_129 : decode b_N_reduce 129 = .ok (.iload_n 1, 1) := by decide +kernel
theorem d_N_reduce_130 : decode b_N_reduce 130 = .ok (.invokevirtual 205, 3) := by decide +kernel
theorem d_N_reduce_133 : decode b_N_reduce 133 = .ok (.iload 6, 2) := by decide +kernel
theorem d_N_reduce_135 : decode b_N_reduce 135 = .ok (.iload_n 3, 1) := by decide +kernel
theorem d_N_reduce_136 : decode b_N_reduce 136 = .ok (.iconst 1, 1) := by decide +kernel
theorem d_N_reduce_137 : decode b_N_reduce 137 = .ok (.invokevirtual 153, 3) := by decide +kernel
theorem d_N_reduce_140 : decode b_N_reduce 140 = .ok (.astore 11, 2) := by decide +kernel
theorem d_N_reduce_142 : decode b_N_reduce 142 = .ok (.aload 11, 2) := by decide +kernel
theorem d_N_reduce_144 : decode b_N_reduce 144 = .ok (.invokevirtual 157, 3) := by decide +kernel
theorem d_N_reduce_147 : decode b_N_reduce 147 = .ok (.ifCond .ne 7, 3) := by decide +kernel
theorem d_N_reduce_150 : decode b_N_reduce 150 = .ok (.iconst 0, 1) := by decide +kernel
theorem d_N_reduce_151 : decode b_N_reduce 151 = .ok (.goto 15, 3) := by decide +kernel
theorem d_N_reduce_154 : decode b_N_reduce 154 = .ok (.aload 11, 2) := by decide +kernel
theorem d_N_reduce_156 : decode b_N_reduce 156 = .ok (.aload 11, 2) := by decide +kernel
theorem d_N_reduce_158 : decode b_N_reduce 158 = .ok (.invokevirtual 157, 3) := by decide +kernel
theorem d_N_reduce_161 : decode b_N_reduce 161 = .ok (.iconst 1, 1) := by decide +kernel
theorem d_N_reduce_162 : decode b_N_reduce 162 = .ok (.isub, 1) := by decide +kernel
theorem d_N_reduce_163 : decode b_N_reduce 163 = .ok (.invokevirtual 164, 3) := by decide +kernel
theorem d_N_reduce_166 : decode b_N_reduce 166 = .ok (.istore 6, 2) := by decide +kernel
theorem d_N_reduce_168 : decode b_N_reduce 168 = .ok (.aload 4, 2) := by decide +kernel
theorem d_N_reduce_170 : decode b_N_reduce 170 = .ok (.aload 11, 2) := by decide +kernel
theorem d_N_reduce_172 : decode b_N_reduce 172 = .ok (.invokevirtual 171, 3) := by decide +kernel
theorem d_N_reduce_175 : decode b_N_reduce 175 = .ok (.iinc 10 1, 3) := by decide +kernel
theorem d_N_reduce_178 : decode b_N_reduce 178 = .ok (.goto (-86), 3) := by decide +kernel
theorem d_N_reduce_181 : decode b_N_reduce 181 = .ok (.aload_n 0, 1) := by decide +kernel
theorem d_N_reduce_182 : decode b_N_reduce 182 = .ok (.getfield 9, 3) := by decide +kernel
theorem d_N_reduce_185 : decode b_N_reduce 185 = .ok (.iload 7, 2) := by decide +kernel
theorem d_N_reduce_187 : decode b_N_reduce 187 = .ok (.iload 8, 2) := by decide +kernel
theorem d_N_reduce_189 : decode b_N_reduce 189 = .ok (.iastore, 1) := by decide +kernel
theorem d_N_reduce_190 : decode b_N_reduce 190 = .ok (.aload 4, 2) := by decide +kernel
theorem d_N_reduce_192 : decode b_N_reduce 192 = .ok (.aload 9, 2) := by decide +kernel
theorem d_N_reduce_194 : decode b_N_reduce 194 = .ok (.invokevirtual 171, 3) := by decide +kernel
theorem d_N_reduce_197 : decode b_N_reduce 197 = .ok (.aload 4, 2) := by decide +kernel
theorem d_N_reduce_199 : decode b_N_reduce 199 = .ok (.invokevirtual 160, 3) := by decide +kernel
theorem d_N_reduce_202 : decode b_N_reduce 202 = .ok (.ifCond .ne 10, 3) := by decide +kernel
theorem d_N_reduce_205 : decode b_N_reduce 205 = .ok (.aload 4, 2) := by decide +kernel
theorem d_N_reduce_207 : decode b_N_reduce 207 = .ok (.iload 6, 2) := by decide +kernel
theorem d_N_reduce_209 : decode b_N_reduce 209 = .ok (.invokevirtual 61, 3) := by decide +kernel
theorem d_N_reduce_212 : decode b_N_reduce 212 = .ok (.return_, 1) := by decide +kernel
