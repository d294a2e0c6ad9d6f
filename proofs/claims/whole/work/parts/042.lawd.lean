theorem dzL_0 : (decode cL_law 0 = .ok (.new 8, 3)) ∧ (decode cL_law 3 = .ok (.dup, 1)) ∧ (decode cL_law 4 = .ok (.invokespecial 153, 3)) ∧ (decode cL_law 7 = .ok (.astore_n 1, 1)) ∧ (decode cL_law 8 = .ok (.new 154, 3)) ∧ (decode cL_law 11 = .ok (.dup, 1)) ∧ (decode cL_law 12 = .ok (.invokespecial 156, 3)) ∧ (decode cL_law 15 = .ok (.astore_n 2, 1)) ∧ (decode cL_law 16 = .ok (.iconst 1, 1)) ∧ (decode cL_law 17 = .ok (.newarray .long, 2)) := by decide +kernel
theorem dL_law_0 : decode cL_law 0 = .ok (.new 8, 3) := dzL_0.1
theorem dL_law_3 : decode cL_law 3 = .ok (.dup, 1) := dzL_0.2.1
theorem dL_law_4 : decode cL_law 4 = .ok (.invokespecial 153, 3) := dzL_0.2.2.1
theorem dL_law_7 : decode cL_law 7 = .ok (.astore_n 1, 1) := dzL_0.2.2.2.1
theorem dL_law_8 : decode cL_law 8 = .ok (.new 154, 3) := dzL_0.2.2.2.2.1
theorem dL_law_11 : decode cL_law 11 = .ok (.dup, 1) := dzL_0.2.2.2.2.2.1
theorem dL_law_12 : decode cL_law 12 = .ok (.invokespecial 156, 3) := dzL_0.2.2.2.2.2.2.1
theorem dL_law_15 : decode cL_law 15 = .ok (.astore_n 2, 1) := dzL_0.2.2.2.2.2.2.2.1
theorem dL_law_16 : decode cL_law 16 = .ok (.iconst 1, 1) := dzL_0.2.2.2.2.2.2.2.2.1
theorem dL_law_17 : decode cL_law 17 = .ok (.newarray .long, 2) := dzL_0.2.2.2.2.2.2.2.2.2
theorem dzL_1 : (decode cL_law 19 = .ok (.astore_n 3, 1)) ∧ (decode cL_law 20 = .ok (.iconst 1, 1)) ∧ (decode cL_law 21 = .ok (.newarray .double, 2)) ∧ (decode cL_law 23 = .ok (.astore 4, 2)) ∧ (decode cL_law 25 = .ok (.iconst 0, 1)) ∧ (decode cL_law 26 = .ok (.istore 5, 2)) ∧ (decode cL_law 28 = .ok (.iload 5, 2)) ∧ (decode cL_law 30 = .ok (.aload_n 0, 1)) ∧ (decode cL_law 31 = .ok (.arraylength, 1)) ∧ (decode cL_law 32 = .ok (.iconst 4, 1)) := by decide +kernel
theorem dL_law_19 : decode cL_law 19 = .ok (.astore_n 3, 1) := dzL_1.1
theorem dL_law_20 : decode cL_law 20 = .ok (.iconst 1, 1) := dzL_1.2.1
theorem dL_law_21 : decode cL_law 21 = .ok (.newarray .double, 2) := dzL_1.2.2.1
theorem dL_law_23 : decode cL_law 23 = .ok (.astore 4, 2) := dzL_1.2.2.2.1
theorem dL_law_25 : decode cL_law 25 = .ok (.iconst 0, 1) := dzL_1.2.2.2.2.1
theorem dL_law_26 : decode cL_law 26 = .ok (.istore 5, 2) := dzL_1.2.2.2.2.2.1
theorem dL_law_28 : decode cL_law 28 = .ok (.iload 5, 2) := dzL_1.2.2.2.2.2.2.1
theorem dL_law_30 : decode cL_law 30 = .ok (.aload_n 0, 1) := dzL_1.2.2.2.2.2.2.2.1
theorem dL_law_31 : decode cL_law 31 = .ok (.arraylength, 1) := dzL_1.2.2.2.2.2.2.2.2.1
theorem dL_law_32 : decode cL_law 32 = .ok (.iconst 4, 1) := dzL_1.2.2.2.2.2.2.2.2.2
theorem dzL_2 : (decode cL_law 33 = .ok (.isub, 1)) ∧ (decode cL_law 34 = .ok (.if_icmp .gt 2724, 3)) ∧ (decode cL_law 37 = .ok (.aload_n 0, 1)) ∧ (decode cL_law 38 = .ok (.iload 5, 2)) ∧ (decode cL_law 40 = .ok (.iaload, 1)) ∧ (decode cL_law 41 = .ok (.bipush 63, 2)) ∧ (decode cL_law 43 = .ok (.iand, 1)) ∧ (decode cL_law 44 = .ok (.tableswitch 2708 0 53 #[232, 288, 368, 424, 468, 536, 592, 648, 704, 760, 773, 829, 885, 941, 997, 1053, 1116, 1179, 1235, 1291, 1347, 1360, 1416, 1472, 1528, 1584, 1640, 1696, 1709, 1722, 1778, 1846, 1902, 1958, 2014, 2070, 2126, 2139, 2152, 2165, 2178, 2191, 2256, 2322, 2335, 2348, 2361, 2417, 2475, 2519, 2563, 2607, 2651, 2664], 232)) ∧ (decode cL_law 276 = .ok (.aload_n 1, 1)) ∧ (decode cL_law 277 = .ok (.aload_n 0, 1)) := by decide +kernel
theorem dL_law_33 : decode cL_law 33 = .ok (.isub, 1) := dzL_2.1
theorem dL_law_34 : decode cL_law 34 = .ok (.if_icmp .gt 2724, 3) := dzL_2.2.1
theorem dL_law_37 : decode cL_law 37 = .ok (.aload_n 0, 1) := dzL_2.2.2.1
theorem dL_law_38 : decode cL_law 38 = .ok (.iload 5, 2) := dzL_2.2.2.2.1
theorem dL_law_40 : decode cL_law 40 = .ok (.iaload, 1) := dzL_2.2.2.2.2.1
theorem dL_law_41 : decode cL_law 41 = .ok (.bipush 63, 2) := dzL_2.2.2.2.2.2.1
theorem dL_law_43 : decode cL_law 43 = .ok (.iand, 1) := dzL_2.2.2.2.2.2.2.1
theorem dL_law_44 : decode cL_law 44 = .ok (.tableswitch 2708 0 53 #[232, 288, 368, 424, 468, 536, 592, 648, 704, 760, 773, 829, 885, 941, 997, 1053, 1116, 1179, 1235, 1291, 1347, 1360, 1416, 1472, 1528, 1584, 1640, 1696, 1709, 1722, 1778, 1846, 1902, 1958, 2014, 2070, 2126, 2139, 2152, 2165, 2178, 2191, 2256, 2322, 2335, 2348, 2361, 2417, 2475, 2519, 2563, 2607, 2651, 2664], 232) := dzL_2.2.2.2.2.2.2.2.1
theorem dL_law_276 : decode cL_law 276 = .ok (.aload_n 1, 1) := dzL_2.2.2.2.2.2.2.2.2.1
theorem dL_law_277 : decode cL_law 277 = .ok (.aload_n 0, 1) := dzL_2.2.2.2.2.2.2.2.2.2
theorem dzL_3 : (decode cL_law 278 = .ok (.iload 5, 2)) ∧ (decode cL_law 280 = .ok (.iconst 1, 1)) ∧ (decode cL_law 281 = .ok (.iadd, 1)) ∧ (decode cL_law 282 = .ok (.iaload, 1)) ∧ (decode cL_law 283 = .ok (.aload_n 3, 1)) ∧ (decode cL_law 284 = .ok (.invokestatic 157, 3)) ∧ (decode cL_law 287 = .ok (.istore 6, 2)) ∧ (decode cL_law 289 = .ok (.aload_n 2, 1)) ∧ (decode cL_law 290 = .ok (.aload_n 0, 1)) ∧ (decode cL_law 291 = .ok (.iload 5, 2)) := by decide +kernel
theorem dL_law_278 : decode cL_law 278 = .ok (.iload 5, 2) := dzL_3.1
theorem dL_law_280 : decode cL_law 280 = .ok (.iconst 1, 1) := dzL_3.2.1
theorem dL_law_281 : decode cL_law 281 = .ok (.iadd, 1) := dzL_3.2.2.1
theorem dL_law_282 : decode cL_law 282 = .ok (.iaload, 1) := dzL_3.2.2.2.1
theorem dL_law_283 : decode cL_law 283 = .ok (.aload_n 3, 1) := dzL_3.2.2.2.2.1
theorem dL_law_284 : decode cL_law 284 = .ok (.invokestatic 157, 3) := dzL_3.2.2.2.2.2.1
theorem dL_law_287 : decode cL_law 287 = .ok (.istore 6, 2) := dzL_3.2.2.2.2.2.2.1
theorem dL_law_289 : decode cL_law 289 = .ok (.aload_n 2, 1) := dzL_3.2.2.2.2.2.2.2.1
theorem dL_law_290 : decode cL_law 290 = .ok (.aload_n 0, 1) := dzL_3.2.2.2.2.2.2.2.2.1
theorem dL_law_291 : decode cL_law 291 = .ok (.iload 5, 2) := dzL_3.2.2.2.2.2.2.2.2.2
theorem dzL_4 : (decode cL_law 293 = .ok (.iconst 1, 1)) ∧ (decode cL_law 294 = .ok (.iadd, 1)) ∧ (decode cL_law 295 = .ok (.iaload, 1)) ∧ (decode cL_law 296 = .ok (.invokevirtual 162, 3)) ∧ (decode cL_law 299 = .ok (.istore 7, 2)) ∧ (decode cL_law 301 = .ok (.aload_n 2, 1)) ∧ (decode cL_law 302 = .ok (.invokevirtual 163, 3)) ∧ (decode cL_law 305 = .ok (.iload 6, 2)) ∧ (decode cL_law 307 = .ok (.if_icmp .eq 5, 3)) ∧ (decode cL_law 310 = .ok (.iconst 0, 1)) := by decide +kernel
theorem dL_law_293 : decode cL_law 293 = .ok (.iconst 1, 1) := dzL_4.1
theorem dL_law_294 : decode cL_law 294 = .ok (.iadd, 1) := dzL_4.2.1
theorem dL_law_295 : decode cL_law 295 = .ok (.iaload, 1) := dzL_4.2.2.1
theorem dL_law_296 : decode cL_law 296 = .ok (.invokevirtual 162, 3) := dzL_4.2.2.2.1
theorem dL_law_299 : decode cL_law 299 = .ok (.istore 7, 2) := dzL_4.2.2.2.2.1
theorem dL_law_301 : decode cL_law 301 = .ok (.aload_n 2, 1) := dzL_4.2.2.2.2.2.1
theorem dL_law_302 : decode cL_law 302 = .ok (.invokevirtual 163, 3) := dzL_4.2.2.2.2.2.2.1
theorem dL_law_305 : decode cL_law 305 = .ok (.iload 6, 2) := dzL_4.2.2.2.2.2.2.2.1
theorem dL_law_307 : decode cL_law 307 = .ok (.if_icmp .eq 5, 3) := dzL_4.2.2.2.2.2.2.2.2.1
theorem dL_law_310 : decode cL_law 310 = .ok (.iconst 0, 1) := dzL_4.2.2.2.2.2.2.2.2.2
theorem dzL_5 : (decode cL_law 311 = .ok (.ireturn, 1)) ∧ (decode cL_law 312 = .ok (.iload 6, 2)) ∧ (decode cL_law 314 = .ok (.ifCond .ne 15, 3)) ∧ (decode cL_law 317 = .ok (.aload_n 3, 1)) ∧ (decode cL_law 318 = .ok (.iconst 0, 1)) ∧ (decode cL_law 319 = .ok (.laload, 1)) ∧ (decode cL_law 320 = .ok (.iload 7, 2)) ∧ (decode cL_law 322 = .ok (.i2l, 1)) ∧ (decode cL_law 323 = .ok (.lcmp, 1)) ∧ (decode cL_law 324 = .ok (.ifCond .eq 5, 3)) := by decide +kernel
theorem dL_law_311 : decode cL_law 311 = .ok (.ireturn, 1) := dzL_5.1
theorem dL_law_312 : decode cL_law 312 = .ok (.iload 6, 2) := dzL_5.2.1
theorem dL_law_314 : decode cL_law 314 = .ok (.ifCond .ne 15, 3) := dzL_5.2.2.1
theorem dL_law_317 : decode cL_law 317 = .ok (.aload_n 3, 1) := dzL_5.2.2.2.1
theorem dL_law_318 : decode cL_law 318 = .ok (.iconst 0, 1) := dzL_5.2.2.2.2.1
theorem dL_law_319 : decode cL_law 319 = .ok (.laload, 1) := dzL_5.2.2.2.2.2.1
theorem dL_law_320 : decode cL_law 320 = .ok (.iload 7, 2) := dzL_5.2.2.2.2.2.2.1
theorem dL_law_322 : decode cL_law 322 = .ok (.i2l, 1) := dzL_5.2.2.2.2.2.2.2.1
theorem dL_law_323 : decode cL_law 323 = .ok (.lcmp, 1) := dzL_5.2.2.2.2.2.2.2.2.1
theorem dL_law_324 : decode cL_law 324 = .ok (.ifCond .eq 5, 3) := dzL_5.2.2.2.2.2.2.2.2.2
theorem dzL_6 : (decode cL_law 327 = .ok (.iconst 0, 1)) ∧ (decode cL_law 328 = .ok (.ireturn, 1)) ∧ (decode cL_law 329 = .ok (.goto 2423, 3)) ∧ (decode cL_law 332 = .ok (.aload_n 1, 1)) ∧ (decode cL_law 333 = .ok (.aload_n 0, 1)) ∧ (decode cL_law 334 = .ok (.iload 5, 2)) ∧ (decode cL_law 336 = .ok (.iconst 1, 1)) ∧ (decode cL_law 337 = .ok (.iadd, 1)) ∧ (decode cL_law 338 = .ok (.iaload, 1)) ∧ (decode cL_law 339 = .ok (.aload_n 0, 1)) := by decide +kernel
theorem dL_law_327 : decode cL_law 327 = .ok (.iconst 0, 1) := dzL_6.1
theorem dL_law_328 : decode cL_law 328 = .ok (.ireturn, 1) := dzL_6.2.1
theorem dL_law_329 : decode cL_law 329 = .ok (.goto 2423, 3) := dzL_6.2.2.1
theorem dL_law_332 : decode cL_law 332 = .ok (.aload_n 1, 1) := dzL_6.2.2.2.1
theorem dL_law_333 : decode cL_law 333 = .ok (.aload_n 0, 1) := dzL_6.2.2.2.2.1
theorem dL_law_334 : decode cL_law 334 = .ok (.iload 5, 2) := dzL_6.2.2.2.2.2.1
theorem dL_law_336 : decode cL_law 336 = .ok (.iconst 1, 1) := dzL_6.2.2.2.2.2.2.1
theorem dL_law_337 : decode cL_law 337 = .ok (.iadd, 1) := dzL_6.2.2.2.2.2.2.2.1
theorem dL_law_338 : decode cL_law 338 = .ok (.iaload, 1) := dzL_6.2.2.2.2.2.2.2.2.1
theorem dL_law_339 : decode cL_law 339 = .ok (.aload_n 0, 1) := dzL_6.2.2.2.2.2.2.2.2.2
theorem dzL_7 : (decode cL_law 340 = .ok (.iload 5, 2)) ∧ (decode cL_law 342 = .ok (.iconst 2, 1)) ∧ (decode cL_law 343 = .ok (.iadd, 1)) ∧ (decode cL_law 344 = .ok (.iaload, 1)) ∧ (decode cL_law 345 = .ok (.aload_n 0, 1)) ∧ (decode cL_law 346 = .ok (.iload 5, 2)) ∧ (decode cL_law 348 = .ok (.iconst 3, 1)) ∧ (decode cL_law 349 = .ok (.iadd, 1)) ∧ (decode cL_law 350 = .ok (.iaload, 1)) ∧ (decode cL_law 351 = .ok (.aload_n 3, 1)) := by decide +kernel
theorem dL_law_340 : decode cL_law 340 = .ok (.iload 5, 2) := dzL_7.1
theorem dL_law_342 : decode cL_law 342 = .ok (.iconst 2, 1) := dzL_7.2.1
theorem dL_law_343 : decode cL_law 343 = .ok (.iadd, 1) := dzL_7.2.2.1
theorem dL_law_344 : decode cL_law 344 = .ok (.iaload, 1) := dzL_7.2.2.2.1
theorem dL_law_345 : decode cL_law 345 = .ok (.aload_n 0, 1) := dzL_7.2.2.2.2.1
theorem dL_law_346 : decode cL_law 346 = .ok (.iload 5, 2) := dzL_7.2.2.2.2.2.1
theorem dL_law_348 : decode cL_law 348 = .ok (.iconst 3, 1) := dzL_7.2.2.2.2.2.2.1
theorem dL_law_349 : decode cL_law 349 = .ok (.iadd, 1) := dzL_7.2.2.2.2.2.2.2.1
theorem dL_law_350 : decode cL_law 350 = .ok (.iaload, 1) := dzL_7.2.2.2.2.2.2.2.2.1
theorem dL_law_351 : decode cL_law 351 = .ok (.aload_n 3, 1) := dzL_7.2.2.2.2.2.2.2.2.2
theorem dzL_8 : (decode cL_law 352 = .ok (.invokestatic 166, 3)) ∧ (decode cL_law 355 = .ok (.istore 6, 2)) ∧ (decode cL_law 357 = .ok (.aload_n 2, 1)) ∧ (decode cL_law 358 = .ok (.aload_n 0, 1)) ∧ (decode cL_law 359 = .ok (.iload 5, 2)) ∧ (decode cL_law 361 = .ok (.iconst 1, 1)) ∧ (decode cL_law 362 = .ok (.iadd, 1)) ∧ (decode cL_law 363 = .ok (.iaload, 1)) ∧ (decode cL_law 364 = .ok (.aload_n 0, 1)) ∧ (decode cL_law 365 = .ok (.iload 5, 2)) := by decide +kernel
theorem dL_law_352 : decode cL_law 352 = .ok (.invokestatic 166, 3) := dzL_8.1
theorem dL_law_355 : decode cL_law 355 = .ok (.istore 6, 2) := dzL_8.2.1
theorem dL_law_357 : decode cL_law 357 = .ok (.aload_n 2, 1) := dzL_8.2.2.1
theorem dL_law_358 : decode cL_law 358 = .ok (.aload_n 0, 1) := dzL_8.2.2.2.1
theorem dL_law_359 : decode cL_law 359 = .ok (.iload 5, 2) := dzL_8.2.2.2.2.1
theorem dL_law_361 : decode cL_law 361 = .ok (.iconst 1, 1) := dzL_8.2.2.2.2.2.1
theorem dL_law_362 : decode cL_law 362 = .ok (.iadd, 1) := dzL_8.2.2.2.2.2.2.1
theorem dL_law_363 : decode cL_law 363 = .ok (.iaload, 1) := dzL_8.2.2.2.2.2.2.2.1
theorem dL_law_364 : decode cL_law 364 = .ok (.aload_n 0, 1) := dzL_8.2.2.2.2.2.2.2.2.1
theorem dL_law_365 : decode cL_law 365 = .ok (.iload 5, 2) := dzL_8.2.2.2.2.2.2.2.2.2
theorem dzL_9 : (decode cL_law 367 = .ok (.iconst 2, 1)) ∧ (decode cL_law 368 = .ok (.iadd, 1)) ∧ (decode cL_law 369 = .ok (.iaload, 1)) ∧ (decode cL_law 370 = .ok (.aload_n 0, 1)) ∧ (decode cL_law 371 = .ok (.iload 5, 2)) ∧ (decode cL_law 373 = .ok (.iconst 3, 1)) ∧ (decode cL_law 374 = .ok (.iadd, 1)) ∧ (decode cL_law 375 = .ok (.iaload, 1)) ∧ (decode cL_law 376 = .ok (.invokevirtual 169, 3)) ∧ (decode cL_law 379 = .ok (.istore 7, 2)) := by decide +kernel
theorem dL_law_367 : decode cL_law 367 = .ok (.iconst 2, 1) := dzL_9.1
theorem dL_law_368 : decode cL_law 368 = .ok (.iadd, 1) := dzL_9.2.1
theorem dL_law_369 : decode cL_law 369 = .ok (.iaload, 1) := dzL_9.2.2.1
theorem dL_law_370 : decode cL_law 370 = .ok (.aload_n 0, 1) := dzL_9.2.2.2.1
theorem dL_law_371 : decode cL_law 371 = .ok (.iload 5, 2) := dzL_9.2.2.2.2.1
theorem dL_law_373 : decode cL_law 373 = .ok (.iconst 3, 1) := dzL_9.2.2.2.2.2.1
theorem dL_law_374 : decode cL_law 374 = .ok (.iadd, 1) := dzL_9.2.2.2.2.2.2.1
theorem dL_law_375 : decode cL_law 375 = .ok (.iaload, 1) := dzL_9.2.2.2.2.2.2.2.1
theorem dL_law_376 : decode cL_law 376 = .ok (.invokevirtual 169, 3) := dzL_9.2.2.2.2.2.2.2.2.1
theorem dL_law_379 : decode cL_law 379 = .ok (.istore 7, 2) := dzL_9.2.2.2.2.2.2.2.2.2
theorem dzL_10 : (decode cL_law 381 = .ok (.aload_n 2, 1)) ∧ (decode cL_law 382 = .ok (.invokevirtual 163, 3)) ∧ (decode cL_law 385 = .ok (.iload 6, 2)) ∧ (decode cL_law 387 = .ok (.if_icmp .eq 5, 3)) ∧ (decode cL_law 390 = .ok (.iconst 0, 1)) ∧ (decode cL_law 391 = .ok (.ireturn, 1)) ∧ (decode cL_law 392 = .ok (.iload 6, 2)) ∧ (decode cL_law 394 = .ok (.ifCond .ne 15, 3)) ∧ (decode cL_law 397 = .ok (.aload_n 3, 1)) ∧ (decode cL_law 398 = .ok (.iconst 0, 1)) := by decide +kernel
theorem dL_law_381 : decode cL_law 381 = .ok (.aload_n 2, 1) := dzL_10.1
theorem dL_law_382 : decode cL_law 382 = .ok (.invokevirtual 163, 3) := dzL_10.2.1
theorem dL_law_385 : decode cL_law 385 = .ok (.iload 6, 2) := dzL_10.2.2.1
theorem dL_law_387 : decode cL_law 387 = .ok (.if_icmp .eq 5, 3) := dzL_10.2.2.2.1
theorem dL_law_390 : decode cL_law 390 = .ok (.iconst 0, 1) := dzL_10.2.2.2.2.1
theorem dL_law_391 : decode cL_law 391 = .ok (.ireturn, 1) := dzL_10.2.2.2.2.2.1
theorem dL_law_392 : decode cL_law 392 = .ok (.iload 6, 2) := dzL_10.2.2.2.2.2.2.1
theorem dL_law_394 : decode cL_law 394 = .ok (.ifCond .ne 15, 3) := dzL_10.2.2.2.2.2.2.2.1
theorem dL_law_397 : decode cL_law 397 = .ok (.aload_n 3, 1) := dzL_10.2.2.2.2.2.2.2.2.1
theorem dL_law_398 : decode cL_law 398 = .ok (.iconst 0, 1) := dzL_10.2.2.2.2.2.2.2.2.2
theorem dzL_11 : (decode cL_law 399 = .ok (.laload, 1)) ∧ (decode cL_law 400 = .ok (.iload 7, 2)) ∧ (decode cL_law 402 = .ok (.i2l, 1)) ∧ (decode cL_law 403 = .ok (.lcmp, 1)) ∧ (decode cL_law 404 = .ok (.ifCond .eq 5, 3)) ∧ (decode cL_law 407 = .ok (.iconst 0, 1)) ∧ (decode cL_law 408 = .ok (.ireturn, 1)) ∧ (decode cL_law 409 = .ok (.goto 2343, 3)) ∧ (decode cL_law 412 = .ok (.aload_n 1, 1)) ∧ (decode cL_law 413 = .ok (.aload_n 0, 1)) := by decide +kernel
theorem dL_law_399 : decode cL_law 399 = .ok (.laload, 1) := dzL_11.1
theorem dL_law_400 : decode cL_law 400 = .ok (.iload 7, 2) := dzL_11.2.1
theorem dL_law_402 : decode cL_law 402 = .ok (.i2l, 1) := dzL_11.2.2.1
theorem dL_law_403 : decode cL_law 403 = .ok (.lcmp, 1) := dzL_11.2.2.2.1
theorem dL_law_404 : decode cL_law 404 = .ok (.ifCond .eq 5, 3) := dzL_11.2.2.2.2.1
theorem dL_law_407 : decode cL_law 407 = .ok (.iconst 0, 1) := dzL_11.2.2.2.2.2.1
theorem dL_law_408 : decode cL_law 408 = .ok (.ireturn, 1) := dzL_11.2.2.2.2.2.2.1
theorem dL_law_409 : decode cL_law 409 = .ok (.goto 2343, 3) := dzL_11.2.2.2.2.2.2.2.1
theorem dL_law_412 : decode cL_law 412 = .ok (.aload_n 1, 1) := dzL_11.2.2.2.2.2.2.2.2.1
theorem dL_law_413 : decode cL_law 413 = .ok (.aload_n 0, 1) := dzL_11.2.2.2.2.2.2.2.2.2
theorem dzL_12 : (decode cL_law 414 = .ok (.iload 5, 2)) ∧ (decode cL_law 416 = .ok (.iconst 1, 1)) ∧ (decode cL_law 417 = .ok (.iadd, 1)) ∧ (decode cL_law 418 = .ok (.iaload, 1)) ∧ (decode cL_law 419 = .ok (.aload_n 3, 1)) ∧ (decode cL_law 420 = .ok (.invokestatic 170, 3)) ∧ (decode cL_law 423 = .ok (.istore 6, 2)) ∧ (decode cL_law 425 = .ok (.aload_n 2, 1)) ∧ (decode cL_law 426 = .ok (.aload_n 0, 1)) ∧ (decode cL_law 427 = .ok (.iload 5, 2)) := by decide +kernel
theorem dL_law_414 : decode cL_law 414 = .ok (.iload 5, 2) := dzL_12.1
theorem dL_law_416 : decode cL_law 416 = .ok (.iconst 1, 1) := dzL_12.2.1
theorem dL_law_417 : decode cL_law 417 = .ok (.iadd, 1) := dzL_12.2.2.1
theorem dL_law_418 : decode cL_law 418 = .ok (.iaload, 1) := dzL_12.2.2.2.1
theorem dL_law_419 : decode cL_law 419 = .ok (.aload_n 3, 1) := dzL_12.2.2.2.2.1
theorem dL_law_420 : decode cL_law 420 = .ok (.invokestatic 170, 3) := dzL_12.2.2.2.2.2.1
theorem dL_law_423 : decode cL_law 423 = .ok (.istore 6, 2) := dzL_12.2.2.2.2.2.2.1
theorem dL_law_425 : decode cL_law 425 = .ok (.aload_n 2, 1) := dzL_12.2.2.2.2.2.2.2.1
theorem dL_law_426 : decode cL_law 426 = .ok (.aload_n 0, 1) := dzL_12.2.2.2.2.2.2.2.2.1
theorem dL_law_427 : decode cL_law 427 = .ok (.iload 5, 2) := dzL_12.2.2.2.2.2.2.2.2.2
theorem dzL_13 : (decode cL_law 429 = .ok (.iconst 1, 1)) ∧ (decode cL_law 430 = .ok (.iadd, 1)) ∧ (decode cL_law 431 = .ok (.iaload, 1)) ∧ (decode cL_law 432 = .ok (.invokevirtual 172, 3)) ∧ (decode cL_law 435 = .ok (.istore 7, 2)) ∧ (decode cL_law 437 = .ok (.aload_n 2, 1)) ∧ (decode cL_law 438 = .ok (.invokevirtual 163, 3)) ∧ (decode cL_law 441 = .ok (.iload 6, 2)) ∧ (decode cL_law 443 = .ok (.if_icmp .eq 5, 3)) ∧ (decode cL_law 446 = .ok (.iconst 0, 1)) := by decide +kernel
theorem dL_law_429 : decode cL_law 429 = .ok (.iconst 1, 1) := dzL_13.1
theorem dL_law_430 : decode cL_law 430 = .ok (.iadd, 1) := dzL_13.2.1
theorem dL_law_431 : decode cL_law 431 = .ok (.iaload, 1) := dzL_13.2.2.1
theorem dL_law_432 : decode cL_law 432 = .ok (.invokevirtual 172, 3) := dzL_13.2.2.2.1
theorem dL_law_435 : decode cL_law 435 = .ok (.istore 7, 2) := dzL_13.2.2.2.2.1
theorem dL_law_437 : decode cL_law 437 = .ok (.aload_n 2, 1) := dzL_13.2.2.2.2.2.1
theorem dL_law_438 : decode cL_law 438 = .ok (.invokevirtual 163, 3) := dzL_13.2.2.2.2.2.2.1
theorem dL_law_441 : decode cL_law 441 = .ok (.iload 6, 2) := dzL_13.2.2.2.2.2.2.2.1
theorem dL_law_443 : decode cL_law 443 = .ok (.if_icmp .eq 5, 3) := dzL_13.2.2.2.2.2.2.2.2.1
theorem dL_law_446 : decode cL_law 446 = .ok (.iconst 0, 1) := dzL_13.2.2.2.2.2.2.2.2.2
theorem dzL_14 : (decode cL_law 447 = .ok (.ireturn, 1)) ∧ (decode cL_law 448 = .ok (.iload 6, 2)) ∧ (decode cL_law 450 = .ok (.ifCond .ne 15, 3)) ∧ (decode cL_law 453 = .ok (.aload_n 3, 1)) ∧ (decode cL_law 454 = .ok (.iconst 0, 1)) ∧ (decode cL_law 455 = .ok (.laload, 1)) ∧ (decode cL_law 456 = .ok (.iload 7, 2)) ∧ (decode cL_law 458 = .ok (.i2l, 1)) ∧ (decode cL_law 459 = .ok (.lcmp, 1)) ∧ (decode cL_law 460 = .ok (.ifCond .eq 5, 3)) := by decide +kernel
theorem dL_law_447 : decode cL_law 447 = .ok (.ireturn, 1) := dzL_14.1
theorem dL_law_448 : decode cL_law 448 = .ok (.iload 6, 2) := dzL_14.2.1
theorem dL_law_450 : decode cL_law 450 = .ok (.ifCond .ne 15, 3) := dzL_14.2.2.1
theorem dL_law_453 : decode cL_law 453 = .ok (.aload_n 3, 1) := dzL_14.2.2.2.1
theorem dL_law_454 : decode cL_law 454 = .ok (.iconst 0, 1) := dzL_14.2.2.2.2.1
theorem dL_law_455 : decode cL_law 455 = .ok (.laload, 1) := dzL_14.2.2.2.2.2.1
theorem dL_law_456 : decode cL_law 456 = .ok (.iload 7, 2) := dzL_14.2.2.2.2.2.2.1
theorem dL_law_458 : decode cL_law 458 = .ok (.i2l, 1) := dzL_14.2.2.2.2.2.2.2.1
theorem dL_law_459 : decode cL_law 459 = .ok (.lcmp, 1) := dzL_14.2.2.2.2.2.2.2.2.1
theorem dL_law_460 : decode cL_law 460 = .ok (.ifCond .eq 5, 3) := dzL_14.2.2.2.2.2.2.2.2.2
theorem dzL_15 : (decode cL_law 463 = .ok (.iconst 0, 1)) ∧ (decode cL_law 464 = .ok (.ireturn, 1)) ∧ (decode cL_law 465 = .ok (.goto 2287, 3)) ∧ (decode cL_law 468 = .ok (.aload_n 1, 1)) ∧ (decode cL_law 469 = .ok (.aload_n 3, 1)) ∧ (decode cL_law 470 = .ok (.invokestatic 173, 3)) ∧ (decode cL_law 473 = .ok (.istore 6, 2)) ∧ (decode cL_law 475 = .ok (.aload_n 2, 1)) ∧ (decode cL_law 476 = .ok (.invokevirtual 176, 3)) ∧ (decode cL_law 479 = .ok (.istore 7, 2)) := by decide +kernel
theorem dL_law_463 : decode cL_law 463 = .ok (.iconst 0, 1) := dzL_15.1
theorem dL_law_464 : decode cL_law 464 = .ok (.ireturn, 1) := dzL_15.2.1
theorem dL_law_465 : decode cL_law 465 = .ok (.goto 2287, 3) := dzL_15.2.2.1
theorem dL_law_468 : decode cL_law 468 = .ok (.aload_n 1, 1) := dzL_15.2.2.2.1
theorem dL_law_469 : decode cL_law 469 = .ok (.aload_n 3, 1) := dzL_15.2.2.2.2.1
theorem dL_law_470 : decode cL_law 470 = .ok (.invokestatic 173, 3) := dzL_15.2.2.2.2.2.1
theorem dL_law_473 : decode cL_law 473 = .ok (.istore 6, 2) := dzL_15.2.2.2.2.2.2.1
theorem dL_law_475 : decode cL_law 475 = .ok (.aload_n 2, 1) := dzL_15.2.2.2.2.2.2.2.1
theorem dL_law_476 : decode cL_law 476 = .ok (.invokevirtual 176, 3) := dzL_15.2.2.2.2.2.2.2.2.1
theorem dL_law_479 : decode cL_law 479 = .ok (.istore 7, 2) := dzL_15.2.2.2.2.2.2.2.2.2
theorem dzL_16 : (decode cL_law 481 = .ok (.aload_n 2, 1)) ∧ (decode cL_law 482 = .ok (.invokevirtual 163, 3)) ∧ (decode cL_law 485 = .ok (.iload 6, 2)) ∧ (decode cL_law 487 = .ok (.if_icmp .eq 5, 3)) ∧ (decode cL_law 490 = .ok (.iconst 0, 1)) ∧ (decode cL_law 491 = .ok (.ireturn, 1)) ∧ (decode cL_law 492 = .ok (.iload 6, 2)) ∧ (decode cL_law 494 = .ok (.ifCond .ne 15, 3)) ∧ (decode cL_law 497 = .ok (.aload_n 3, 1)) ∧ (decode cL_law 498 = .ok (.iconst 0, 1)) := by decide +kernel
theorem dL_law_481 : decode cL_law 481 = .ok (.aload_n 2, 1) := dzL_16.1
theorem dL_law_482 : decode cL_law 482 = .ok (.invokevirtual 163, 3) := dzL_16.2.1
theorem dL_law_485 : decode cL_law 485 = .ok (.iload 6, 2) := dzL_16.2.2.1
theorem dL_law_487 : decode cL_law 487 = .ok (.if_icmp .eq 5, 3) := dzL_16.2.2.2.1
theorem dL_law_490 : decode cL_law 490 = .ok (.iconst 0, 1) := dzL_16.2.2.2.2.1
theorem dL_law_491 : decode cL_law 491 = .ok (.ireturn, 1) := dzL_16.2.2.2.2.2.1
theorem dL_law_492 : decode cL_law 492 = .ok (.iload 6, 2) := dzL_16.2.2.2.2.2.2.1
theorem dL_law_494 : decode cL_law 494 = .ok (.ifCond .ne 15, 3) := dzL_16.2.2.2.2.2.2.2.1
theorem dL_law_497 : decode cL_law 497 = .ok (.aload_n 3, 1) := dzL_16.2.2.2.2.2.2.2.2.1
theorem dL_law_498 : decode cL_law 498 = .ok (.iconst 0, 1) := dzL_16.2.2.2.2.2.2.2.2.2
theorem dzL_17 : (decode cL_law 499 = .ok (.laload, 1)) ∧ (decode cL_law 500 = .ok (.iload 7, 2)) ∧ (decode cL_law 502 = .ok (.i2l, 1)) ∧ (decode cL_law 503 = .ok (.lcmp, 1)) ∧ (decode cL_law 504 = .ok (.ifCond .eq 5, 3)) ∧ (decode cL_law 507 = .ok (.iconst 0, 1)) ∧ (decode cL_law 508 = .ok (.ireturn, 1)) ∧ (decode cL_law 509 = .ok (.goto 2243, 3)) ∧ (decode cL_law 512 = .ok (.aload_n 1, 1)) ∧ (decode cL_law 513 = .ok (.aload_n 0, 1)) := by decide +kernel
theorem dL_law_499 : decode cL_law 499 = .ok (.laload, 1) := dzL_17.1
theorem dL_law_500 : decode cL_law 500 = .ok (.iload 7, 2) := dzL_17.2.1
theorem dL_law_502 : decode cL_law 502 = .ok (.i2l, 1) := dzL_17.2.2.1
theorem dL_law_503 : decode cL_law 503 = .ok (.lcmp, 1) := dzL_17.2.2.2.1
theorem dL_law_504 : decode cL_law 504 = .ok (.ifCond .eq 5, 3) := dzL_17.2.2.2.2.1
theorem dL_law_507 : decode cL_law 507 = .ok (.iconst 0, 1) := dzL_17.2.2.2.2.2.1
theorem dL_law_508 : decode cL_law 508 = .ok (.ireturn, 1) := dzL_17.2.2.2.2.2.2.1
theorem dL_law_509 : decode cL_law 509 = .ok (.goto 2243, 3) := dzL_17.2.2.2.2.2.2.2.1
theorem dL_law_512 : decode cL_law 512 = .ok (.aload_n 1, 1) := dzL_17.2.2.2.2.2.2.2.2.1
theorem dL_law_513 : decode cL_law 513 = .ok (.aload_n 0, 1) := dzL_17.2.2.2.2.2.2.2.2.2
theorem dzL_18 : (decode cL_law 514 = .ok (.iload 5, 2)) ∧ (decode cL_law 516 = .ok (.iconst 1, 1)) ∧ (decode cL_law 517 = .ok (.iadd, 1)) ∧ (decode cL_law 518 = .ok (.iaload, 1)) ∧ (decode cL_law 519 = .ok (.aload_n 0, 1)) ∧ (decode cL_law 520 = .ok (.iload 5, 2)) ∧ (decode cL_law 522 = .ok (.iconst 2, 1)) ∧ (decode cL_law 523 = .ok (.iadd, 1)) ∧ (decode cL_law 524 = .ok (.iaload, 1)) ∧ (decode cL_law 525 = .ok (.aload_n 3, 1)) := by decide +kernel
theorem dL_law_514 : decode cL_law 514 = .ok (.iload 5, 2) := dzL_18.1
theorem dL_law_516 : decode cL_law 516 = .ok (.iconst 1, 1) := dzL_18.2.1
theorem dL_law_517 : decode cL_law 517 = .ok (.iadd, 1) := dzL_18.2.2.1
theorem dL_law_518 : decode cL_law 518 = .ok (.iaload, 1) := dzL_18.2.2.2.1
theorem dL_law_519 : decode cL_law 519 = .ok (.aload_n 0, 1) := dzL_18.2.2.2.2.1
theorem dL_law_520 : decode cL_law 520 = .ok (.iload 5, 2) := dzL_18.2.2.2.2.2.1
theorem dL_law_522 : decode cL_law 522 = .ok (.iconst 2, 1) := dzL_18.2.2.2.2.2.2.1
theorem dL_law_523 : decode cL_law 523 = .ok (.iadd, 1) := dzL_18.2.2.2.2.2.2.2.1
theorem dL_law_524 : decode cL_law 524 = .ok (.iaload, 1) := dzL_18.2.2.2.2.2.2.2.2.1
theorem dL_law_525 : decode cL_law 525 = .ok (.aload_n 3, 1) := dzL_18.2.2.2.2.2.2.2.2.2
theorem dzL_19 : (decode cL_law 526 = .ok (.invokestatic 177, 3)) ∧ (decode cL_law 529 = .ok (.istore 6, 2)) ∧ (decode cL_law 531 = .ok (.aload_n 2, 1)) ∧ (decode cL_law 532 = .ok (.aload_n 0, 1)) ∧ (decode cL_law 533 = .ok (.iload 5, 2)) ∧ (decode cL_law 535 = .ok (.iconst 1, 1)) ∧ (decode cL_law 536 = .ok (.iadd, 1)) ∧ (decode cL_law 537 = .ok (.iaload, 1)) ∧ (decode cL_law 538 = .ok (.aload_n 0, 1)) ∧ (decode cL_law 539 = .ok (.iload 5, 2)) := by decide +kernel
theorem dL_law_526 : decode cL_law 526 = .ok (.invokestatic 177, 3) := dzL_19.1
theorem dL_law_529 : decode cL_law 529 = .ok (.istore 6, 2) := dzL_19.2.1
theorem dL_law_531 : decode cL_law 531 = .ok (.aload_n 2, 1) := dzL_19.2.2.1
theorem dL_law_532 : decode cL_law 532 = .ok (.aload_n 0, 1) := dzL_19.2.2.2.1
theorem dL_law_533 : decode cL_law 533 = .ok (.iload 5, 2) := dzL_19.2.2.2.2.1
theorem dL_law_535 : decode cL_law 535 = .ok (.iconst 1, 1) := dzL_19.2.2.2.2.2.1
theorem dL_law_536 : decode cL_law 536 = .ok (.iadd, 1) := dzL_19.2.2.2.2.2.2.1
theorem dL_law_537 : decode cL_law 537 = .ok (.iaload, 1) := dzL_19.2.2.2.2.2.2.2.1
theorem dL_law_538 : decode cL_law 538 = .ok (.aload_n 0, 1) := dzL_19.2.2.2.2.2.2.2.2.1
theorem dL_law_539 : decode cL_law 539 = .ok (.iload 5, 2) := dzL_19.2.2.2.2.2.2.2.2.2
theorem dzL_20 : (decode cL_law 541 = .ok (.iconst 2, 1)) ∧ (decode cL_law 542 = .ok (.iadd, 1)) ∧ (decode cL_law 543 = .ok (.iaload, 1)) ∧ (decode cL_law 544 = .ok (.invokevirtual 180, 3)) ∧ (decode cL_law 547 = .ok (.istore 7, 2)) ∧ (decode cL_law 549 = .ok (.aload_n 2, 1)) ∧ (decode cL_law 550 = .ok (.invokevirtual 163, 3)) ∧ (decode cL_law 553 = .ok (.iload 6, 2)) ∧ (decode cL_law 555 = .ok (.if_icmp .eq 5, 3)) ∧ (decode cL_law 558 = .ok (.iconst 0, 1)) := by decide +kernel
theorem dL_law_541 : decode cL_law 541 = .ok (.iconst 2, 1) := dzL_20.1
theorem dL_law_542 : decode cL_law 542 = .ok (.iadd, 1) := dzL_20.2.1
theorem dL_law_543 : decode cL_law 543 = .ok (.iaload, 1) := dzL_20.2.2.1
theorem dL_law_544 : decode cL_law 544 = .ok (.invokevirtual 180, 3) := dzL_20.2.2.2.1
theorem dL_law_547 : decode cL_law 547 = .ok (.istore 7, 2) := dzL_20.2.2.2.2.1
theorem dL_law_549 : decode cL_law 549 = .ok (.aload_n 2, 1) := dzL_20.2.2.2.2.2.1
theorem dL_law_550 : decode cL_law 550 = .ok (.invokevirtual 163, 3) := dzL_20.2.2.2.2.2.2.1
theorem dL_law_553 : decode cL_law 553 = .ok (.iload 6, 2) := dzL_20.2.2.2.2.2.2.2.1
theorem dL_law_555 : decode cL_law 555 = .ok (.if_icmp .eq 5, 3) := dzL_20.2.2.2.2.2.2.2.2.1
theorem dL_law_558 : decode cL_law 558 = .ok (.iconst 0, 1) := dzL_20.2.2.2.2.2.2.2.2.2
theorem dzL_21 : (decode cL_law 559 = .ok (.ireturn, 1)) ∧ (decode cL_law 560 = .ok (.iload 6, 2)) ∧ (decode cL_law 562 = .ok (.ifCond .ne 15, 3)) ∧ (decode cL_law 565 = .ok (.aload_n 3, 1)) ∧ (decode cL_law 566 = .ok (.iconst 0, 1)) ∧ (decode cL_law 567 = .ok (.laload, 1)) ∧ (decode cL_law 568 = .ok (.iload 7, 2)) ∧ (decode cL_law 570 = .ok (.i2l, 1)) ∧ (decode cL_law 571 = .ok (.lcmp, 1)) ∧ (decode cL_law 572 = .ok (.ifCond .eq 5, 3)) := by decide +kernel
theorem dL_law_559 : decode cL_law 559 = .ok (.ireturn, 1) := dzL_21.1
theorem dL_law_560 : decode cL_law 560 = .ok (.iload 6, 2) := dzL_21.2.1
theorem dL_law_562 : decode cL_law 562 = .ok (.ifCond .ne 15, 3) := dzL_21.2.2.1
theorem dL_law_565 : decode cL_law 565 = .ok (.aload_n 3, 1) := dzL_21.2.2.2.1
theorem dL_law_566 : decode cL_law 566 = .ok (.iconst 0, 1) := dzL_21.2.2.2.2.1
theorem dL_law_567 : decode cL_law 567 = .ok (.laload, 1) := dzL_21.2.2.2.2.2.1
theorem dL_law_568 : decode cL_law 568 = .ok (.iload 7, 2) := dzL_21.2.2.2.2.2.2.1
theorem dL_law_570 : decode cL_law 570 = .ok (.i2l, 1) := dzL_21.2.2.2.2.2.2.2.1
theorem dL_law_571 : decode cL_law 571 = .ok (.lcmp, 1) := dzL_21.2.2.2.2.2.2.2.2.1
theorem dL_law_572 : decode cL_law 572 = .ok (.ifCond .eq 5, 3) := dzL_21.2.2.2.2.2.2.2.2.2
theorem dzL_22 : (decode cL_law 575 = .ok (.iconst 0, 1)) ∧ (decode cL_law 576 = .ok (.ireturn, 1)) ∧ (decode cL_law 577 = .ok (.goto 2175, 3)) ∧ (decode cL_law 580 = .ok (.aload_n 1, 1)) ∧ (decode cL_law 581 = .ok (.aload_n 0, 1)) ∧ (decode cL_law 582 = .ok (.iload 5, 2)) ∧ (decode cL_law 584 = .ok (.iconst 1, 1)) ∧ (decode cL_law 585 = .ok (.iadd, 1)) ∧ (decode cL_law 586 = .ok (.iaload, 1)) ∧ (decode cL_law 587 = .ok (.aload_n 3, 1)) := by decide +kernel
theorem dL_law_575 : decode cL_law 575 = .ok (.iconst 0, 1) := dzL_22.1
theorem dL_law_576 : decode cL_law 576 = .ok (.ireturn, 1) := dzL_22.2.1
theorem dL_law_577 : decode cL_law 577 = .ok (.goto 2175, 3) := dzL_22.2.2.1
theorem dL_law_580 : decode cL_law 580 = .ok (.aload_n 1, 1) := dzL_22.2.2.2.1
theorem dL_law_581 : decode cL_law 581 = .ok (.aload_n 0, 1) := dzL_22.2.2.2.2.1
theorem dL_law_582 : decode cL_law 582 = .ok (.iload 5, 2) := dzL_22.2.2.2.2.2.1
theorem dL_law_584 : decode cL_law 584 = .ok (.iconst 1, 1) := dzL_22.2.2.2.2.2.2.1
theorem dL_law_585 : decode cL_law 585 = .ok (.iadd, 1) := dzL_22.2.2.2.2.2.2.2.1
theorem dL_law_586 : decode cL_law 586 = .ok (.iaload, 1) := dzL_22.2.2.2.2.2.2.2.2.1
theorem dL_law_587 : decode cL_law 587 = .ok (.aload_n 3, 1) := dzL_22.2.2.2.2.2.2.2.2.2
theorem dzL_23 : (decode cL_law 588 = .ok (.invokestatic 181, 3)) ∧ (decode cL_law 591 = .ok (.istore 6, 2)) ∧ (decode cL_law 593 = .ok (.aload_n 2, 1)) ∧ (decode cL_law 594 = .ok (.aload_n 0, 1)) ∧ (decode cL_law 595 = .ok (.iload 5, 2)) ∧ (decode cL_law 597 = .ok (.iconst 1, 1)) ∧ (decode cL_law 598 = .ok (.iadd, 1)) ∧ (decode cL_law 599 = .ok (.iaload, 1)) ∧ (decode cL_law 600 = .ok (.invokevirtual 183, 3)) ∧ (decode cL_law 603 = .ok (.istore 7, 2)) := by decide +kernel
theorem dL_law_588 : decode cL_law 588 = .ok (.invokestatic 181, 3) := dzL_23.1
theorem dL_law_591 : decode cL_law 591 = .ok (.istore 6, 2) := dzL_23.2.1
theorem dL_law_593 : decode cL_law 593 = .ok (.aload_n 2, 1) := dzL_23.2.2.1
theorem dL_law_594 : decode cL_law 594 = .ok (.aload_n 0, 1) := dzL_23.2.2.2.1
theorem dL_law_595 : decode cL_law 595 = .ok (.iload 5, 2) := dzL_23.2.2.2.2.1
theorem dL_law_597 : decode cL_law 597 = .ok (.iconst 1, 1) := dzL_23.2.2.2.2.2.1
theorem dL_law_598 : decode cL_law 598 = .ok (.iadd, 1) := dzL_23.2.2.2.2.2.2.1
theorem dL_law_599 : decode cL_law 599 = .ok (.iaload, 1) := dzL_23.2.2.2.2.2.2.2.1
theorem dL_law_600 : decode cL_law 600 = .ok (.invokevirtual 183, 3) := dzL_23.2.2.2.2.2.2.2.2.1
theorem dL_law_603 : decode cL_law 603 = .ok (.istore 7, 2) := dzL_23.2.2.2.2.2.2.2.2.2
theorem dzL_24 : (decode cL_law 605 = .ok (.aload_n 2, 1)) ∧ (decode cL_law 606 = .ok (.invokevirtual 163, 3)) ∧ (decode cL_law 609 = .ok (.iload 6, 2)) ∧ (decode cL_law 611 = .ok (.if_icmp .eq 5, 3)) ∧ (decode cL_law 614 = .ok (.iconst 0, 1)) ∧ (decode cL_law 615 = .ok (.ireturn, 1)) ∧ (decode cL_law 616 = .ok (.iload 6, 2)) ∧ (decode cL_law 618 = .ok (.ifCond .ne 15, 3)) ∧ (decode cL_law 621 = .ok (.aload_n 3, 1)) ∧ (decode cL_law 622 = .ok (.iconst 0, 1)) := by decide +kernel
theorem dL_law_605 : decode cL_law 605 = .ok (.aload_n 2, 1) := dzL_24.1
theorem dL_law_606 : decode cL_law 606 = .ok (.invokevirtual 163, 3) := dzL_24.2.1
theorem dL_law_609 : decode cL_law 609 = .ok (.iload 6, 2) := dzL_24.2.2.1
theorem dL_law_611 : decode cL_law 611 = .ok (.if_icmp .eq 5, 3) := dzL_24.2.2.2.1
theorem dL_law_614 : decode cL_law 614 = .ok (.iconst 0, 1) := dzL_24.2.2.2.2.1
theorem dL_law_615 : decode cL_law 615 = .ok (.ireturn, 1) := dzL_24.2.2.2.2.2.1
theorem dL_law_616 : decode cL_law 616 = .ok (.iload 6, 2) := dzL_24.2.2.2.2.2.2.1
theorem dL_law_618 : decode cL_law 618 = .ok (.ifCond .ne 15, 3) := dzL_24.2.2.2.2.2.2.2.1
theorem dL_law_621 : decode cL_law 621 = .ok (.aload_n 3, 1) := dzL_24.2.2.2.2.2.2.2.2.1
theorem dL_law_622 : decode cL_law 622 = .ok (.iconst 0, 1) := dzL_24.2.2.2.2.2.2.2.2.2
theorem dzL_25 : (decode cL_law 623 = .ok (.laload, 1)) ∧ (decode cL_law 624 = .ok (.iload 7, 2)) ∧ (decode cL_law 626 = .ok (.i2l, 1)) ∧ (decode cL_law 627 = .ok (.lcmp, 1)) ∧ (decode cL_law 628 = .ok (.ifCond .eq 5, 3)) ∧ (decode cL_law 631 = .ok (.iconst 0, 1)) ∧ (decode cL_law 632 = .ok (.ireturn, 1)) ∧ (decode cL_law 633 = .ok (.goto 2119, 3)) ∧ (decode cL_law 636 = .ok (.aload_n 1, 1)) ∧ (decode cL_law 637 = .ok (.aload_n 0, 1)) := by decide +kernel
theorem dL_law_623 : decode cL_law 623 = .ok (.laload, 1) := dzL_25.1
theorem dL_law_624 : decode cL_law 624 = .ok (.iload 7, 2) := dzL_25.2.1
theorem dL_law_626 : decode cL_law 626 = .ok (.i2l, 1) := dzL_25.2.2.1
theorem dL_law_627 : decode cL_law 627 = .ok (.lcmp, 1) := dzL_25.2.2.2.1
theorem dL_law_628 : decode cL_law 628 = .ok (.ifCond .eq 5, 3) := dzL_25.2.2.2.2.1
theorem dL_law_631 : decode cL_law 631 = .ok (.iconst 0, 1) := dzL_25.2.2.2.2.2.1
theorem dL_law_632 : decode cL_law 632 = .ok (.ireturn, 1) := dzL_25.2.2.2.2.2.2.1
theorem dL_law_633 : decode cL_law 633 = .ok (.goto 2119, 3) := dzL_25.2.2.2.2.2.2.2.1
theorem dL_law_636 : decode cL_law 636 = .ok (.aload_n 1, 1) := dzL_25.2.2.2.2.2.2.2.2.1
theorem dL_law_637 : decode cL_law 637 = .ok (.aload_n 0, 1) := dzL_25.2.2.2.2.2.2.2.2.2
theorem dzL_26 : (decode cL_law 638 = .ok (.iload 5, 2)) ∧ (decode cL_law 640 = .ok (.iconst 1, 1)) ∧ (decode cL_law 641 = .ok (.iadd, 1)) ∧ (decode cL_law 642 = .ok (.iaload, 1)) ∧ (decode cL_law 643 = .ok (.aload_n 3, 1)) ∧ (decode cL_law 644 = .ok (.invokestatic 184, 3)) ∧ (decode cL_law 647 = .ok (.istore 6, 2)) ∧ (decode cL_law 649 = .ok (.aload_n 2, 1)) ∧ (decode cL_law 650 = .ok (.aload_n 0, 1)) ∧ (decode cL_law 651 = .ok (.iload 5, 2)) := by decide +kernel
theorem dL_law_638 : decode cL_law 638 = .ok (.iload 5, 2) := dzL_26.1
theorem dL_law_640 : decode cL_law 640 = .ok (.iconst 1, 1) := dzL_26.2.1
theorem dL_law_641 : decode cL_law 641 = .ok (.iadd, 1) := dzL_26.2.2.1
theorem dL_law_642 : decode cL_law 642 = .ok (.iaload, 1) := dzL_26.2.2.2.1
theorem dL_law_643 : decode cL_law 643 = .ok (.aload_n 3, 1) := dzL_26.2.2.2.2.1
theorem dL_law_644 : decode cL_law 644 = .ok (.invokestatic 184, 3) := dzL_26.2.2.2.2.2.1
theorem dL_law_647 : decode cL_law 647 = .ok (.istore 6, 2) := dzL_26.2.2.2.2.2.2.1
theorem dL_law_649 : decode cL_law 649 = .ok (.aload_n 2, 1) := dzL_26.2.2.2.2.2.2.2.1
theorem dL_law_650 : decode cL_law 650 = .ok (.aload_n 0, 1) := dzL_26.2.2.2.2.2.2.2.2.1
theorem dL_law_651 : decode cL_law 651 = .ok (.iload 5, 2) := dzL_26.2.2.2.2.2.2.2.2.2
theorem dzL_27 : (decode cL_law 653 = .ok (.iconst 1, 1)) ∧ (decode cL_law 654 = .ok (.iadd, 1)) ∧ (decode cL_law 655 = .ok (.iaload, 1)) ∧ (decode cL_law 656 = .ok (.invokevirtual 186, 3)) ∧ (decode cL_law 659 = .ok (.istore 7, 2)) ∧ (decode cL_law 661 = .ok (.aload_n 2, 1)) ∧ (decode cL_law 662 = .ok (.invokevirtual 163, 3)) ∧ (decode cL_law 665 = .ok (.iload 6, 2)) ∧ (decode cL_law 667 = .ok (.if_icmp .eq 5, 3)) ∧ (decode cL_law 670 = .ok (.iconst 0, 1)) := by decide +kernel
theorem dL_law_653 : decode cL_law 653 = .ok (.iconst 1, 1) := dzL_27.1
theorem dL_law_654 : decode cL_law 654 = .ok (.iadd, 1) := dzL_27.2.1
theorem dL_law_655 : decode cL_law 655 = .ok (.iaload, 1) := dzL_27.2.2.1
theorem dL_law_656 : decode cL_law 656 = .ok (.invokevirtual 186, 3) := dzL_27.2.2.2.1
theorem dL_law_659 : decode cL_law 659 = .ok (.istore 7, 2) := dzL_27.2.2.2.2.1
theorem dL_law_661 : decode cL_law 661 = .ok (.aload_n 2, 1) := dzL_27.2.2.2.2.2.1
theorem dL_law_662 : decode cL_law 662 = .ok (.invokevirtual 163, 3) := dzL_27.2.2.2.2.2.2.1
theorem dL_law_665 : decode cL_law 665 = .ok (.iload 6, 2) := dzL_27.2.2.2.2.2.2.2.1
theorem dL_law_667 : decode cL_law 667 = .ok (.if_icmp .eq 5, 3) := dzL_27.2.2.2.2.2.2.2.2.1
theorem dL_law_670 : decode cL_law 670 = .ok (.iconst 0, 1) := dzL_27.2.2.2.2.2.2.2.2.2
theorem dzL_28 : (decode cL_law 671 = .ok (.ireturn, 1)) ∧ (decode cL_law 672 = .ok (.iload 6, 2)) ∧ (decode cL_law 674 = .ok (.ifCond .ne 15, 3)) ∧ (decode cL_law 677 = .ok (.aload_n 3, 1)) ∧ (decode cL_law 678 = .ok (.iconst 0, 1)) ∧ (decode cL_law 679 = .ok (.laload, 1)) ∧ (decode cL_law 680 = .ok (.iload 7, 2)) ∧ (decode cL_law 682 = .ok (.i2l, 1)) ∧ (decode cL_law 683 = .ok (.lcmp, 1)) ∧ (decode cL_law 684 = .ok (.ifCond .eq 5, 3)) := by decide +kernel
theorem dL_law_671 : decode cL_law 671 = .ok (.ireturn, 1) := dzL_28.1
theorem dL_law_672 : decode cL_law 672 = .ok (.iload 6, 2) := dzL_28.2.1
theorem dL_law_674 : decode cL_law 674 = .ok (.ifCond .ne 15, 3) := dzL_28.2.2.1
theorem dL_law_677 : decode cL_law 677 = .ok (.aload_n 3, 1) := dzL_28.2.2.2.1
theorem dL_law_678 : decode cL_law 678 = .ok (.iconst 0, 1) := dzL_28.2.2.2.2.1
theorem dL_law_679 : decode cL_law 679 = .ok (.laload, 1) := dzL_28.2.2.2.2.2.1
theorem dL_law_680 : decode cL_law 680 = .ok (.iload 7, 2) := dzL_28.2.2.2.2.2.2.1
theorem dL_law_682 : decode cL_law 682 = .ok (.i2l, 1) := dzL_28.2.2.2.2.2.2.2.1
theorem dL_law_683 : decode cL_law 683 = .ok (.lcmp, 1) := dzL_28.2.2.2.2.2.2.2.2.1
theorem dL_law_684 : decode cL_law 684 = .ok (.ifCond .eq 5, 3) := dzL_28.2.2.2.2.2.2.2.2.2
theorem dzL_29 : (decode cL_law 687 = .ok (.iconst 0, 1)) ∧ (decode cL_law 688 = .ok (.ireturn, 1)) ∧ (decode cL_law 689 = .ok (.goto 2063, 3)) ∧ (decode cL_law 692 = .ok (.aload_n 1, 1)) ∧ (decode cL_law 693 = .ok (.aload_n 0, 1)) ∧ (decode cL_law 694 = .ok (.iload 5, 2)) ∧ (decode cL_law 696 = .ok (.iconst 1, 1)) ∧ (decode cL_law 697 = .ok (.iadd, 1)) ∧ (decode cL_law 698 = .ok (.iaload, 1)) ∧ (decode cL_law 699 = .ok (.aload_n 3, 1)) := by decide +kernel
theorem dL_law_687 : decode cL_law 687 = .ok (.iconst 0, 1) := dzL_29.1
theorem dL_law_688 : decode cL_law 688 = .ok (.ireturn, 1) := dzL_29.2.1
theorem dL_law_689 : decode cL_law 689 = .ok (.goto 2063, 3) := dzL_29.2.2.1
theorem dL_law_692 : decode cL_law 692 = .ok (.aload_n 1, 1) := dzL_29.2.2.2.1
theorem dL_law_693 : decode cL_law 693 = .ok (.aload_n 0, 1) := dzL_29.2.2.2.2.1
theorem dL_law_694 : decode cL_law 694 = .ok (.iload 5, 2) := dzL_29.2.2.2.2.2.1
theorem dL_law_696 : decode cL_law 696 = .ok (.iconst 1, 1) := dzL_29.2.2.2.2.2.2.1
theorem dL_law_697 : decode cL_law 697 = .ok (.iadd, 1) := dzL_29.2.2.2.2.2.2.2.1
theorem dL_law_698 : decode cL_law 698 = .ok (.iaload, 1) := dzL_29.2.2.2.2.2.2.2.2.1
theorem dL_law_699 : decode cL_law 699 = .ok (.aload_n 3, 1) := dzL_29.2.2.2.2.2.2.2.2.2
theorem dzL_30 : (decode cL_law 700 = .ok (.invokestatic 187, 3)) ∧ (decode cL_law 703 = .ok (.istore 6, 2)) ∧ (decode cL_law 705 = .ok (.aload_n 2, 1)) ∧ (decode cL_law 706 = .ok (.aload_n 0, 1)) ∧ (decode cL_law 707 = .ok (.iload 5, 2)) ∧ (decode cL_law 709 = .ok (.iconst 1, 1)) ∧ (decode cL_law 710 = .ok (.iadd, 1)) ∧ (decode cL_law 711 = .ok (.iaload, 1)) ∧ (decode cL_law 712 = .ok (.invokevirtual 189, 3)) ∧ (decode cL_law 715 = .ok (.istore 7, 2)) := by decide +kernel
theorem dL_law_700 : decode cL_law 700 = .ok (.invokestatic 187, 3) := dzL_30.1
theorem dL_law_703 : decode cL_law 703 = .ok (.istore 6, 2) := dzL_30.2.1
theorem dL_law_705 : decode cL_law 705 = .ok (.aload_n 2, 1) := dzL_30.2.2.1
theorem dL_law_706 : decode cL_law 706 = .ok (.aload_n 0, 1) := dzL_30.2.2.2.1
theorem dL_law_707 : decode cL_law 707 = .ok (.iload 5, 2) := dzL_30.2.2.2.2.1
theorem dL_law_709 : decode cL_law 709 = .ok (.iconst 1, 1) := dzL_30.2.2.2.2.2.1
theorem dL_law_710 : decode cL_law 710 = .ok (.iadd, 1) := dzL_30.2.2.2.2.2.2.1
theorem dL_law_711 : decode cL_law 711 = .ok (.iaload, 1) := dzL_30.2.2.2.2.2.2.2.1
theorem dL_law_712 : decode cL_law 712 = .ok (.invokevirtual 189, 3) := dzL_30.2.2.2.2.2.2.2.2.1
theorem dL_law_715 : decode cL_law 715 = .ok (.istore 7, 2) := dzL_30.2.2.2.2.2.2.2.2.2
theorem dzL_31 : (decode cL_law 717 = .ok (.aload_n 2, 1)) ∧ (decode cL_law 718 = .ok (.invokevirtual 163, 3)) ∧ (decode cL_law 721 = .ok (.iload 6, 2)) ∧ (decode cL_law 723 = .ok (.if_icmp .eq 5, 3)) ∧ (decode cL_law 726 = .ok (.iconst 0, 1)) ∧ (decode cL_law 727 = .ok (.ireturn, 1)) ∧ (decode cL_law 728 = .ok (.iload 6, 2)) ∧ (decode cL_law 730 = .ok (.ifCond .ne 15, 3)) ∧ (decode cL_law 733 = .ok (.aload_n 3, 1)) ∧ (decode cL_law 734 = .ok (.iconst 0, 1)) := by decide +kernel
theorem dL_law_717 : decode cL_law 717 = .ok (.aload_n 2, 1) := dzL_31.1
theorem dL_law_718 : decode cL_law 718 = .ok (.invokevirtual 163, 3) := dzL_31.2.1
theorem dL_law_721 : decode cL_law 721 = .ok (.iload 6, 2) := dzL_31.2.2.1
theorem dL_law_723 : decode cL_law 723 = .ok (.if_icmp .eq 5, 3) := dzL_31.2.2.2.1
theorem dL_law_726 : decode cL_law 726 = .ok (.iconst 0, 1) := dzL_31.2.2.2.2.1
theorem dL_law_727 : decode cL_law 727 = .ok (.ireturn, 1) := dzL_31.2.2.2.2.2.1
theorem dL_law_728 : decode cL_law 728 = .ok (.iload 6, 2) := dzL_31.2.2.2.2.2.2.1
theorem dL_law_730 : decode cL_law 730 = .ok (.ifCond .ne 15, 3) := dzL_31.2.2.2.2.2.2.2.1
theorem dL_law_733 : decode cL_law 733 = .ok (.aload_n 3, 1) := dzL_31.2.2.2.2.2.2.2.2.1
theorem dL_law_734 : decode cL_law 734 = .ok (.iconst 0, 1) := dzL_31.2.2.2.2.2.2.2.2.2
theorem dzL_32 : (decode cL_law 735 = .ok (.laload, 1)) ∧ (decode cL_law 736 = .ok (.iload 7, 2)) ∧ (decode cL_law 738 = .ok (.i2l, 1)) ∧ (decode cL_law 739 = .ok (.lcmp, 1)) ∧ (decode cL_law 740 = .ok (.ifCond .eq 5, 3)) ∧ (decode cL_law 743 = .ok (.iconst 0, 1)) ∧ (decode cL_law 744 = .ok (.ireturn, 1)) ∧ (decode cL_law 745 = .ok (.goto 2007, 3)) ∧ (decode cL_law 748 = .ok (.aload_n 1, 1)) ∧ (decode cL_law 749 = .ok (.aload_n 0, 1)) := by decide +kernel
theorem dL_law_735 : decode cL_law 735 = .ok (.laload, 1) := dzL_32.1
theorem dL_law_736 : decode cL_law 736 = .ok (.iload 7, 2) := dzL_32.2.1
theorem dL_law_738 : decode cL_law 738 = .ok (.i2l, 1) := dzL_32.2.2.1
theorem dL_law_739 : decode cL_law 739 = .ok (.lcmp, 1) := dzL_32.2.2.2.1
theorem dL_law_740 : decode cL_law 740 = .ok (.ifCond .eq 5, 3) := dzL_32.2.2.2.2.1
theorem dL_law_743 : decode cL_law 743 = .ok (.iconst 0, 1) := dzL_32.2.2.2.2.2.1
theorem dL_law_744 : decode cL_law 744 = .ok (.ireturn, 1) := dzL_32.2.2.2.2.2.2.1
theorem dL_law_745 : decode cL_law 745 = .ok (.goto 2007, 3) := dzL_32.2.2.2.2.2.2.2.1
theorem dL_law_748 : decode cL_law 748 = .ok (.aload_n 1, 1) := dzL_32.2.2.2.2.2.2.2.2.1
theorem dL_law_749 : decode cL_law 749 = .ok (.aload_n 0, 1) := dzL_32.2.2.2.2.2.2.2.2.2
theorem dzL_33 : (decode cL_law 750 = .ok (.iload 5, 2)) ∧ (decode cL_law 752 = .ok (.iconst 1, 1)) ∧ (decode cL_law 753 = .ok (.iadd, 1)) ∧ (decode cL_law 754 = .ok (.iaload, 1)) ∧ (decode cL_law 755 = .ok (.aload_n 3, 1)) ∧ (decode cL_law 756 = .ok (.invokestatic 190, 3)) ∧ (decode cL_law 759 = .ok (.istore 6, 2)) ∧ (decode cL_law 761 = .ok (.aload_n 2, 1)) ∧ (decode cL_law 762 = .ok (.aload_n 0, 1)) ∧ (decode cL_law 763 = .ok (.iload 5, 2)) := by decide +kernel
theorem dL_law_750 : decode cL_law 750 = .ok (.iload 5, 2) := dzL_33.1
theorem dL_law_752 : decode cL_law 752 = .ok (.iconst 1, 1) := dzL_33.2.1
theorem dL_law_753 : decode cL_law 753 = .ok (.iadd, 1) := dzL_33.2.2.1
theorem dL_law_754 : decode cL_law 754 = .ok (.iaload, 1) := dzL_33.2.2.2.1
theorem dL_law_755 : decode cL_law 755 = .ok (.aload_n 3, 1) := dzL_33.2.2.2.2.1
theorem dL_law_756 : decode cL_law 756 = .ok (.invokestatic 190, 3) := dzL_33.2.2.2.2.2.1
theorem dL_law_759 : decode cL_law 759 = .ok (.istore 6, 2) := dzL_33.2.2.2.2.2.2.1
theorem dL_law_761 : decode cL_law 761 = .ok (.aload_n 2, 1) := dzL_33.2.2.2.2.2.2.2.1
theorem dL_law_762 : decode cL_law 762 = .ok (.aload_n 0, 1) := dzL_33.2.2.2.2.2.2.2.2.1
theorem dL_law_763 : decode cL_law 763 = .ok (.iload 5, 2) := dzL_33.2.2.2.2.2.2.2.2.2
theorem dzL_34 : (decode cL_law 765 = .ok (.iconst 1, 1)) ∧ (decode cL_law 766 = .ok (.iadd, 1)) ∧ (decode cL_law 767 = .ok (.iaload, 1)) ∧ (decode cL_law 768 = .ok (.invokevirtual 192, 3)) ∧ (decode cL_law 771 = .ok (.istore 7, 2)) ∧ (decode cL_law 773 = .ok (.aload_n 2, 1)) ∧ (decode cL_law 774 = .ok (.invokevirtual 163, 3)) ∧ (decode cL_law 777 = .ok (.iload 6, 2)) ∧ (decode cL_law 779 = .ok (.if_icmp .eq 5, 3)) ∧ (decode cL_law 782 = .ok (.iconst 0, 1)) := by decide +kernel
theorem dL_law_765 : decode cL_law 765 = .ok (.iconst 1, 1) := dzL_34.1
theorem dL_law_766 : decode cL_law 766 = .ok (.iadd, 1) := dzL_34.2.1
theorem dL_law_767 : decode cL_law 767 = .ok (.iaload, 1) := dzL_34.2.2.1
theorem dL_law_768 : decode cL_law 768 = .ok (.invokevirtual 192, 3) := dzL_34.2.2.2.1
theorem dL_law_771 : decode cL_law 771 = .ok (.istore 7, 2) := dzL_34.2.2.2.2.1
theorem dL_law_773 : decode cL_law 773 = .ok (.aload_n 2, 1) := dzL_34.2.2.2.2.2.1
theorem dL_law_774 : decode cL_law 774 = .ok (.invokevirtual 163, 3) := dzL_34.2.2.2.2.2.2.1
theorem dL_law_777 : decode cL_law 777 = .ok (.iload 6, 2) := dzL_34.2.2.2.2.2.2.2.1
theorem dL_law_779 : decode cL_law 779 = .ok (.if_icmp .eq 5, 3) := dzL_34.2.2.2.2.2.2.2.2.1
theorem dL_law_782 : decode cL_law 782 = .ok (.iconst 0, 1) := dzL_34.2.2.2.2.2.2.2.2.2
theorem dzL_35 : (decode cL_law 783 = .ok (.ireturn, 1)) ∧ (decode cL_law 784 = .ok (.iload 6, 2)) ∧ (decode cL_law 786 = .ok (.ifCond .ne 15, 3)) ∧ (decode cL_law 789 = .ok (.aload_n 3, 1)) ∧ (decode cL_law 790 = .ok (.iconst 0, 1)) ∧ (decode cL_law 791 = .ok (.laload, 1)) ∧ (decode cL_law 792 = .ok (.iload 7, 2)) ∧ (decode cL_law 794 = .ok (.i2l, 1)) ∧ (decode cL_law 795 = .ok (.lcmp, 1)) ∧ (decode cL_law 796 = .ok (.ifCond .eq 5, 3)) := by decide +kernel
theorem dL_law_783 : decode cL_law 783 = .ok (.ireturn, 1) := dzL_35.1
theorem dL_law_784 : decode cL_law 784 = .ok (.iload 6, 2) := dzL_35.2.1
theorem dL_law_786 : decode cL_law 786 = .ok (.ifCond .ne 15, 3) := dzL_35.2.2.1
theorem dL_law_789 : decode cL_law 789 = .ok (.aload_n 3, 1) := dzL_35.2.2.2.1
theorem dL_law_790 : decode cL_law 790 = .ok (.iconst 0, 1) := dzL_35.2.2.2.2.1
theorem dL_law_791 : decode cL_law 791 = .ok (.laload, 1) := dzL_35.2.2.2.2.2.1
theorem dL_law_792 : decode cL_law 792 = .ok (.iload 7, 2) := dzL_35.2.2.2.2.2.2.1
theorem dL_law_794 : decode cL_law 794 = .ok (.i2l, 1) := dzL_35.2.2.2.2.2.2.2.1
theorem dL_law_795 : decode cL_law 795 = .ok (.lcmp, 1) := dzL_35.2.2.2.2.2.2.2.2.1
theorem dL_law_796 : decode cL_law 796 = .ok (.ifCond .eq 5, 3) := dzL_35.2.2.2.2.2.2.2.2.2
theorem dzL_36 : (decode cL_law 799 = .ok (.iconst 0, 1)) ∧ (decode cL_law 800 = .ok (.ireturn, 1)) ∧ (decode cL_law 801 = .ok (.goto 1951, 3)) ∧ (decode cL_law 804 = .ok (.aload_n 1, 1)) ∧ (decode cL_law 805 = .ok (.invokevirtual 193, 3)) ∧ (decode cL_law 808 = .ok (.aload_n 2, 1)) ∧ (decode cL_law 809 = .ok (.invokevirtual 196, 3)) ∧ (decode cL_law 812 = .ok (.if_icmp .eq 1940, 3)) ∧ (decode cL_law 815 = .ok (.iconst 0, 1)) ∧ (decode cL_law 816 = .ok (.ireturn, 1)) := by decide +kernel
theorem dL_law_799 : decode cL_law 799 = .ok (.iconst 0, 1) := dzL_36.1
theorem dL_law_800 : decode cL_law 800 = .ok (.ireturn, 1) := dzL_36.2.1
theorem dL_law_801 : decode cL_law 801 = .ok (.goto 1951, 3) := dzL_36.2.2.1
theorem dL_law_804 : decode cL_law 804 = .ok (.aload_n 1, 1) := dzL_36.2.2.2.1
theorem dL_law_805 : decode cL_law 805 = .ok (.invokevirtual 193, 3) := dzL_36.2.2.2.2.1
theorem dL_law_808 : decode cL_law 808 = .ok (.aload_n 2, 1) := dzL_36.2.2.2.2.2.1
theorem dL_law_809 : decode cL_law 809 = .ok (.invokevirtual 196, 3) := dzL_36.2.2.2.2.2.2.1
theorem dL_law_812 : decode cL_law 812 = .ok (.if_icmp .eq 1940, 3) := dzL_36.2.2.2.2.2.2.2.1
theorem dL_law_815 : decode cL_law 815 = .ok (.iconst 0, 1) := dzL_36.2.2.2.2.2.2.2.2.1
theorem dL_law_816 : decode cL_law 816 = .ok (.ireturn, 1) := dzL_36.2.2.2.2.2.2.2.2.2
theorem dzL_37 : (decode cL_law 817 = .ok (.aload_n 1, 1)) ∧ (decode cL_law 818 = .ok (.aload_n 0, 1)) ∧ (decode cL_law 819 = .ok (.iload 5, 2)) ∧ (decode cL_law 821 = .ok (.iconst 1, 1)) ∧ (decode cL_law 822 = .ok (.iadd, 1)) ∧ (decode cL_law 823 = .ok (.iaload, 1)) ∧ (decode cL_law 824 = .ok (.aload_n 3, 1)) ∧ (decode cL_law 825 = .ok (.invokestatic 197, 3)) ∧ (decode cL_law 828 = .ok (.istore 6, 2)) ∧ (decode cL_law 830 = .ok (.aload_n 2, 1)) := by decide +kernel
theorem dL_law_817 : decode cL_law 817 = .ok (.aload_n 1, 1) := dzL_37.1
theorem dL_law_818 : decode cL_law 818 = .ok (.aload_n 0, 1) := dzL_37.2.1
theorem dL_law_819 : decode cL_law 819 = .ok (.iload 5, 2) := dzL_37.2.2.1
theorem dL_law_821 : decode cL_law 821 = .ok (.iconst 1, 1) := dzL_37.2.2.2.1
theorem dL_law_822 : decode cL_law 822 = .ok (.iadd, 1) := dzL_37.2.2.2.2.1
theorem dL_law_823 : decode cL_law 823 = .ok (.iaload, 1) := dzL_37.2.2.2.2.2.1
theorem dL_law_824 : decode cL_law 824 = .ok (.aload_n 3, 1) := dzL_37.2.2.2.2.2.2.1
theorem dL_law_825 : decode cL_law 825 = .ok (.invokestatic 197, 3) := dzL_37.2.2.2.2.2.2.2.1
theorem dL_law_828 : decode cL_law 828 = .ok (.istore 6, 2) := dzL_37.2.2.2.2.2.2.2.2.1
theorem dL_law_830 : decode cL_law 830 = .ok (.aload_n 2, 1) := dzL_37.2.2.2.2.2.2.2.2.2
theorem dzL_38 : (decode cL_law 831 = .ok (.aload_n 0, 1)) ∧ (decode cL_law 832 = .ok (.iload 5, 2)) ∧ (decode cL_law 834 = .ok (.iconst 1, 1)) ∧ (decode cL_law 835 = .ok (.iadd, 1)) ∧ (decode cL_law 836 = .ok (.iaload, 1)) ∧ (decode cL_law 837 = .ok (.invokevirtual 199, 3)) ∧ (decode cL_law 840 = .ok (.istore 7, 2)) ∧ (decode cL_law 842 = .ok (.aload_n 2, 1)) ∧ (decode cL_law 843 = .ok (.invokevirtual 163, 3)) ∧ (decode cL_law 846 = .ok (.iload 6, 2)) := by decide +kernel
theorem dL_law_831 : decode cL_law 831 = .ok (.aload_n 0, 1) := dzL_38.1
theorem dL_law_832 : decode cL_law 832 = .ok (.iload 5, 2) := dzL_38.2.1
theorem dL_law_834 : decode cL_law 834 = .ok (.iconst 1, 1) := dzL_38.2.2.1
theorem dL_law_835 : decode cL_law 835 = .ok (.iadd, 1) := dzL_38.2.2.2.1
theorem dL_law_836 : decode cL_law 836 = .ok (.iaload, 1) := dzL_38.2.2.2.2.1
theorem dL_law_837 : decode cL_law 837 = .ok (.invokevirtual 199, 3) := dzL_38.2.2.2.2.2.1
theorem dL_law_840 : decode cL_law 840 = .ok (.istore 7, 2) := dzL_38.2.2.2.2.2.2.1
theorem dL_law_842 : decode cL_law 842 = .ok (.aload_n 2, 1) := dzL_38.2.2.2.2.2.2.2.1
theorem dL_law_843 : decode cL_law 843 = .ok (.invokevirtual 163, 3) := dzL_38.2.2.2.2.2.2.2.2.1
theorem dL_law_846 : decode cL_law 846 = .ok (.iload 6, 2) := dzL_38.2.2.2.2.2.2.2.2.2
theorem dzL_39 : (decode cL_law 848 = .ok (.if_icmp .eq 5, 3)) ∧ (decode cL_law 851 = .ok (.iconst 0, 1)) ∧ (decode cL_law 852 = .ok (.ireturn, 1)) ∧ (decode cL_law 853 = .ok (.iload 6, 2)) ∧ (decode cL_law 855 = .ok (.ifCond .ne 15, 3)) ∧ (decode cL_law 858 = .ok (.aload_n 3, 1)) ∧ (decode cL_law 859 = .ok (.iconst 0, 1)) ∧ (decode cL_law 860 = .ok (.laload, 1)) ∧ (decode cL_law 861 = .ok (.iload 7, 2)) ∧ (decode cL_law 863 = .ok (.i2l, 1)) := by decide +kernel
theorem dL_law_848 : decode cL_law 848 = .ok (.if_icmp .eq 5, 3) := dzL_39.1
theorem dL_law_851 : decode cL_law 851 = .ok (.iconst 0, 1) := dzL_39.2.1
theorem dL_law_852 : decode cL_law 852 = .ok (.ireturn, 1) := dzL_39.2.2.1
theorem dL_law_853 : decode cL_law 853 = .ok (.iload 6, 2) := dzL_39.2.2.2.1
theorem dL_law_855 : decode cL_law 855 = .ok (.ifCond .ne 15, 3) := dzL_39.2.2.2.2.1
theorem dL_law_858 : decode cL_law 858 = .ok (.aload_n 3, 1) := dzL_39.2.2.2.2.2.1
theorem dL_law_859 : decode cL_law 859 = .ok (.iconst 0, 1) := dzL_39.2.2.2.2.2.2.1
theorem dL_law_860 : decode cL_law 860 = .ok (.laload, 1) := dzL_39.2.2.2.2.2.2.2.1
theorem dL_law_861 : decode cL_law 861 = .ok (.iload 7, 2) := dzL_39.2.2.2.2.2.2.2.2.1
theorem dL_law_863 : decode cL_law 863 = .ok (.i2l, 1) := dzL_39.2.2.2.2.2.2.2.2.2
theorem dzL_40 : (decode cL_law 864 = .ok (.lcmp, 1)) ∧ (decode cL_law 865 = .ok (.ifCond .eq 5, 3)) ∧ (decode cL_law 868 = .ok (.iconst 0, 1)) ∧ (decode cL_law 869 = .ok (.ireturn, 1)) ∧ (decode cL_law 870 = .ok (.goto 1882, 3)) ∧ (decode cL_law 873 = .ok (.aload_n 1, 1)) ∧ (decode cL_law 874 = .ok (.aload_n 0, 1)) ∧ (decode cL_law 875 = .ok (.iload 5, 2)) ∧ (decode cL_law 877 = .ok (.iconst 1, 1)) ∧ (decode cL_law 878 = .ok (.iadd, 1)) := by decide +kernel
theorem dL_law_864 : decode cL_law 864 = .ok (.lcmp, 1) := dzL_40.1
theorem dL_law_865 : decode cL_law 865 = .ok (.ifCond .eq 5, 3) := dzL_40.2.1
theorem dL_law_868 : decode cL_law 868 = .ok (.iconst 0, 1) := dzL_40.2.2.1
theorem dL_law_869 : decode cL_law 869 = .ok (.ireturn, 1) := dzL_40.2.2.2.1
theorem dL_law_870 : decode cL_law 870 = .ok (.goto 1882, 3) := dzL_40.2.2.2.2.1
theorem dL_law_873 : decode cL_law 873 = .ok (.aload_n 1, 1) := dzL_40.2.2.2.2.2.1
theorem dL_law_874 : decode cL_law 874 = .ok (.aload_n 0, 1) := dzL_40.2.2.2.2.2.2.1
theorem dL_law_875 : decode cL_law 875 = .ok (.iload 5, 2) := dzL_40.2.2.2.2.2.2.2.1
theorem dL_law_877 : decode cL_law 877 = .ok (.iconst 1, 1) := dzL_40.2.2.2.2.2.2.2.2.1
theorem dL_law_878 : decode cL_law 878 = .ok (.iadd, 1) := dzL_40.2.2.2.2.2.2.2.2.2
theorem dzL_41 : (decode cL_law 879 = .ok (.iaload, 1)) ∧ (decode cL_law 880 = .ok (.aload_n 3, 1)) ∧ (decode cL_law 881 = .ok (.invokestatic 200, 3)) ∧ (decode cL_law 884 = .ok (.istore 6, 2)) ∧ (decode cL_law 886 = .ok (.aload_n 2, 1)) ∧ (decode cL_law 887 = .ok (.aload_n 0, 1)) ∧ (decode cL_law 888 = .ok (.iload 5, 2)) ∧ (decode cL_law 890 = .ok (.iconst 1, 1)) ∧ (decode cL_law 891 = .ok (.iadd, 1)) ∧ (decode cL_law 892 = .ok (.iaload, 1)) := by decide +kernel
theorem dL_law_879 : decode cL_law 879 = .ok (.iaload, 1) := dzL_41.1
theorem dL_law_880 : decode cL_law 880 = .ok (.aload_n 3, 1) := dzL_41.2.1
theorem dL_law_881 : decode cL_law 881 = .ok (.invokestatic 200, 3) := dzL_41.2.2.1
theorem dL_law_884 : decode cL_law 884 = .ok (.istore 6, 2) := dzL_41.2.2.2.1
theorem dL_law_886 : decode cL_law 886 = .ok (.aload_n 2, 1) := dzL_41.2.2.2.2.1
theorem dL_law_887 : decode cL_law 887 = .ok (.aload_n 0, 1) := dzL_41.2.2.2.2.2.1
theorem dL_law_888 : decode cL_law 888 = .ok (.iload 5, 2) := dzL_41.2.2.2.2.2.2.1
theorem dL_law_890 : decode cL_law 890 = .ok (.iconst 1, 1) := dzL_41.2.2.2.2.2.2.2.1
theorem dL_law_891 : decode cL_law 891 = .ok (.iadd, 1) := dzL_41.2.2.2.2.2.2.2.2.1
theorem dL_law_892 : decode cL_law 892 = .ok (.iaload, 1) := dzL_41.2.2.2.2.2.2.2.2.2
theorem dzL_42 : (decode cL_law 893 = .ok (.invokevirtual 202, 3)) ∧ (decode cL_law 896 = .ok (.istore 7, 2)) ∧ (decode cL_law 898 = .ok (.aload_n 2, 1)) ∧ (decode cL_law 899 = .ok (.invokevirtual 163, 3)) ∧ (decode cL_law 902 = .ok (.iload 6, 2)) ∧ (decode cL_law 904 = .ok (.if_icmp .eq 5, 3)) ∧ (decode cL_law 907 = .ok (.iconst 0, 1)) ∧ (decode cL_law 908 = .ok (.ireturn, 1)) ∧ (decode cL_law 909 = .ok (.iload 6, 2)) ∧ (decode cL_law 911 = .ok (.ifCond .ne 15, 3)) := by decide +kernel
theorem dL_law_893 : decode cL_law 893 = .ok (.invokevirtual 202, 3) := dzL_42.1
theorem dL_law_896 : decode cL_law 896 = .ok (.istore 7, 2) := dzL_42.2.1
theorem dL_law_898 : decode cL_law 898 = .ok (.aload_n 2, 1) := dzL_42.2.2.1
theorem dL_law_899 : decode cL_law 899 = .ok (.invokevirtual 163, 3) := dzL_42.2.2.2.1
theorem dL_law_902 : decode cL_law 902 = .ok (.iload 6, 2) := dzL_42.2.2.2.2.1
theorem dL_law_904 : decode cL_law 904 = .ok (.if_icmp .eq 5, 3) := dzL_42.2.2.2.2.2.1
theorem dL_law_907 : decode cL_law 907 = .ok (.iconst 0, 1) := dzL_42.2.2.2.2.2.2.1
theorem dL_law_908 : decode cL_law 908 = .ok (.ireturn, 1) := dzL_42.2.2.2.2.2.2.2.1
theorem dL_law_909 : decode cL_law 909 = .ok (.iload 6, 2) := dzL_42.2.2.2.2.2.2.2.2.1
theorem dL_law_911 : decode cL_law 911 = .ok (.ifCond .ne 15, 3) := dzL_42.2.2.2.2.2.2.2.2.2
theorem dzL_43 : (decode cL_law 914 = .ok (.aload_n 3, 1)) ∧ (decode cL_law 915 = .ok (.iconst 0, 1)) ∧ (decode cL_law 916 = .ok (.laload, 1)) ∧ (decode cL_law 917 = .ok (.iload 7, 2)) ∧ (decode cL_law 919 = .ok (.i2l, 1)) ∧ (decode cL_law 920 = .ok (.lcmp, 1)) ∧ (decode cL_law 921 = .ok (.ifCond .eq 5, 3)) ∧ (decode cL_law 924 = .ok (.iconst 0, 1)) ∧ (decode cL_law 925 = .ok (.ireturn, 1)) ∧ (decode cL_law 926 = .ok (.goto 1826, 3)) := by decide +kernel
theorem dL_law_914 : decode cL_law 914 = .ok (.aload_n 3, 1) := dzL_43.1
theorem dL_law_915 : decode cL_law 915 = .ok (.iconst 0, 1) := dzL_43.2.1
theorem dL_law_916 : decode cL_law 916 = .ok (.laload, 1) := dzL_43.2.2.1
theorem dL_law_917 : decode cL_law 917 = .ok (.iload 7, 2) := dzL_43.2.2.2.1
theorem dL_law_919 : decode cL_law 919 = .ok (.i2l, 1) := dzL_43.2.2.2.2.1
theorem dL_law_920 : decode cL_law 920 = .ok (.lcmp, 1) := dzL_43.2.2.2.2.2.1
theorem dL_law_921 : decode cL_law 921 = .ok (.ifCond .eq 5, 3) := dzL_43.2.2.2.2.2.2.1
theorem dL_law_924 : decode cL_law 924 = .ok (.iconst 0, 1) := dzL_43.2.2.2.2.2.2.2.1
theorem dL_law_925 : decode cL_law 925 = .ok (.ireturn, 1) := dzL_43.2.2.2.2.2.2.2.2.1
theorem dL_law_926 : decode cL_law 926 = .ok (.goto 1826, 3) := dzL_43.2.2.2.2.2.2.2.2.2
theorem dzL_44 : (decode cL_law 929 = .ok (.aload_n 1, 1)) ∧ (decode cL_law 930 = .ok (.aload_n 0, 1)) ∧ (decode cL_law 931 = .ok (.iload 5, 2)) ∧ (decode cL_law 933 = .ok (.iconst 1, 1)) ∧ (decode cL_law 934 = .ok (.iadd, 1)) ∧ (decode cL_law 935 = .ok (.iaload, 1)) ∧ (decode cL_law 936 = .ok (.aload_n 3, 1)) ∧ (decode cL_law 937 = .ok (.invokestatic 203, 3)) ∧ (decode cL_law 940 = .ok (.istore 6, 2)) ∧ (decode cL_law 942 = .ok (.aload_n 2, 1)) := by decide +kernel
theorem dL_law_929 : decode cL_law 929 = .ok (.aload_n 1, 1) := dzL_44.1
theorem dL_law_930 : decode cL_law 930 = .ok (.aload_n 0, 1) := dzL_44.2.1
theorem dL_law_931 : decode cL_law 931 = .ok (.iload 5, 2) := dzL_44.2.2.1
theorem dL_law_933 : decode cL_law 933 = .ok (.iconst 1, 1) := dzL_44.2.2.2.1
theorem dL_law_934 : decode cL_law 934 = .ok (.iadd, 1) := dzL_44.2.2.2.2.1
theorem dL_law_935 : decode cL_law 935 = .ok (.iaload, 1) := dzL_44.2.2.2.2.2.1
theorem dL_law_936 : decode cL_law 936 = .ok (.aload_n 3, 1) := dzL_44.2.2.2.2.2.2.1
theorem dL_law_937 : decode cL_law 937 = .ok (.invokestatic 203, 3) := dzL_44.2.2.2.2.2.2.2.1
theorem dL_law_940 : decode cL_law 940 = .ok (.istore 6, 2) := dzL_44.2.2.2.2.2.2.2.2.1
theorem dL_law_942 : decode cL_law 942 = .ok (.aload_n 2, 1) := dzL_44.2.2.2.2.2.2.2.2.2
theorem dzL_45 : (decode cL_law 943 = .ok (.aload_n 0, 1)) ∧ (decode cL_law 944 = .ok (.iload 5, 2)) ∧ (decode cL_law 946 = .ok (.iconst 1, 1)) ∧ (decode cL_law 947 = .ok (.iadd, 1)) ∧ (decode cL_law 948 = .ok (.iaload, 1)) ∧ (decode cL_law 949 = .ok (.invokevirtual 205, 3)) ∧ (decode cL_law 952 = .ok (.istore 7, 2)) ∧ (decode cL_law 954 = .ok (.aload_n 2, 1)) ∧ (decode cL_law 955 = .ok (.invokevirtual 163, 3)) ∧ (decode cL_law 958 = .ok (.iload 6, 2)) := by decide +kernel
theorem dL_law_943 : decode cL_law 943 = .ok (.aload_n 0, 1) := dzL_45.1
theorem dL_law_944 : decode cL_law 944 = .ok (.iload 5, 2) := dzL_45.2.1
theorem dL_law_946 : decode cL_law 946 = .ok (.iconst 1, 1) := dzL_45.2.2.1
theorem dL_law_947 : decode cL_law 947 = .ok (.iadd, 1) := dzL_45.2.2.2.1
theorem dL_law_948 : decode cL_law 948 = .ok (.iaload, 1) := dzL_45.2.2.2.2.1
theorem dL_law_949 : decode cL_law 949 = .ok (.invokevirtual 205, 3) := dzL_45.2.2.2.2.2.1
theorem dL_law_952 : decode cL_law 952 = .ok (.istore 7, 2) := dzL_45.2.2.2.2.2.2.1
theorem dL_law_954 : decode cL_law 954 = .ok (.aload_n 2, 1) := dzL_45.2.2.2.2.2.2.2.1
theorem dL_law_955 : decode cL_law 955 = .ok (.invokevirtual 163, 3) := dzL_45.2.2.2.2.2.2.2.2.1
theorem dL_law_958 : decode cL_law 958 = .ok (.iload 6, 2) := dzL_45.2.2.2.2.2.2.2.2.2
theorem dzL_46 : (decode cL_law 960 = .ok (.if_icmp .eq 5, 3)) ∧ (decode cL_law 963 = .ok (.iconst 0, 1)) ∧ (decode cL_law 964 = .ok (.ireturn, 1)) ∧ (decode cL_law 965 = .ok (.iload 6, 2)) ∧ (decode cL_law 967 = .ok (.ifCond .ne 15, 3)) ∧ (decode cL_law 970 = .ok (.aload_n 3, 1)) ∧ (decode cL_law 971 = .ok (.iconst 0, 1)) ∧ (decode cL_law 972 = .ok (.laload, 1)) ∧ (decode cL_law 973 = .ok (.iload 7, 2)) ∧ (decode cL_law 975 = .ok (.i2l, 1)) := by decide +kernel
theorem dL_law_960 : decode cL_law 960 = .ok (.if_icmp .eq 5, 3) := dzL_46.1
theorem dL_law_963 : decode cL_law 963 = .ok (.iconst 0, 1) := dzL_46.2.1
theorem dL_law_964 : decode cL_law 964 = .ok (.ireturn, 1) := dzL_46.2.2.1
theorem dL_law_965 : decode cL_law 965 = .ok (.iload 6, 2) := dzL_46.2.2.2.1
theorem dL_law_967 : decode cL_law 967 = .ok (.ifCond .ne 15, 3) := dzL_46.2.2.2.2.1
theorem dL_law_970 : decode cL_law 970 = .ok (.aload_n 3, 1) := dzL_46.2.2.2.2.2.1
theorem dL_law_971 : decode cL_law 971 = .ok (.iconst 0, 1) := dzL_46.2.2.2.2.2.2.1
theorem dL_law_972 : decode cL_law 972 = .ok (.laload, 1) := dzL_46.2.2.2.2.2.2.2.1
theorem dL_law_973 : decode cL_law 973 = .ok (.iload 7, 2) := dzL_46.2.2.2.2.2.2.2.2.1
theorem dL_law_975 : decode cL_law 975 = .ok (.i2l, 1) := dzL_46.2.2.2.2.2.2.2.2.2
theorem dzL_47 : (decode cL_law 976 = .ok (.lcmp, 1)) ∧ (decode cL_law 977 = .ok (.ifCond .eq 5, 3)) ∧ (decode cL_law 980 = .ok (.iconst 0, 1)) ∧ (decode cL_law 981 = .ok (.ireturn, 1)) ∧ (decode cL_law 982 = .ok (.goto 1770, 3)) ∧ (decode cL_law 985 = .ok (.aload_n 1, 1)) ∧ (decode cL_law 986 = .ok (.aload_n 0, 1)) ∧ (decode cL_law 987 = .ok (.iload 5, 2)) ∧ (decode cL_law 989 = .ok (.iconst 1, 1)) ∧ (decode cL_law 990 = .ok (.iadd, 1)) := by decide +kernel
theorem dL_law_976 : decode cL_law 976 = .ok (.lcmp, 1) := dzL_47.1
theorem dL_law_977 : decode cL_law 977 = .ok (.ifCond .eq 5, 3) := dzL_47.2.1
theorem dL_law_980 : decode cL_law 980 = .ok (.iconst 0, 1) := dzL_47.2.2.1
theorem dL_law_981 : decode cL_law 981 = .ok (.ireturn, 1) := dzL_47.2.2.2.1
theorem dL_law_982 : decode cL_law 982 = .ok (.goto 1770, 3) := dzL_47.2.2.2.2.1
theorem dL_law_985 : decode cL_law 985 = .ok (.aload_n 1, 1) := dzL_47.2.2.2.2.2.1
theorem dL_law_986 : decode cL_law 986 = .ok (.aload_n 0, 1) := dzL_47.2.2.2.2.2.2.1
theorem dL_law_987 : decode cL_law 987 = .ok (.iload 5, 2) := dzL_47.2.2.2.2.2.2.2.1
theorem dL_law_989 : decode cL_law 989 = .ok (.iconst 1, 1) := dzL_47.2.2.2.2.2.2.2.2.1
theorem dL_law_990 : decode cL_law 990 = .ok (.iadd, 1) := dzL_47.2.2.2.2.2.2.2.2.2
theorem dzL_48 : (decode cL_law 991 = .ok (.iaload, 1)) ∧ (decode cL_law 992 = .ok (.aload_n 3, 1)) ∧ (decode cL_law 993 = .ok (.invokestatic 206, 3)) ∧ (decode cL_law 996 = .ok (.istore 6, 2)) ∧ (decode cL_law 998 = .ok (.aload_n 2, 1)) ∧ (decode cL_law 999 = .ok (.aload_n 0, 1)) ∧ (decode cL_law 1000 = .ok (.iload 5, 2)) ∧ (decode cL_law 1002 = .ok (.iconst 1, 1)) ∧ (decode cL_law 1003 = .ok (.iadd, 1)) ∧ (decode cL_law 1004 = .ok (.iaload, 1)) := by decide +kernel
theorem dL_law_991 : decode cL_law 991 = .ok (.iaload, 1) := dzL_48.1
theorem dL_law_992 : decode cL_law 992 = .ok (.aload_n 3, 1) := dzL_48.2.1
theorem dL_law_993 : decode cL_law 993 = .ok (.invokestatic 206, 3) := dzL_48.2.2.1
theorem dL_law_996 : decode cL_law 996 = .ok (.istore 6, 2) := dzL_48.2.2.2.1
theorem dL_law_998 : decode cL_law 998 = .ok (.aload_n 2, 1) := dzL_48.2.2.2.2.1
theorem dL_law_999 : decode cL_law 999 = .ok (.aload_n 0, 1) := dzL_48.2.2.2.2.2.1
theorem dL_law_1000 : decode cL_law 1000 = .ok (.iload 5, 2) := dzL_48.2.2.2.2.2.2.1
theorem dL_law_1002 : decode cL_law 1002 = .ok (.iconst 1, 1) := dzL_48.2.2.2.2.2.2.2.1
theorem dL_law_1003 : decode cL_law 1003 = .ok (.iadd, 1) := dzL_48.2.2.2.2.2.2.2.2.1
theorem dL_law_1004 : decode cL_law 1004 = .ok (.iaload, 1) := dzL_48.2.2.2.2.2.2.2.2.2
theorem dzL_49 : (decode cL_law 1005 = .ok (.invokevirtual 208, 3)) ∧ (decode cL_law 1008 = .ok (.istore 7, 2)) ∧ (decode cL_law 1010 = .ok (.aload_n 2, 1)) ∧ (decode cL_law 1011 = .ok (.invokevirtual 163, 3)) ∧ (decode cL_law 1014 = .ok (.iload 6, 2)) ∧ (decode cL_law 1016 = .ok (.if_icmp .eq 5, 3)) ∧ (decode cL_law 1019 = .ok (.iconst 0, 1)) ∧ (decode cL_law 1020 = .ok (.ireturn, 1)) ∧ (decode cL_law 1021 = .ok (.iload 6, 2)) ∧ (decode cL_law 1023 = .ok (.ifCond .ne 15, 3)) := by decide +kernel
theorem dL_law_1005 : decode cL_law 1005 = .ok (.invokevirtual 208, 3) := dzL_49.1
theorem dL_law_1008 : decode cL_law 1008 = .ok (.istore 7, 2) := dzL_49.2.1
theorem dL_law_1010 : decode cL_law 1010 = .ok (.aload_n 2, 1) := dzL_49.2.2.1
theorem dL_law_1011 : decode cL_law 1011 = .ok (.invokevirtual 163, 3) := dzL_49.2.2.2.1
theorem dL_law_1014 : decode cL_law 1014 = .ok (.iload 6, 2) := dzL_49.2.2.2.2.1
theorem dL_law_1016 : decode cL_law 1016 = .ok (.if_icmp .eq 5, 3) := dzL_49.2.2.2.2.2.1
theorem dL_law_1019 : decode cL_law 1019 = .ok (.iconst 0, 1) := dzL_49.2.2.2.2.2.2.1
theorem dL_law_1020 : decode cL_law 1020 = .ok (.ireturn, 1) := dzL_49.2.2.2.2.2.2.2.1
theorem dL_law_1021 : decode cL_law 1021 = .ok (.iload 6, 2) := dzL_49.2.2.2.2.2.2.2.2.1
theorem dL_law_1023 : decode cL_law 1023 = .ok (.ifCond .ne 15, 3) := dzL_49.2.2.2.2.2.2.2.2.2
theorem dzL_50 : (decode cL_law 1026 = .ok (.aload_n 3, 1)) ∧ (decode cL_law 1027 = .ok (.iconst 0, 1)) ∧ (decode cL_law 1028 = .ok (.laload, 1)) ∧ (decode cL_law 1029 = .ok (.iload 7, 2)) ∧ (decode cL_law 1031 = .ok (.i2l, 1)) ∧ (decode cL_law 1032 = .ok (.lcmp, 1)) ∧ (decode cL_law 1033 = .ok (.ifCond .eq 5, 3)) ∧ (decode cL_law 1036 = .ok (.iconst 0, 1)) ∧ (decode cL_law 1037 = .ok (.ireturn, 1)) ∧ (decode cL_law 1038 = .ok (.goto 1714, 3)) := by decide +kernel
theorem dL_law_1026 : decode cL_law 1026 = .ok (.aload_n 3, 1) := dzL_50.1
theorem dL_law_1027 : decode cL_law 1027 = .ok (.iconst 0, 1) := dzL_50.2.1
theorem dL_law_1028 : decode cL_law 1028 = .ok (.laload, 1) := dzL_50.2.2.1
theorem dL_law_1029 : decode cL_law 1029 = .ok (.iload 7, 2) := dzL_50.2.2.2.1
theorem dL_law_1031 : decode cL_law 1031 = .ok (.i2l, 1) := dzL_50.2.2.2.2.1
theorem dL_law_1032 : decode cL_law 1032 = .ok (.lcmp, 1) := dzL_50.2.2.2.2.2.1
theorem dL_law_1033 : decode cL_law 1033 = .ok (.ifCond .eq 5, 3) := dzL_50.2.2.2.2.2.2.1
theorem dL_law_1036 : decode cL_law 1036 = .ok (.iconst 0, 1) := dzL_50.2.2.2.2.2.2.2.1
theorem dL_law_1037 : decode cL_law 1037 = .ok (.ireturn, 1) := dzL_50.2.2.2.2.2.2.2.2.1
theorem dL_law_1038 : decode cL_law 1038 = .ok (.goto 1714, 3) := dzL_50.2.2.2.2.2.2.2.2.2
theorem dzL_51 : (decode cL_law 1041 = .ok (.aload_n 1, 1)) ∧ (decode cL_law 1042 = .ok (.aload_n 0, 1)) ∧ (decode cL_law 1043 = .ok (.iload 5, 2)) ∧ (decode cL_law 1045 = .ok (.iconst 1, 1)) ∧ (decode cL_law 1046 = .ok (.iadd, 1)) ∧ (decode cL_law 1047 = .ok (.iaload, 1)) ∧ (decode cL_law 1048 = .ok (.aload_n 3, 1)) ∧ (decode cL_law 1049 = .ok (.invokestatic 209, 3)) ∧ (decode cL_law 1052 = .ok (.istore 6, 2)) ∧ (decode cL_law 1054 = .ok (.aload_n 2, 1)) := by decide +kernel
theorem dL_law_1041 : decode cL_law 1041 = .ok (.aload_n 1, 1) := dzL_51.1
theorem dL_law_1042 : decode cL_law 1042 = .ok (.aload_n 0, 1) := dzL_51.2.1
theorem dL_law_1043 : decode cL_law 1043 = .ok (.iload 5, 2) := dzL_51.2.2.1
theorem dL_law_1045 : decode cL_law 1045 = .ok (.iconst 1, 1) := dzL_51.2.2.2.1
theorem dL_law_1046 : decode cL_law 1046 = .ok (.iadd, 1) := dzL_51.2.2.2.2.1
theorem dL_law_1047 : decode cL_law 1047 = .ok (.iaload, 1) := dzL_51.2.2.2.2.2.1
theorem dL_law_1048 : decode cL_law 1048 = .ok (.aload_n 3, 1) := dzL_51.2.2.2.2.2.2.1
theorem dL_law_1049 : decode cL_law 1049 = .ok (.invokestatic 209, 3) := dzL_51.2.2.2.2.2.2.2.1
theorem dL_law_1052 : decode cL_law 1052 = .ok (.istore 6, 2) := dzL_51.2.2.2.2.2.2.2.2.1
theorem dL_law_1054 : decode cL_law 1054 = .ok (.aload_n 2, 1) := dzL_51.2.2.2.2.2.2.2.2.2
theorem dzL_52 : (decode cL_law 1055 = .ok (.aload_n 0, 1)) ∧ (decode cL_law 1056 = .ok (.iload 5, 2)) ∧ (decode cL_law 1058 = .ok (.iconst 1, 1)) ∧ (decode cL_law 1059 = .ok (.iadd, 1)) ∧ (decode cL_law 1060 = .ok (.iaload, 1)) ∧ (decode cL_law 1061 = .ok (.invokevirtual 211, 3)) ∧ (decode cL_law 1064 = .ok (.istore 7, 2)) ∧ (decode cL_law 1066 = .ok (.aload_n 2, 1)) ∧ (decode cL_law 1067 = .ok (.invokevirtual 163, 3)) ∧ (decode cL_law 1070 = .ok (.iload 6, 2)) := by decide +kernel
theorem dL_law_1055 : decode cL_law 1055 = .ok (.aload_n 0, 1) := dzL_52.1
theorem dL_law_1056 : decode cL_law 1056 = .ok (.iload 5, 2) := dzL_52.2.1
theorem dL_law_1058 : decode cL_law 1058 = .ok (.iconst 1, 1) := dzL_52.2.2.1
theorem dL_law_1059 : decode cL_law 1059 = .ok (.iadd, 1) := dzL_52.2.2.2.1
theorem dL_law_1060 : decode cL_law 1060 = .ok (.iaload, 1) := dzL_52.2.2.2.2.1
theorem dL_law_1061 : decode cL_law 1061 = .ok (.invokevirtual 211, 3) := dzL_52.2.2.2.2.2.1
theorem dL_law_1064 : decode cL_law 1064 = .ok (.istore 7, 2) := dzL_52.2.2.2.2.2.2.1
theorem dL_law_1066 : decode cL_law 1066 = .ok (.aload_n 2, 1) := dzL_52.2.2.2.2.2.2.2.1
theorem dL_law_1067 : decode cL_law 1067 = .ok (.invokevirtual 163, 3) := dzL_52.2.2.2.2.2.2.2.2.1
theorem dL_law_1070 : decode cL_law 1070 = .ok (.iload 6, 2) := dzL_52.2.2.2.2.2.2.2.2.2
theorem dzL_53 : (decode cL_law 1072 = .ok (.if_icmp .eq 5, 3)) ∧ (decode cL_law 1075 = .ok (.iconst 0, 1)) ∧ (decode cL_law 1076 = .ok (.ireturn, 1)) ∧ (decode cL_law 1077 = .ok (.iload 6, 2)) ∧ (decode cL_law 1079 = .ok (.ifCond .ne 15, 3)) ∧ (decode cL_law 1082 = .ok (.aload_n 3, 1)) ∧ (decode cL_law 1083 = .ok (.iconst 0, 1)) ∧ (decode cL_law 1084 = .ok (.laload, 1)) ∧ (decode cL_law 1085 = .ok (.iload 7, 2)) ∧ (decode cL_law 1087 = .ok (.i2l, 1)) := by decide +kernel
theorem dL_law_1072 : decode cL_law 1072 = .ok (.if_icmp .eq 5, 3) := dzL_53.1
theorem dL_law_1075 : decode cL_law 1075 = .ok (.iconst 0, 1) := dzL_53.2.1
theorem dL_law_1076 : decode cL_law 1076 = .ok (.ireturn, 1) := dzL_53.2.2.1
theorem dL_law_1077 : decode cL_law 1077 = .ok (.iload 6, 2) := dzL_53.2.2.2.1
theorem dL_law_1079 : decode cL_law 1079 = .ok (.ifCond .ne 15, 3) := dzL_53.2.2.2.2.1
theorem dL_law_1082 : decode cL_law 1082 = .ok (.aload_n 3, 1) := dzL_53.2.2.2.2.2.1
theorem dL_law_1083 : decode cL_law 1083 = .ok (.iconst 0, 1) := dzL_53.2.2.2.2.2.2.1
theorem dL_law_1084 : decode cL_law 1084 = .ok (.laload, 1) := dzL_53.2.2.2.2.2.2.2.1
theorem dL_law_1085 : decode cL_law 1085 = .ok (.iload 7, 2) := dzL_53.2.2.2.2.2.2.2.2.1
theorem dL_law_1087 : decode cL_law 1087 = .ok (.i2l, 1) := dzL_53.2.2.2.2.2.2.2.2.2
theorem dzL_54 : (decode cL_law 1088 = .ok (.lcmp, 1)) ∧ (decode cL_law 1089 = .ok (.ifCond .eq 5, 3)) ∧ (decode cL_law 1092 = .ok (.iconst 0, 1)) ∧ (decode cL_law 1093 = .ok (.ireturn, 1)) ∧ (decode cL_law 1094 = .ok (.goto 1658, 3)) ∧ (decode cL_law 1097 = .ok (.aload_n 1, 1)) ∧ (decode cL_law 1098 = .ok (.aload_n 0, 1)) ∧ (decode cL_law 1099 = .ok (.iload 5, 2)) ∧ (decode cL_law 1101 = .ok (.iconst 1, 1)) ∧ (decode cL_law 1102 = .ok (.iadd, 1)) := by decide +kernel
theorem dL_law_1088 : decode cL_law 1088 = .ok (.lcmp, 1) := dzL_54.1
theorem dL_law_1089 : decode cL_law 1089 = .ok (.ifCond .eq 5, 3) := dzL_54.2.1
theorem dL_law_1092 : decode cL_law 1092 = .ok (.iconst 0, 1) := dzL_54.2.2.1
theorem dL_law_1093 : decode cL_law 1093 = .ok (.ireturn, 1) := dzL_54.2.2.2.1
theorem dL_law_1094 : decode cL_law 1094 = .ok (.goto 1658, 3) := dzL_54.2.2.2.2.1
theorem dL_law_1097 : decode cL_law 1097 = .ok (.aload_n 1, 1) := dzL_54.2.2.2.2.2.1
theorem dL_law_1098 : decode cL_law 1098 = .ok (.aload_n 0, 1) := dzL_54.2.2.2.2.2.2.1
theorem dL_law_1099 : decode cL_law 1099 = .ok (.iload 5, 2) := dzL_54.2.2.2.2.2.2.2.1
theorem dL_law_1101 : decode cL_law 1101 = .ok (.iconst 1, 1) := dzL_54.2.2.2.2.2.2.2.2.1
theorem dL_law_1102 : decode cL_law 1102 = .ok (.iadd, 1) := dzL_54.2.2.2.2.2.2.2.2.2
theorem dzL_55 : (decode cL_law 1103 = .ok (.iaload, 1)) ∧ (decode cL_law 1104 = .ok (.aload_n 3, 1)) ∧ (decode cL_law 1105 = .ok (.invokestatic 212, 3)) ∧ (decode cL_law 1108 = .ok (.istore 6, 2)) ∧ (decode cL_law 1110 = .ok (.aload_n 2, 1)) ∧ (decode cL_law 1111 = .ok (.aload_n 0, 1)) ∧ (decode cL_law 1112 = .ok (.iload 5, 2)) ∧ (decode cL_law 1114 = .ok (.iconst 1, 1)) ∧ (decode cL_law 1115 = .ok (.iadd, 1)) ∧ (decode cL_law 1116 = .ok (.iaload, 1)) := by decide +kernel
theorem dL_law_1103 : decode cL_law 1103 = .ok (.iaload, 1) := dzL_55.1
theorem dL_law_1104 : decode cL_law 1104 = .ok (.aload_n 3, 1) := dzL_55.2.1
theorem dL_law_1105 : decode cL_law 1105 = .ok (.invokestatic 212, 3) := dzL_55.2.2.1
theorem dL_law_1108 : decode cL_law 1108 = .ok (.istore 6, 2) := dzL_55.2.2.2.1
theorem dL_law_1110 : decode cL_law 1110 = .ok (.aload_n 2, 1) := dzL_55.2.2.2.2.1
theorem dL_law_1111 : decode cL_law 1111 = .ok (.aload_n 0, 1) := dzL_55.2.2.2.2.2.1
theorem dL_law_1112 : decode cL_law 1112 = .ok (.iload 5, 2) := dzL_55.2.2.2.2.2.2.1
theorem dL_law_1114 : decode cL_law 1114 = .ok (.iconst 1, 1) := dzL_55.2.2.2.2.2.2.2.1
theorem dL_law_1115 : decode cL_law 1115 = .ok (.iadd, 1) := dzL_55.2.2.2.2.2.2.2.2.1
theorem dL_law_1116 : decode cL_law 1116 = .ok (.iaload, 1) := dzL_55.2.2.2.2.2.2.2.2.2
theorem dzL_56 : (decode cL_law 1117 = .ok (.invokevirtual 214, 3)) ∧ (decode cL_law 1120 = .ok (.istore 7, 2)) ∧ (decode cL_law 1122 = .ok (.aload_n 2, 1)) ∧ (decode cL_law 1123 = .ok (.invokevirtual 163, 3)) ∧ (decode cL_law 1126 = .ok (.iload 6, 2)) ∧ (decode cL_law 1128 = .ok (.if_icmp .eq 5, 3)) ∧ (decode cL_law 1131 = .ok (.iconst 0, 1)) ∧ (decode cL_law 1132 = .ok (.ireturn, 1)) ∧ (decode cL_law 1133 = .ok (.iload 6, 2)) ∧ (decode cL_law 1135 = .ok (.ifCond .ne 22, 3)) := by decide +kernel
theorem dL_law_1117 : decode cL_law 1117 = .ok (.invokevirtual 214, 3) := dzL_56.1
theorem dL_law_1120 : decode cL_law 1120 = .ok (.istore 7, 2) := dzL_56.2.1
theorem dL_law_1122 : decode cL_law 1122 = .ok (.aload_n 2, 1) := dzL_56.2.2.1
theorem dL_law_1123 : decode cL_law 1123 = .ok (.invokevirtual 163, 3) := dzL_56.2.2.2.1
theorem dL_law_1126 : decode cL_law 1126 = .ok (.iload 6, 2) := dzL_56.2.2.2.2.1
theorem dL_law_1128 : decode cL_law 1128 = .ok (.if_icmp .eq 5, 3) := dzL_56.2.2.2.2.2.1
theorem dL_law_1131 : decode cL_law 1131 = .ok (.iconst 0, 1) := dzL_56.2.2.2.2.2.2.1
theorem dL_law_1132 : decode cL_law 1132 = .ok (.ireturn, 1) := dzL_56.2.2.2.2.2.2.2.1
theorem dL_law_1133 : decode cL_law 1133 = .ok (.iload 6, 2) := dzL_56.2.2.2.2.2.2.2.2.1
theorem dL_law_1135 : decode cL_law 1135 = .ok (.ifCond .ne 22, 3) := dzL_56.2.2.2.2.2.2.2.2.2
theorem dzL_57 : (decode cL_law 1138 = .ok (.aload_n 3, 1)) ∧ (decode cL_law 1139 = .ok (.iconst 0, 1)) ∧ (decode cL_law 1140 = .ok (.laload, 1)) ∧ (decode cL_law 1141 = .ok (.iload 7, 2)) ∧ (decode cL_law 1143 = .ok (.ifCond .eq 7, 3)) ∧ (decode cL_law 1146 = .ok (.lconst 1, 1)) ∧ (decode cL_law 1147 = .ok (.goto 4, 3)) ∧ (decode cL_law 1150 = .ok (.lconst 0, 1)) ∧ (decode cL_law 1151 = .ok (.lcmp, 1)) ∧ (decode cL_law 1152 = .ok (.ifCond .eq 5, 3)) := by decide +kernel
theorem dL_law_1138 : decode cL_law 1138 = .ok (.aload_n 3, 1) := dzL_57.1
theorem dL_law_1139 : decode cL_law 1139 = .ok (.iconst 0, 1) := dzL_57.2.1
theorem dL_law_1140 : decode cL_law 1140 = .ok (.laload, 1) := dzL_57.2.2.1
theorem dL_law_1141 : decode cL_law 1141 = .ok (.iload 7, 2) := dzL_57.2.2.2.1
theorem dL_law_1143 : decode cL_law 1143 = .ok (.ifCond .eq 7, 3) := dzL_57.2.2.2.2.1
theorem dL_law_1146 : decode cL_law 1146 = .ok (.lconst 1, 1) := dzL_57.2.2.2.2.2.1
theorem dL_law_1147 : decode cL_law 1147 = .ok (.goto 4, 3) := dzL_57.2.2.2.2.2.2.1
theorem dL_law_1150 : decode cL_law 1150 = .ok (.lconst 0, 1) := dzL_57.2.2.2.2.2.2.2.1
theorem dL_law_1151 : decode cL_law 1151 = .ok (.lcmp, 1) := dzL_57.2.2.2.2.2.2.2.2.1
theorem dL_law_1152 : decode cL_law 1152 = .ok (.ifCond .eq 5, 3) := dzL_57.2.2.2.2.2.2.2.2.2
theorem dzL_58 : (decode cL_law 1155 = .ok (.iconst 0, 1)) ∧ (decode cL_law 1156 = .ok (.ireturn, 1)) ∧ (decode cL_law 1157 = .ok (.goto 1595, 3)) ∧ (decode cL_law 1160 = .ok (.aload_n 1, 1)) ∧ (decode cL_law 1161 = .ok (.aload_n 0, 1)) ∧ (decode cL_law 1162 = .ok (.iload 5, 2)) ∧ (decode cL_law 1164 = .ok (.iconst 1, 1)) ∧ (decode cL_law 1165 = .ok (.iadd, 1)) ∧ (decode cL_law 1166 = .ok (.iaload, 1)) ∧ (decode cL_law 1167 = .ok (.aload_n 3, 1)) := by decide +kernel
theorem dL_law_1155 : decode cL_law 1155 = .ok (.iconst 0, 1) := dzL_58.1
theorem dL_law_1156 : decode cL_law 1156 = .ok (.ireturn, 1) := dzL_58.2.1
theorem dL_law_1157 : decode cL_law 1157 = .ok (.goto 1595, 3) := dzL_58.2.2.1
theorem dL_law_1160 : decode cL_law 1160 = .ok (.aload_n 1, 1) := dzL_58.2.2.2.1
theorem dL_law_1161 : decode cL_law 1161 = .ok (.aload_n 0, 1) := dzL_58.2.2.2.2.1
theorem dL_law_1162 : decode cL_law 1162 = .ok (.iload 5, 2) := dzL_58.2.2.2.2.2.1
theorem dL_law_1164 : decode cL_law 1164 = .ok (.iconst 1, 1) := dzL_58.2.2.2.2.2.2.1
theorem dL_law_1165 : decode cL_law 1165 = .ok (.iadd, 1) := dzL_58.2.2.2.2.2.2.2.1
theorem dL_law_1166 : decode cL_law 1166 = .ok (.iaload, 1) := dzL_58.2.2.2.2.2.2.2.2.1
theorem dL_law_1167 : decode cL_law 1167 = .ok (.aload_n 3, 1) := dzL_58.2.2.2.2.2.2.2.2.2
theorem dzL_59 : (decode cL_law 1168 = .ok (.invokestatic 215, 3)) ∧ (decode cL_law 1171 = .ok (.istore 6, 2)) ∧ (decode cL_law 1173 = .ok (.aload_n 2, 1)) ∧ (decode cL_law 1174 = .ok (.aload_n 0, 1)) ∧ (decode cL_law 1175 = .ok (.iload 5, 2)) ∧ (decode cL_law 1177 = .ok (.iconst 1, 1)) ∧ (decode cL_law 1178 = .ok (.iadd, 1)) ∧ (decode cL_law 1179 = .ok (.iaload, 1)) ∧ (decode cL_law 1180 = .ok (.invokevirtual 217, 3)) ∧ (decode cL_law 1183 = .ok (.istore 7, 2)) := by decide +kernel
theorem dL_law_1168 : decode cL_law 1168 = .ok (.invokestatic 215, 3) := dzL_59.1
theorem dL_law_1171 : decode cL_law 1171 = .ok (.istore 6, 2) := dzL_59.2.1
theorem dL_law_1173 : decode cL_law 1173 = .ok (.aload_n 2, 1) := dzL_59.2.2.1
theorem dL_law_1174 : decode cL_law 1174 = .ok (.aload_n 0, 1) := dzL_59.2.2.2.1
theorem dL_law_1175 : decode cL_law 1175 = .ok (.iload 5, 2) := dzL_59.2.2.2.2.1
theorem dL_law_1177 : decode cL_law 1177 = .ok (.iconst 1, 1) := dzL_59.2.2.2.2.2.1
theorem dL_law_1178 : decode cL_law 1178 = .ok (.iadd, 1) := dzL_59.2.2.2.2.2.2.1
theorem dL_law_1179 : decode cL_law 1179 = .ok (.iaload, 1) := dzL_59.2.2.2.2.2.2.2.1
theorem dL_law_1180 : decode cL_law 1180 = .ok (.invokevirtual 217, 3) := dzL_59.2.2.2.2.2.2.2.2.1
theorem dL_law_1183 : decode cL_law 1183 = .ok (.istore 7, 2) := dzL_59.2.2.2.2.2.2.2.2.2
theorem dzL_60 : (decode cL_law 1185 = .ok (.aload_n 2, 1)) ∧ (decode cL_law 1186 = .ok (.invokevirtual 163, 3)) ∧ (decode cL_law 1189 = .ok (.iload 6, 2)) ∧ (decode cL_law 1191 = .ok (.if_icmp .eq 5, 3)) ∧ (decode cL_law 1194 = .ok (.iconst 0, 1)) ∧ (decode cL_law 1195 = .ok (.ireturn, 1)) ∧ (decode cL_law 1196 = .ok (.iload 6, 2)) ∧ (decode cL_law 1198 = .ok (.ifCond .ne 22, 3)) ∧ (decode cL_law 1201 = .ok (.aload_n 3, 1)) ∧ (decode cL_law 1202 = .ok (.iconst 0, 1)) := by decide +kernel
theorem dL_law_1185 : decode cL_law 1185 = .ok (.aload_n 2, 1) := dzL_60.1
theorem dL_law_1186 : decode cL_law 1186 = .ok (.invokevirtual 163, 3) := dzL_60.2.1
theorem dL_law_1189 : decode cL_law 1189 = .ok (.iload 6, 2) := dzL_60.2.2.1
theorem dL_law_1191 : decode cL_law 1191 = .ok (.if_icmp .eq 5, 3) := dzL_60.2.2.2.1
theorem dL_law_1194 : decode cL_law 1194 = .ok (.iconst 0, 1) := dzL_60.2.2.2.2.1
theorem dL_law_1195 : decode cL_law 1195 = .ok (.ireturn, 1) := dzL_60.2.2.2.2.2.1
theorem dL_law_1196 : decode cL_law 1196 = .ok (.iload 6, 2) := dzL_60.2.2.2.2.2.2.1
theorem dL_law_1198 : decode cL_law 1198 = .ok (.ifCond .ne 22, 3) := dzL_60.2.2.2.2.2.2.2.1
theorem dL_law_1201 : decode cL_law 1201 = .ok (.aload_n 3, 1) := dzL_60.2.2.2.2.2.2.2.2.1
theorem dL_law_1202 : decode cL_law 1202 = .ok (.iconst 0, 1) := dzL_60.2.2.2.2.2.2.2.2.2
theorem dzL_61 : (decode cL_law 1203 = .ok (.laload, 1)) ∧ (decode cL_law 1204 = .ok (.iload 7, 2)) ∧ (decode cL_law 1206 = .ok (.ifCond .eq 7, 3)) ∧ (decode cL_law 1209 = .ok (.lconst 1, 1)) ∧ (decode cL_law 1210 = .ok (.goto 4, 3)) ∧ (decode cL_law 1213 = .ok (.lconst 0, 1)) ∧ (decode cL_law 1214 = .ok (.lcmp, 1)) ∧ (decode cL_law 1215 = .ok (.ifCond .eq 5, 3)) ∧ (decode cL_law 1218 = .ok (.iconst 0, 1)) ∧ (decode cL_law 1219 = .ok (.ireturn, 1)) := by decide +kernel
theorem dL_law_1203 : decode cL_law 1203 = .ok (.laload, 1) := dzL_61.1
theorem dL_law_1204 : decode cL_law 1204 = .ok (.iload 7, 2) := dzL_61.2.1
theorem dL_law_1206 : decode cL_law 1206 = .ok (.ifCond .eq 7, 3) := dzL_61.2.2.1
theorem dL_law_1209 : decode cL_law 1209 = .ok (.lconst 1, 1) := dzL_61.2.2.2.1
theorem dL_law_1210 : decode cL_law 1210 = .ok (.goto 4, 3) := dzL_61.2.2.2.2.1
theorem dL_law_1213 : decode cL_law 1213 = .ok (.lconst 0, 1) := dzL_61.2.2.2.2.2.1
theorem dL_law_1214 : decode cL_law 1214 = .ok (.lcmp, 1) := dzL_61.2.2.2.2.2.2.1
theorem dL_law_1215 : decode cL_law 1215 = .ok (.ifCond .eq 5, 3) := dzL_61.2.2.2.2.2.2.2.1
theorem dL_law_1218 : decode cL_law 1218 = .ok (.iconst 0, 1) := dzL_61.2.2.2.2.2.2.2.2.1
theorem dL_law_1219 : decode cL_law 1219 = .ok (.ireturn, 1) := dzL_61.2.2.2.2.2.2.2.2.2
theorem dzL_62 : (decode cL_law 1220 = .ok (.goto 1532, 3)) ∧ (decode cL_law 1223 = .ok (.aload_n 1, 1)) ∧ (decode cL_law 1224 = .ok (.aload_n 0, 1)) ∧ (decode cL_law 1225 = .ok (.iload 5, 2)) ∧ (decode cL_law 1227 = .ok (.iconst 1, 1)) ∧ (decode cL_law 1228 = .ok (.iadd, 1)) ∧ (decode cL_law 1229 = .ok (.iaload, 1)) ∧ (decode cL_law 1230 = .ok (.aload_n 3, 1)) ∧ (decode cL_law 1231 = .ok (.invokestatic 218, 3)) ∧ (decode cL_law 1234 = .ok (.istore 6, 2)) := by decide +kernel
theorem dL_law_1220 : decode cL_law 1220 = .ok (.goto 1532, 3) := dzL_62.1
theorem dL_law_1223 : decode cL_law 1223 = .ok (.aload_n 1, 1) := dzL_62.2.1
theorem dL_law_1224 : decode cL_law 1224 = .ok (.aload_n 0, 1) := dzL_62.2.2.1
theorem dL_law_1225 : decode cL_law 1225 = .ok (.iload 5, 2) := dzL_62.2.2.2.1
theorem dL_law_1227 : decode cL_law 1227 = .ok (.iconst 1, 1) := dzL_62.2.2.2.2.1
theorem dL_law_1228 : decode cL_law 1228 = .ok (.iadd, 1) := dzL_62.2.2.2.2.2.1
theorem dL_law_1229 : decode cL_law 1229 = .ok (.iaload, 1) := dzL_62.2.2.2.2.2.2.1
theorem dL_law_1230 : decode cL_law 1230 = .ok (.aload_n 3, 1) := dzL_62.2.2.2.2.2.2.2.1
theorem dL_law_1231 : decode cL_law 1231 = .ok (.invokestatic 218, 3) := dzL_62.2.2.2.2.2.2.2.2.1
theorem dL_law_1234 : decode cL_law 1234 = .ok (.istore 6, 2) := dzL_62.2.2.2.2.2.2.2.2.2
theorem dzL_63 : (decode cL_law 1236 = .ok (.aload_n 2, 1)) ∧ (decode cL_law 1237 = .ok (.aload_n 0, 1)) ∧ (decode cL_law 1238 = .ok (.iload 5, 2)) ∧ (decode cL_law 1240 = .ok (.iconst 1, 1)) ∧ (decode cL_law 1241 = .ok (.iadd, 1)) ∧ (decode cL_law 1242 = .ok (.iaload, 1)) ∧ (decode cL_law 1243 = .ok (.invokevirtual 220, 3)) ∧ (decode cL_law 1246 = .ok (.istore 7, 2)) ∧ (decode cL_law 1248 = .ok (.aload_n 2, 1)) ∧ (decode cL_law 1249 = .ok (.invokevirtual 163, 3)) := by decide +kernel
theorem dL_law_1236 : decode cL_law 1236 = .ok (.aload_n 2, 1) := dzL_63.1
theorem dL_law_1237 : decode cL_law 1237 = .ok (.aload_n 0, 1) := dzL_63.2.1
theorem dL_law_1238 : decode cL_law 1238 = .ok (.iload 5, 2) := dzL_63.2.2.1
theorem dL_law_1240 : decode cL_law 1240 = .ok (.iconst 1, 1) := dzL_63.2.2.2.1
theorem dL_law_1241 : decode cL_law 1241 = .ok (.iadd, 1) := dzL_63.2.2.2.2.1
theorem dL_law_1242 : decode cL_law 1242 = .ok (.iaload, 1) := dzL_63.2.2.2.2.2.1
theorem dL_law_1243 : decode cL_law 1243 = .ok (.invokevirtual 220, 3) := dzL_63.2.2.2.2.2.2.1
theorem dL_law_1246 : decode cL_law 1246 = .ok (.istore 7, 2) := dzL_63.2.2.2.2.2.2.2.1
theorem dL_law_1248 : decode cL_law 1248 = .ok (.aload_n 2, 1) := dzL_63.2.2.2.2.2.2.2.2.1
theorem dL_law_1249 : decode cL_law 1249 = .ok (.invokevirtual 163, 3) := dzL_63.2.2.2.2.2.2.2.2.2
theorem dzL_64 : (decode cL_law 1252 = .ok (.iload 6, 2)) ∧ (decode cL_law 1254 = .ok (.if_icmp .eq 5, 3)) ∧ (decode cL_law 1257 = .ok (.iconst 0, 1)) ∧ (decode cL_law 1258 = .ok (.ireturn, 1)) ∧ (decode cL_law 1259 = .ok (.iload 6, 2)) ∧ (decode cL_law 1261 = .ok (.ifCond .ne 15, 3)) ∧ (decode cL_law 1264 = .ok (.aload_n 3, 1)) ∧ (decode cL_law 1265 = .ok (.iconst 0, 1)) ∧ (decode cL_law 1266 = .ok (.laload, 1)) ∧ (decode cL_law 1267 = .ok (.iload 7, 2)) := by decide +kernel
theorem dL_law_1252 : decode cL_law 1252 = .ok (.iload 6, 2) := dzL_64.1
theorem dL_law_1254 : decode cL_law 1254 = .ok (.if_icmp .eq 5, 3) := dzL_64.2.1
theorem dL_law_1257 : decode cL_law 1257 = .ok (.iconst 0, 1) := dzL_64.2.2.1
theorem dL_law_1258 : decode cL_law 1258 = .ok (.ireturn, 1) := dzL_64.2.2.2.1
theorem dL_law_1259 : decode cL_law 1259 = .ok (.iload 6, 2) := dzL_64.2.2.2.2.1
theorem dL_law_1261 : decode cL_law 1261 = .ok (.ifCond .ne 15, 3) := dzL_64.2.2.2.2.2.1
theorem dL_law_1264 : decode cL_law 1264 = .ok (.aload_n 3, 1) := dzL_64.2.2.2.2.2.2.1
theorem dL_law_1265 : decode cL_law 1265 = .ok (.iconst 0, 1) := dzL_64.2.2.2.2.2.2.2.1
theorem dL_law_1266 : decode cL_law 1266 = .ok (.laload, 1) := dzL_64.2.2.2.2.2.2.2.2.1
theorem dL_law_1267 : decode cL_law 1267 = .ok (.iload 7, 2) := dzL_64.2.2.2.2.2.2.2.2.2
theorem dzL_65 : (decode cL_law 1269 = .ok (.i2l, 1)) ∧ (decode cL_law 1270 = .ok (.lcmp, 1)) ∧ (decode cL_law 1271 = .ok (.ifCond .eq 5, 3)) ∧ (decode cL_law 1274 = .ok (.iconst 0, 1)) ∧ (decode cL_law 1275 = .ok (.ireturn, 1)) ∧ (decode cL_law 1276 = .ok (.goto 1476, 3)) ∧ (decode cL_law 1279 = .ok (.aload_n 1, 1)) ∧ (decode cL_law 1280 = .ok (.aload_n 0, 1)) ∧ (decode cL_law 1281 = .ok (.iload 5, 2)) ∧ (decode cL_law 1283 = .ok (.iconst 1, 1)) := by decide +kernel
theorem dL_law_1269 : decode cL_law 1269 = .ok (.i2l, 1) := dzL_65.1
theorem dL_law_1270 : decode cL_law 1270 = .ok (.lcmp, 1) := dzL_65.2.1
theorem dL_law_1271 : decode cL_law 1271 = .ok (.ifCond .eq 5, 3) := dzL_65.2.2.1
theorem dL_law_1274 : decode cL_law 1274 = .ok (.iconst 0, 1) := dzL_65.2.2.2.1
theorem dL_law_1275 : decode cL_law 1275 = .ok (.ireturn, 1) := dzL_65.2.2.2.2.1
theorem dL_law_1276 : decode cL_law 1276 = .ok (.goto 1476, 3) := dzL_65.2.2.2.2.2.1
theorem dL_law_1279 : decode cL_law 1279 = .ok (.aload_n 1, 1) := dzL_65.2.2.2.2.2.2.1
theorem dL_law_1280 : decode cL_law 1280 = .ok (.aload_n 0, 1) := dzL_65.2.2.2.2.2.2.2.1
theorem dL_law_1281 : decode cL_law 1281 = .ok (.iload 5, 2) := dzL_65.2.2.2.2.2.2.2.2.1
theorem dL_law_1283 : decode cL_law 1283 = .ok (.iconst 1, 1) := dzL_65.2.2.2.2.2.2.2.2.2
theorem dzL_66 : (decode cL_law 1284 = .ok (.iadd, 1)) ∧ (decode cL_law 1285 = .ok (.iaload, 1)) ∧ (decode cL_law 1286 = .ok (.aload_n 3, 1)) ∧ (decode cL_law 1287 = .ok (.invokestatic 221, 3)) ∧ (decode cL_law 1290 = .ok (.istore 6, 2)) ∧ (decode cL_law 1292 = .ok (.aload_n 2, 1)) ∧ (decode cL_law 1293 = .ok (.aload_n 0, 1)) ∧ (decode cL_law 1294 = .ok (.iload 5, 2)) ∧ (decode cL_law 1296 = .ok (.iconst 1, 1)) ∧ (decode cL_law 1297 = .ok (.iadd, 1)) := by decide +kernel
theorem dL_law_1284 : decode cL_law 1284 = .ok (.iadd, 1) := dzL_66.1
theorem dL_law_1285 : decode cL_law 1285 = .ok (.iaload, 1) := dzL_66.2.1
theorem dL_law_1286 : decode cL_law 1286 = .ok (.aload_n 3, 1) := dzL_66.2.2.1
theorem dL_law_1287 : decode cL_law 1287 = .ok (.invokestatic 221, 3) := dzL_66.2.2.2.1
theorem dL_law_1290 : decode cL_law 1290 = .ok (.istore 6, 2) := dzL_66.2.2.2.2.1
theorem dL_law_1292 : decode cL_law 1292 = .ok (.aload_n 2, 1) := dzL_66.2.2.2.2.2.1
theorem dL_law_1293 : decode cL_law 1293 = .ok (.aload_n 0, 1) := dzL_66.2.2.2.2.2.2.1
theorem dL_law_1294 : decode cL_law 1294 = .ok (.iload 5, 2) := dzL_66.2.2.2.2.2.2.2.1
theorem dL_law_1296 : decode cL_law 1296 = .ok (.iconst 1, 1) := dzL_66.2.2.2.2.2.2.2.2.1
theorem dL_law_1297 : decode cL_law 1297 = .ok (.iadd, 1) := dzL_66.2.2.2.2.2.2.2.2.2
theorem dzL_67 : (decode cL_law 1298 = .ok (.iaload, 1)) ∧ (decode cL_law 1299 = .ok (.invokevirtual 223, 3)) ∧ (decode cL_law 1302 = .ok (.istore 7, 2)) ∧ (decode cL_law 1304 = .ok (.aload_n 2, 1)) ∧ (decode cL_law 1305 = .ok (.invokevirtual 163, 3)) ∧ (decode cL_law 1308 = .ok (.iload 6, 2)) ∧ (decode cL_law 1310 = .ok (.if_icmp .eq 5, 3)) ∧ (decode cL_law 1313 = .ok (.iconst 0, 1)) ∧ (decode cL_law 1314 = .ok (.ireturn, 1)) ∧ (decode cL_law 1315 = .ok (.iload 6, 2)) := by decide +kernel
theorem dL_law_1298 : decode cL_law 1298 = .ok (.iaload, 1) := dzL_67.1
theorem dL_law_1299 : decode cL_law 1299 = .ok (.invokevirtual 223, 3) := dzL_67.2.1
theorem dL_law_1302 : decode cL_law 1302 = .ok (.istore 7, 2) := dzL_67.2.2.1
theorem dL_law_1304 : decode cL_law 1304 = .ok (.aload_n 2, 1) := dzL_67.2.2.2.1
theorem dL_law_1305 : decode cL_law 1305 = .ok (.invokevirtual 163, 3) := dzL_67.2.2.2.2.1
theorem dL_law_1308 : decode cL_law 1308 = .ok (.iload 6, 2) := dzL_67.2.2.2.2.2.1
theorem dL_law_1310 : decode cL_law 1310 = .ok (.if_icmp .eq 5, 3) := dzL_67.2.2.2.2.2.2.1
theorem dL_law_1313 : decode cL_law 1313 = .ok (.iconst 0, 1) := dzL_67.2.2.2.2.2.2.2.1
theorem dL_law_1314 : decode cL_law 1314 = .ok (.ireturn, 1) := dzL_67.2.2.2.2.2.2.2.2.1
theorem dL_law_1315 : decode cL_law 1315 = .ok (.iload 6, 2) := dzL_67.2.2.2.2.2.2.2.2.2
theorem dzL_68 : (decode cL_law 1317 = .ok (.ifCond .ne 15, 3)) ∧ (decode cL_law 1320 = .ok (.aload_n 3, 1)) ∧ (decode cL_law 1321 = .ok (.iconst 0, 1)) ∧ (decode cL_law 1322 = .ok (.laload, 1)) ∧ (decode cL_law 1323 = .ok (.iload 7, 2)) ∧ (decode cL_law 1325 = .ok (.i2l, 1)) ∧ (decode cL_law 1326 = .ok (.lcmp, 1)) ∧ (decode cL_law 1327 = .ok (.ifCond .eq 5, 3)) ∧ (decode cL_law 1330 = .ok (.iconst 0, 1)) ∧ (decode cL_law 1331 = .ok (.ireturn, 1)) := by decide +kernel
theorem dL_law_1317 : decode cL_law 1317 = .ok (.ifCond .ne 15, 3) := dzL_68.1
theorem dL_law_1320 : decode cL_law 1320 = .ok (.aload_n 3, 1) := dzL_68.2.1
theorem dL_law_1321 : decode cL_law 1321 = .ok (.iconst 0, 1) := dzL_68.2.2.1
theorem dL_law_1322 : decode cL_law 1322 = .ok (.laload, 1) := dzL_68.2.2.2.1
theorem dL_law_1323 : decode cL_law 1323 = .ok (.iload 7, 2) := dzL_68.2.2.2.2.1
theorem dL_law_1325 : decode cL_law 1325 = .ok (.i2l, 1) := dzL_68.2.2.2.2.2.1
theorem dL_law_1326 : decode cL_law 1326 = .ok (.lcmp, 1) := dzL_68.2.2.2.2.2.2.1
theorem dL_law_1327 : decode cL_law 1327 = .ok (.ifCond .eq 5, 3) := dzL_68.2.2.2.2.2.2.2.1
theorem dL_law_1330 : decode cL_law 1330 = .ok (.iconst 0, 1) := dzL_68.2.2.2.2.2.2.2.2.1
theorem dL_law_1331 : decode cL_law 1331 = .ok (.ireturn, 1) := dzL_68.2.2.2.2.2.2.2.2.2
theorem dzL_69 : (decode cL_law 1332 = .ok (.goto 1420, 3)) ∧ (decode cL_law 1335 = .ok (.aload_n 1, 1)) ∧ (decode cL_law 1336 = .ok (.aload_n 0, 1)) ∧ (decode cL_law 1337 = .ok (.iload 5, 2)) ∧ (decode cL_law 1339 = .ok (.iconst 1, 1)) ∧ (decode cL_law 1340 = .ok (.iadd, 1)) ∧ (decode cL_law 1341 = .ok (.iaload, 1)) ∧ (decode cL_law 1342 = .ok (.aload_n 3, 1)) ∧ (decode cL_law 1343 = .ok (.invokestatic 224, 3)) ∧ (decode cL_law 1346 = .ok (.istore 6, 2)) := by decide +kernel
theorem dL_law_1332 : decode cL_law 1332 = .ok (.goto 1420, 3) := dzL_69.1
theorem dL_law_1335 : decode cL_law 1335 = .ok (.aload_n 1, 1) := dzL_69.2.1
theorem dL_law_1336 : decode cL_law 1336 = .ok (.aload_n 0, 1) := dzL_69.2.2.1
theorem dL_law_1337 : decode cL_law 1337 = .ok (.iload 5, 2) := dzL_69.2.2.2.1
theorem dL_law_1339 : decode cL_law 1339 = .ok (.iconst 1, 1) := dzL_69.2.2.2.2.1
theorem dL_law_1340 : decode cL_law 1340 = .ok (.iadd, 1) := dzL_69.2.2.2.2.2.1
theorem dL_law_1341 : decode cL_law 1341 = .ok (.iaload, 1) := dzL_69.2.2.2.2.2.2.1
theorem dL_law_1342 : decode cL_law 1342 = .ok (.aload_n 3, 1) := dzL_69.2.2.2.2.2.2.2.1
theorem dL_law_1343 : decode cL_law 1343 = .ok (.invokestatic 224, 3) := dzL_69.2.2.2.2.2.2.2.2.1
theorem dL_law_1346 : decode cL_law 1346 = .ok (.istore 6, 2) := dzL_69.2.2.2.2.2.2.2.2.2
theorem dzL_70 : (decode cL_law 1348 = .ok (.aload_n 2, 1)) ∧ (decode cL_law 1349 = .ok (.aload_n 0, 1)) ∧ (decode cL_law 1350 = .ok (.iload 5, 2)) ∧ (decode cL_law 1352 = .ok (.iconst 1, 1)) ∧ (decode cL_law 1353 = .ok (.iadd, 1)) ∧ (decode cL_law 1354 = .ok (.iaload, 1)) ∧ (decode cL_law 1355 = .ok (.invokevirtual 226, 3)) ∧ (decode cL_law 1358 = .ok (.istore 7, 2)) ∧ (decode cL_law 1360 = .ok (.aload_n 2, 1)) ∧ (decode cL_law 1361 = .ok (.invokevirtual 163, 3)) := by decide +kernel
theorem dL_law_1348 : decode cL_law 1348 = .ok (.aload_n 2, 1) := dzL_70.1
theorem dL_law_1349 : decode cL_law 1349 = .ok (.aload_n 0, 1) := dzL_70.2.1
theorem dL_law_1350 : decode cL_law 1350 = .ok (.iload 5, 2) := dzL_70.2.2.1
theorem dL_law_1352 : decode cL_law 1352 = .ok (.iconst 1, 1) := dzL_70.2.2.2.1
theorem dL_law_1353 : decode cL_law 1353 = .ok (.iadd, 1) := dzL_70.2.2.2.2.1
theorem dL_law_1354 : decode cL_law 1354 = .ok (.iaload, 1) := dzL_70.2.2.2.2.2.1
theorem dL_law_1355 : decode cL_law 1355 = .ok (.invokevirtual 226, 3) := dzL_70.2.2.2.2.2.2.1
theorem dL_law_1358 : decode cL_law 1358 = .ok (.istore 7, 2) := dzL_70.2.2.2.2.2.2.2.1
theorem dL_law_1360 : decode cL_law 1360 = .ok (.aload_n 2, 1) := dzL_70.2.2.2.2.2.2.2.2.1
theorem dL_law_1361 : decode cL_law 1361 = .ok (.invokevirtual 163, 3) := dzL_70.2.2.2.2.2.2.2.2.2
theorem dzL_71 : (decode cL_law 1364 = .ok (.iload 6, 2)) ∧ (decode cL_law 1366 = .ok (.if_icmp .eq 5, 3)) ∧ (decode cL_law 1369 = .ok (.iconst 0, 1)) ∧ (decode cL_law 1370 = .ok (.ireturn, 1)) ∧ (decode cL_law 1371 = .ok (.iload 6, 2)) ∧ (decode cL_law 1373 = .ok (.ifCond .ne 15, 3)) ∧ (decode cL_law 1376 = .ok (.aload_n 3, 1)) ∧ (decode cL_law 1377 = .ok (.iconst 0, 1)) ∧ (decode cL_law 1378 = .ok (.laload, 1)) ∧ (decode cL_law 1379 = .ok (.iload 7, 2)) := by decide +kernel
theorem dL_law_1364 : decode cL_law 1364 = .ok (.iload 6, 2) := dzL_71.1
theorem dL_law_1366 : decode cL_law 1366 = .ok (.if_icmp .eq 5, 3) := dzL_71.2.1
theorem dL_law_1369 : decode cL_law 1369 = .ok (.iconst 0, 1) := dzL_71.2.2.1
theorem dL_law_1370 : decode cL_law 1370 = .ok (.ireturn, 1) := dzL_71.2.2.2.1
theorem dL_law_1371 : decode cL_law 1371 = .ok (.iload 6, 2) := dzL_71.2.2.2.2.1
theorem dL_law_1373 : decode cL_law 1373 = .ok (.ifCond .ne 15, 3) := dzL_71.2.2.2.2.2.1
theorem dL_law_1376 : decode cL_law 1376 = .ok (.aload_n 3, 1) := dzL_71.2.2.2.2.2.2.1
theorem dL_law_1377 : decode cL_law 1377 = .ok (.iconst 0, 1) := dzL_71.2.2.2.2.2.2.2.1
theorem dL_law_1378 : decode cL_law 1378 = .ok (.laload, 1) := dzL_71.2.2.2.2.2.2.2.2.1
theorem dL_law_1379 : decode cL_law 1379 = .ok (.iload 7, 2) := dzL_71.2.2.2.2.2.2.2.2.2
theorem dzL_72 : (decode cL_law 1381 = .ok (.i2l, 1)) ∧ (decode cL_law 1382 = .ok (.lcmp, 1)) ∧ (decode cL_law 1383 = .ok (.ifCond .eq 5, 3)) ∧ (decode cL_law 1386 = .ok (.iconst 0, 1)) ∧ (decode cL_law 1387 = .ok (.ireturn, 1)) ∧ (decode cL_law 1388 = .ok (.goto 1364, 3)) ∧ (decode cL_law 1391 = .ok (.aload_n 1, 1)) ∧ (decode cL_law 1392 = .ok (.invokevirtual 227, 3)) ∧ (decode cL_law 1395 = .ok (.aload_n 2, 1)) ∧ (decode cL_law 1396 = .ok (.invokevirtual 230, 3)) := by decide +kernel
theorem dL_law_1381 : decode cL_law 1381 = .ok (.i2l, 1) := dzL_72.1
theorem dL_law_1382 : decode cL_law 1382 = .ok (.lcmp, 1) := dzL_72.2.1
theorem dL_law_1383 : decode cL_law 1383 = .ok (.ifCond .eq 5, 3) := dzL_72.2.2.1
theorem dL_law_1386 : decode cL_law 1386 = .ok (.iconst 0, 1) := dzL_72.2.2.2.1
theorem dL_law_1387 : decode cL_law 1387 = .ok (.ireturn, 1) := dzL_72.2.2.2.2.1
theorem dL_law_1388 : decode cL_law 1388 = .ok (.goto 1364, 3) := dzL_72.2.2.2.2.2.1
theorem dL_law_1391 : decode cL_law 1391 = .ok (.aload_n 1, 1) := dzL_72.2.2.2.2.2.2.1
theorem dL_law_1392 : decode cL_law 1392 = .ok (.invokevirtual 227, 3) := dzL_72.2.2.2.2.2.2.2.1
theorem dL_law_1395 : decode cL_law 1395 = .ok (.aload_n 2, 1) := dzL_72.2.2.2.2.2.2.2.2.1
theorem dL_law_1396 : decode cL_law 1396 = .ok (.invokevirtual 230, 3) := dzL_72.2.2.2.2.2.2.2.2.2
theorem dzL_73 : (decode cL_law 1399 = .ok (.if_icmp .eq 1353, 3)) ∧ (decode cL_law 1402 = .ok (.iconst 0, 1)) ∧ (decode cL_law 1403 = .ok (.ireturn, 1)) ∧ (decode cL_law 1404 = .ok (.aload_n 1, 1)) ∧ (decode cL_law 1405 = .ok (.aload_n 0, 1)) ∧ (decode cL_law 1406 = .ok (.iload 5, 2)) ∧ (decode cL_law 1408 = .ok (.iconst 1, 1)) ∧ (decode cL_law 1409 = .ok (.iadd, 1)) ∧ (decode cL_law 1410 = .ok (.iaload, 1)) ∧ (decode cL_law 1411 = .ok (.aload_n 3, 1)) := by decide +kernel
theorem dL_law_1399 : decode cL_law 1399 = .ok (.if_icmp .eq 1353, 3) := dzL_73.1
theorem dL_law_1402 : decode cL_law 1402 = .ok (.iconst 0, 1) := dzL_73.2.1
theorem dL_law_1403 : decode cL_law 1403 = .ok (.ireturn, 1) := dzL_73.2.2.1
theorem dL_law_1404 : decode cL_law 1404 = .ok (.aload_n 1, 1) := dzL_73.2.2.2.1
theorem dL_law_1405 : decode cL_law 1405 = .ok (.aload_n 0, 1) := dzL_73.2.2.2.2.1
theorem dL_law_1406 : decode cL_law 1406 = .ok (.iload 5, 2) := dzL_73.2.2.2.2.2.1
theorem dL_law_1408 : decode cL_law 1408 = .ok (.iconst 1, 1) := dzL_73.2.2.2.2.2.2.1
theorem dL_law_1409 : decode cL_law 1409 = .ok (.iadd, 1) := dzL_73.2.2.2.2.2.2.2.1
theorem dL_law_1410 : decode cL_law 1410 = .ok (.iaload, 1) := dzL_73.2.2.2.2.2.2.2.2.1
theorem dL_law_1411 : decode cL_law 1411 = .ok (.aload_n 3, 1) := dzL_73.2.2.2.2.2.2.2.2.2
theorem dzL_74 : (decode cL_law 1412 = .ok (.invokestatic 231, 3)) ∧ (decode cL_law 1415 = .ok (.istore 6, 2)) ∧ (decode cL_law 1417 = .ok (.aload_n 2, 1)) ∧ (decode cL_law 1418 = .ok (.aload_n 0, 1)) ∧ (decode cL_law 1419 = .ok (.iload 5, 2)) ∧ (decode cL_law 1421 = .ok (.iconst 1, 1)) ∧ (decode cL_law 1422 = .ok (.iadd, 1)) ∧ (decode cL_law 1423 = .ok (.iaload, 1)) ∧ (decode cL_law 1424 = .ok (.invokevirtual 233, 3)) ∧ (decode cL_law 1427 = .ok (.istore 7, 2)) := by decide +kernel
theorem dL_law_1412 : decode cL_law 1412 = .ok (.invokestatic 231, 3) := dzL_74.1
theorem dL_law_1415 : decode cL_law 1415 = .ok (.istore 6, 2) := dzL_74.2.1
theorem dL_law_1417 : decode cL_law 1417 = .ok (.aload_n 2, 1) := dzL_74.2.2.1
theorem dL_law_1418 : decode cL_law 1418 = .ok (.aload_n 0, 1) := dzL_74.2.2.2.1
theorem dL_law_1419 : decode cL_law 1419 = .ok (.iload 5, 2) := dzL_74.2.2.2.2.1
theorem dL_law_1421 : decode cL_law 1421 = .ok (.iconst 1, 1) := dzL_74.2.2.2.2.2.1
theorem dL_law_1422 : decode cL_law 1422 = .ok (.iadd, 1) := dzL_74.2.2.2.2.2.2.1
theorem dL_law_1423 : decode cL_law 1423 = .ok (.iaload, 1) := dzL_74.2.2.2.2.2.2.2.1
theorem dL_law_1424 : decode cL_law 1424 = .ok (.invokevirtual 233, 3) := dzL_74.2.2.2.2.2.2.2.2.1
theorem dL_law_1427 : decode cL_law 1427 = .ok (.istore 7, 2) := dzL_74.2.2.2.2.2.2.2.2.2
theorem dzL_75 : (decode cL_law 1429 = .ok (.aload_n 2, 1)) ∧ (decode cL_law 1430 = .ok (.invokevirtual 163, 3)) ∧ (decode cL_law 1433 = .ok (.iload 6, 2)) ∧ (decode cL_law 1435 = .ok (.if_icmp .eq 5, 3)) ∧ (decode cL_law 1438 = .ok (.iconst 0, 1)) ∧ (decode cL_law 1439 = .ok (.ireturn, 1)) ∧ (decode cL_law 1440 = .ok (.iload 6, 2)) ∧ (decode cL_law 1442 = .ok (.ifCond .ne 15, 3)) ∧ (decode cL_law 1445 = .ok (.aload_n 3, 1)) ∧ (decode cL_law 1446 = .ok (.iconst 0, 1)) := by decide +kernel
theorem dL_law_1429 : decode cL_law 1429 = .ok (.aload_n 2, 1) := dzL_75.1
theorem dL_law_1430 : decode cL_law 1430 = .ok (.invokevirtual 163, 3) := dzL_75.2.1
theorem dL_law_1433 : decode cL_law 1433 = .ok (.iload 6, 2) := dzL_75.2.2.1
theorem dL_law_1435 : decode cL_law 1435 = .ok (.if_icmp .eq 5, 3) := dzL_75.2.2.2.1
theorem dL_law_1438 : decode cL_law 1438 = .ok (.iconst 0, 1) := dzL_75.2.2.2.2.1
theorem dL_law_1439 : decode cL_law 1439 = .ok (.ireturn, 1) := dzL_75.2.2.2.2.2.1
theorem dL_law_1440 : decode cL_law 1440 = .ok (.iload 6, 2) := dzL_75.2.2.2.2.2.2.1
theorem dL_law_1442 : decode cL_law 1442 = .ok (.ifCond .ne 15, 3) := dzL_75.2.2.2.2.2.2.2.1
theorem dL_law_1445 : decode cL_law 1445 = .ok (.aload_n 3, 1) := dzL_75.2.2.2.2.2.2.2.2.1
theorem dL_law_1446 : decode cL_law 1446 = .ok (.iconst 0, 1) := dzL_75.2.2.2.2.2.2.2.2.2
theorem dzL_76 : (decode cL_law 1447 = .ok (.laload, 1)) ∧ (decode cL_law 1448 = .ok (.iload 7, 2)) ∧ (decode cL_law 1450 = .ok (.i2l, 1)) ∧ (decode cL_law 1451 = .ok (.lcmp, 1)) ∧ (decode cL_law 1452 = .ok (.ifCond .eq 5, 3)) ∧ (decode cL_law 1455 = .ok (.iconst 0, 1)) ∧ (decode cL_law 1456 = .ok (.ireturn, 1)) ∧ (decode cL_law 1457 = .ok (.goto 1295, 3)) ∧ (decode cL_law 1460 = .ok (.aload_n 1, 1)) ∧ (decode cL_law 1461 = .ok (.aload_n 0, 1)) := by decide +kernel
theorem dL_law_1447 : decode cL_law 1447 = .ok (.laload, 1) := dzL_76.1
theorem dL_law_1448 : decode cL_law 1448 = .ok (.iload 7, 2) := dzL_76.2.1
theorem dL_law_1450 : decode cL_law 1450 = .ok (.i2l, 1) := dzL_76.2.2.1
theorem dL_law_1451 : decode cL_law 1451 = .ok (.lcmp, 1) := dzL_76.2.2.2.1
theorem dL_law_1452 : decode cL_law 1452 = .ok (.ifCond .eq 5, 3) := dzL_76.2.2.2.2.1
theorem dL_law_1455 : decode cL_law 1455 = .ok (.iconst 0, 1) := dzL_76.2.2.2.2.2.1
theorem dL_law_1456 : decode cL_law 1456 = .ok (.ireturn, 1) := dzL_76.2.2.2.2.2.2.1
theorem dL_law_1457 : decode cL_law 1457 = .ok (.goto 1295, 3) := dzL_76.2.2.2.2.2.2.2.1
theorem dL_law_1460 : decode cL_law 1460 = .ok (.aload_n 1, 1) := dzL_76.2.2.2.2.2.2.2.2.1
theorem dL_law_1461 : decode cL_law 1461 = .ok (.aload_n 0, 1) := dzL_76.2.2.2.2.2.2.2.2.2
theorem dzL_77 : (decode cL_law 1462 = .ok (.iload 5, 2)) ∧ (decode cL_law 1464 = .ok (.iconst 1, 1)) ∧ (decode cL_law 1465 = .ok (.iadd, 1)) ∧ (decode cL_law 1466 = .ok (.iaload, 1)) ∧ (decode cL_law 1467 = .ok (.aload_n 3, 1)) ∧ (decode cL_law 1468 = .ok (.invokestatic 234, 3)) ∧ (decode cL_law 1471 = .ok (.istore 6, 2)) ∧ (decode cL_law 1473 = .ok (.aload_n 2, 1)) ∧ (decode cL_law 1474 = .ok (.aload_n 0, 1)) ∧ (decode cL_law 1475 = .ok (.iload 5, 2)) := by decide +kernel
theorem dL_law_1462 : decode cL_law 1462 = .ok (.iload 5, 2) := dzL_77.1
theorem dL_law_1464 : decode cL_law 1464 = .ok (.iconst 1, 1) := dzL_77.2.1
theorem dL_law_1465 : decode cL_law 1465 = .ok (.iadd, 1) := dzL_77.2.2.1
theorem dL_law_1466 : decode cL_law 1466 = .ok (.iaload, 1) := dzL_77.2.2.2.1
theorem dL_law_1467 : decode cL_law 1467 = .ok (.aload_n 3, 1) := dzL_77.2.2.2.2.1
theorem dL_law_1468 : decode cL_law 1468 = .ok (.invokestatic 234, 3) := dzL_77.2.2.2.2.2.1
theorem dL_law_1471 : decode cL_law 1471 = .ok (.istore 6, 2) := dzL_77.2.2.2.2.2.2.1
theorem dL_law_1473 : decode cL_law 1473 = .ok (.aload_n 2, 1) := dzL_77.2.2.2.2.2.2.2.1
theorem dL_law_1474 : decode cL_law 1474 = .ok (.aload_n 0, 1) := dzL_77.2.2.2.2.2.2.2.2.1
theorem dL_law_1475 : decode cL_law 1475 = .ok (.iload 5, 2) := dzL_77.2.2.2.2.2.2.2.2.2
theorem dzL_78 : (decode cL_law 1477 = .ok (.iconst 1, 1)) ∧ (decode cL_law 1478 = .ok (.iadd, 1)) ∧ (decode cL_law 1479 = .ok (.iaload, 1)) ∧ (decode cL_law 1480 = .ok (.invokevirtual 236, 3)) ∧ (decode cL_law 1483 = .ok (.istore 7, 2)) ∧ (decode cL_law 1485 = .ok (.aload_n 2, 1)) ∧ (decode cL_law 1486 = .ok (.invokevirtual 163, 3)) ∧ (decode cL_law 1489 = .ok (.iload 6, 2)) ∧ (decode cL_law 1491 = .ok (.if_icmp .eq 5, 3)) ∧ (decode cL_law 1494 = .ok (.iconst 0, 1)) := by decide +kernel
theorem dL_law_1477 : decode cL_law 1477 = .ok (.iconst 1, 1) := dzL_78.1
theorem dL_law_1478 : decode cL_law 1478 = .ok (.iadd, 1) := dzL_78.2.1
theorem dL_law_1479 : decode cL_law 1479 = .ok (.iaload, 1) := dzL_78.2.2.1
theorem dL_law_1480 : decode cL_law 1480 = .ok (.invokevirtual 236, 3) := dzL_78.2.2.2.1
theorem dL_law_1483 : decode cL_law 1483 = .ok (.istore 7, 2) := dzL_78.2.2.2.2.1
theorem dL_law_1485 : decode cL_law 1485 = .ok (.aload_n 2, 1) := dzL_78.2.2.2.2.2.1
theorem dL_law_1486 : decode cL_law 1486 = .ok (.invokevirtual 163, 3) := dzL_78.2.2.2.2.2.2.1
theorem dL_law_1489 : decode cL_law 1489 = .ok (.iload 6, 2) := dzL_78.2.2.2.2.2.2.2.1
theorem dL_law_1491 : decode cL_law 1491 = .ok (.if_icmp .eq 5, 3) := dzL_78.2.2.2.2.2.2.2.2.1
theorem dL_law_1494 : decode cL_law 1494 = .ok (.iconst 0, 1) := dzL_78.2.2.2.2.2.2.2.2.2
theorem dzL_79 : (decode cL_law 1495 = .ok (.ireturn, 1)) ∧ (decode cL_law 1496 = .ok (.iload 6, 2)) ∧ (decode cL_law 1498 = .ok (.ifCond .ne 15, 3)) ∧ (decode cL_law 1501 = .ok (.aload_n 3, 1)) ∧ (decode cL_law 1502 = .ok (.iconst 0, 1)) ∧ (decode cL_law 1503 = .ok (.laload, 1)) ∧ (decode cL_law 1504 = .ok (.iload 7, 2)) ∧ (decode cL_law 1506 = .ok (.i2l, 1)) ∧ (decode cL_law 1507 = .ok (.lcmp, 1)) ∧ (decode cL_law 1508 = .ok (.ifCond .eq 5, 3)) := by decide +kernel
theorem dL_law_1495 : decode cL_law 1495 = .ok (.ireturn, 1) := dzL_79.1
theorem dL_law_1496 : decode cL_law 1496 = .ok (.iload 6, 2) := dzL_79.2.1
theorem dL_law_1498 : decode cL_law 1498 = .ok (.ifCond .ne 15, 3) := dzL_79.2.2.1
theorem dL_law_1501 : decode cL_law 1501 = .ok (.aload_n 3, 1) := dzL_79.2.2.2.1
theorem dL_law_1502 : decode cL_law 1502 = .ok (.iconst 0, 1) := dzL_79.2.2.2.2.1
theorem dL_law_1503 : decode cL_law 1503 = .ok (.laload, 1) := dzL_79.2.2.2.2.2.1
theorem dL_law_1504 : decode cL_law 1504 = .ok (.iload 7, 2) := dzL_79.2.2.2.2.2.2.1
theorem dL_law_1506 : decode cL_law 1506 = .ok (.i2l, 1) := dzL_79.2.2.2.2.2.2.2.1
theorem dL_law_1507 : decode cL_law 1507 = .ok (.lcmp, 1) := dzL_79.2.2.2.2.2.2.2.2.1
theorem dL_law_1508 : decode cL_law 1508 = .ok (.ifCond .eq 5, 3) := dzL_79.2.2.2.2.2.2.2.2.2
theorem dzL_80 : (decode cL_law 1511 = .ok (.iconst 0, 1)) ∧ (decode cL_law 1512 = .ok (.ireturn, 1)) ∧ (decode cL_law 1513 = .ok (.goto 1239, 3)) ∧ (decode cL_law 1516 = .ok (.aload_n 1, 1)) ∧ (decode cL_law 1517 = .ok (.aload_n 0, 1)) ∧ (decode cL_law 1518 = .ok (.iload 5, 2)) ∧ (decode cL_law 1520 = .ok (.iconst 1, 1)) ∧ (decode cL_law 1521 = .ok (.iadd, 1)) ∧ (decode cL_law 1522 = .ok (.iaload, 1)) ∧ (decode cL_law 1523 = .ok (.aload_n 3, 1)) := by decide +kernel
theorem dL_law_1511 : decode cL_law 1511 = .ok (.iconst 0, 1) := dzL_80.1
theorem dL_law_1512 : decode cL_law 1512 = .ok (.ireturn, 1) := dzL_80.2.1
theorem dL_law_1513 : decode cL_law 1513 = .ok (.goto 1239, 3) := dzL_80.2.2.1
theorem dL_law_1516 : decode cL_law 1516 = .ok (.aload_n 1, 1) := dzL_80.2.2.2.1
theorem dL_law_1517 : decode cL_law 1517 = .ok (.aload_n 0, 1) := dzL_80.2.2.2.2.1
theorem dL_law_1518 : decode cL_law 1518 = .ok (.iload 5, 2) := dzL_80.2.2.2.2.2.1
theorem dL_law_1520 : decode cL_law 1520 = .ok (.iconst 1, 1) := dzL_80.2.2.2.2.2.2.1
theorem dL_law_1521 : decode cL_law 1521 = .ok (.iadd, 1) := dzL_80.2.2.2.2.2.2.2.1
theorem dL_law_1522 : decode cL_law 1522 = .ok (.iaload, 1) := dzL_80.2.2.2.2.2.2.2.2.1
theorem dL_law_1523 : decode cL_law 1523 = .ok (.aload_n 3, 1) := dzL_80.2.2.2.2.2.2.2.2.2
theorem dzL_81 : (decode cL_law 1524 = .ok (.invokestatic 237, 3)) ∧ (decode cL_law 1527 = .ok (.istore 6, 2)) ∧ (decode cL_law 1529 = .ok (.aload_n 2, 1)) ∧ (decode cL_law 1530 = .ok (.aload_n 0, 1)) ∧ (decode cL_law 1531 = .ok (.iload 5, 2)) ∧ (decode cL_law 1533 = .ok (.iconst 1, 1)) ∧ (decode cL_law 1534 = .ok (.iadd, 1)) ∧ (decode cL_law 1535 = .ok (.iaload, 1)) ∧ (decode cL_law 1536 = .ok (.invokevirtual 239, 3)) ∧ (decode cL_law 1539 = .ok (.istore 7, 2)) := by decide +kernel
theorem dL_law_1524 : decode cL_law 1524 = .ok (.invokestatic 237, 3) := dzL_81.1
theorem dL_law_1527 : decode cL_law 1527 = .ok (.istore 6, 2) := dzL_81.2.1
theorem dL_law_1529 : decode cL_law 1529 = .ok (.aload_n 2, 1) := dzL_81.2.2.1
theorem dL_law_1530 : decode cL_law 1530 = .ok (.aload_n 0, 1) := dzL_81.2.2.2.1
theorem dL_law_1531 : decode cL_law 1531 = .ok (.iload 5, 2) := dzL_81.2.2.2.2.1
theorem dL_law_1533 : decode cL_law 1533 = .ok (.iconst 1, 1) := dzL_81.2.2.2.2.2.1
theorem dL_law_1534 : decode cL_law 1534 = .ok (.iadd, 1) := dzL_81.2.2.2.2.2.2.1
theorem dL_law_1535 : decode cL_law 1535 = .ok (.iaload, 1) := dzL_81.2.2.2.2.2.2.2.1
theorem dL_law_1536 : decode cL_law 1536 = .ok (.invokevirtual 239, 3) := dzL_81.2.2.2.2.2.2.2.2.1
theorem dL_law_1539 : decode cL_law 1539 = .ok (.istore 7, 2) := dzL_81.2.2.2.2.2.2.2.2.2
theorem dzL_82 : (decode cL_law 1541 = .ok (.aload_n 2, 1)) ∧ (decode cL_law 1542 = .ok (.invokevirtual 163, 3)) ∧ (decode cL_law 1545 = .ok (.iload 6, 2)) ∧ (decode cL_law 1547 = .ok (.if_icmp .eq 5, 3)) ∧ (decode cL_law 1550 = .ok (.iconst 0, 1)) ∧ (decode cL_law 1551 = .ok (.ireturn, 1)) ∧ (decode cL_law 1552 = .ok (.iload 6, 2)) ∧ (decode cL_law 1554 = .ok (.ifCond .ne 15, 3)) ∧ (decode cL_law 1557 = .ok (.aload_n 3, 1)) ∧ (decode cL_law 1558 = .ok (.iconst 0, 1)) := by decide +kernel
theorem dL_law_1541 : decode cL_law 1541 = .ok (.aload_n 2, 1) := dzL_82.1
theorem dL_law_1542 : decode cL_law 1542 = .ok (.invokevirtual 163, 3) := dzL_82.2.1
theorem dL_law_1545 : decode cL_law 1545 = .ok (.iload 6, 2) := dzL_82.2.2.1
theorem dL_law_1547 : decode cL_law 1547 = .ok (.if_icmp .eq 5, 3) := dzL_82.2.2.2.1
theorem dL_law_1550 : decode cL_law 1550 = .ok (.iconst 0, 1) := dzL_82.2.2.2.2.1
theorem dL_law_1551 : decode cL_law 1551 = .ok (.ireturn, 1) := dzL_82.2.2.2.2.2.1
theorem dL_law_1552 : decode cL_law 1552 = .ok (.iload 6, 2) := dzL_82.2.2.2.2.2.2.1
theorem dL_law_1554 : decode cL_law 1554 = .ok (.ifCond .ne 15, 3) := dzL_82.2.2.2.2.2.2.2.1
theorem dL_law_1557 : decode cL_law 1557 = .ok (.aload_n 3, 1) := dzL_82.2.2.2.2.2.2.2.2.1
theorem dL_law_1558 : decode cL_law 1558 = .ok (.iconst 0, 1) := dzL_82.2.2.2.2.2.2.2.2.2
theorem dzL_83 : (decode cL_law 1559 = .ok (.laload, 1)) ∧ (decode cL_law 1560 = .ok (.iload 7, 2)) ∧ (decode cL_law 1562 = .ok (.i2l, 1)) ∧ (decode cL_law 1563 = .ok (.lcmp, 1)) ∧ (decode cL_law 1564 = .ok (.ifCond .eq 5, 3)) ∧ (decode cL_law 1567 = .ok (.iconst 0, 1)) ∧ (decode cL_law 1568 = .ok (.ireturn, 1)) ∧ (decode cL_law 1569 = .ok (.goto 1183, 3)) ∧ (decode cL_law 1572 = .ok (.aload_n 1, 1)) ∧ (decode cL_law 1573 = .ok (.aload_n 0, 1)) := by decide +kernel
theorem dL_law_1559 : decode cL_law 1559 = .ok (.laload, 1) := dzL_83.1
theorem dL_law_1560 : decode cL_law 1560 = .ok (.iload 7, 2) := dzL_83.2.1
theorem dL_law_1562 : decode cL_law 1562 = .ok (.i2l, 1) := dzL_83.2.2.1
theorem dL_law_1563 : decode cL_law 1563 = .ok (.lcmp, 1) := dzL_83.2.2.2.1
theorem dL_law_1564 : decode cL_law 1564 = .ok (.ifCond .eq 5, 3) := dzL_83.2.2.2.2.1
theorem dL_law_1567 : decode cL_law 1567 = .ok (.iconst 0, 1) := dzL_83.2.2.2.2.2.1
theorem dL_law_1568 : decode cL_law 1568 = .ok (.ireturn, 1) := dzL_83.2.2.2.2.2.2.1
theorem dL_law_1569 : decode cL_law 1569 = .ok (.goto 1183, 3) := dzL_83.2.2.2.2.2.2.2.1
theorem dL_law_1572 : decode cL_law 1572 = .ok (.aload_n 1, 1) := dzL_83.2.2.2.2.2.2.2.2.1
theorem dL_law_1573 : decode cL_law 1573 = .ok (.aload_n 0, 1) := dzL_83.2.2.2.2.2.2.2.2.2
theorem dzL_84 : (decode cL_law 1574 = .ok (.iload 5, 2)) ∧ (decode cL_law 1576 = .ok (.iconst 1, 1)) ∧ (decode cL_law 1577 = .ok (.iadd, 1)) ∧ (decode cL_law 1578 = .ok (.iaload, 1)) ∧ (decode cL_law 1579 = .ok (.aload_n 3, 1)) ∧ (decode cL_law 1580 = .ok (.invokestatic 240, 3)) ∧ (decode cL_law 1583 = .ok (.istore 6, 2)) ∧ (decode cL_law 1585 = .ok (.aload_n 2, 1)) ∧ (decode cL_law 1586 = .ok (.aload_n 0, 1)) ∧ (decode cL_law 1587 = .ok (.iload 5, 2)) := by decide +kernel
theorem dL_law_1574 : decode cL_law 1574 = .ok (.iload 5, 2) := dzL_84.1
theorem dL_law_1576 : decode cL_law 1576 = .ok (.iconst 1, 1) := dzL_84.2.1
theorem dL_law_1577 : decode cL_law 1577 = .ok (.iadd, 1) := dzL_84.2.2.1
theorem dL_law_1578 : decode cL_law 1578 = .ok (.iaload, 1) := dzL_84.2.2.2.1
theorem dL_law_1579 : decode cL_law 1579 = .ok (.aload_n 3, 1) := dzL_84.2.2.2.2.1
theorem dL_law_1580 : decode cL_law 1580 = .ok (.invokestatic 240, 3) := dzL_84.2.2.2.2.2.1
theorem dL_law_1583 : decode cL_law 1583 = .ok (.istore 6, 2) := dzL_84.2.2.2.2.2.2.1
theorem dL_law_1585 : decode cL_law 1585 = .ok (.aload_n 2, 1) := dzL_84.2.2.2.2.2.2.2.1
theorem dL_law_1586 : decode cL_law 1586 = .ok (.aload_n 0, 1) := dzL_84.2.2.2.2.2.2.2.2.1
theorem dL_law_1587 : decode cL_law 1587 = .ok (.iload 5, 2) := dzL_84.2.2.2.2.2.2.2.2.2
theorem dzL_85 : (decode cL_law 1589 = .ok (.iconst 1, 1)) ∧ (decode cL_law 1590 = .ok (.iadd, 1)) ∧ (decode cL_law 1591 = .ok (.iaload, 1)) ∧ (decode cL_law 1592 = .ok (.invokevirtual 242, 3)) ∧ (decode cL_law 1595 = .ok (.istore 7, 2)) ∧ (decode cL_law 1597 = .ok (.aload_n 2, 1)) ∧ (decode cL_law 1598 = .ok (.invokevirtual 163, 3)) ∧ (decode cL_law 1601 = .ok (.iload 6, 2)) ∧ (decode cL_law 1603 = .ok (.if_icmp .eq 5, 3)) ∧ (decode cL_law 1606 = .ok (.iconst 0, 1)) := by decide +kernel
theorem dL_law_1589 : decode cL_law 1589 = .ok (.iconst 1, 1) := dzL_85.1
theorem dL_law_1590 : decode cL_law 1590 = .ok (.iadd, 1) := dzL_85.2.1
theorem dL_law_1591 : decode cL_law 1591 = .ok (.iaload, 1) := dzL_85.2.2.1
theorem dL_law_1592 : decode cL_law 1592 = .ok (.invokevirtual 242, 3) := dzL_85.2.2.2.1
theorem dL_law_1595 : decode cL_law 1595 = .ok (.istore 7, 2) := dzL_85.2.2.2.2.1
theorem dL_law_1597 : decode cL_law 1597 = .ok (.aload_n 2, 1) := dzL_85.2.2.2.2.2.1
theorem dL_law_1598 : decode cL_law 1598 = .ok (.invokevirtual 163, 3) := dzL_85.2.2.2.2.2.2.1
theorem dL_law_1601 : decode cL_law 1601 = .ok (.iload 6, 2) := dzL_85.2.2.2.2.2.2.2.1
theorem dL_law_1603 : decode cL_law 1603 = .ok (.if_icmp .eq 5, 3) := dzL_85.2.2.2.2.2.2.2.2.1
theorem dL_law_1606 : decode cL_law 1606 = .ok (.iconst 0, 1) := dzL_85.2.2.2.2.2.2.2.2.2
theorem dzL_86 : (decode cL_law 1607 = .ok (.ireturn, 1)) ∧ (decode cL_law 1608 = .ok (.iload 6, 2)) ∧ (decode cL_law 1610 = .ok (.ifCond .ne 15, 3)) ∧ (decode cL_law 1613 = .ok (.aload_n 3, 1)) ∧ (decode cL_law 1614 = .ok (.iconst 0, 1)) ∧ (decode cL_law 1615 = .ok (.laload, 1)) ∧ (decode cL_law 1616 = .ok (.iload 7, 2)) ∧ (decode cL_law 1618 = .ok (.i2l, 1)) ∧ (decode cL_law 1619 = .ok (.lcmp, 1)) ∧ (decode cL_law 1620 = .ok (.ifCond .eq 5, 3)) := by decide +kernel
theorem dL_law_1607 : decode cL_law 1607 = .ok (.ireturn, 1) := dzL_86.1
theorem dL_law_1608 : decode cL_law 1608 = .ok (.iload 6, 2) := dzL_86.2.1
theorem dL_law_1610 : decode cL_law 1610 = .ok (.ifCond .ne 15, 3) := dzL_86.2.2.1
theorem dL_law_1613 : decode cL_law 1613 = .ok (.aload_n 3, 1) := dzL_86.2.2.2.1
theorem dL_law_1614 : decode cL_law 1614 = .ok (.iconst 0, 1) := dzL_86.2.2.2.2.1
theorem dL_law_1615 : decode cL_law 1615 = .ok (.laload, 1) := dzL_86.2.2.2.2.2.1
theorem dL_law_1616 : decode cL_law 1616 = .ok (.iload 7, 2) := dzL_86.2.2.2.2.2.2.1
theorem dL_law_1618 : decode cL_law 1618 = .ok (.i2l, 1) := dzL_86.2.2.2.2.2.2.2.1
theorem dL_law_1619 : decode cL_law 1619 = .ok (.lcmp, 1) := dzL_86.2.2.2.2.2.2.2.2.1
theorem dL_law_1620 : decode cL_law 1620 = .ok (.ifCond .eq 5, 3) := dzL_86.2.2.2.2.2.2.2.2.2
theorem dzL_87 : (decode cL_law 1623 = .ok (.iconst 0, 1)) ∧ (decode cL_law 1624 = .ok (.ireturn, 1)) ∧ (decode cL_law 1625 = .ok (.goto 1127, 3)) ∧ (decode cL_law 1628 = .ok (.aload_n 1, 1)) ∧ (decode cL_law 1629 = .ok (.aload_n 0, 1)) ∧ (decode cL_law 1630 = .ok (.iload 5, 2)) ∧ (decode cL_law 1632 = .ok (.iconst 1, 1)) ∧ (decode cL_law 1633 = .ok (.iadd, 1)) ∧ (decode cL_law 1634 = .ok (.iaload, 1)) ∧ (decode cL_law 1635 = .ok (.aload_n 3, 1)) := by decide +kernel
theorem dL_law_1623 : decode cL_law 1623 = .ok (.iconst 0, 1) := dzL_87.1
theorem dL_law_1624 : decode cL_law 1624 = .ok (.ireturn, 1) := dzL_87.2.1
theorem dL_law_1625 : decode cL_law 1625 = .ok (.goto 1127, 3) := dzL_87.2.2.1
theorem dL_law_1628 : decode cL_law 1628 = .ok (.aload_n 1, 1) := dzL_87.2.2.2.1
theorem dL_law_1629 : decode cL_law 1629 = .ok (.aload_n 0, 1) := dzL_87.2.2.2.2.1
theorem dL_law_1630 : decode cL_law 1630 = .ok (.iload 5, 2) := dzL_87.2.2.2.2.2.1
theorem dL_law_1632 : decode cL_law 1632 = .ok (.iconst 1, 1) := dzL_87.2.2.2.2.2.2.1
theorem dL_law_1633 : decode cL_law 1633 = .ok (.iadd, 1) := dzL_87.2.2.2.2.2.2.2.1
theorem dL_law_1634 : decode cL_law 1634 = .ok (.iaload, 1) := dzL_87.2.2.2.2.2.2.2.2.1
theorem dL_law_1635 : decode cL_law 1635 = .ok (.aload_n 3, 1) := dzL_87.2.2.2.2.2.2.2.2.2
theorem dzL_88 : (decode cL_law 1636 = .ok (.invokestatic 243, 3)) ∧ (decode cL_law 1639 = .ok (.istore 6, 2)) ∧ (decode cL_law 1641 = .ok (.aload_n 2, 1)) ∧ (decode cL_law 1642 = .ok (.aload_n 0, 1)) ∧ (decode cL_law 1643 = .ok (.iload 5, 2)) ∧ (decode cL_law 1645 = .ok (.iconst 1, 1)) ∧ (decode cL_law 1646 = .ok (.iadd, 1)) ∧ (decode cL_law 1647 = .ok (.iaload, 1)) ∧ (decode cL_law 1648 = .ok (.invokevirtual 245, 3)) ∧ (decode cL_law 1651 = .ok (.istore 7, 2)) := by decide +kernel
theorem dL_law_1636 : decode cL_law 1636 = .ok (.invokestatic 243, 3) := dzL_88.1
theorem dL_law_1639 : decode cL_law 1639 = .ok (.istore 6, 2) := dzL_88.2.1
theorem dL_law_1641 : decode cL_law 1641 = .ok (.aload_n 2, 1) := dzL_88.2.2.1
theorem dL_law_1642 : decode cL_law 1642 = .ok (.aload_n 0, 1) := dzL_88.2.2.2.1
theorem dL_law_1643 : decode cL_law 1643 = .ok (.iload 5, 2) := dzL_88.2.2.2.2.1
theorem dL_law_1645 : decode cL_law 1645 = .ok (.iconst 1, 1) := dzL_88.2.2.2.2.2.1
theorem dL_law_1646 : decode cL_law 1646 = .ok (.iadd, 1) := dzL_88.2.2.2.2.2.2.1
theorem dL_law_1647 : decode cL_law 1647 = .ok (.iaload, 1) := dzL_88.2.2.2.2.2.2.2.1
theorem dL_law_1648 : decode cL_law 1648 = .ok (.invokevirtual 245, 3) := dzL_88.2.2.2.2.2.2.2.2.1
theorem dL_law_1651 : decode cL_law 1651 = .ok (.istore 7, 2) := dzL_88.2.2.2.2.2.2.2.2.2
theorem dzL_89 : (decode cL_law 1653 = .ok (.aload_n 2, 1)) ∧ (decode cL_law 1654 = .ok (.invokevirtual 163, 3)) ∧ (decode cL_law 1657 = .ok (.iload 6, 2)) ∧ (decode cL_law 1659 = .ok (.if_icmp .eq 5, 3)) ∧ (decode cL_law 1662 = .ok (.iconst 0, 1)) ∧ (decode cL_law 1663 = .ok (.ireturn, 1)) ∧ (decode cL_law 1664 = .ok (.iload 6, 2)) ∧ (decode cL_law 1666 = .ok (.ifCond .ne 15, 3)) ∧ (decode cL_law 1669 = .ok (.aload_n 3, 1)) ∧ (decode cL_law 1670 = .ok (.iconst 0, 1)) := by decide +kernel
theorem dL_law_1653 : decode cL_law 1653 = .ok (.aload_n 2, 1) := dzL_89.1
theorem dL_law_1654 : decode cL_law 1654 = .ok (.invokevirtual 163, 3) := dzL_89.2.1
theorem dL_law_1657 : decode cL_law 1657 = .ok (.iload 6, 2) := dzL_89.2.2.1
theorem dL_law_1659 : decode cL_law 1659 = .ok (.if_icmp .eq 5, 3) := dzL_89.2.2.2.1
theorem dL_law_1662 : decode cL_law 1662 = .ok (.iconst 0, 1) := dzL_89.2.2.2.2.1
theorem dL_law_1663 : decode cL_law 1663 = .ok (.ireturn, 1) := dzL_89.2.2.2.2.2.1
theorem dL_law_1664 : decode cL_law 1664 = .ok (.iload 6, 2) := dzL_89.2.2.2.2.2.2.1
theorem dL_law_1666 : decode cL_law 1666 = .ok (.ifCond .ne 15, 3) := dzL_89.2.2.2.2.2.2.2.1
theorem dL_law_1669 : decode cL_law 1669 = .ok (.aload_n 3, 1) := dzL_89.2.2.2.2.2.2.2.2.1
theorem dL_law_1670 : decode cL_law 1670 = .ok (.iconst 0, 1) := dzL_89.2.2.2.2.2.2.2.2.2
theorem dzL_90 : (decode cL_law 1671 = .ok (.laload, 1)) ∧ (decode cL_law 1672 = .ok (.iload 7, 2)) ∧ (decode cL_law 1674 = .ok (.i2l, 1)) ∧ (decode cL_law 1675 = .ok (.lcmp, 1)) ∧ (decode cL_law 1676 = .ok (.ifCond .eq 5, 3)) ∧ (decode cL_law 1679 = .ok (.iconst 0, 1)) ∧ (decode cL_law 1680 = .ok (.ireturn, 1)) ∧ (decode cL_law 1681 = .ok (.goto 1071, 3)) ∧ (decode cL_law 1684 = .ok (.aload_n 1, 1)) ∧ (decode cL_law 1685 = .ok (.aload_n 0, 1)) := by decide +kernel
theorem dL_law_1671 : decode cL_law 1671 = .ok (.laload, 1) := dzL_90.1
theorem dL_law_1672 : decode cL_law 1672 = .ok (.iload 7, 2) := dzL_90.2.1
theorem dL_law_1674 : decode cL_law 1674 = .ok (.i2l, 1) := dzL_90.2.2.1
theorem dL_law_1675 : decode cL_law 1675 = .ok (.lcmp, 1) := dzL_90.2.2.2.1
theorem dL_law_1676 : decode cL_law 1676 = .ok (.ifCond .eq 5, 3) := dzL_90.2.2.2.2.1
theorem dL_law_1679 : decode cL_law 1679 = .ok (.iconst 0, 1) := dzL_90.2.2.2.2.2.1
theorem dL_law_1680 : decode cL_law 1680 = .ok (.ireturn, 1) := dzL_90.2.2.2.2.2.2.1
theorem dL_law_1681 : decode cL_law 1681 = .ok (.goto 1071, 3) := dzL_90.2.2.2.2.2.2.2.1
theorem dL_law_1684 : decode cL_law 1684 = .ok (.aload_n 1, 1) := dzL_90.2.2.2.2.2.2.2.2.1
theorem dL_law_1685 : decode cL_law 1685 = .ok (.aload_n 0, 1) := dzL_90.2.2.2.2.2.2.2.2.2
theorem dzL_91 : (decode cL_law 1686 = .ok (.iload 5, 2)) ∧ (decode cL_law 1688 = .ok (.iconst 1, 1)) ∧ (decode cL_law 1689 = .ok (.iadd, 1)) ∧ (decode cL_law 1690 = .ok (.iaload, 1)) ∧ (decode cL_law 1691 = .ok (.aload_n 3, 1)) ∧ (decode cL_law 1692 = .ok (.invokestatic 246, 3)) ∧ (decode cL_law 1695 = .ok (.istore 6, 2)) ∧ (decode cL_law 1697 = .ok (.aload_n 2, 1)) ∧ (decode cL_law 1698 = .ok (.aload_n 0, 1)) ∧ (decode cL_law 1699 = .ok (.iload 5, 2)) := by decide +kernel
theorem dL_law_1686 : decode cL_law 1686 = .ok (.iload 5, 2) := dzL_91.1
theorem dL_law_1688 : decode cL_law 1688 = .ok (.iconst 1, 1) := dzL_91.2.1
theorem dL_law_1689 : decode cL_law 1689 = .ok (.iadd, 1) := dzL_91.2.2.1
theorem dL_law_1690 : decode cL_law 1690 = .ok (.iaload, 1) := dzL_91.2.2.2.1
theorem dL_law_1691 : decode cL_law 1691 = .ok (.aload_n 3, 1) := dzL_91.2.2.2.2.1
theorem dL_law_1692 : decode cL_law 1692 = .ok (.invokestatic 246, 3) := dzL_91.2.2.2.2.2.1
theorem dL_law_1695 : decode cL_law 1695 = .ok (.istore 6, 2) := dzL_91.2.2.2.2.2.2.1
theorem dL_law_1697 : decode cL_law 1697 = .ok (.aload_n 2, 1) := dzL_91.2.2.2.2.2.2.2.1
theorem dL_law_1698 : decode cL_law 1698 = .ok (.aload_n 0, 1) := dzL_91.2.2.2.2.2.2.2.2.1
theorem dL_law_1699 : decode cL_law 1699 = .ok (.iload 5, 2) := dzL_91.2.2.2.2.2.2.2.2.2
theorem dzL_92 : (decode cL_law 1701 = .ok (.iconst 1, 1)) ∧ (decode cL_law 1702 = .ok (.iadd, 1)) ∧ (decode cL_law 1703 = .ok (.iaload, 1)) ∧ (decode cL_law 1704 = .ok (.invokevirtual 248, 3)) ∧ (decode cL_law 1707 = .ok (.istore 7, 2)) ∧ (decode cL_law 1709 = .ok (.aload_n 2, 1)) ∧ (decode cL_law 1710 = .ok (.invokevirtual 163, 3)) ∧ (decode cL_law 1713 = .ok (.iload 6, 2)) ∧ (decode cL_law 1715 = .ok (.if_icmp .eq 5, 3)) ∧ (decode cL_law 1718 = .ok (.iconst 0, 1)) := by decide +kernel
theorem dL_law_1701 : decode cL_law 1701 = .ok (.iconst 1, 1) := dzL_92.1
theorem dL_law_1702 : decode cL_law 1702 = .ok (.iadd, 1) := dzL_92.2.1
theorem dL_law_1703 : decode cL_law 1703 = .ok (.iaload, 1) := dzL_92.2.2.1
theorem dL_law_1704 : decode cL_law 1704 = .ok (.invokevirtual 248, 3) := dzL_92.2.2.2.1
theorem dL_law_1707 : decode cL_law 1707 = .ok (.istore 7, 2) := dzL_92.2.2.2.2.1
theorem dL_law_1709 : decode cL_law 1709 = .ok (.aload_n 2, 1) := dzL_92.2.2.2.2.2.1
theorem dL_law_1710 : decode cL_law 1710 = .ok (.invokevirtual 163, 3) := dzL_92.2.2.2.2.2.2.1
theorem dL_law_1713 : decode cL_law 1713 = .ok (.iload 6, 2) := dzL_92.2.2.2.2.2.2.2.1
theorem dL_law_1715 : decode cL_law 1715 = .ok (.if_icmp .eq 5, 3) := dzL_92.2.2.2.2.2.2.2.2.1
theorem dL_law_1718 : decode cL_law 1718 = .ok (.iconst 0, 1) := dzL_92.2.2.2.2.2.2.2.2.2
theorem dzL_93 : (decode cL_law 1719 = .ok (.ireturn, 1)) ∧ (decode cL_law 1720 = .ok (.iload 6, 2)) ∧ (decode cL_law 1722 = .ok (.ifCond .ne 15, 3)) ∧ (decode cL_law 1725 = .ok (.aload_n 3, 1)) ∧ (decode cL_law 1726 = .ok (.iconst 0, 1)) ∧ (decode cL_law 1727 = .ok (.laload, 1)) ∧ (decode cL_law 1728 = .ok (.iload 7, 2)) ∧ (decode cL_law 1730 = .ok (.i2l, 1)) ∧ (decode cL_law 1731 = .ok (.lcmp, 1)) ∧ (decode cL_law 1732 = .ok (.ifCond .eq 5, 3)) := by decide +kernel
theorem dL_law_1719 : decode cL_law 1719 = .ok (.ireturn, 1) := dzL_93.1
theorem dL_law_1720 : decode cL_law 1720 = .ok (.iload 6, 2) := dzL_93.2.1
theorem dL_law_1722 : decode cL_law 1722 = .ok (.ifCond .ne 15, 3) := dzL_93.2.2.1
theorem dL_law_1725 : decode cL_law 1725 = .ok (.aload_n 3, 1) := dzL_93.2.2.2.1
theorem dL_law_1726 : decode cL_law 1726 = .ok (.iconst 0, 1) := dzL_93.2.2.2.2.1
theorem dL_law_1727 : decode cL_law 1727 = .ok (.laload, 1) := dzL_93.2.2.2.2.2.1
theorem dL_law_1728 : decode cL_law 1728 = .ok (.iload 7, 2) := dzL_93.2.2.2.2.2.2.1
theorem dL_law_1730 : decode cL_law 1730 = .ok (.i2l, 1) := dzL_93.2.2.2.2.2.2.2.1
theorem dL_law_1731 : decode cL_law 1731 = .ok (.lcmp, 1) := dzL_93.2.2.2.2.2.2.2.2.1
theorem dL_law_1732 : decode cL_law 1732 = .ok (.ifCond .eq 5, 3) := dzL_93.2.2.2.2.2.2.2.2.2
theorem dzL_94 : (decode cL_law 1735 = .ok (.iconst 0, 1)) ∧ (decode cL_law 1736 = .ok (.ireturn, 1)) ∧ (decode cL_law 1737 = .ok (.goto 1015, 3)) ∧ (decode cL_law 1740 = .ok (.aload_n 1, 1)) ∧ (decode cL_law 1741 = .ok (.invokevirtual 249, 3)) ∧ (decode cL_law 1744 = .ok (.aload_n 2, 1)) ∧ (decode cL_law 1745 = .ok (.invokevirtual 252, 3)) ∧ (decode cL_law 1748 = .ok (.if_icmp .eq 1004, 3)) ∧ (decode cL_law 1751 = .ok (.iconst 0, 1)) ∧ (decode cL_law 1752 = .ok (.ireturn, 1)) := by decide +kernel
theorem dL_law_1735 : decode cL_law 1735 = .ok (.iconst 0, 1) := dzL_94.1
theorem dL_law_1736 : decode cL_law 1736 = .ok (.ireturn, 1) := dzL_94.2.1
theorem dL_law_1737 : decode cL_law 1737 = .ok (.goto 1015, 3) := dzL_94.2.2.1
theorem dL_law_1740 : decode cL_law 1740 = .ok (.aload_n 1, 1) := dzL_94.2.2.2.1
theorem dL_law_1741 : decode cL_law 1741 = .ok (.invokevirtual 249, 3) := dzL_94.2.2.2.2.1
theorem dL_law_1744 : decode cL_law 1744 = .ok (.aload_n 2, 1) := dzL_94.2.2.2.2.2.1
theorem dL_law_1745 : decode cL_law 1745 = .ok (.invokevirtual 252, 3) := dzL_94.2.2.2.2.2.2.1
theorem dL_law_1748 : decode cL_law 1748 = .ok (.if_icmp .eq 1004, 3) := dzL_94.2.2.2.2.2.2.2.1
theorem dL_law_1751 : decode cL_law 1751 = .ok (.iconst 0, 1) := dzL_94.2.2.2.2.2.2.2.2.1
theorem dL_law_1752 : decode cL_law 1752 = .ok (.ireturn, 1) := dzL_94.2.2.2.2.2.2.2.2.2
theorem dzL_95 : (decode cL_law 1753 = .ok (.aload_n 1, 1)) ∧ (decode cL_law 1754 = .ok (.invokevirtual 253, 3)) ∧ (decode cL_law 1757 = .ok (.aload_n 2, 1)) ∧ (decode cL_law 1758 = .ok (.invokevirtual 256, 3)) ∧ (decode cL_law 1761 = .ok (.if_icmp .eq 991, 3)) ∧ (decode cL_law 1764 = .ok (.iconst 0, 1)) ∧ (decode cL_law 1765 = .ok (.ireturn, 1)) ∧ (decode cL_law 1766 = .ok (.aload_n 1, 1)) ∧ (decode cL_law 1767 = .ok (.aload_n 0, 1)) ∧ (decode cL_law 1768 = .ok (.iload 5, 2)) := by decide +kernel
theorem dL_law_1753 : decode cL_law 1753 = .ok (.aload_n 1, 1) := dzL_95.1
theorem dL_law_1754 : decode cL_law 1754 = .ok (.invokevirtual 253, 3) := dzL_95.2.1
theorem dL_law_1757 : decode cL_law 1757 = .ok (.aload_n 2, 1) := dzL_95.2.2.1
theorem dL_law_1758 : decode cL_law 1758 = .ok (.invokevirtual 256, 3) := dzL_95.2.2.2.1
theorem dL_law_1761 : decode cL_law 1761 = .ok (.if_icmp .eq 991, 3) := dzL_95.2.2.2.2.1
theorem dL_law_1764 : decode cL_law 1764 = .ok (.iconst 0, 1) := dzL_95.2.2.2.2.2.1
theorem dL_law_1765 : decode cL_law 1765 = .ok (.ireturn, 1) := dzL_95.2.2.2.2.2.2.1
theorem dL_law_1766 : decode cL_law 1766 = .ok (.aload_n 1, 1) := dzL_95.2.2.2.2.2.2.2.1
theorem dL_law_1767 : decode cL_law 1767 = .ok (.aload_n 0, 1) := dzL_95.2.2.2.2.2.2.2.2.1
theorem dL_law_1768 : decode cL_law 1768 = .ok (.iload 5, 2) := dzL_95.2.2.2.2.2.2.2.2.2
theorem dzL_96 : (decode cL_law 1770 = .ok (.iconst 1, 1)) ∧ (decode cL_law 1771 = .ok (.iadd, 1)) ∧ (decode cL_law 1772 = .ok (.iaload, 1)) ∧ (decode cL_law 1773 = .ok (.aload_n 3, 1)) ∧ (decode cL_law 1774 = .ok (.invokestatic 257, 3)) ∧ (decode cL_law 1777 = .ok (.istore 6, 2)) ∧ (decode cL_law 1779 = .ok (.aload_n 2, 1)) ∧ (decode cL_law 1780 = .ok (.aload_n 0, 1)) ∧ (decode cL_law 1781 = .ok (.iload 5, 2)) ∧ (decode cL_law 1783 = .ok (.iconst 1, 1)) := by decide +kernel
theorem dL_law_1770 : decode cL_law 1770 = .ok (.iconst 1, 1) := dzL_96.1
theorem dL_law_1771 : decode cL_law 1771 = .ok (.iadd, 1) := dzL_96.2.1
theorem dL_law_1772 : decode cL_law 1772 = .ok (.iaload, 1) := dzL_96.2.2.1
theorem dL_law_1773 : decode cL_law 1773 = .ok (.aload_n 3, 1) := dzL_96.2.2.2.1
theorem dL_law_1774 : decode cL_law 1774 = .ok (.invokestatic 257, 3) := dzL_96.2.2.2.2.1
theorem dL_law_1777 : decode cL_law 1777 = .ok (.istore 6, 2) := dzL_96.2.2.2.2.2.1
theorem dL_law_1779 : decode cL_law 1779 = .ok (.aload_n 2, 1) := dzL_96.2.2.2.2.2.2.1
theorem dL_law_1780 : decode cL_law 1780 = .ok (.aload_n 0, 1) := dzL_96.2.2.2.2.2.2.2.1
theorem dL_law_1781 : decode cL_law 1781 = .ok (.iload 5, 2) := dzL_96.2.2.2.2.2.2.2.2.1
theorem dL_law_1783 : decode cL_law 1783 = .ok (.iconst 1, 1) := dzL_96.2.2.2.2.2.2.2.2.2
theorem dzL_97 : (decode cL_law 1784 = .ok (.iadd, 1)) ∧ (decode cL_law 1785 = .ok (.iaload, 1)) ∧ (decode cL_law 1786 = .ok (.invokevirtual 259, 3)) ∧ (decode cL_law 1789 = .ok (.istore 7, 2)) ∧ (decode cL_law 1791 = .ok (.aload_n 2, 1)) ∧ (decode cL_law 1792 = .ok (.invokevirtual 163, 3)) ∧ (decode cL_law 1795 = .ok (.iload 6, 2)) ∧ (decode cL_law 1797 = .ok (.if_icmp .eq 5, 3)) ∧ (decode cL_law 1800 = .ok (.iconst 0, 1)) ∧ (decode cL_law 1801 = .ok (.ireturn, 1)) := by decide +kernel
theorem dL_law_1784 : decode cL_law 1784 = .ok (.iadd, 1) := dzL_97.1
theorem dL_law_1785 : decode cL_law 1785 = .ok (.iaload, 1) := dzL_97.2.1
theorem dL_law_1786 : decode cL_law 1786 = .ok (.invokevirtual 259, 3) := dzL_97.2.2.1
theorem dL_law_1789 : decode cL_law 1789 = .ok (.istore 7, 2) := dzL_97.2.2.2.1
theorem dL_law_1791 : decode cL_law 1791 = .ok (.aload_n 2, 1) := dzL_97.2.2.2.2.1
theorem dL_law_1792 : decode cL_law 1792 = .ok (.invokevirtual 163, 3) := dzL_97.2.2.2.2.2.1
theorem dL_law_1795 : decode cL_law 1795 = .ok (.iload 6, 2) := dzL_97.2.2.2.2.2.2.1
theorem dL_law_1797 : decode cL_law 1797 = .ok (.if_icmp .eq 5, 3) := dzL_97.2.2.2.2.2.2.2.1
theorem dL_law_1800 : decode cL_law 1800 = .ok (.iconst 0, 1) := dzL_97.2.2.2.2.2.2.2.2.1
theorem dL_law_1801 : decode cL_law 1801 = .ok (.ireturn, 1) := dzL_97.2.2.2.2.2.2.2.2.2
theorem dzL_98 : (decode cL_law 1802 = .ok (.iload 6, 2)) ∧ (decode cL_law 1804 = .ok (.ifCond .ne 15, 3)) ∧ (decode cL_law 1807 = .ok (.aload_n 3, 1)) ∧ (decode cL_law 1808 = .ok (.iconst 0, 1)) ∧ (decode cL_law 1809 = .ok (.laload, 1)) ∧ (decode cL_law 1810 = .ok (.iload 7, 2)) ∧ (decode cL_law 1812 = .ok (.i2l, 1)) ∧ (decode cL_law 1813 = .ok (.lcmp, 1)) ∧ (decode cL_law 1814 = .ok (.ifCond .eq 5, 3)) ∧ (decode cL_law 1817 = .ok (.iconst 0, 1)) := by decide +kernel
theorem dL_law_1802 : decode cL_law 1802 = .ok (.iload 6, 2) := dzL_98.1
theorem dL_law_1804 : decode cL_law 1804 = .ok (.ifCond .ne 15, 3) := dzL_98.2.1
theorem dL_law_1807 : decode cL_law 1807 = .ok (.aload_n 3, 1) := dzL_98.2.2.1
theorem dL_law_1808 : decode cL_law 1808 = .ok (.iconst 0, 1) := dzL_98.2.2.2.1
theorem dL_law_1809 : decode cL_law 1809 = .ok (.laload, 1) := dzL_98.2.2.2.2.1
theorem dL_law_1810 : decode cL_law 1810 = .ok (.iload 7, 2) := dzL_98.2.2.2.2.2.1
theorem dL_law_1812 : decode cL_law 1812 = .ok (.i2l, 1) := dzL_98.2.2.2.2.2.2.1
theorem dL_law_1813 : decode cL_law 1813 = .ok (.lcmp, 1) := dzL_98.2.2.2.2.2.2.2.1
theorem dL_law_1814 : decode cL_law 1814 = .ok (.ifCond .eq 5, 3) := dzL_98.2.2.2.2.2.2.2.2.1
theorem dL_law_1817 : decode cL_law 1817 = .ok (.iconst 0, 1) := dzL_98.2.2.2.2.2.2.2.2.2
theorem dzL_99 : (decode cL_law 1818 = .ok (.ireturn, 1)) ∧ (decode cL_law 1819 = .ok (.goto 933, 3)) ∧ (decode cL_law 1822 = .ok (.aload_n 1, 1)) ∧ (decode cL_law 1823 = .ok (.aload_n 0, 1)) ∧ (decode cL_law 1824 = .ok (.iload 5, 2)) ∧ (decode cL_law 1826 = .ok (.iconst 1, 1)) ∧ (decode cL_law 1827 = .ok (.iadd, 1)) ∧ (decode cL_law 1828 = .ok (.iaload, 1)) ∧ (decode cL_law 1829 = .ok (.aload_n 0, 1)) ∧ (decode cL_law 1830 = .ok (.iload 5, 2)) := by decide +kernel
theorem dL_law_1818 : decode cL_law 1818 = .ok (.ireturn, 1) := dzL_99.1
theorem dL_law_1819 : decode cL_law 1819 = .ok (.goto 933, 3) := dzL_99.2.1
theorem dL_law_1822 : decode cL_law 1822 = .ok (.aload_n 1, 1) := dzL_99.2.2.1
theorem dL_law_1823 : decode cL_law 1823 = .ok (.aload_n 0, 1) := dzL_99.2.2.2.1
theorem dL_law_1824 : decode cL_law 1824 = .ok (.iload 5, 2) := dzL_99.2.2.2.2.1
theorem dL_law_1826 : decode cL_law 1826 = .ok (.iconst 1, 1) := dzL_99.2.2.2.2.2.1
theorem dL_law_1827 : decode cL_law 1827 = .ok (.iadd, 1) := dzL_99.2.2.2.2.2.2.1
theorem dL_law_1828 : decode cL_law 1828 = .ok (.iaload, 1) := dzL_99.2.2.2.2.2.2.2.1
theorem dL_law_1829 : decode cL_law 1829 = .ok (.aload_n 0, 1) := dzL_99.2.2.2.2.2.2.2.2.1
theorem dL_law_1830 : decode cL_law 1830 = .ok (.iload 5, 2) := dzL_99.2.2.2.2.2.2.2.2.2
theorem dzL_100 : (decode cL_law 1832 = .ok (.iconst 2, 1)) ∧ (decode cL_law 1833 = .ok (.iadd, 1)) ∧ (decode cL_law 1834 = .ok (.iaload, 1)) ∧ (decode cL_law 1835 = .ok (.aload_n 3, 1)) ∧ (decode cL_law 1836 = .ok (.invokestatic 260, 3)) ∧ (decode cL_law 1839 = .ok (.istore 6, 2)) ∧ (decode cL_law 1841 = .ok (.aload_n 2, 1)) ∧ (decode cL_law 1842 = .ok (.aload_n 0, 1)) ∧ (decode cL_law 1843 = .ok (.iload 5, 2)) ∧ (decode cL_law 1845 = .ok (.iconst 1, 1)) := by decide +kernel
theorem dL_law_1832 : decode cL_law 1832 = .ok (.iconst 2, 1) := dzL_100.1
theorem dL_law_1833 : decode cL_law 1833 = .ok (.iadd, 1) := dzL_100.2.1
theorem dL_law_1834 : decode cL_law 1834 = .ok (.iaload, 1) := dzL_100.2.2.1
theorem dL_law_1835 : decode cL_law 1835 = .ok (.aload_n 3, 1) := dzL_100.2.2.2.1
theorem dL_law_1836 : decode cL_law 1836 = .ok (.invokestatic 260, 3) := dzL_100.2.2.2.2.1
theorem dL_law_1839 : decode cL_law 1839 = .ok (.istore 6, 2) := dzL_100.2.2.2.2.2.1
theorem dL_law_1841 : decode cL_law 1841 = .ok (.aload_n 2, 1) := dzL_100.2.2.2.2.2.2.1
theorem dL_law_1842 : decode cL_law 1842 = .ok (.aload_n 0, 1) := dzL_100.2.2.2.2.2.2.2.1
theorem dL_law_1843 : decode cL_law 1843 = .ok (.iload 5, 2) := dzL_100.2.2.2.2.2.2.2.2.1
theorem dL_law_1845 : decode cL_law 1845 = .ok (.iconst 1, 1) := dzL_100.2.2.2.2.2.2.2.2.2
theorem dzL_101 : (decode cL_law 1846 = .ok (.iadd, 1)) ∧ (decode cL_law 1847 = .ok (.iaload, 1)) ∧ (decode cL_law 1848 = .ok (.aload_n 0, 1)) ∧ (decode cL_law 1849 = .ok (.iload 5, 2)) ∧ (decode cL_law 1851 = .ok (.iconst 2, 1)) ∧ (decode cL_law 1852 = .ok (.iadd, 1)) ∧ (decode cL_law 1853 = .ok (.iaload, 1)) ∧ (decode cL_law 1854 = .ok (.invokevirtual 262, 3)) ∧ (decode cL_law 1857 = .ok (.istore 7, 2)) ∧ (decode cL_law 1859 = .ok (.aload_n 2, 1)) := by decide +kernel
theorem dL_law_1846 : decode cL_law 1846 = .ok (.iadd, 1) := dzL_101.1
theorem dL_law_1847 : decode cL_law 1847 = .ok (.iaload, 1) := dzL_101.2.1
theorem dL_law_1848 : decode cL_law 1848 = .ok (.aload_n 0, 1) := dzL_101.2.2.1
theorem dL_law_1849 : decode cL_law 1849 = .ok (.iload 5, 2) := dzL_101.2.2.2.1
theorem dL_law_1851 : decode cL_law 1851 = .ok (.iconst 2, 1) := dzL_101.2.2.2.2.1
theorem dL_law_1852 : decode cL_law 1852 = .ok (.iadd, 1) := dzL_101.2.2.2.2.2.1
theorem dL_law_1853 : decode cL_law 1853 = .ok (.iaload, 1) := dzL_101.2.2.2.2.2.2.1
theorem dL_law_1854 : decode cL_law 1854 = .ok (.invokevirtual 262, 3) := dzL_101.2.2.2.2.2.2.2.1
theorem dL_law_1857 : decode cL_law 1857 = .ok (.istore 7, 2) := dzL_101.2.2.2.2.2.2.2.2.1
theorem dL_law_1859 : decode cL_law 1859 = .ok (.aload_n 2, 1) := dzL_101.2.2.2.2.2.2.2.2.2
theorem dzL_102 : (decode cL_law 1860 = .ok (.invokevirtual 163, 3)) ∧ (decode cL_law 1863 = .ok (.iload 6, 2)) ∧ (decode cL_law 1865 = .ok (.if_icmp .eq 5, 3)) ∧ (decode cL_law 1868 = .ok (.iconst 0, 1)) ∧ (decode cL_law 1869 = .ok (.ireturn, 1)) ∧ (decode cL_law 1870 = .ok (.iload 6, 2)) ∧ (decode cL_law 1872 = .ok (.ifCond .ne 15, 3)) ∧ (decode cL_law 1875 = .ok (.aload_n 3, 1)) ∧ (decode cL_law 1876 = .ok (.iconst 0, 1)) ∧ (decode cL_law 1877 = .ok (.laload, 1)) := by decide +kernel
theorem dL_law_1860 : decode cL_law 1860 = .ok (.invokevirtual 163, 3) := dzL_102.1
theorem dL_law_1863 : decode cL_law 1863 = .ok (.iload 6, 2) := dzL_102.2.1
theorem dL_law_1865 : decode cL_law 1865 = .ok (.if_icmp .eq 5, 3) := dzL_102.2.2.1
theorem dL_law_1868 : decode cL_law 1868 = .ok (.iconst 0, 1) := dzL_102.2.2.2.1
theorem dL_law_1869 : decode cL_law 1869 = .ok (.ireturn, 1) := dzL_102.2.2.2.2.1
theorem dL_law_1870 : decode cL_law 1870 = .ok (.iload 6, 2) := dzL_102.2.2.2.2.2.1
theorem dL_law_1872 : decode cL_law 1872 = .ok (.ifCond .ne 15, 3) := dzL_102.2.2.2.2.2.2.1
theorem dL_law_1875 : decode cL_law 1875 = .ok (.aload_n 3, 1) := dzL_102.2.2.2.2.2.2.2.1
theorem dL_law_1876 : decode cL_law 1876 = .ok (.iconst 0, 1) := dzL_102.2.2.2.2.2.2.2.2.1
theorem dL_law_1877 : decode cL_law 1877 = .ok (.laload, 1) := dzL_102.2.2.2.2.2.2.2.2.2
theorem dzL_103 : (decode cL_law 1878 = .ok (.iload 7, 2)) ∧ (decode cL_law 1880 = .ok (.i2l, 1)) ∧ (decode cL_law 1881 = .ok (.lcmp, 1)) ∧ (decode cL_law 1882 = .ok (.ifCond .eq 5, 3)) ∧ (decode cL_law 1885 = .ok (.iconst 0, 1)) ∧ (decode cL_law 1886 = .ok (.ireturn, 1)) ∧ (decode cL_law 1887 = .ok (.goto 865, 3)) ∧ (decode cL_law 1890 = .ok (.aload_n 1, 1)) ∧ (decode cL_law 1891 = .ok (.aload_n 0, 1)) ∧ (decode cL_law 1892 = .ok (.iload 5, 2)) := by decide +kernel
theorem dL_law_1878 : decode cL_law 1878 = .ok (.iload 7, 2) := dzL_103.1
theorem dL_law_1880 : decode cL_law 1880 = .ok (.i2l, 1) := dzL_103.2.1
theorem dL_law_1881 : decode cL_law 1881 = .ok (.lcmp, 1) := dzL_103.2.2.1
theorem dL_law_1882 : decode cL_law 1882 = .ok (.ifCond .eq 5, 3) := dzL_103.2.2.2.1
theorem dL_law_1885 : decode cL_law 1885 = .ok (.iconst 0, 1) := dzL_103.2.2.2.2.1
theorem dL_law_1886 : decode cL_law 1886 = .ok (.ireturn, 1) := dzL_103.2.2.2.2.2.1
theorem dL_law_1887 : decode cL_law 1887 = .ok (.goto 865, 3) := dzL_103.2.2.2.2.2.2.1
theorem dL_law_1890 : decode cL_law 1890 = .ok (.aload_n 1, 1) := dzL_103.2.2.2.2.2.2.2.1
theorem dL_law_1891 : decode cL_law 1891 = .ok (.aload_n 0, 1) := dzL_103.2.2.2.2.2.2.2.2.1
theorem dL_law_1892 : decode cL_law 1892 = .ok (.iload 5, 2) := dzL_103.2.2.2.2.2.2.2.2.2
theorem dzL_104 : (decode cL_law 1894 = .ok (.iconst 1, 1)) ∧ (decode cL_law 1895 = .ok (.iadd, 1)) ∧ (decode cL_law 1896 = .ok (.iaload, 1)) ∧ (decode cL_law 1897 = .ok (.aload_n 3, 1)) ∧ (decode cL_law 1898 = .ok (.invokestatic 263, 3)) ∧ (decode cL_law 1901 = .ok (.istore 6, 2)) ∧ (decode cL_law 1903 = .ok (.aload_n 2, 1)) ∧ (decode cL_law 1904 = .ok (.aload_n 0, 1)) ∧ (decode cL_law 1905 = .ok (.iload 5, 2)) ∧ (decode cL_law 1907 = .ok (.iconst 1, 1)) := by decide +kernel
theorem dL_law_1894 : decode cL_law 1894 = .ok (.iconst 1, 1) := dzL_104.1
theorem dL_law_1895 : decode cL_law 1895 = .ok (.iadd, 1) := dzL_104.2.1
theorem dL_law_1896 : decode cL_law 1896 = .ok (.iaload, 1) := dzL_104.2.2.1
theorem dL_law_1897 : decode cL_law 1897 = .ok (.aload_n 3, 1) := dzL_104.2.2.2.1
theorem dL_law_1898 : decode cL_law 1898 = .ok (.invokestatic 263, 3) := dzL_104.2.2.2.2.1
theorem dL_law_1901 : decode cL_law 1901 = .ok (.istore 6, 2) := dzL_104.2.2.2.2.2.1
theorem dL_law_1903 : decode cL_law 1903 = .ok (.aload_n 2, 1) := dzL_104.2.2.2.2.2.2.1
theorem dL_law_1904 : decode cL_law 1904 = .ok (.aload_n 0, 1) := dzL_104.2.2.2.2.2.2.2.1
theorem dL_law_1905 : decode cL_law 1905 = .ok (.iload 5, 2) := dzL_104.2.2.2.2.2.2.2.2.1
theorem dL_law_1907 : decode cL_law 1907 = .ok (.iconst 1, 1) := dzL_104.2.2.2.2.2.2.2.2.2
theorem dzL_105 : (decode cL_law 1908 = .ok (.iadd, 1)) ∧ (decode cL_law 1909 = .ok (.iaload, 1)) ∧ (decode cL_law 1910 = .ok (.invokevirtual 265, 3)) ∧ (decode cL_law 1913 = .ok (.istore 7, 2)) ∧ (decode cL_law 1915 = .ok (.aload_n 2, 1)) ∧ (decode cL_law 1916 = .ok (.invokevirtual 163, 3)) ∧ (decode cL_law 1919 = .ok (.iload 6, 2)) ∧ (decode cL_law 1921 = .ok (.if_icmp .eq 5, 3)) ∧ (decode cL_law 1924 = .ok (.iconst 0, 1)) ∧ (decode cL_law 1925 = .ok (.ireturn, 1)) := by decide +kernel
theorem dL_law_1908 : decode cL_law 1908 = .ok (.iadd, 1) := dzL_105.1
theorem dL_law_1909 : decode cL_law 1909 = .ok (.iaload, 1) := dzL_105.2.1
theorem dL_law_1910 : decode cL_law 1910 = .ok (.invokevirtual 265, 3) := dzL_105.2.2.1
theorem dL_law_1913 : decode cL_law 1913 = .ok (.istore 7, 2) := dzL_105.2.2.2.1
theorem dL_law_1915 : decode cL_law 1915 = .ok (.aload_n 2, 1) := dzL_105.2.2.2.2.1
theorem dL_law_1916 : decode cL_law 1916 = .ok (.invokevirtual 163, 3) := dzL_105.2.2.2.2.2.1
theorem dL_law_1919 : decode cL_law 1919 = .ok (.iload 6, 2) := dzL_105.2.2.2.2.2.2.1
theorem dL_law_1921 : decode cL_law 1921 = .ok (.if_icmp .eq 5, 3) := dzL_105.2.2.2.2.2.2.2.1
theorem dL_law_1924 : decode cL_law 1924 = .ok (.iconst 0, 1) := dzL_105.2.2.2.2.2.2.2.2.1
theorem dL_law_1925 : decode cL_law 1925 = .ok (.ireturn, 1) := dzL_105.2.2.2.2.2.2.2.2.2
theorem dzL_106 : (decode cL_law 1926 = .ok (.iload 6, 2)) ∧ (decode cL_law 1928 = .ok (.ifCond .ne 15, 3)) ∧ (decode cL_law 1931 = .ok (.aload_n 3, 1)) ∧ (decode cL_law 1932 = .ok (.iconst 0, 1)) ∧ (decode cL_law 1933 = .ok (.laload, 1)) ∧ (decode cL_law 1934 = .ok (.iload 7, 2)) ∧ (decode cL_law 1936 = .ok (.i2l, 1)) ∧ (decode cL_law 1937 = .ok (.lcmp, 1)) ∧ (decode cL_law 1938 = .ok (.ifCond .eq 5, 3)) ∧ (decode cL_law 1941 = .ok (.iconst 0, 1)) := by decide +kernel
theorem dL_law_1926 : decode cL_law 1926 = .ok (.iload 6, 2) := dzL_106.1
theorem dL_law_1928 : decode cL_law 1928 = .ok (.ifCond .ne 15, 3) := dzL_106.2.1
theorem dL_law_1931 : decode cL_law 1931 = .ok (.aload_n 3, 1) := dzL_106.2.2.1
theorem dL_law_1932 : decode cL_law 1932 = .ok (.iconst 0, 1) := dzL_106.2.2.2.1
theorem dL_law_1933 : decode cL_law 1933 = .ok (.laload, 1) := dzL_106.2.2.2.2.1
theorem dL_law_1934 : decode cL_law 1934 = .ok (.iload 7, 2) := dzL_106.2.2.2.2.2.1
theorem dL_law_1936 : decode cL_law 1936 = .ok (.i2l, 1) := dzL_106.2.2.2.2.2.2.1
theorem dL_law_1937 : decode cL_law 1937 = .ok (.lcmp, 1) := dzL_106.2.2.2.2.2.2.2.1
theorem dL_law_1938 : decode cL_law 1938 = .ok (.ifCond .eq 5, 3) := dzL_106.2.2.2.2.2.2.2.2.1
theorem dL_law_1941 : decode cL_law 1941 = .ok (.iconst 0, 1) := dzL_106.2.2.2.2.2.2.2.2.2
theorem dzL_107 : (decode cL_law 1942 = .ok (.ireturn, 1)) ∧ (decode cL_law 1943 = .ok (.goto 809, 3)) ∧ (decode cL_law 1946 = .ok (.aload_n 1, 1)) ∧ (decode cL_law 1947 = .ok (.aload_n 0, 1)) ∧ (decode cL_law 1948 = .ok (.iload 5, 2)) ∧ (decode cL_law 1950 = .ok (.iconst 1, 1)) ∧ (decode cL_law 1951 = .ok (.iadd, 1)) ∧ (decode cL_law 1952 = .ok (.iaload, 1)) ∧ (decode cL_law 1953 = .ok (.aload_n 3, 1)) ∧ (decode cL_law 1954 = .ok (.invokestatic 266, 3)) := by decide +kernel
theorem dL_law_1942 : decode cL_law 1942 = .ok (.ireturn, 1) := dzL_107.1
theorem dL_law_1943 : decode cL_law 1943 = .ok (.goto 809, 3) := dzL_107.2.1
theorem dL_law_1946 : decode cL_law 1946 = .ok (.aload_n 1, 1) := dzL_107.2.2.1
theorem dL_law_1947 : decode cL_law 1947 = .ok (.aload_n 0, 1) := dzL_107.2.2.2.1
theorem dL_law_1948 : decode cL_law 1948 = .ok (.iload 5, 2) := dzL_107.2.2.2.2.1
theorem dL_law_1950 : decode cL_law 1950 = .ok (.iconst 1, 1) := dzL_107.2.2.2.2.2.1
theorem dL_law_1951 : decode cL_law 1951 = .ok (.iadd, 1) := dzL_107.2.2.2.2.2.2.1
theorem dL_law_1952 : decode cL_law 1952 = .ok (.iaload, 1) := dzL_107.2.2.2.2.2.2.2.1
theorem dL_law_1953 : decode cL_law 1953 = .ok (.aload_n 3, 1) := dzL_107.2.2.2.2.2.2.2.2.1
theorem dL_law_1954 : decode cL_law 1954 = .ok (.invokestatic 266, 3) := dzL_107.2.2.2.2.2.2.2.2.2
theorem dzL_108 : (decode cL_law 1957 = .ok (.istore 6, 2)) ∧ (decode cL_law 1959 = .ok (.aload_n 2, 1)) ∧ (decode cL_law 1960 = .ok (.aload_n 0, 1)) ∧ (decode cL_law 1961 = .ok (.iload 5, 2)) ∧ (decode cL_law 1963 = .ok (.iconst 1, 1)) ∧ (decode cL_law 1964 = .ok (.iadd, 1)) ∧ (decode cL_law 1965 = .ok (.iaload, 1)) ∧ (decode cL_law 1966 = .ok (.invokevirtual 268, 3)) ∧ (decode cL_law 1969 = .ok (.istore 7, 2)) ∧ (decode cL_law 1971 = .ok (.aload_n 2, 1)) := by decide +kernel
theorem dL_law_1957 : decode cL_law 1957 = .ok (.istore 6, 2) := dzL_108.1
theorem dL_law_1959 : decode cL_law 1959 = .ok (.aload_n 2, 1) := dzL_108.2.1
theorem dL_law_1960 : decode cL_law 1960 = .ok (.aload_n 0, 1) := dzL_108.2.2.1
theorem dL_law_1961 : decode cL_law 1961 = .ok (.iload 5, 2) := dzL_108.2.2.2.1
theorem dL_law_1963 : decode cL_law 1963 = .ok (.iconst 1, 1) := dzL_108.2.2.2.2.1
theorem dL_law_1964 : decode cL_law 1964 = .ok (.iadd, 1) := dzL_108.2.2.2.2.2.1
theorem dL_law_1965 : decode cL_law 1965 = .ok (.iaload, 1) := dzL_108.2.2.2.2.2.2.1
theorem dL_law_1966 : decode cL_law 1966 = .ok (.invokevirtual 268, 3) := dzL_108.2.2.2.2.2.2.2.1
theorem dL_law_1969 : decode cL_law 1969 = .ok (.istore 7, 2) := dzL_108.2.2.2.2.2.2.2.2.1
theorem dL_law_1971 : decode cL_law 1971 = .ok (.aload_n 2, 1) := dzL_108.2.2.2.2.2.2.2.2.2
theorem dzL_109 : (decode cL_law 1972 = .ok (.invokevirtual 163, 3)) ∧ (decode cL_law 1975 = .ok (.iload 6, 2)) ∧ (decode cL_law 1977 = .ok (.if_icmp .eq 5, 3)) ∧ (decode cL_law 1980 = .ok (.iconst 0, 1)) ∧ (decode cL_law 1981 = .ok (.ireturn, 1)) ∧ (decode cL_law 1982 = .ok (.iload 6, 2)) ∧ (decode cL_law 1984 = .ok (.ifCond .ne 15, 3)) ∧ (decode cL_law 1987 = .ok (.aload_n 3, 1)) ∧ (decode cL_law 1988 = .ok (.iconst 0, 1)) ∧ (decode cL_law 1989 = .ok (.laload, 1)) := by decide +kernel
theorem dL_law_1972 : decode cL_law 1972 = .ok (.invokevirtual 163, 3) := dzL_109.1
theorem dL_law_1975 : decode cL_law 1975 = .ok (.iload 6, 2) := dzL_109.2.1
theorem dL_law_1977 : decode cL_law 1977 = .ok (.if_icmp .eq 5, 3) := dzL_109.2.2.1
theorem dL_law_1980 : decode cL_law 1980 = .ok (.iconst 0, 1) := dzL_109.2.2.2.1
theorem dL_law_1981 : decode cL_law 1981 = .ok (.ireturn, 1) := dzL_109.2.2.2.2.1
theorem dL_law_1982 : decode cL_law 1982 = .ok (.iload 6, 2) := dzL_109.2.2.2.2.2.1
theorem dL_law_1984 : decode cL_law 1984 = .ok (.ifCond .ne 15, 3) := dzL_109.2.2.2.2.2.2.1
theorem dL_law_1987 : decode cL_law 1987 = .ok (.aload_n 3, 1) := dzL_109.2.2.2.2.2.2.2.1
theorem dL_law_1988 : decode cL_law 1988 = .ok (.iconst 0, 1) := dzL_109.2.2.2.2.2.2.2.2.1
theorem dL_law_1989 : decode cL_law 1989 = .ok (.laload, 1) := dzL_109.2.2.2.2.2.2.2.2.2
theorem dzL_110 : (decode cL_law 1990 = .ok (.iload 7, 2)) ∧ (decode cL_law 1992 = .ok (.i2l, 1)) ∧ (decode cL_law 1993 = .ok (.lcmp, 1)) ∧ (decode cL_law 1994 = .ok (.ifCond .eq 5, 3)) ∧ (decode cL_law 1997 = .ok (.iconst 0, 1)) ∧ (decode cL_law 1998 = .ok (.ireturn, 1)) ∧ (decode cL_law 1999 = .ok (.goto 753, 3)) ∧ (decode cL_law 2002 = .ok (.aload_n 1, 1)) ∧ (decode cL_law 2003 = .ok (.aload_n 0, 1)) ∧ (decode cL_law 2004 = .ok (.iload 5, 2)) := by decide +kernel
theorem dL_law_1990 : decode cL_law 1990 = .ok (.iload 7, 2) := dzL_110.1
theorem dL_law_1992 : decode cL_law 1992 = .ok (.i2l, 1) := dzL_110.2.1
theorem dL_law_1993 : decode cL_law 1993 = .ok (.lcmp, 1) := dzL_110.2.2.1
theorem dL_law_1994 : decode cL_law 1994 = .ok (.ifCond .eq 5, 3) := dzL_110.2.2.2.1
theorem dL_law_1997 : decode cL_law 1997 = .ok (.iconst 0, 1) := dzL_110.2.2.2.2.1
theorem dL_law_1998 : decode cL_law 1998 = .ok (.ireturn, 1) := dzL_110.2.2.2.2.2.1
theorem dL_law_1999 : decode cL_law 1999 = .ok (.goto 753, 3) := dzL_110.2.2.2.2.2.2.1
theorem dL_law_2002 : decode cL_law 2002 = .ok (.aload_n 1, 1) := dzL_110.2.2.2.2.2.2.2.1
theorem dL_law_2003 : decode cL_law 2003 = .ok (.aload_n 0, 1) := dzL_110.2.2.2.2.2.2.2.2.1
theorem dL_law_2004 : decode cL_law 2004 = .ok (.iload 5, 2) := dzL_110.2.2.2.2.2.2.2.2.2
theorem dzL_111 : (decode cL_law 2006 = .ok (.iconst 1, 1)) ∧ (decode cL_law 2007 = .ok (.iadd, 1)) ∧ (decode cL_law 2008 = .ok (.iaload, 1)) ∧ (decode cL_law 2009 = .ok (.aload_n 3, 1)) ∧ (decode cL_law 2010 = .ok (.invokestatic 269, 3)) ∧ (decode cL_law 2013 = .ok (.istore 6, 2)) ∧ (decode cL_law 2015 = .ok (.aload_n 2, 1)) ∧ (decode cL_law 2016 = .ok (.aload_n 0, 1)) ∧ (decode cL_law 2017 = .ok (.iload 5, 2)) ∧ (decode cL_law 2019 = .ok (.iconst 1, 1)) := by decide +kernel
theorem dL_law_2006 : decode cL_law 2006 = .ok (.iconst 1, 1) := dzL_111.1
theorem dL_law_2007 : decode cL_law 2007 = .ok (.iadd, 1) := dzL_111.2.1
theorem dL_law_2008 : decode cL_law 2008 = .ok (.iaload, 1) := dzL_111.2.2.1
theorem dL_law_2009 : decode cL_law 2009 = .ok (.aload_n 3, 1) := dzL_111.2.2.2.1
theorem dL_law_2010 : decode cL_law 2010 = .ok (.invokestatic 269, 3) := dzL_111.2.2.2.2.1
theorem dL_law_2013 : decode cL_law 2013 = .ok (.istore 6, 2) := dzL_111.2.2.2.2.2.1
theorem dL_law_2015 : decode cL_law 2015 = .ok (.aload_n 2, 1) := dzL_111.2.2.2.2.2.2.1
theorem dL_law_2016 : decode cL_law 2016 = .ok (.aload_n 0, 1) := dzL_111.2.2.2.2.2.2.2.1
theorem dL_law_2017 : decode cL_law 2017 = .ok (.iload 5, 2) := dzL_111.2.2.2.2.2.2.2.2.1
theorem dL_law_2019 : decode cL_law 2019 = .ok (.iconst 1, 1) := dzL_111.2.2.2.2.2.2.2.2.2
theorem dzL_112 : (decode cL_law 2020 = .ok (.iadd, 1)) ∧ (decode cL_law 2021 = .ok (.iaload, 1)) ∧ (decode cL_law 2022 = .ok (.invokevirtual 271, 3)) ∧ (decode cL_law 2025 = .ok (.istore 7, 2)) ∧ (decode cL_law 2027 = .ok (.aload_n 2, 1)) ∧ (decode cL_law 2028 = .ok (.invokevirtual 163, 3)) ∧ (decode cL_law 2031 = .ok (.iload 6, 2)) ∧ (decode cL_law 2033 = .ok (.if_icmp .eq 5, 3)) ∧ (decode cL_law 2036 = .ok (.iconst 0, 1)) ∧ (decode cL_law 2037 = .ok (.ireturn, 1)) := by decide +kernel
theorem dL_law_2020 : decode cL_law 2020 = .ok (.iadd, 1) := dzL_112.1
theorem dL_law_2021 : decode cL_law 2021 = .ok (.iaload, 1) := dzL_112.2.1
theorem dL_law_2022 : decode cL_law 2022 = .ok (.invokevirtual 271, 3) := dzL_112.2.2.1
theorem dL_law_2025 : decode cL_law 2025 = .ok (.istore 7, 2) := dzL_112.2.2.2.1
theorem dL_law_2027 : decode cL_law 2027 = .ok (.aload_n 2, 1) := dzL_112.2.2.2.2.1
theorem dL_law_2028 : decode cL_law 2028 = .ok (.invokevirtual 163, 3) := dzL_112.2.2.2.2.2.1
theorem dL_law_2031 : decode cL_law 2031 = .ok (.iload 6, 2) := dzL_112.2.2.2.2.2.2.1
theorem dL_law_2033 : decode cL_law 2033 = .ok (.if_icmp .eq 5, 3) := dzL_112.2.2.2.2.2.2.2.1
theorem dL_law_2036 : decode cL_law 2036 = .ok (.iconst 0, 1) := dzL_112.2.2.2.2.2.2.2.2.1
theorem dL_law_2037 : decode cL_law 2037 = .ok (.ireturn, 1) := dzL_112.2.2.2.2.2.2.2.2.2
theorem dzL_113 : (decode cL_law 2038 = .ok (.iload 6, 2)) ∧ (decode cL_law 2040 = .ok (.ifCond .ne 15, 3)) ∧ (decode cL_law 2043 = .ok (.aload_n 3, 1)) ∧ (decode cL_law 2044 = .ok (.iconst 0, 1)) ∧ (decode cL_law 2045 = .ok (.laload, 1)) ∧ (decode cL_law 2046 = .ok (.iload 7, 2)) ∧ (decode cL_law 2048 = .ok (.i2l, 1)) ∧ (decode cL_law 2049 = .ok (.lcmp, 1)) ∧ (decode cL_law 2050 = .ok (.ifCond .eq 5, 3)) ∧ (decode cL_law 2053 = .ok (.iconst 0, 1)) := by decide +kernel
theorem dL_law_2038 : decode cL_law 2038 = .ok (.iload 6, 2) := dzL_113.1
theorem dL_law_2040 : decode cL_law 2040 = .ok (.ifCond .ne 15, 3) := dzL_113.2.1
theorem dL_law_2043 : decode cL_law 2043 = .ok (.aload_n 3, 1) := dzL_113.2.2.1
theorem dL_law_2044 : decode cL_law 2044 = .ok (.iconst 0, 1) := dzL_113.2.2.2.1
theorem dL_law_2045 : decode cL_law 2045 = .ok (.laload, 1) := dzL_113.2.2.2.2.1
theorem dL_law_2046 : decode cL_law 2046 = .ok (.iload 7, 2) := dzL_113.2.2.2.2.2.1
theorem dL_law_2048 : decode cL_law 2048 = .ok (.i2l, 1) := dzL_113.2.2.2.2.2.2.1
theorem dL_law_2049 : decode cL_law 2049 = .ok (.lcmp, 1) := dzL_113.2.2.2.2.2.2.2.1
theorem dL_law_2050 : decode cL_law 2050 = .ok (.ifCond .eq 5, 3) := dzL_113.2.2.2.2.2.2.2.2.1
theorem dL_law_2053 : decode cL_law 2053 = .ok (.iconst 0, 1) := dzL_113.2.2.2.2.2.2.2.2.2
theorem dzL_114 : (decode cL_law 2054 = .ok (.ireturn, 1)) ∧ (decode cL_law 2055 = .ok (.goto 697, 3)) ∧ (decode cL_law 2058 = .ok (.aload_n 1, 1)) ∧ (decode cL_law 2059 = .ok (.aload_n 0, 1)) ∧ (decode cL_law 2060 = .ok (.iload 5, 2)) ∧ (decode cL_law 2062 = .ok (.iconst 1, 1)) ∧ (decode cL_law 2063 = .ok (.iadd, 1)) ∧ (decode cL_law 2064 = .ok (.iaload, 1)) ∧ (decode cL_law 2065 = .ok (.aload_n 3, 1)) ∧ (decode cL_law 2066 = .ok (.invokestatic 272, 3)) := by decide +kernel
theorem dL_law_2054 : decode cL_law 2054 = .ok (.ireturn, 1) := dzL_114.1
theorem dL_law_2055 : decode cL_law 2055 = .ok (.goto 697, 3) := dzL_114.2.1
theorem dL_law_2058 : decode cL_law 2058 = .ok (.aload_n 1, 1) := dzL_114.2.2.1
theorem dL_law_2059 : decode cL_law 2059 = .ok (.aload_n 0, 1) := dzL_114.2.2.2.1
theorem dL_law_2060 : decode cL_law 2060 = .ok (.iload 5, 2) := dzL_114.2.2.2.2.1
theorem dL_law_2062 : decode cL_law 2062 = .ok (.iconst 1, 1) := dzL_114.2.2.2.2.2.1
theorem dL_law_2063 : decode cL_law 2063 = .ok (.iadd, 1) := dzL_114.2.2.2.2.2.2.1
theorem dL_law_2064 : decode cL_law 2064 = .ok (.iaload, 1) := dzL_114.2.2.2.2.2.2.2.1
theorem dL_law_2065 : decode cL_law 2065 = .ok (.aload_n 3, 1) := dzL_114.2.2.2.2.2.2.2.2.1
theorem dL_law_2066 : decode cL_law 2066 = .ok (.invokestatic 272, 3) := dzL_114.2.2.2.2.2.2.2.2.2
theorem dzL_115 : (decode cL_law 2069 = .ok (.istore 6, 2)) ∧ (decode cL_law 2071 = .ok (.aload_n 2, 1)) ∧ (decode cL_law 2072 = .ok (.aload_n 0, 1)) ∧ (decode cL_law 2073 = .ok (.iload 5, 2)) ∧ (decode cL_law 2075 = .ok (.iconst 1, 1)) ∧ (decode cL_law 2076 = .ok (.iadd, 1)) ∧ (decode cL_law 2077 = .ok (.iaload, 1)) ∧ (decode cL_law 2078 = .ok (.invokevirtual 274, 3)) ∧ (decode cL_law 2081 = .ok (.istore 7, 2)) ∧ (decode cL_law 2083 = .ok (.aload_n 2, 1)) := by decide +kernel
theorem dL_law_2069 : decode cL_law 2069 = .ok (.istore 6, 2) := dzL_115.1
theorem dL_law_2071 : decode cL_law 2071 = .ok (.aload_n 2, 1) := dzL_115.2.1
theorem dL_law_2072 : decode cL_law 2072 = .ok (.aload_n 0, 1) := dzL_115.2.2.1
theorem dL_law_2073 : decode cL_law 2073 = .ok (.iload 5, 2) := dzL_115.2.2.2.1
theorem dL_law_2075 : decode cL_law 2075 = .ok (.iconst 1, 1) := dzL_115.2.2.2.2.1
theorem dL_law_2076 : decode cL_law 2076 = .ok (.iadd, 1) := dzL_115.2.2.2.2.2.1
theorem dL_law_2077 : decode cL_law 2077 = .ok (.iaload, 1) := dzL_115.2.2.2.2.2.2.1
theorem dL_law_2078 : decode cL_law 2078 = .ok (.invokevirtual 274, 3) := dzL_115.2.2.2.2.2.2.2.1
theorem dL_law_2081 : decode cL_law 2081 = .ok (.istore 7, 2) := dzL_115.2.2.2.2.2.2.2.2.1
theorem dL_law_2083 : decode cL_law 2083 = .ok (.aload_n 2, 1) := dzL_115.2.2.2.2.2.2.2.2.2
theorem dzL_116 : (decode cL_law 2084 = .ok (.invokevirtual 163, 3)) ∧ (decode cL_law 2087 = .ok (.iload 6, 2)) ∧ (decode cL_law 2089 = .ok (.if_icmp .eq 5, 3)) ∧ (decode cL_law 2092 = .ok (.iconst 0, 1)) ∧ (decode cL_law 2093 = .ok (.ireturn, 1)) ∧ (decode cL_law 2094 = .ok (.iload 6, 2)) ∧ (decode cL_law 2096 = .ok (.ifCond .ne 15, 3)) ∧ (decode cL_law 2099 = .ok (.aload_n 3, 1)) ∧ (decode cL_law 2100 = .ok (.iconst 0, 1)) ∧ (decode cL_law 2101 = .ok (.laload, 1)) := by decide +kernel
theorem dL_law_2084 : decode cL_law 2084 = .ok (.invokevirtual 163, 3) := dzL_116.1
theorem dL_law_2087 : decode cL_law 2087 = .ok (.iload 6, 2) := dzL_116.2.1
theorem dL_law_2089 : decode cL_law 2089 = .ok (.if_icmp .eq 5, 3) := dzL_116.2.2.1
theorem dL_law_2092 : decode cL_law 2092 = .ok (.iconst 0, 1) := dzL_116.2.2.2.1
theorem dL_law_2093 : decode cL_law 2093 = .ok (.ireturn, 1) := dzL_116.2.2.2.2.1
theorem dL_law_2094 : decode cL_law 2094 = .ok (.iload 6, 2) := dzL_116.2.2.2.2.2.1
theorem dL_law_2096 : decode cL_law 2096 = .ok (.ifCond .ne 15, 3) := dzL_116.2.2.2.2.2.2.1
theorem dL_law_2099 : decode cL_law 2099 = .ok (.aload_n 3, 1) := dzL_116.2.2.2.2.2.2.2.1
theorem dL_law_2100 : decode cL_law 2100 = .ok (.iconst 0, 1) := dzL_116.2.2.2.2.2.2.2.2.1
theorem dL_law_2101 : decode cL_law 2101 = .ok (.laload, 1) := dzL_116.2.2.2.2.2.2.2.2.2
theorem dzL_117 : (decode cL_law 2102 = .ok (.iload 7, 2)) ∧ (decode cL_law 2104 = .ok (.i2l, 1)) ∧ (decode cL_law 2105 = .ok (.lcmp, 1)) ∧ (decode cL_law 2106 = .ok (.ifCond .eq 5, 3)) ∧ (decode cL_law 2109 = .ok (.iconst 0, 1)) ∧ (decode cL_law 2110 = .ok (.ireturn, 1)) ∧ (decode cL_law 2111 = .ok (.goto 641, 3)) ∧ (decode cL_law 2114 = .ok (.aload_n 1, 1)) ∧ (decode cL_law 2115 = .ok (.aload_n 0, 1)) ∧ (decode cL_law 2116 = .ok (.iload 5, 2)) := by decide +kernel
theorem dL_law_2102 : decode cL_law 2102 = .ok (.iload 7, 2) := dzL_117.1
theorem dL_law_2104 : decode cL_law 2104 = .ok (.i2l, 1) := dzL_117.2.1
theorem dL_law_2105 : decode cL_law 2105 = .ok (.lcmp, 1) := dzL_117.2.2.1
theorem dL_law_2106 : decode cL_law 2106 = .ok (.ifCond .eq 5, 3) := dzL_117.2.2.2.1
theorem dL_law_2109 : decode cL_law 2109 = .ok (.iconst 0, 1) := dzL_117.2.2.2.2.1
theorem dL_law_2110 : decode cL_law 2110 = .ok (.ireturn, 1) := dzL_117.2.2.2.2.2.1
theorem dL_law_2111 : decode cL_law 2111 = .ok (.goto 641, 3) := dzL_117.2.2.2.2.2.2.1
theorem dL_law_2114 : decode cL_law 2114 = .ok (.aload_n 1, 1) := dzL_117.2.2.2.2.2.2.2.1
theorem dL_law_2115 : decode cL_law 2115 = .ok (.aload_n 0, 1) := dzL_117.2.2.2.2.2.2.2.2.1
theorem dL_law_2116 : decode cL_law 2116 = .ok (.iload 5, 2) := dzL_117.2.2.2.2.2.2.2.2.2
theorem dzL_118 : (decode cL_law 2118 = .ok (.iconst 1, 1)) ∧ (decode cL_law 2119 = .ok (.iadd, 1)) ∧ (decode cL_law 2120 = .ok (.iaload, 1)) ∧ (decode cL_law 2121 = .ok (.aload_n 3, 1)) ∧ (decode cL_law 2122 = .ok (.invokestatic 275, 3)) ∧ (decode cL_law 2125 = .ok (.istore 6, 2)) ∧ (decode cL_law 2127 = .ok (.aload_n 2, 1)) ∧ (decode cL_law 2128 = .ok (.aload_n 0, 1)) ∧ (decode cL_law 2129 = .ok (.iload 5, 2)) ∧ (decode cL_law 2131 = .ok (.iconst 1, 1)) := by decide +kernel
theorem dL_law_2118 : decode cL_law 2118 = .ok (.iconst 1, 1) := dzL_118.1
theorem dL_law_2119 : decode cL_law 2119 = .ok (.iadd, 1) := dzL_118.2.1
theorem dL_law_2120 : decode cL_law 2120 = .ok (.iaload, 1) := dzL_118.2.2.1
theorem dL_law_2121 : decode cL_law 2121 = .ok (.aload_n 3, 1) := dzL_118.2.2.2.1
theorem dL_law_2122 : decode cL_law 2122 = .ok (.invokestatic 275, 3) := dzL_118.2.2.2.2.1
theorem dL_law_2125 : decode cL_law 2125 = .ok (.istore 6, 2) := dzL_118.2.2.2.2.2.1
theorem dL_law_2127 : decode cL_law 2127 = .ok (.aload_n 2, 1) := dzL_118.2.2.2.2.2.2.1
theorem dL_law_2128 : decode cL_law 2128 = .ok (.aload_n 0, 1) := dzL_118.2.2.2.2.2.2.2.1
theorem dL_law_2129 : decode cL_law 2129 = .ok (.iload 5, 2) := dzL_118.2.2.2.2.2.2.2.2.1
theorem dL_law_2131 : decode cL_law 2131 = .ok (.iconst 1, 1) := dzL_118.2.2.2.2.2.2.2.2.2
theorem dzL_119 : (decode cL_law 2132 = .ok (.iadd, 1)) ∧ (decode cL_law 2133 = .ok (.iaload, 1)) ∧ (decode cL_law 2134 = .ok (.invokevirtual 277, 3)) ∧ (decode cL_law 2137 = .ok (.istore 7, 2)) ∧ (decode cL_law 2139 = .ok (.aload_n 2, 1)) ∧ (decode cL_law 2140 = .ok (.invokevirtual 163, 3)) ∧ (decode cL_law 2143 = .ok (.iload 6, 2)) ∧ (decode cL_law 2145 = .ok (.if_icmp .eq 5, 3)) ∧ (decode cL_law 2148 = .ok (.iconst 0, 1)) ∧ (decode cL_law 2149 = .ok (.ireturn, 1)) := by decide +kernel
theorem dL_law_2132 : decode cL_law 2132 = .ok (.iadd, 1) := dzL_119.1
theorem dL_law_2133 : decode cL_law 2133 = .ok (.iaload, 1) := dzL_119.2.1
theorem dL_law_2134 : decode cL_law 2134 = .ok (.invokevirtual 277, 3) := dzL_119.2.2.1
theorem dL_law_2137 : decode cL_law 2137 = .ok (.istore 7, 2) := dzL_119.2.2.2.1
theorem dL_law_2139 : decode cL_law 2139 = .ok (.aload_n 2, 1) := dzL_119.2.2.2.2.1
theorem dL_law_2140 : decode cL_law 2140 = .ok (.invokevirtual 163, 3) := dzL_119.2.2.2.2.2.1
theorem dL_law_2143 : decode cL_law 2143 = .ok (.iload 6, 2) := dzL_119.2.2.2.2.2.2.1
theorem dL_law_2145 : decode cL_law 2145 = .ok (.if_icmp .eq 5, 3) := dzL_119.2.2.2.2.2.2.2.1
theorem dL_law_2148 : decode cL_law 2148 = .ok (.iconst 0, 1) := dzL_119.2.2.2.2.2.2.2.2.1
theorem dL_law_2149 : decode cL_law 2149 = .ok (.ireturn, 1) := dzL_119.2.2.2.2.2.2.2.2.2
theorem dzL_120 : (decode cL_law 2150 = .ok (.iload 6, 2)) ∧ (decode cL_law 2152 = .ok (.ifCond .ne 15, 3)) ∧ (decode cL_law 2155 = .ok (.aload_n 3, 1)) ∧ (decode cL_law 2156 = .ok (.iconst 0, 1)) ∧ (decode cL_law 2157 = .ok (.laload, 1)) ∧ (decode cL_law 2158 = .ok (.iload 7, 2)) ∧ (decode cL_law 2160 = .ok (.i2l, 1)) ∧ (decode cL_law 2161 = .ok (.lcmp, 1)) ∧ (decode cL_law 2162 = .ok (.ifCond .eq 5, 3)) ∧ (decode cL_law 2165 = .ok (.iconst 0, 1)) := by decide +kernel
theorem dL_law_2150 : decode cL_law 2150 = .ok (.iload 6, 2) := dzL_120.1
theorem dL_law_2152 : decode cL_law 2152 = .ok (.ifCond .ne 15, 3) := dzL_120.2.1
theorem dL_law_2155 : decode cL_law 2155 = .ok (.aload_n 3, 1) := dzL_120.2.2.1
theorem dL_law_2156 : decode cL_law 2156 = .ok (.iconst 0, 1) := dzL_120.2.2.2.1
theorem dL_law_2157 : decode cL_law 2157 = .ok (.laload, 1) := dzL_120.2.2.2.2.1
theorem dL_law_2158 : decode cL_law 2158 = .ok (.iload 7, 2) := dzL_120.2.2.2.2.2.1
theorem dL_law_2160 : decode cL_law 2160 = .ok (.i2l, 1) := dzL_120.2.2.2.2.2.2.1
theorem dL_law_2161 : decode cL_law 2161 = .ok (.lcmp, 1) := dzL_120.2.2.2.2.2.2.2.1
theorem dL_law_2162 : decode cL_law 2162 = .ok (.ifCond .eq 5, 3) := dzL_120.2.2.2.2.2.2.2.2.1
theorem dL_law_2165 : decode cL_law 2165 = .ok (.iconst 0, 1) := dzL_120.2.2.2.2.2.2.2.2.2
theorem dzL_121 : (decode cL_law 2166 = .ok (.ireturn, 1)) ∧ (decode cL_law 2167 = .ok (.goto 585, 3)) ∧ (decode cL_law 2170 = .ok (.aload_n 1, 1)) ∧ (decode cL_law 2171 = .ok (.invokevirtual 278, 3)) ∧ (decode cL_law 2174 = .ok (.aload_n 2, 1)) ∧ (decode cL_law 2175 = .ok (.invokevirtual 281, 3)) ∧ (decode cL_law 2178 = .ok (.if_icmp .eq 574, 3)) ∧ (decode cL_law 2181 = .ok (.iconst 0, 1)) ∧ (decode cL_law 2182 = .ok (.ireturn, 1)) ∧ (decode cL_law 2183 = .ok (.aload_n 1, 1)) := by decide +kernel
theorem dL_law_2166 : decode cL_law 2166 = .ok (.ireturn, 1) := dzL_121.1
theorem dL_law_2167 : decode cL_law 2167 = .ok (.goto 585, 3) := dzL_121.2.1
theorem dL_law_2170 : decode cL_law 2170 = .ok (.aload_n 1, 1) := dzL_121.2.2.1
theorem dL_law_2171 : decode cL_law 2171 = .ok (.invokevirtual 278, 3) := dzL_121.2.2.2.1
theorem dL_law_2174 : decode cL_law 2174 = .ok (.aload_n 2, 1) := dzL_121.2.2.2.2.1
theorem dL_law_2175 : decode cL_law 2175 = .ok (.invokevirtual 281, 3) := dzL_121.2.2.2.2.2.1
theorem dL_law_2178 : decode cL_law 2178 = .ok (.if_icmp .eq 574, 3) := dzL_121.2.2.2.2.2.2.1
theorem dL_law_2181 : decode cL_law 2181 = .ok (.iconst 0, 1) := dzL_121.2.2.2.2.2.2.2.1
theorem dL_law_2182 : decode cL_law 2182 = .ok (.ireturn, 1) := dzL_121.2.2.2.2.2.2.2.2.1
theorem dL_law_2183 : decode cL_law 2183 = .ok (.aload_n 1, 1) := dzL_121.2.2.2.2.2.2.2.2.2
theorem dzL_122 : (decode cL_law 2184 = .ok (.invokevirtual 282, 3)) ∧ (decode cL_law 2187 = .ok (.aload_n 2, 1)) ∧ (decode cL_law 2188 = .ok (.invokevirtual 285, 3)) ∧ (decode cL_law 2191 = .ok (.if_icmp .eq 561, 3)) ∧ (decode cL_law 2194 = .ok (.iconst 0, 1)) ∧ (decode cL_law 2195 = .ok (.ireturn, 1)) ∧ (decode cL_law 2196 = .ok (.aload_n 1, 1)) ∧ (decode cL_law 2197 = .ok (.invokevirtual 286, 3)) ∧ (decode cL_law 2200 = .ok (.aload_n 2, 1)) ∧ (decode cL_law 2201 = .ok (.invokevirtual 289, 3)) := by decide +kernel
theorem dL_law_2184 : decode cL_law 2184 = .ok (.invokevirtual 282, 3) := dzL_122.1
theorem dL_law_2187 : decode cL_law 2187 = .ok (.aload_n 2, 1) := dzL_122.2.1
theorem dL_law_2188 : decode cL_law 2188 = .ok (.invokevirtual 285, 3) := dzL_122.2.2.1
theorem dL_law_2191 : decode cL_law 2191 = .ok (.if_icmp .eq 561, 3) := dzL_122.2.2.2.1
theorem dL_law_2194 : decode cL_law 2194 = .ok (.iconst 0, 1) := dzL_122.2.2.2.2.1
theorem dL_law_2195 : decode cL_law 2195 = .ok (.ireturn, 1) := dzL_122.2.2.2.2.2.1
theorem dL_law_2196 : decode cL_law 2196 = .ok (.aload_n 1, 1) := dzL_122.2.2.2.2.2.2.1
theorem dL_law_2197 : decode cL_law 2197 = .ok (.invokevirtual 286, 3) := dzL_122.2.2.2.2.2.2.2.1
theorem dL_law_2200 : decode cL_law 2200 = .ok (.aload_n 2, 1) := dzL_122.2.2.2.2.2.2.2.2.1
theorem dL_law_2201 : decode cL_law 2201 = .ok (.invokevirtual 289, 3) := dzL_122.2.2.2.2.2.2.2.2.2
theorem dzL_123 : (decode cL_law 2204 = .ok (.if_icmp .eq 548, 3)) ∧ (decode cL_law 2207 = .ok (.iconst 0, 1)) ∧ (decode cL_law 2208 = .ok (.ireturn, 1)) ∧ (decode cL_law 2209 = .ok (.aload_n 1, 1)) ∧ (decode cL_law 2210 = .ok (.invokevirtual 290, 3)) ∧ (decode cL_law 2213 = .ok (.aload_n 2, 1)) ∧ (decode cL_law 2214 = .ok (.invokevirtual 293, 3)) ∧ (decode cL_law 2217 = .ok (.if_icmp .eq 535, 3)) ∧ (decode cL_law 2220 = .ok (.iconst 0, 1)) ∧ (decode cL_law 2221 = .ok (.ireturn, 1)) := by decide +kernel
theorem dL_law_2204 : decode cL_law 2204 = .ok (.if_icmp .eq 548, 3) := dzL_123.1
theorem dL_law_2207 : decode cL_law 2207 = .ok (.iconst 0, 1) := dzL_123.2.1
theorem dL_law_2208 : decode cL_law 2208 = .ok (.ireturn, 1) := dzL_123.2.2.1
theorem dL_law_2209 : decode cL_law 2209 = .ok (.aload_n 1, 1) := dzL_123.2.2.2.1
theorem dL_law_2210 : decode cL_law 2210 = .ok (.invokevirtual 290, 3) := dzL_123.2.2.2.2.1
theorem dL_law_2213 : decode cL_law 2213 = .ok (.aload_n 2, 1) := dzL_123.2.2.2.2.2.1
theorem dL_law_2214 : decode cL_law 2214 = .ok (.invokevirtual 293, 3) := dzL_123.2.2.2.2.2.2.1
theorem dL_law_2217 : decode cL_law 2217 = .ok (.if_icmp .eq 535, 3) := dzL_123.2.2.2.2.2.2.2.1
theorem dL_law_2220 : decode cL_law 2220 = .ok (.iconst 0, 1) := dzL_123.2.2.2.2.2.2.2.2.1
theorem dL_law_2221 : decode cL_law 2221 = .ok (.ireturn, 1) := dzL_123.2.2.2.2.2.2.2.2.2
theorem dzL_124 : (decode cL_law 2222 = .ok (.aload_n 1, 1)) ∧ (decode cL_law 2223 = .ok (.invokevirtual 294, 3)) ∧ (decode cL_law 2226 = .ok (.aload_n 2, 1)) ∧ (decode cL_law 2227 = .ok (.invokevirtual 297, 3)) ∧ (decode cL_law 2230 = .ok (.if_icmp .eq 522, 3)) ∧ (decode cL_law 2233 = .ok (.iconst 0, 1)) ∧ (decode cL_law 2234 = .ok (.ireturn, 1)) ∧ (decode cL_law 2235 = .ok (.aload_n 1, 1)) ∧ (decode cL_law 2236 = .ok (.aload 4, 2)) ∧ (decode cL_law 2238 = .ok (.invokestatic 298, 3)) := by decide +kernel
theorem dL_law_2222 : decode cL_law 2222 = .ok (.aload_n 1, 1) := dzL_124.1
theorem dL_law_2223 : decode cL_law 2223 = .ok (.invokevirtual 294, 3) := dzL_124.2.1
theorem dL_law_2226 : decode cL_law 2226 = .ok (.aload_n 2, 1) := dzL_124.2.2.1
theorem dL_law_2227 : decode cL_law 2227 = .ok (.invokevirtual 297, 3) := dzL_124.2.2.2.1
theorem dL_law_2230 : decode cL_law 2230 = .ok (.if_icmp .eq 522, 3) := dzL_124.2.2.2.2.1
theorem dL_law_2233 : decode cL_law 2233 = .ok (.iconst 0, 1) := dzL_124.2.2.2.2.2.1
theorem dL_law_2234 : decode cL_law 2234 = .ok (.ireturn, 1) := dzL_124.2.2.2.2.2.2.1
theorem dL_law_2235 : decode cL_law 2235 = .ok (.aload_n 1, 1) := dzL_124.2.2.2.2.2.2.2.1
theorem dL_law_2236 : decode cL_law 2236 = .ok (.aload 4, 2) := dzL_124.2.2.2.2.2.2.2.2.1
theorem dL_law_2238 : decode cL_law 2238 = .ok (.invokestatic 298, 3) := dzL_124.2.2.2.2.2.2.2.2.2
theorem dzL_125 : (decode cL_law 2241 = .ok (.istore 6, 2)) ∧ (decode cL_law 2243 = .ok (.aload_n 2, 1)) ∧ (decode cL_law 2244 = .ok (.invokevirtual 301, 3)) ∧ (decode cL_law 2247 = .ok (.dstore 7, 2)) ∧ (decode cL_law 2249 = .ok (.aload_n 2, 1)) ∧ (decode cL_law 2250 = .ok (.invokevirtual 163, 3)) ∧ (decode cL_law 2253 = .ok (.iload 6, 2)) ∧ (decode cL_law 2255 = .ok (.if_icmp .eq 5, 3)) ∧ (decode cL_law 2258 = .ok (.iconst 0, 1)) ∧ (decode cL_law 2259 = .ok (.ireturn, 1)) := by decide +kernel
theorem dL_law_2241 : decode cL_law 2241 = .ok (.istore 6, 2) := dzL_125.1
theorem dL_law_2243 : decode cL_law 2243 = .ok (.aload_n 2, 1) := dzL_125.2.1
theorem dL_law_2244 : decode cL_law 2244 = .ok (.invokevirtual 301, 3) := dzL_125.2.2.1
theorem dL_law_2247 : decode cL_law 2247 = .ok (.dstore 7, 2) := dzL_125.2.2.2.1
theorem dL_law_2249 : decode cL_law 2249 = .ok (.aload_n 2, 1) := dzL_125.2.2.2.2.1
theorem dL_law_2250 : decode cL_law 2250 = .ok (.invokevirtual 163, 3) := dzL_125.2.2.2.2.2.1
theorem dL_law_2253 : decode cL_law 2253 = .ok (.iload 6, 2) := dzL_125.2.2.2.2.2.2.1
theorem dL_law_2255 : decode cL_law 2255 = .ok (.if_icmp .eq 5, 3) := dzL_125.2.2.2.2.2.2.2.1
theorem dL_law_2258 : decode cL_law 2258 = .ok (.iconst 0, 1) := dzL_125.2.2.2.2.2.2.2.2.1
theorem dL_law_2259 : decode cL_law 2259 = .ok (.ireturn, 1) := dzL_125.2.2.2.2.2.2.2.2.2
theorem dzL_126 : (decode cL_law 2260 = .ok (.iload 6, 2)) ∧ (decode cL_law 2262 = .ok (.ifCond .ne 35, 3)) ∧ (decode cL_law 2265 = .ok (.aload 4, 2)) ∧ (decode cL_law 2267 = .ok (.iconst 0, 1)) ∧ (decode cL_law 2268 = .ok (.daload, 1)) ∧ (decode cL_law 2269 = .ok (.dload 7, 2)) ∧ (decode cL_law 2271 = .ok (.dcmp .l, 1)) ∧ (decode cL_law 2272 = .ok (.ifCond .eq 25, 3)) ∧ (decode cL_law 2275 = .ok (.aload 4, 2)) ∧ (decode cL_law 2277 = .ok (.iconst 0, 1)) := by decide +kernel
theorem dL_law_2260 : decode cL_law 2260 = .ok (.iload 6, 2) := dzL_126.1
theorem dL_law_2262 : decode cL_law 2262 = .ok (.ifCond .ne 35, 3) := dzL_126.2.1
theorem dL_law_2265 : decode cL_law 2265 = .ok (.aload 4, 2) := dzL_126.2.2.1
theorem dL_law_2267 : decode cL_law 2267 = .ok (.iconst 0, 1) := dzL_126.2.2.2.1
theorem dL_law_2268 : decode cL_law 2268 = .ok (.daload, 1) := dzL_126.2.2.2.2.1
theorem dL_law_2269 : decode cL_law 2269 = .ok (.dload 7, 2) := dzL_126.2.2.2.2.2.1
theorem dL_law_2271 : decode cL_law 2271 = .ok (.dcmp .l, 1) := dzL_126.2.2.2.2.2.2.1
theorem dL_law_2272 : decode cL_law 2272 = .ok (.ifCond .eq 25, 3) := dzL_126.2.2.2.2.2.2.2.1
theorem dL_law_2275 : decode cL_law 2275 = .ok (.aload 4, 2) := dzL_126.2.2.2.2.2.2.2.2.1
theorem dL_law_2277 : decode cL_law 2277 = .ok (.iconst 0, 1) := dzL_126.2.2.2.2.2.2.2.2.2
theorem dzL_127 : (decode cL_law 2278 = .ok (.daload, 1)) ∧ (decode cL_law 2279 = .ok (.aload 4, 2)) ∧ (decode cL_law 2281 = .ok (.iconst 0, 1)) ∧ (decode cL_law 2282 = .ok (.daload, 1)) ∧ (decode cL_law 2283 = .ok (.dcmp .l, 1)) ∧ (decode cL_law 2284 = .ok (.ifCond .eq 11, 3)) ∧ (decode cL_law 2287 = .ok (.dload 7, 2)) ∧ (decode cL_law 2289 = .ok (.dload 7, 2)) ∧ (decode cL_law 2291 = .ok (.dcmp .l, 1)) ∧ (decode cL_law 2292 = .ok (.ifCond .ne 5, 3)) := by decide +kernel
theorem dL_law_2278 : decode cL_law 2278 = .ok (.daload, 1) := dzL_127.1
theorem dL_law_2279 : decode cL_law 2279 = .ok (.aload 4, 2) := dzL_127.2.1
theorem dL_law_2281 : decode cL_law 2281 = .ok (.iconst 0, 1) := dzL_127.2.2.1
theorem dL_law_2282 : decode cL_law 2282 = .ok (.daload, 1) := dzL_127.2.2.2.1
theorem dL_law_2283 : decode cL_law 2283 = .ok (.dcmp .l, 1) := dzL_127.2.2.2.2.1
theorem dL_law_2284 : decode cL_law 2284 = .ok (.ifCond .eq 11, 3) := dzL_127.2.2.2.2.2.1
theorem dL_law_2287 : decode cL_law 2287 = .ok (.dload 7, 2) := dzL_127.2.2.2.2.2.2.1
theorem dL_law_2289 : decode cL_law 2289 = .ok (.dload 7, 2) := dzL_127.2.2.2.2.2.2.2.1
theorem dL_law_2291 : decode cL_law 2291 = .ok (.dcmp .l, 1) := dzL_127.2.2.2.2.2.2.2.2.1
theorem dL_law_2292 : decode cL_law 2292 = .ok (.ifCond .ne 5, 3) := dzL_127.2.2.2.2.2.2.2.2.2
theorem dzL_128 : (decode cL_law 2295 = .ok (.iconst 0, 1)) ∧ (decode cL_law 2296 = .ok (.ireturn, 1)) ∧ (decode cL_law 2297 = .ok (.goto 455, 3)) ∧ (decode cL_law 2300 = .ok (.aload_n 1, 1)) ∧ (decode cL_law 2301 = .ok (.aload 4, 2)) ∧ (decode cL_law 2303 = .ok (.invokestatic 302, 3)) ∧ (decode cL_law 2306 = .ok (.istore 6, 2)) ∧ (decode cL_law 2308 = .ok (.aload_n 2, 1)) ∧ (decode cL_law 2309 = .ok (.invokevirtual 304, 3)) ∧ (decode cL_law 2312 = .ok (.fstore 7, 2)) := by decide +kernel
theorem dL_law_2295 : decode cL_law 2295 = .ok (.iconst 0, 1) := dzL_128.1
theorem dL_law_2296 : decode cL_law 2296 = .ok (.ireturn, 1) := dzL_128.2.1
theorem dL_law_2297 : decode cL_law 2297 = .ok (.goto 455, 3) := dzL_128.2.2.1
theorem dL_law_2300 : decode cL_law 2300 = .ok (.aload_n 1, 1) := dzL_128.2.2.2.1
theorem dL_law_2301 : decode cL_law 2301 = .ok (.aload 4, 2) := dzL_128.2.2.2.2.1
theorem dL_law_2303 : decode cL_law 2303 = .ok (.invokestatic 302, 3) := dzL_128.2.2.2.2.2.1
theorem dL_law_2306 : decode cL_law 2306 = .ok (.istore 6, 2) := dzL_128.2.2.2.2.2.2.1
theorem dL_law_2308 : decode cL_law 2308 = .ok (.aload_n 2, 1) := dzL_128.2.2.2.2.2.2.2.1
theorem dL_law_2309 : decode cL_law 2309 = .ok (.invokevirtual 304, 3) := dzL_128.2.2.2.2.2.2.2.2.1
theorem dL_law_2312 : decode cL_law 2312 = .ok (.fstore 7, 2) := dzL_128.2.2.2.2.2.2.2.2.2
theorem dzL_129 : (decode cL_law 2314 = .ok (.aload_n 2, 1)) ∧ (decode cL_law 2315 = .ok (.invokevirtual 163, 3)) ∧ (decode cL_law 2318 = .ok (.iload 6, 2)) ∧ (decode cL_law 2320 = .ok (.if_icmp .eq 5, 3)) ∧ (decode cL_law 2323 = .ok (.iconst 0, 1)) ∧ (decode cL_law 2324 = .ok (.ireturn, 1)) ∧ (decode cL_law 2325 = .ok (.iload 6, 2)) ∧ (decode cL_law 2327 = .ok (.ifCond .ne 36, 3)) ∧ (decode cL_law 2330 = .ok (.aload 4, 2)) ∧ (decode cL_law 2332 = .ok (.iconst 0, 1)) := by decide +kernel
theorem dL_law_2314 : decode cL_law 2314 = .ok (.aload_n 2, 1) := dzL_129.1
theorem dL_law_2315 : decode cL_law 2315 = .ok (.invokevirtual 163, 3) := dzL_129.2.1
theorem dL_law_2318 : decode cL_law 2318 = .ok (.iload 6, 2) := dzL_129.2.2.1
theorem dL_law_2320 : decode cL_law 2320 = .ok (.if_icmp .eq 5, 3) := dzL_129.2.2.2.1
theorem dL_law_2323 : decode cL_law 2323 = .ok (.iconst 0, 1) := dzL_129.2.2.2.2.1
theorem dL_law_2324 : decode cL_law 2324 = .ok (.ireturn, 1) := dzL_129.2.2.2.2.2.1
theorem dL_law_2325 : decode cL_law 2325 = .ok (.iload 6, 2) := dzL_129.2.2.2.2.2.2.1
theorem dL_law_2327 : decode cL_law 2327 = .ok (.ifCond .ne 36, 3) := dzL_129.2.2.2.2.2.2.2.1
theorem dL_law_2330 : decode cL_law 2330 = .ok (.aload 4, 2) := dzL_129.2.2.2.2.2.2.2.2.1
theorem dL_law_2332 : decode cL_law 2332 = .ok (.iconst 0, 1) := dzL_129.2.2.2.2.2.2.2.2.2
theorem dzL_130 : (decode cL_law 2333 = .ok (.daload, 1)) ∧ (decode cL_law 2334 = .ok (.fload 7, 2)) ∧ (decode cL_law 2336 = .ok (.f2d, 1)) ∧ (decode cL_law 2337 = .ok (.dcmp .l, 1)) ∧ (decode cL_law 2338 = .ok (.ifCond .eq 25, 3)) ∧ (decode cL_law 2341 = .ok (.aload 4, 2)) ∧ (decode cL_law 2343 = .ok (.iconst 0, 1)) ∧ (decode cL_law 2344 = .ok (.daload, 1)) ∧ (decode cL_law 2345 = .ok (.aload 4, 2)) ∧ (decode cL_law 2347 = .ok (.iconst 0, 1)) := by decide +kernel
theorem dL_law_2333 : decode cL_law 2333 = .ok (.daload, 1) := dzL_130.1
theorem dL_law_2334 : decode cL_law 2334 = .ok (.fload 7, 2) := dzL_130.2.1
theorem dL_law_2336 : decode cL_law 2336 = .ok (.f2d, 1) := dzL_130.2.2.1
theorem dL_law_2337 : decode cL_law 2337 = .ok (.dcmp .l, 1) := dzL_130.2.2.2.1
theorem dL_law_2338 : decode cL_law 2338 = .ok (.ifCond .eq 25, 3) := dzL_130.2.2.2.2.1
theorem dL_law_2341 : decode cL_law 2341 = .ok (.aload 4, 2) := dzL_130.2.2.2.2.2.1
theorem dL_law_2343 : decode cL_law 2343 = .ok (.iconst 0, 1) := dzL_130.2.2.2.2.2.2.1
theorem dL_law_2344 : decode cL_law 2344 = .ok (.daload, 1) := dzL_130.2.2.2.2.2.2.2.1
theorem dL_law_2345 : decode cL_law 2345 = .ok (.aload 4, 2) := dzL_130.2.2.2.2.2.2.2.2.1
theorem dL_law_2347 : decode cL_law 2347 = .ok (.iconst 0, 1) := dzL_130.2.2.2.2.2.2.2.2.2
theorem dzL_131 : (decode cL_law 2348 = .ok (.daload, 1)) ∧ (decode cL_law 2349 = .ok (.dcmp .l, 1)) ∧ (decode cL_law 2350 = .ok (.ifCond .eq 11, 3)) ∧ (decode cL_law 2353 = .ok (.fload 7, 2)) ∧ (decode cL_law 2355 = .ok (.fload 7, 2)) ∧ (decode cL_law 2357 = .ok (.fcmp .l, 1)) ∧ (decode cL_law 2358 = .ok (.ifCond .ne 5, 3)) ∧ (decode cL_law 2361 = .ok (.iconst 0, 1)) ∧ (decode cL_law 2362 = .ok (.ireturn, 1)) ∧ (decode cL_law 2363 = .ok (.goto 389, 3)) := by decide +kernel
theorem dL_law_2348 : decode cL_law 2348 = .ok (.daload, 1) := dzL_131.1
theorem dL_law_2349 : decode cL_law 2349 = .ok (.dcmp .l, 1) := dzL_131.2.1
theorem dL_law_2350 : decode cL_law 2350 = .ok (.ifCond .eq 11, 3) := dzL_131.2.2.1
theorem dL_law_2353 : decode cL_law 2353 = .ok (.fload 7, 2) := dzL_131.2.2.2.1
theorem dL_law_2355 : decode cL_law 2355 = .ok (.fload 7, 2) := dzL_131.2.2.2.2.1
theorem dL_law_2357 : decode cL_law 2357 = .ok (.fcmp .l, 1) := dzL_131.2.2.2.2.2.1
theorem dL_law_2358 : decode cL_law 2358 = .ok (.ifCond .ne 5, 3) := dzL_131.2.2.2.2.2.2.1
theorem dL_law_2361 : decode cL_law 2361 = .ok (.iconst 0, 1) := dzL_131.2.2.2.2.2.2.2.1
theorem dL_law_2362 : decode cL_law 2362 = .ok (.ireturn, 1) := dzL_131.2.2.2.2.2.2.2.2.1
theorem dL_law_2363 : decode cL_law 2363 = .ok (.goto 389, 3) := dzL_131.2.2.2.2.2.2.2.2.2
theorem dzL_132 : (decode cL_law 2366 = .ok (.aload_n 1, 1)) ∧ (decode cL_law 2367 = .ok (.invokevirtual 305, 3)) ∧ (decode cL_law 2370 = .ok (.aload_n 2, 1)) ∧ (decode cL_law 2371 = .ok (.invokevirtual 309, 3)) ∧ (decode cL_law 2374 = .ok (.if_icmp .eq 378, 3)) ∧ (decode cL_law 2377 = .ok (.iconst 0, 1)) ∧ (decode cL_law 2378 = .ok (.ireturn, 1)) ∧ (decode cL_law 2379 = .ok (.aload_n 1, 1)) ∧ (decode cL_law 2380 = .ok (.invokevirtual 310, 3)) ∧ (decode cL_law 2383 = .ok (.aload_n 2, 1)) := by decide +kernel
theorem dL_law_2366 : decode cL_law 2366 = .ok (.aload_n 1, 1) := dzL_132.1
theorem dL_law_2367 : decode cL_law 2367 = .ok (.invokevirtual 305, 3) := dzL_132.2.1
theorem dL_law_2370 : decode cL_law 2370 = .ok (.aload_n 2, 1) := dzL_132.2.2.1
theorem dL_law_2371 : decode cL_law 2371 = .ok (.invokevirtual 309, 3) := dzL_132.2.2.2.1
theorem dL_law_2374 : decode cL_law 2374 = .ok (.if_icmp .eq 378, 3) := dzL_132.2.2.2.2.1
theorem dL_law_2377 : decode cL_law 2377 = .ok (.iconst 0, 1) := dzL_132.2.2.2.2.2.1
theorem dL_law_2378 : decode cL_law 2378 = .ok (.ireturn, 1) := dzL_132.2.2.2.2.2.2.1
theorem dL_law_2379 : decode cL_law 2379 = .ok (.aload_n 1, 1) := dzL_132.2.2.2.2.2.2.2.1
theorem dL_law_2380 : decode cL_law 2380 = .ok (.invokevirtual 310, 3) := dzL_132.2.2.2.2.2.2.2.2.1
theorem dL_law_2383 : decode cL_law 2383 = .ok (.aload_n 2, 1) := dzL_132.2.2.2.2.2.2.2.2.2
theorem dzL_133 : (decode cL_law 2384 = .ok (.invokevirtual 313, 3)) ∧ (decode cL_law 2387 = .ok (.if_icmp .eq 365, 3)) ∧ (decode cL_law 2390 = .ok (.iconst 0, 1)) ∧ (decode cL_law 2391 = .ok (.ireturn, 1)) ∧ (decode cL_law 2392 = .ok (.aload_n 1, 1)) ∧ (decode cL_law 2393 = .ok (.invokevirtual 314, 3)) ∧ (decode cL_law 2396 = .ok (.aload_n 2, 1)) ∧ (decode cL_law 2397 = .ok (.invokevirtual 317, 3)) ∧ (decode cL_law 2400 = .ok (.if_icmp .eq 352, 3)) ∧ (decode cL_law 2403 = .ok (.iconst 0, 1)) := by decide +kernel
theorem dL_law_2384 : decode cL_law 2384 = .ok (.invokevirtual 313, 3) := dzL_133.1
theorem dL_law_2387 : decode cL_law 2387 = .ok (.if_icmp .eq 365, 3) := dzL_133.2.1
theorem dL_law_2390 : decode cL_law 2390 = .ok (.iconst 0, 1) := dzL_133.2.2.1
theorem dL_law_2391 : decode cL_law 2391 = .ok (.ireturn, 1) := dzL_133.2.2.2.1
theorem dL_law_2392 : decode cL_law 2392 = .ok (.aload_n 1, 1) := dzL_133.2.2.2.2.1
theorem dL_law_2393 : decode cL_law 2393 = .ok (.invokevirtual 314, 3) := dzL_133.2.2.2.2.2.1
theorem dL_law_2396 : decode cL_law 2396 = .ok (.aload_n 2, 1) := dzL_133.2.2.2.2.2.2.1
theorem dL_law_2397 : decode cL_law 2397 = .ok (.invokevirtual 317, 3) := dzL_133.2.2.2.2.2.2.2.1
theorem dL_law_2400 : decode cL_law 2400 = .ok (.if_icmp .eq 352, 3) := dzL_133.2.2.2.2.2.2.2.2.1
theorem dL_law_2403 : decode cL_law 2403 = .ok (.iconst 0, 1) := dzL_133.2.2.2.2.2.2.2.2.2
theorem dzL_134 : (decode cL_law 2404 = .ok (.ireturn, 1)) ∧ (decode cL_law 2405 = .ok (.aload_n 1, 1)) ∧ (decode cL_law 2406 = .ok (.aload_n 0, 1)) ∧ (decode cL_law 2407 = .ok (.iload 5, 2)) ∧ (decode cL_law 2409 = .ok (.iconst 1, 1)) ∧ (decode cL_law 2410 = .ok (.iadd, 1)) ∧ (decode cL_law 2411 = .ok (.iaload, 1)) ∧ (decode cL_law 2412 = .ok (.aload_n 3, 1)) ∧ (decode cL_law 2413 = .ok (.invokestatic 318, 3)) ∧ (decode cL_law 2416 = .ok (.istore 6, 2)) := by decide +kernel
theorem dL_law_2404 : decode cL_law 2404 = .ok (.ireturn, 1) := dzL_134.1
theorem dL_law_2405 : decode cL_law 2405 = .ok (.aload_n 1, 1) := dzL_134.2.1
theorem dL_law_2406 : decode cL_law 2406 = .ok (.aload_n 0, 1) := dzL_134.2.2.1
theorem dL_law_2407 : decode cL_law 2407 = .ok (.iload 5, 2) := dzL_134.2.2.2.1
theorem dL_law_2409 : decode cL_law 2409 = .ok (.iconst 1, 1) := dzL_134.2.2.2.2.1
theorem dL_law_2410 : decode cL_law 2410 = .ok (.iadd, 1) := dzL_134.2.2.2.2.2.1
theorem dL_law_2411 : decode cL_law 2411 = .ok (.iaload, 1) := dzL_134.2.2.2.2.2.2.1
theorem dL_law_2412 : decode cL_law 2412 = .ok (.aload_n 3, 1) := dzL_134.2.2.2.2.2.2.2.1
theorem dL_law_2413 : decode cL_law 2413 = .ok (.invokestatic 318, 3) := dzL_134.2.2.2.2.2.2.2.2.1
theorem dL_law_2416 : decode cL_law 2416 = .ok (.istore 6, 2) := dzL_134.2.2.2.2.2.2.2.2.2
theorem dzL_135 : (decode cL_law 2418 = .ok (.aload_n 2, 1)) ∧ (decode cL_law 2419 = .ok (.aload_n 0, 1)) ∧ (decode cL_law 2420 = .ok (.iload 5, 2)) ∧ (decode cL_law 2422 = .ok (.iconst 1, 1)) ∧ (decode cL_law 2423 = .ok (.iadd, 1)) ∧ (decode cL_law 2424 = .ok (.iaload, 1)) ∧ (decode cL_law 2425 = .ok (.invokevirtual 320, 3)) ∧ (decode cL_law 2428 = .ok (.istore 7, 2)) ∧ (decode cL_law 2430 = .ok (.aload_n 2, 1)) ∧ (decode cL_law 2431 = .ok (.invokevirtual 163, 3)) := by decide +kernel
theorem dL_law_2418 : decode cL_law 2418 = .ok (.aload_n 2, 1) := dzL_135.1
theorem dL_law_2419 : decode cL_law 2419 = .ok (.aload_n 0, 1) := dzL_135.2.1
theorem dL_law_2420 : decode cL_law 2420 = .ok (.iload 5, 2) := dzL_135.2.2.1
theorem dL_law_2422 : decode cL_law 2422 = .ok (.iconst 1, 1) := dzL_135.2.2.2.1
theorem dL_law_2423 : decode cL_law 2423 = .ok (.iadd, 1) := dzL_135.2.2.2.2.1
theorem dL_law_2424 : decode cL_law 2424 = .ok (.iaload, 1) := dzL_135.2.2.2.2.2.1
theorem dL_law_2425 : decode cL_law 2425 = .ok (.invokevirtual 320, 3) := dzL_135.2.2.2.2.2.2.1
theorem dL_law_2428 : decode cL_law 2428 = .ok (.istore 7, 2) := dzL_135.2.2.2.2.2.2.2.1
theorem dL_law_2430 : decode cL_law 2430 = .ok (.aload_n 2, 1) := dzL_135.2.2.2.2.2.2.2.2.1
theorem dL_law_2431 : decode cL_law 2431 = .ok (.invokevirtual 163, 3) := dzL_135.2.2.2.2.2.2.2.2.2
theorem dzL_136 : (decode cL_law 2434 = .ok (.iload 6, 2)) ∧ (decode cL_law 2436 = .ok (.if_icmp .eq 5, 3)) ∧ (decode cL_law 2439 = .ok (.iconst 0, 1)) ∧ (decode cL_law 2440 = .ok (.ireturn, 1)) ∧ (decode cL_law 2441 = .ok (.iload 6, 2)) ∧ (decode cL_law 2443 = .ok (.ifCond .ne 15, 3)) ∧ (decode cL_law 2446 = .ok (.aload_n 3, 1)) ∧ (decode cL_law 2447 = .ok (.iconst 0, 1)) ∧ (decode cL_law 2448 = .ok (.laload, 1)) ∧ (decode cL_law 2449 = .ok (.iload 7, 2)) := by decide +kernel
theorem dL_law_2434 : decode cL_law 2434 = .ok (.iload 6, 2) := dzL_136.1
theorem dL_law_2436 : decode cL_law 2436 = .ok (.if_icmp .eq 5, 3) := dzL_136.2.1
theorem dL_law_2439 : decode cL_law 2439 = .ok (.iconst 0, 1) := dzL_136.2.2.1
theorem dL_law_2440 : decode cL_law 2440 = .ok (.ireturn, 1) := dzL_136.2.2.2.1
theorem dL_law_2441 : decode cL_law 2441 = .ok (.iload 6, 2) := dzL_136.2.2.2.2.1
theorem dL_law_2443 : decode cL_law 2443 = .ok (.ifCond .ne 15, 3) := dzL_136.2.2.2.2.2.1
theorem dL_law_2446 : decode cL_law 2446 = .ok (.aload_n 3, 1) := dzL_136.2.2.2.2.2.2.1
theorem dL_law_2447 : decode cL_law 2447 = .ok (.iconst 0, 1) := dzL_136.2.2.2.2.2.2.2.1
theorem dL_law_2448 : decode cL_law 2448 = .ok (.laload, 1) := dzL_136.2.2.2.2.2.2.2.2.1
theorem dL_law_2449 : decode cL_law 2449 = .ok (.iload 7, 2) := dzL_136.2.2.2.2.2.2.2.2.2
theorem dzL_137 : (decode cL_law 2451 = .ok (.i2l, 1)) ∧ (decode cL_law 2452 = .ok (.lcmp, 1)) ∧ (decode cL_law 2453 = .ok (.ifCond .eq 5, 3)) ∧ (decode cL_law 2456 = .ok (.iconst 0, 1)) ∧ (decode cL_law 2457 = .ok (.ireturn, 1)) ∧ (decode cL_law 2458 = .ok (.goto 294, 3)) ∧ (decode cL_law 2461 = .ok (.aload_n 1, 1)) ∧ (decode cL_law 2462 = .ok (.aload_n 0, 1)) ∧ (decode cL_law 2463 = .ok (.iload 5, 2)) ∧ (decode cL_law 2465 = .ok (.iconst 1, 1)) := by decide +kernel
theorem dL_law_2451 : decode cL_law 2451 = .ok (.i2l, 1) := dzL_137.1
theorem dL_law_2452 : decode cL_law 2452 = .ok (.lcmp, 1) := dzL_137.2.1
theorem dL_law_2453 : decode cL_law 2453 = .ok (.ifCond .eq 5, 3) := dzL_137.2.2.1
theorem dL_law_2456 : decode cL_law 2456 = .ok (.iconst 0, 1) := dzL_137.2.2.2.1
theorem dL_law_2457 : decode cL_law 2457 = .ok (.ireturn, 1) := dzL_137.2.2.2.2.1
theorem dL_law_2458 : decode cL_law 2458 = .ok (.goto 294, 3) := dzL_137.2.2.2.2.2.1
theorem dL_law_2461 : decode cL_law 2461 = .ok (.aload_n 1, 1) := dzL_137.2.2.2.2.2.2.1
theorem dL_law_2462 : decode cL_law 2462 = .ok (.aload_n 0, 1) := dzL_137.2.2.2.2.2.2.2.1
theorem dL_law_2463 : decode cL_law 2463 = .ok (.iload 5, 2) := dzL_137.2.2.2.2.2.2.2.2.1
theorem dL_law_2465 : decode cL_law 2465 = .ok (.iconst 1, 1) := dzL_137.2.2.2.2.2.2.2.2.2
theorem dzL_138 : (decode cL_law 2466 = .ok (.iadd, 1)) ∧ (decode cL_law 2467 = .ok (.iaload, 1)) ∧ (decode cL_law 2468 = .ok (.i2c, 1)) ∧ (decode cL_law 2469 = .ok (.aload_n 3, 1)) ∧ (decode cL_law 2470 = .ok (.invokestatic 321, 3)) ∧ (decode cL_law 2473 = .ok (.istore 6, 2)) ∧ (decode cL_law 2475 = .ok (.aload_n 2, 1)) ∧ (decode cL_law 2476 = .ok (.aload_n 0, 1)) ∧ (decode cL_law 2477 = .ok (.iload 5, 2)) ∧ (decode cL_law 2479 = .ok (.iconst 1, 1)) := by decide +kernel
theorem dL_law_2466 : decode cL_law 2466 = .ok (.iadd, 1) := dzL_138.1
theorem dL_law_2467 : decode cL_law 2467 = .ok (.iaload, 1) := dzL_138.2.1
theorem dL_law_2468 : decode cL_law 2468 = .ok (.i2c, 1) := dzL_138.2.2.1
theorem dL_law_2469 : decode cL_law 2469 = .ok (.aload_n 3, 1) := dzL_138.2.2.2.1
theorem dL_law_2470 : decode cL_law 2470 = .ok (.invokestatic 321, 3) := dzL_138.2.2.2.2.1
theorem dL_law_2473 : decode cL_law 2473 = .ok (.istore 6, 2) := dzL_138.2.2.2.2.2.1
theorem dL_law_2475 : decode cL_law 2475 = .ok (.aload_n 2, 1) := dzL_138.2.2.2.2.2.2.1
theorem dL_law_2476 : decode cL_law 2476 = .ok (.aload_n 0, 1) := dzL_138.2.2.2.2.2.2.2.1
theorem dL_law_2477 : decode cL_law 2477 = .ok (.iload 5, 2) := dzL_138.2.2.2.2.2.2.2.2.1
theorem dL_law_2479 : decode cL_law 2479 = .ok (.iconst 1, 1) := dzL_138.2.2.2.2.2.2.2.2.2
theorem dzL_139 : (decode cL_law 2480 = .ok (.iadd, 1)) ∧ (decode cL_law 2481 = .ok (.iaload, 1)) ∧ (decode cL_law 2482 = .ok (.i2c, 1)) ∧ (decode cL_law 2483 = .ok (.invokevirtual 324, 3)) ∧ (decode cL_law 2486 = .ok (.istore 7, 2)) ∧ (decode cL_law 2488 = .ok (.aload_n 2, 1)) ∧ (decode cL_law 2489 = .ok (.invokevirtual 163, 3)) ∧ (decode cL_law 2492 = .ok (.iload 6, 2)) ∧ (decode cL_law 2494 = .ok (.if_icmp .eq 5, 3)) ∧ (decode cL_law 2497 = .ok (.iconst 0, 1)) := by decide +kernel
theorem dL_law_2480 : decode cL_law 2480 = .ok (.iadd, 1) := dzL_139.1
theorem dL_law_2481 : decode cL_law 2481 = .ok (.iaload, 1) := dzL_139.2.1
theorem dL_law_2482 : decode cL_law 2482 = .ok (.i2c, 1) := dzL_139.2.2.1
theorem dL_law_2483 : decode cL_law 2483 = .ok (.invokevirtual 324, 3) := dzL_139.2.2.2.1
theorem dL_law_2486 : decode cL_law 2486 = .ok (.istore 7, 2) := dzL_139.2.2.2.2.1
theorem dL_law_2488 : decode cL_law 2488 = .ok (.aload_n 2, 1) := dzL_139.2.2.2.2.2.1
theorem dL_law_2489 : decode cL_law 2489 = .ok (.invokevirtual 163, 3) := dzL_139.2.2.2.2.2.2.1
theorem dL_law_2492 : decode cL_law 2492 = .ok (.iload 6, 2) := dzL_139.2.2.2.2.2.2.2.1
theorem dL_law_2494 : decode cL_law 2494 = .ok (.if_icmp .eq 5, 3) := dzL_139.2.2.2.2.2.2.2.2.1
theorem dL_law_2497 : decode cL_law 2497 = .ok (.iconst 0, 1) := dzL_139.2.2.2.2.2.2.2.2.2
theorem dzL_140 : (decode cL_law 2498 = .ok (.ireturn, 1)) ∧ (decode cL_law 2499 = .ok (.iload 6, 2)) ∧ (decode cL_law 2501 = .ok (.ifCond .ne 15, 3)) ∧ (decode cL_law 2504 = .ok (.aload_n 3, 1)) ∧ (decode cL_law 2505 = .ok (.iconst 0, 1)) ∧ (decode cL_law 2506 = .ok (.laload, 1)) ∧ (decode cL_law 2507 = .ok (.iload 7, 2)) ∧ (decode cL_law 2509 = .ok (.i2l, 1)) ∧ (decode cL_law 2510 = .ok (.lcmp, 1)) ∧ (decode cL_law 2511 = .ok (.ifCond .eq 5, 3)) := by decide +kernel
theorem dL_law_2498 : decode cL_law 2498 = .ok (.ireturn, 1) := dzL_140.1
theorem dL_law_2499 : decode cL_law 2499 = .ok (.iload 6, 2) := dzL_140.2.1
theorem dL_law_2501 : decode cL_law 2501 = .ok (.ifCond .ne 15, 3) := dzL_140.2.2.1
theorem dL_law_2504 : decode cL_law 2504 = .ok (.aload_n 3, 1) := dzL_140.2.2.2.1
theorem dL_law_2505 : decode cL_law 2505 = .ok (.iconst 0, 1) := dzL_140.2.2.2.2.1
theorem dL_law_2506 : decode cL_law 2506 = .ok (.laload, 1) := dzL_140.2.2.2.2.2.1
theorem dL_law_2507 : decode cL_law 2507 = .ok (.iload 7, 2) := dzL_140.2.2.2.2.2.2.1
theorem dL_law_2509 : decode cL_law 2509 = .ok (.i2l, 1) := dzL_140.2.2.2.2.2.2.2.1
theorem dL_law_2510 : decode cL_law 2510 = .ok (.lcmp, 1) := dzL_140.2.2.2.2.2.2.2.2.1
theorem dL_law_2511 : decode cL_law 2511 = .ok (.ifCond .eq 5, 3) := dzL_140.2.2.2.2.2.2.2.2.2
theorem dzL_141 : (decode cL_law 2514 = .ok (.iconst 0, 1)) ∧ (decode cL_law 2515 = .ok (.ireturn, 1)) ∧ (decode cL_law 2516 = .ok (.goto 236, 3)) ∧ (decode cL_law 2519 = .ok (.aload_n 1, 1)) ∧ (decode cL_law 2520 = .ok (.aload_n 3, 1)) ∧ (decode cL_law 2521 = .ok (.invokestatic 325, 3)) ∧ (decode cL_law 2524 = .ok (.istore 6, 2)) ∧ (decode cL_law 2526 = .ok (.aload_n 2, 1)) ∧ (decode cL_law 2527 = .ok (.invokevirtual 327, 3)) ∧ (decode cL_law 2530 = .ok (.istore 7, 2)) := by decide +kernel
theorem dL_law_2514 : decode cL_law 2514 = .ok (.iconst 0, 1) := dzL_141.1
theorem dL_law_2515 : decode cL_law 2515 = .ok (.ireturn, 1) := dzL_141.2.1
theorem dL_law_2516 : decode cL_law 2516 = .ok (.goto 236, 3) := dzL_141.2.2.1
theorem dL_law_2519 : decode cL_law 2519 = .ok (.aload_n 1, 1) := dzL_141.2.2.2.1
theorem dL_law_2520 : decode cL_law 2520 = .ok (.aload_n 3, 1) := dzL_141.2.2.2.2.1
theorem dL_law_2521 : decode cL_law 2521 = .ok (.invokestatic 325, 3) := dzL_141.2.2.2.2.2.1
theorem dL_law_2524 : decode cL_law 2524 = .ok (.istore 6, 2) := dzL_141.2.2.2.2.2.2.1
theorem dL_law_2526 : decode cL_law 2526 = .ok (.aload_n 2, 1) := dzL_141.2.2.2.2.2.2.2.1
theorem dL_law_2527 : decode cL_law 2527 = .ok (.invokevirtual 327, 3) := dzL_141.2.2.2.2.2.2.2.2.1
theorem dL_law_2530 : decode cL_law 2530 = .ok (.istore 7, 2) := dzL_141.2.2.2.2.2.2.2.2.2
theorem dzL_142 : (decode cL_law 2532 = .ok (.aload_n 2, 1)) ∧ (decode cL_law 2533 = .ok (.invokevirtual 163, 3)) ∧ (decode cL_law 2536 = .ok (.iload 6, 2)) ∧ (decode cL_law 2538 = .ok (.if_icmp .eq 5, 3)) ∧ (decode cL_law 2541 = .ok (.iconst 0, 1)) ∧ (decode cL_law 2542 = .ok (.ireturn, 1)) ∧ (decode cL_law 2543 = .ok (.iload 6, 2)) ∧ (decode cL_law 2545 = .ok (.ifCond .ne 15, 3)) ∧ (decode cL_law 2548 = .ok (.aload_n 3, 1)) ∧ (decode cL_law 2549 = .ok (.iconst 0, 1)) := by decide +kernel
theorem dL_law_2532 : decode cL_law 2532 = .ok (.aload_n 2, 1) := dzL_142.1
theorem dL_law_2533 : decode cL_law 2533 = .ok (.invokevirtual 163, 3) := dzL_142.2.1
theorem dL_law_2536 : decode cL_law 2536 = .ok (.iload 6, 2) := dzL_142.2.2.1
theorem dL_law_2538 : decode cL_law 2538 = .ok (.if_icmp .eq 5, 3) := dzL_142.2.2.2.1
theorem dL_law_2541 : decode cL_law 2541 = .ok (.iconst 0, 1) := dzL_142.2.2.2.2.1
theorem dL_law_2542 : decode cL_law 2542 = .ok (.ireturn, 1) := dzL_142.2.2.2.2.2.1
theorem dL_law_2543 : decode cL_law 2543 = .ok (.iload 6, 2) := dzL_142.2.2.2.2.2.2.1
theorem dL_law_2545 : decode cL_law 2545 = .ok (.ifCond .ne 15, 3) := dzL_142.2.2.2.2.2.2.2.1
theorem dL_law_2548 : decode cL_law 2548 = .ok (.aload_n 3, 1) := dzL_142.2.2.2.2.2.2.2.2.1
theorem dL_law_2549 : decode cL_law 2549 = .ok (.iconst 0, 1) := dzL_142.2.2.2.2.2.2.2.2.2
theorem dzL_143 : (decode cL_law 2550 = .ok (.laload, 1)) ∧ (decode cL_law 2551 = .ok (.iload 7, 2)) ∧ (decode cL_law 2553 = .ok (.i2l, 1)) ∧ (decode cL_law 2554 = .ok (.lcmp, 1)) ∧ (decode cL_law 2555 = .ok (.ifCond .eq 5, 3)) ∧ (decode cL_law 2558 = .ok (.iconst 0, 1)) ∧ (decode cL_law 2559 = .ok (.ireturn, 1)) ∧ (decode cL_law 2560 = .ok (.goto 192, 3)) ∧ (decode cL_law 2563 = .ok (.aload_n 1, 1)) ∧ (decode cL_law 2564 = .ok (.aload_n 3, 1)) := by decide +kernel
theorem dL_law_2550 : decode cL_law 2550 = .ok (.laload, 1) := dzL_143.1
theorem dL_law_2551 : decode cL_law 2551 = .ok (.iload 7, 2) := dzL_143.2.1
theorem dL_law_2553 : decode cL_law 2553 = .ok (.i2l, 1) := dzL_143.2.2.1
theorem dL_law_2554 : decode cL_law 2554 = .ok (.lcmp, 1) := dzL_143.2.2.2.1
theorem dL_law_2555 : decode cL_law 2555 = .ok (.ifCond .eq 5, 3) := dzL_143.2.2.2.2.1
theorem dL_law_2558 : decode cL_law 2558 = .ok (.iconst 0, 1) := dzL_143.2.2.2.2.2.1
theorem dL_law_2559 : decode cL_law 2559 = .ok (.ireturn, 1) := dzL_143.2.2.2.2.2.2.1
theorem dL_law_2560 : decode cL_law 2560 = .ok (.goto 192, 3) := dzL_143.2.2.2.2.2.2.2.1
theorem dL_law_2563 : decode cL_law 2563 = .ok (.aload_n 1, 1) := dzL_143.2.2.2.2.2.2.2.2.1
theorem dL_law_2564 : decode cL_law 2564 = .ok (.aload_n 3, 1) := dzL_143.2.2.2.2.2.2.2.2.2
theorem dzL_144 : (decode cL_law 2565 = .ok (.invokestatic 328, 3)) ∧ (decode cL_law 2568 = .ok (.istore 6, 2)) ∧ (decode cL_law 2570 = .ok (.aload_n 2, 1)) ∧ (decode cL_law 2571 = .ok (.invokevirtual 330, 3)) ∧ (decode cL_law 2574 = .ok (.istore 7, 2)) ∧ (decode cL_law 2576 = .ok (.aload_n 2, 1)) ∧ (decode cL_law 2577 = .ok (.invokevirtual 163, 3)) ∧ (decode cL_law 2580 = .ok (.iload 6, 2)) ∧ (decode cL_law 2582 = .ok (.if_icmp .eq 5, 3)) ∧ (decode cL_law 2585 = .ok (.iconst 0, 1)) := by decide +kernel
theorem dL_law_2565 : decode cL_law 2565 = .ok (.invokestatic 328, 3) := dzL_144.1
theorem dL_law_2568 : decode cL_law 2568 = .ok (.istore 6, 2) := dzL_144.2.1
theorem dL_law_2570 : decode cL_law 2570 = .ok (.aload_n 2, 1) := dzL_144.2.2.1
theorem dL_law_2571 : decode cL_law 2571 = .ok (.invokevirtual 330, 3) := dzL_144.2.2.2.1
theorem dL_law_2574 : decode cL_law 2574 = .ok (.istore 7, 2) := dzL_144.2.2.2.2.1
theorem dL_law_2576 : decode cL_law 2576 = .ok (.aload_n 2, 1) := dzL_144.2.2.2.2.2.1
theorem dL_law_2577 : decode cL_law 2577 = .ok (.invokevirtual 163, 3) := dzL_144.2.2.2.2.2.2.1
theorem dL_law_2580 : decode cL_law 2580 = .ok (.iload 6, 2) := dzL_144.2.2.2.2.2.2.2.1
theorem dL_law_2582 : decode cL_law 2582 = .ok (.if_icmp .eq 5, 3) := dzL_144.2.2.2.2.2.2.2.2.1
theorem dL_law_2585 : decode cL_law 2585 = .ok (.iconst 0, 1) := dzL_144.2.2.2.2.2.2.2.2.2
theorem dzL_145 : (decode cL_law 2586 = .ok (.ireturn, 1)) ∧ (decode cL_law 2587 = .ok (.iload 6, 2)) ∧ (decode cL_law 2589 = .ok (.ifCond .ne 15, 3)) ∧ (decode cL_law 2592 = .ok (.aload_n 3, 1)) ∧ (decode cL_law 2593 = .ok (.iconst 0, 1)) ∧ (decode cL_law 2594 = .ok (.laload, 1)) ∧ (decode cL_law 2595 = .ok (.iload 7, 2)) ∧ (decode cL_law 2597 = .ok (.i2l, 1)) ∧ (decode cL_law 2598 = .ok (.lcmp, 1)) ∧ (decode cL_law 2599 = .ok (.ifCond .eq 5, 3)) := by decide +kernel
theorem dL_law_2586 : decode cL_law 2586 = .ok (.ireturn, 1) := dzL_145.1
theorem dL_law_2587 : decode cL_law 2587 = .ok (.iload 6, 2) := dzL_145.2.1
theorem dL_law_2589 : decode cL_law 2589 = .ok (.ifCond .ne 15, 3) := dzL_145.2.2.1
theorem dL_law_2592 : decode cL_law 2592 = .ok (.aload_n 3, 1) := dzL_145.2.2.2.1
theorem dL_law_2593 : decode cL_law 2593 = .ok (.iconst 0, 1) := dzL_145.2.2.2.2.1
theorem dL_law_2594 : decode cL_law 2594 = .ok (.laload, 1) := dzL_145.2.2.2.2.2.1
theorem dL_law_2595 : decode cL_law 2595 = .ok (.iload 7, 2) := dzL_145.2.2.2.2.2.2.1
theorem dL_law_2597 : decode cL_law 2597 = .ok (.i2l, 1) := dzL_145.2.2.2.2.2.2.2.1
theorem dL_law_2598 : decode cL_law 2598 = .ok (.lcmp, 1) := dzL_145.2.2.2.2.2.2.2.2.1
theorem dL_law_2599 : decode cL_law 2599 = .ok (.ifCond .eq 5, 3) := dzL_145.2.2.2.2.2.2.2.2.2
theorem dzL_146 : (decode cL_law 2602 = .ok (.iconst 0, 1)) ∧ (decode cL_law 2603 = .ok (.ireturn, 1)) ∧ (decode cL_law 2604 = .ok (.goto 148, 3)) ∧ (decode cL_law 2607 = .ok (.aload_n 1, 1)) ∧ (decode cL_law 2608 = .ok (.aload_n 3, 1)) ∧ (decode cL_law 2609 = .ok (.invokestatic 331, 3)) ∧ (decode cL_law 2612 = .ok (.istore 6, 2)) ∧ (decode cL_law 2614 = .ok (.aload_n 2, 1)) ∧ (decode cL_law 2615 = .ok (.invokevirtual 333, 3)) ∧ (decode cL_law 2618 = .ok (.istore 7, 2)) := by decide +kernel
theorem dL_law_2602 : decode cL_law 2602 = .ok (.iconst 0, 1) := dzL_146.1
theorem dL_law_2603 : decode cL_law 2603 = .ok (.ireturn, 1) := dzL_146.2.1
theorem dL_law_2604 : decode cL_law 2604 = .ok (.goto 148, 3) := dzL_146.2.2.1
theorem dL_law_2607 : decode cL_law 2607 = .ok (.aload_n 1, 1) := dzL_146.2.2.2.1
theorem dL_law_2608 : decode cL_law 2608 = .ok (.aload_n 3, 1) := dzL_146.2.2.2.2.1
theorem dL_law_2609 : decode cL_law 2609 = .ok (.invokestatic 331, 3) := dzL_146.2.2.2.2.2.1
theorem dL_law_2612 : decode cL_law 2612 = .ok (.istore 6, 2) := dzL_146.2.2.2.2.2.2.1
theorem dL_law_2614 : decode cL_law 2614 = .ok (.aload_n 2, 1) := dzL_146.2.2.2.2.2.2.2.1
theorem dL_law_2615 : decode cL_law 2615 = .ok (.invokevirtual 333, 3) := dzL_146.2.2.2.2.2.2.2.2.1
theorem dL_law_2618 : decode cL_law 2618 = .ok (.istore 7, 2) := dzL_146.2.2.2.2.2.2.2.2.2
theorem dzL_147 : (decode cL_law 2620 = .ok (.aload_n 2, 1)) ∧ (decode cL_law 2621 = .ok (.invokevirtual 163, 3)) ∧ (decode cL_law 2624 = .ok (.iload 6, 2)) ∧ (decode cL_law 2626 = .ok (.if_icmp .eq 5, 3)) ∧ (decode cL_law 2629 = .ok (.iconst 0, 1)) ∧ (decode cL_law 2630 = .ok (.ireturn, 1)) ∧ (decode cL_law 2631 = .ok (.iload 6, 2)) ∧ (decode cL_law 2633 = .ok (.ifCond .ne 15, 3)) ∧ (decode cL_law 2636 = .ok (.aload_n 3, 1)) ∧ (decode cL_law 2637 = .ok (.iconst 0, 1)) := by decide +kernel
theorem dL_law_2620 : decode cL_law 2620 = .ok (.aload_n 2, 1) := dzL_147.1
theorem dL_law_2621 : decode cL_law 2621 = .ok (.invokevirtual 163, 3) := dzL_147.2.1
theorem dL_law_2624 : decode cL_law 2624 = .ok (.iload 6, 2) := dzL_147.2.2.1
theorem dL_law_2626 : decode cL_law 2626 = .ok (.if_icmp .eq 5, 3) := dzL_147.2.2.2.1
theorem dL_law_2629 : decode cL_law 2629 = .ok (.iconst 0, 1) := dzL_147.2.2.2.2.1
theorem dL_law_2630 : decode cL_law 2630 = .ok (.ireturn, 1) := dzL_147.2.2.2.2.2.1
theorem dL_law_2631 : decode cL_law 2631 = .ok (.iload 6, 2) := dzL_147.2.2.2.2.2.2.1
theorem dL_law_2633 : decode cL_law 2633 = .ok (.ifCond .ne 15, 3) := dzL_147.2.2.2.2.2.2.2.1
theorem dL_law_2636 : decode cL_law 2636 = .ok (.aload_n 3, 1) := dzL_147.2.2.2.2.2.2.2.2.1
theorem dL_law_2637 : decode cL_law 2637 = .ok (.iconst 0, 1) := dzL_147.2.2.2.2.2.2.2.2.2
theorem dzL_148 : (decode cL_law 2638 = .ok (.laload, 1)) ∧ (decode cL_law 2639 = .ok (.iload 7, 2)) ∧ (decode cL_law 2641 = .ok (.i2l, 1)) ∧ (decode cL_law 2642 = .ok (.lcmp, 1)) ∧ (decode cL_law 2643 = .ok (.ifCond .eq 5, 3)) ∧ (decode cL_law 2646 = .ok (.iconst 0, 1)) ∧ (decode cL_law 2647 = .ok (.ireturn, 1)) ∧ (decode cL_law 2648 = .ok (.goto 104, 3)) ∧ (decode cL_law 2651 = .ok (.aload_n 1, 1)) ∧ (decode cL_law 2652 = .ok (.aload_n 3, 1)) := by decide +kernel
theorem dL_law_2638 : decode cL_law 2638 = .ok (.laload, 1) := dzL_148.1
theorem dL_law_2639 : decode cL_law 2639 = .ok (.iload 7, 2) := dzL_148.2.1
theorem dL_law_2641 : decode cL_law 2641 = .ok (.i2l, 1) := dzL_148.2.2.1
theorem dL_law_2642 : decode cL_law 2642 = .ok (.lcmp, 1) := dzL_148.2.2.2.1
theorem dL_law_2643 : decode cL_law 2643 = .ok (.ifCond .eq 5, 3) := dzL_148.2.2.2.2.1
theorem dL_law_2646 : decode cL_law 2646 = .ok (.iconst 0, 1) := dzL_148.2.2.2.2.2.1
theorem dL_law_2647 : decode cL_law 2647 = .ok (.ireturn, 1) := dzL_148.2.2.2.2.2.2.1
theorem dL_law_2648 : decode cL_law 2648 = .ok (.goto 104, 3) := dzL_148.2.2.2.2.2.2.2.1
theorem dL_law_2651 : decode cL_law 2651 = .ok (.aload_n 1, 1) := dzL_148.2.2.2.2.2.2.2.2.1
theorem dL_law_2652 : decode cL_law 2652 = .ok (.aload_n 3, 1) := dzL_148.2.2.2.2.2.2.2.2.2
theorem dzL_149 : (decode cL_law 2653 = .ok (.invokestatic 334, 3)) ∧ (decode cL_law 2656 = .ok (.istore 6, 2)) ∧ (decode cL_law 2658 = .ok (.aload_n 2, 1)) ∧ (decode cL_law 2659 = .ok (.invokevirtual 336, 3)) ∧ (decode cL_law 2662 = .ok (.istore 7, 2)) ∧ (decode cL_law 2664 = .ok (.aload_n 2, 1)) ∧ (decode cL_law 2665 = .ok (.invokevirtual 163, 3)) ∧ (decode cL_law 2668 = .ok (.iload 6, 2)) ∧ (decode cL_law 2670 = .ok (.if_icmp .eq 5, 3)) ∧ (decode cL_law 2673 = .ok (.iconst 0, 1)) := by decide +kernel
theorem dL_law_2653 : decode cL_law 2653 = .ok (.invokestatic 334, 3) := dzL_149.1
theorem dL_law_2656 : decode cL_law 2656 = .ok (.istore 6, 2) := dzL_149.2.1
theorem dL_law_2658 : decode cL_law 2658 = .ok (.aload_n 2, 1) := dzL_149.2.2.1
theorem dL_law_2659 : decode cL_law 2659 = .ok (.invokevirtual 336, 3) := dzL_149.2.2.2.1
theorem dL_law_2662 : decode cL_law 2662 = .ok (.istore 7, 2) := dzL_149.2.2.2.2.1
theorem dL_law_2664 : decode cL_law 2664 = .ok (.aload_n 2, 1) := dzL_149.2.2.2.2.2.1
theorem dL_law_2665 : decode cL_law 2665 = .ok (.invokevirtual 163, 3) := dzL_149.2.2.2.2.2.2.1
theorem dL_law_2668 : decode cL_law 2668 = .ok (.iload 6, 2) := dzL_149.2.2.2.2.2.2.2.1
theorem dL_law_2670 : decode cL_law 2670 = .ok (.if_icmp .eq 5, 3) := dzL_149.2.2.2.2.2.2.2.2.1
theorem dL_law_2673 : decode cL_law 2673 = .ok (.iconst 0, 1) := dzL_149.2.2.2.2.2.2.2.2.2
theorem dzL_150 : (decode cL_law 2674 = .ok (.ireturn, 1)) ∧ (decode cL_law 2675 = .ok (.iload 6, 2)) ∧ (decode cL_law 2677 = .ok (.ifCond .ne 15, 3)) ∧ (decode cL_law 2680 = .ok (.aload_n 3, 1)) ∧ (decode cL_law 2681 = .ok (.iconst 0, 1)) ∧ (decode cL_law 2682 = .ok (.laload, 1)) ∧ (decode cL_law 2683 = .ok (.iload 7, 2)) ∧ (decode cL_law 2685 = .ok (.i2l, 1)) ∧ (decode cL_law 2686 = .ok (.lcmp, 1)) ∧ (decode cL_law 2687 = .ok (.ifCond .eq 5, 3)) := by decide +kernel
theorem dL_law_2674 : decode cL_law 2674 = .ok (.ireturn, 1) := dzL_150.1
theorem dL_law_2675 : decode cL_law 2675 = .ok (.iload 6, 2) := dzL_150.2.1
theorem dL_law_2677 : decode cL_law 2677 = .ok (.ifCond .ne 15, 3) := dzL_150.2.2.1
theorem dL_law_2680 : decode cL_law 2680 = .ok (.aload_n 3, 1) := dzL_150.2.2.2.1
theorem dL_law_2681 : decode cL_law 2681 = .ok (.iconst 0, 1) := dzL_150.2.2.2.2.1
theorem dL_law_2682 : decode cL_law 2682 = .ok (.laload, 1) := dzL_150.2.2.2.2.2.1
theorem dL_law_2683 : decode cL_law 2683 = .ok (.iload 7, 2) := dzL_150.2.2.2.2.2.2.1
theorem dL_law_2685 : decode cL_law 2685 = .ok (.i2l, 1) := dzL_150.2.2.2.2.2.2.2.1
theorem dL_law_2686 : decode cL_law 2686 = .ok (.lcmp, 1) := dzL_150.2.2.2.2.2.2.2.2.1
theorem dL_law_2687 : decode cL_law 2687 = .ok (.ifCond .eq 5, 3) := dzL_150.2.2.2.2.2.2.2.2.2
theorem dzL_151 : (decode cL_law 2690 = .ok (.iconst 0, 1)) ∧ (decode cL_law 2691 = .ok (.ireturn, 1)) ∧ (decode cL_law 2692 = .ok (.goto 60, 3)) ∧ (decode cL_law 2695 = .ok (.aload_n 1, 1)) ∧ (decode cL_law 2696 = .ok (.invokevirtual 337, 3)) ∧ (decode cL_law 2699 = .ok (.aload_n 2, 1)) ∧ (decode cL_law 2700 = .ok (.invokevirtual 340, 3)) ∧ (decode cL_law 2703 = .ok (.if_icmp .eq 49, 3)) ∧ (decode cL_law 2706 = .ok (.iconst 0, 1)) ∧ (decode cL_law 2707 = .ok (.ireturn, 1)) := by decide +kernel
theorem dL_law_2690 : decode cL_law 2690 = .ok (.iconst 0, 1) := dzL_151.1
theorem dL_law_2691 : decode cL_law 2691 = .ok (.ireturn, 1) := dzL_151.2.1
theorem dL_law_2692 : decode cL_law 2692 = .ok (.goto 60, 3) := dzL_151.2.2.1
theorem dL_law_2695 : decode cL_law 2695 = .ok (.aload_n 1, 1) := dzL_151.2.2.2.1
theorem dL_law_2696 : decode cL_law 2696 = .ok (.invokevirtual 337, 3) := dzL_151.2.2.2.2.1
theorem dL_law_2699 : decode cL_law 2699 = .ok (.aload_n 2, 1) := dzL_151.2.2.2.2.2.1
theorem dL_law_2700 : decode cL_law 2700 = .ok (.invokevirtual 340, 3) := dzL_151.2.2.2.2.2.2.1
theorem dL_law_2703 : decode cL_law 2703 = .ok (.if_icmp .eq 49, 3) := dzL_151.2.2.2.2.2.2.2.1
theorem dL_law_2706 : decode cL_law 2706 = .ok (.iconst 0, 1) := dzL_151.2.2.2.2.2.2.2.2.1
theorem dL_law_2707 : decode cL_law 2707 = .ok (.ireturn, 1) := dzL_151.2.2.2.2.2.2.2.2.2
theorem dzL_152 : (decode cL_law 2708 = .ok (.aload_n 1, 1)) ∧ (decode cL_law 2709 = .ok (.aload_n 3, 1)) ∧ (decode cL_law 2710 = .ok (.invokestatic 341, 3)) ∧ (decode cL_law 2713 = .ok (.istore 6, 2)) ∧ (decode cL_law 2715 = .ok (.aload_n 2, 1)) ∧ (decode cL_law 2716 = .ok (.invokevirtual 343, 3)) ∧ (decode cL_law 2719 = .ok (.istore 7, 2)) ∧ (decode cL_law 2721 = .ok (.aload_n 2, 1)) ∧ (decode cL_law 2722 = .ok (.invokevirtual 163, 3)) ∧ (decode cL_law 2725 = .ok (.iload 6, 2)) := by decide +kernel
theorem dL_law_2708 : decode cL_law 2708 = .ok (.aload_n 1, 1) := dzL_152.1
theorem dL_law_2709 : decode cL_law 2709 = .ok (.aload_n 3, 1) := dzL_152.2.1
theorem dL_law_2710 : decode cL_law 2710 = .ok (.invokestatic 341, 3) := dzL_152.2.2.1
theorem dL_law_2713 : decode cL_law 2713 = .ok (.istore 6, 2) := dzL_152.2.2.2.1
theorem dL_law_2715 : decode cL_law 2715 = .ok (.aload_n 2, 1) := dzL_152.2.2.2.2.1
theorem dL_law_2716 : decode cL_law 2716 = .ok (.invokevirtual 343, 3) := dzL_152.2.2.2.2.2.1
theorem dL_law_2719 : decode cL_law 2719 = .ok (.istore 7, 2) := dzL_152.2.2.2.2.2.2.1
theorem dL_law_2721 : decode cL_law 2721 = .ok (.aload_n 2, 1) := dzL_152.2.2.2.2.2.2.2.1
theorem dL_law_2722 : decode cL_law 2722 = .ok (.invokevirtual 163, 3) := dzL_152.2.2.2.2.2.2.2.2.1
theorem dL_law_2725 : decode cL_law 2725 = .ok (.iload 6, 2) := dzL_152.2.2.2.2.2.2.2.2.2
theorem dzL_153 : (decode cL_law 2727 = .ok (.if_icmp .eq 5, 3)) ∧ (decode cL_law 2730 = .ok (.iconst 0, 1)) ∧ (decode cL_law 2731 = .ok (.ireturn, 1)) ∧ (decode cL_law 2732 = .ok (.iload 6, 2)) ∧ (decode cL_law 2734 = .ok (.ifCond .ne 15, 3)) ∧ (decode cL_law 2737 = .ok (.aload_n 3, 1)) ∧ (decode cL_law 2738 = .ok (.iconst 0, 1)) ∧ (decode cL_law 2739 = .ok (.laload, 1)) ∧ (decode cL_law 2740 = .ok (.iload 7, 2)) ∧ (decode cL_law 2742 = .ok (.i2l, 1)) := by decide +kernel
theorem dL_law_2727 : decode cL_law 2727 = .ok (.if_icmp .eq 5, 3) := dzL_153.1
theorem dL_law_2730 : decode cL_law 2730 = .ok (.iconst 0, 1) := dzL_153.2.1
theorem dL_law_2731 : decode cL_law 2731 = .ok (.ireturn, 1) := dzL_153.2.2.1
theorem dL_law_2732 : decode cL_law 2732 = .ok (.iload 6, 2) := dzL_153.2.2.2.1
theorem dL_law_2734 : decode cL_law 2734 = .ok (.ifCond .ne 15, 3) := dzL_153.2.2.2.2.1
theorem dL_law_2737 : decode cL_law 2737 = .ok (.aload_n 3, 1) := dzL_153.2.2.2.2.2.1
theorem dL_law_2738 : decode cL_law 2738 = .ok (.iconst 0, 1) := dzL_153.2.2.2.2.2.2.1
theorem dL_law_2739 : decode cL_law 2739 = .ok (.laload, 1) := dzL_153.2.2.2.2.2.2.2.1
theorem dL_law_2740 : decode cL_law 2740 = .ok (.iload 7, 2) := dzL_153.2.2.2.2.2.2.2.2.1
theorem dL_law_2742 : decode cL_law 2742 = .ok (.i2l, 1) := dzL_153.2.2.2.2.2.2.2.2.2
theorem dzL_154 : (decode cL_law 2743 = .ok (.lcmp, 1)) ∧ (decode cL_law 2744 = .ok (.ifCond .eq 5, 3)) ∧ (decode cL_law 2747 = .ok (.iconst 0, 1)) ∧ (decode cL_law 2748 = .ok (.ireturn, 1)) ∧ (decode cL_law 2749 = .ok (.goto 3, 3)) ∧ (decode cL_law 2752 = .ok (.iinc 5 4, 3)) ∧ (decode cL_law 2755 = .ok (.goto (-2727), 3)) ∧ (decode cL_law 2758 = .ok (.iconst 1, 1)) ∧ (decode cL_law 2759 = .ok (.ireturn, 1)) := by decide +kernel
theorem dL_law_2743 : decode cL_law 2743 = .ok (.lcmp, 1) := dzL_154.1
theorem dL_law_2744 : decode cL_law 2744 = .ok (.ifCond .eq 5, 3) := dzL_154.2.1
theorem dL_law_2747 : decode cL_law 2747 = .ok (.iconst 0, 1) := dzL_154.2.2.1
theorem dL_law_2748 : decode cL_law 2748 = .ok (.ireturn, 1) := dzL_154.2.2.2.1
theorem dL_law_2749 : decode cL_law 2749 = .ok (.goto 3, 3) := dzL_154.2.2.2.2.1
theorem dL_law_2752 : decode cL_law 2752 = .ok (.iinc 5 4, 3) := dzL_154.2.2.2.2.2.1
theorem dL_law_2755 : decode cL_law 2755 = .ok (.goto (-2727), 3) := dzL_154.2.2.2.2.2.2.1
theorem dL_law_2758 : decode cL_law 2758 = .ok (.iconst 1, 1) := dzL_154.2.2.2.2.2.2.2.1
theorem dL_law_2759 : decode cL_law 2759 = .ok (.ireturn, 1) := dzL_154.2.2.2.2.2.2.2.2
