theorem d_L_law_268 : decode code 268 = .ok (.aload_n 3, 1) := by decide +kernel
theorem d_L_law_269 : decode code 269 = .ok (.invokestatic 75, 3) := by decide +kernel
theorem d_L_law_272 : decode code 272 = .ok (.istore 5, 2) := by decide +kernel
theorem d_L_law_274 : decode code 274 = .ok (.aload_n 2, 1) := by decide +kernel
theorem d_L_law_275 : decode code 275 = .ok (.aload_n 0, 1) := by decide +kernel
theorem d_L_law_276 : decode code 276 = .ok (.iload 4, 2) := by decide +kernel
theorem d_L_law_278 : decode code 278 = .ok (.iconst 1, 1) := by decide +kernel
theorem d_L_law_279 : decode code 279 = .ok (.iadd, 1) := by decide +kernel
theorem d_L_law_280 : decode code 280 = .ok (.iaload, 1) := by decide +kernel
theorem d_L_law_281 : decode code 281 = .ok (.invokevirtual 77, 3) := by decide +kernel
theorem d_L_law_284 : decode code 284 = .ok (.istore 6, 2) := by decide +kernel
theorem d_L_law_286 : decode code 286 = .ok (.aload_n 2, 1) := by decide +kernel
theorem d_L_law_287 : decode code 287 = .ok (.invokevirtual 54, 3) := by decide +kernel
theorem d_L_law_290 : decode code 290 = .ok (.iload 5, 2) := by decide +kernel
theorem d_L_law_292 : decode code 292 = .ok (.if_icmp .eq 5, 3) := by decide +kernel
theorem d_L_law_295 : decode code 295 = .ok (.iconst 0, 1) := by decide +kernel
theorem d_L_law_296 : decode code 296 = .ok (.ireturn, 1) := by decide +kernel
theorem d_L_law_297 : decode code 297 = .ok (.iload 5, 2) := by decide +kernel
theorem d_L_law_299 : decode code 299 = .ok (.ifCond .ne 15, 3) := by decide +kernel
theorem d_L_law_302 : decode code 302 = .ok (.aload_n 3, 1) := by decide +kernel
theorem d_L_law_303 : decode code 303 = .ok (.iconst 0, 1) := by decide +kernel
theorem d_L_law_304 : decode code 304 = .ok (.laload, 1) := by decide +kernel
theorem d_L_law_305 : decode code 305 = .ok (.iload 6, 2) := by decide +kernel
theorem d_L_law_307 : decode code 307 = .ok (.i2l, 1) := by decide +kernel
theorem d_L_law_308 : decode code 308 = .ok (.lcmp, 1) := by decide +kernel
theorem d_L_law_309 : decode code 309 = .ok (.ifCond .eq 5, 3) := by decide +kernel
theorem d_L_law_312 : decode code 312 = .ok (.iconst 0, 1) := by decide +kernel
theorem d_L_law_313 : decode code 313 = .ok (.ireturn, 1) := by decide +kernel
theorem d_L_law_314 : decode code 314 = .ok (.goto 327, 3) := by decide +kernel
theorem d_L_law_317 : decode code 317 = .ok (.aload_n 1, 1) := by decide +kernel
theorem d_L_law_318 : decode code 318 = .ok (.aload_n 0, 1) := by decide +kernel
theorem d_L_law_319 : decode code 319 = .ok (.iload 4, 2) := by decide +kernel
theorem d_L_law_321 : decode code 321 = .ok (.iconst 1, 1) := by decide +kernel
theorem d_L_law_322 : decode code 322 = .ok (.iadd, 1) := by decide +kernel
theorem d_L_law_323 : decode code 323 = .ok (.iaload, 1) := by decide +kernel
theorem d_L_law_324 : decode code 324 = .ok (.aload_n 3, 1) := by decide +kernel
theorem d_L_law_325 : decode code 325 = .ok (.invokestatic 78, 3) := by decide +kernel
theorem d_L_law_328 : decode code 328 = .ok (.istore 5, 2) := by decide +kernel
theorem d_L_law_330 : decode code 330 = .ok (.aload_n 2, 1) := by decide +kernel
theorem d_L_law_331 : decode code 331 = .ok (.aload_n 0, 1) := by decide +kernel
theorem d_L_law_332 : decode code 332 = .ok (.iload 4, 2) := by decide +kernel
theorem d_L_law_334 : decode code 334 = .ok (.iconst 1, 1) := by decide +kernel
theorem d_L_law_335 : decode code 335 = .ok (.iadd, 1) := by decide +kernel
theorem d_L_law_336 : decode code 336 = .ok (.iaload, 1) := by decide +kernel
theorem d_L_law_337 : decode code 337 = .ok (.invokevirtual 80, 3) := by decide +kernel
theorem d_L_law_340 : decode code 340 = .ok (.istore 6, 2) := by decide +kernel
theorem d_L_law_342 : decode code 342 = .ok (.aload_n 2, 1) := by decide +kernel
theorem d_L_law_343 : decode code 343 = .ok (.invokevirtual 54, 3) := by decide +kernel
theorem d_L_law_346 : decode code 346 = .ok (.iload 5, 2) := by decide +kernel
theorem d_L_law_348 : decode code 348 = .ok (.if_icmp .eq 5, 3) := by decide +kernel
theorem d_L_law_351 : decode code 351 = .ok (.iconst 0, 1) := by decide +kernel
theorem d_L_law_352 : decode code 352 = .ok (.ireturn, 1) := by decide +kernel
theorem d_L_law_353 : decode code 353 = .ok (.iload 5, 2) := by decide +kernel
theorem d_L_law_355 : decode code 355 = .ok (.ifCond .ne 15, 3) := by decide +kernel
theorem d_L_law_358 : decode code 358 = .ok (.aload_n 3, 1) := by decide +kernel
theorem d_L_law_359 : decode code 359 = .ok (.iconst 0, 1) := by decide +kernel
theorem d_L_law_360 : decode code 360 = .ok (.laload, 1) := by decide +kernel
theorem d_L_law_361 : decode code 361 = .ok (.iload 6, 2) := by decide +kernel
theorem d_L_law_363 : decode code 363 = .ok (.i2l, 1) := by decide +kernel
theorem d_L_law_364 : decode code 364 = .ok (.lcmp, 1) := by decide +kernel
theorem d_L_law_365 : decode code 365 = .ok (.ifCond .eq 5, 3) := by decide +kernel
theorem d_L_law_368 : decode code 368 = .ok (.iconst 0, 1) := by decide +kernel
theorem d_L_law_369 : decode code 369 = .ok (.ireturn, 1) := by decide +kernel
theorem d_L_law_370 : decode code 370 = .ok (.goto 271, 3) := by decide +kernel
theorem d_L_law_373 : decode code 373 = .ok (.aload_n 1, 1) := by decide +kernel
theorem d_L_law_374 : decode code 374 = .ok (.aload_n 0, 1) := by decide +kernel
theorem d_L_law_375 : decode code 375 = .ok (.iload 4, 2) := by decide +kernel
theorem d_L_law_377 : decode code 377 = .ok (.iconst 1, 1) := by decide +kernel
theorem d_L_law_378 : decode code 378 = .ok (.iadd, 1) := by decide +kernel
theorem d_L_law_379 : decode code 379 = .ok (.iaload, 1) := by decide +kernel
theorem d_L_law_380 : decode code 380 = .ok (.aload_n 0, 1) := by decide +kernel
theorem d_L_law_381 : decode code 381 = .ok (.iload 4, 2) := by decide +kernel
theorem d_L_law_383 : decode code 383 = .ok (.iconst 2, 1) := by decide +kernel
theorem d_L_law_384 : decode code 384 = .ok (.iadd, 1) := by decide +kernel
theorem d_L_law_385 : decode code 385 = .ok (.iaload, 1) := by decide +kernel
theorem d_L_law_386 : decode code 386 = .ok (.aload_n 0, 1) := by decide +kernel
theorem d_L_law_387 : decode code 387 = .ok (.iload 4, 2) := by decide +kernel
theorem d_L_law_389 : decode code 389 = .ok (.iconst 3, 1) := by decide +kernel
theorem d_L_law_390 : decode code 390 = .ok (.iadd, 1) := by decide +kernel
theorem d_L_law_391 : decode code 391 = .ok (.iaload, 1) := by decide +kernel
theorem d_L_law_392 : decode code 392 = .ok (.aload_n 0, 1) := by decide +kernel
theorem d_L_law_393 : decode code 393 = .ok (.iload 4, 2) := by decide +kernel
theorem d_L_law_395 : decode code 395 = .ok (.iconst 4, 1) := by decide +kernel
theorem d_L_law_396 : decode code 396 = .ok (.iadd, 1) := by decide +kernel
theorem d_L_law_397 : decode code 397 = .ok (.iaload, 1) := by decide +kernel
theorem d_L_law_398 : decode code 398 = .ok (.aload_n 0, 1) := by decide +kernel
theorem d_L_law_399 : decode code 399 = .ok (.iload 4, 2) := by decide +kernel
theorem d_L_law_401 : decode code 401 = .ok (.iconst 5, 1) := by decide +kernel
theorem d_L_law_402 : decode code 402 = .ok (.iadd, 1) := by decide +kernel
theorem d_L_law_403 : decode code 403 = .ok (.iaload, 1) := by decide +kernel
theorem d_L_law_404 : decode code 404 = .ok (.aload_n 3, 1) := by decide +kernel
theorem d_L_law_405 : decode code 405 = .ok (.invokestatic 81, 3) := by decide +kernel
theorem d_L_law_408 : decode code 408 = .ok (.istore 5, 2) := by decide +kernel
theorem d_L_law_410 : decode code 410 = .ok (.aload_n 2, 1) := by decide +kernel
theorem d_L_law_411 : decode code 411 = .ok (.aload_n 0, 1) := by decide +kernel
theorem d_L_law_412 : decode code 412 = .ok (.iload 4, 2) := by decide +kernel
theorem d_L_law_414 : decode code 414 = .ok (.iconst 1, 1) := by decide +kernel
theorem d_L_law_415 : decode code 415 = .ok (.iadd, 1) := by decide +kernel
theorem d_L_law_416 : decode code 416 = .ok (.iaload, 1) := by decide +kernel
theorem d_L_law_417 : decode code 417 = .ok (.aload_n 0, 1) := by decide +kernel
theorem d_L_law_418 : decode code 418 = .ok (.iload 4, 2) := by decide +kernel
theorem d_L_law_420 : decode code 420 = .ok (.iconst 2, 1) := by decide +kernel
theorem d_L_law_421 : decode code 421 = .ok (.iadd, 1) := by decide +kernel
theorem d_L_law_422 : decode code 422 = .ok (.iaload, 1) := by decide +kernel
theorem d_L_law_423 : decode code 423 = .ok (.aload_n 0, 1) := by decide +kernel
theorem d_L_law_424 : decode code 424 = .ok (.iload 4, 2) := by decide +kernel
theorem d_L_law_426 : decode code 426 = .ok (.iconst 3, 1) := by decide +kernel
theorem d_L_law_427 : decode code 427 = .ok (.iadd, 1) := by decide +kernel
theorem d_L_law_428 : decode code 428 = .ok (.iaload, 1) := by decide +kernel
theorem d_L_law_429 : decode code 429 = .ok (.aload_n 0, 1) := by decide +kernel
theorem d_L_law_430 : decode code 430 = .ok (.iload 4, 2) := by decide +kernel
theorem d_L_law_432 : decode code 432 = .ok (.iconst 4, 1) := by decide +kernel
theorem d_L_law_433 : decode code 433 = .ok (.iadd, 1) := by decide +kernel
theorem d_L_law_434 : decode code 434 = .ok (.iaload, 1) := by decide +kernel
theorem d_L_law_435 : decode code 435 = .ok (.aload_n 0, 1) := by decide +kernel
theorem d_L_law_436 : decode code 436 = .ok (.iload 4, 2) := by decide +kernel
theorem d_L_law_438 : decode code 438 = .ok (.iconst 5, 1) := by decide +kernel
theorem d_L_law_439 : decode code 439 = .ok (.iadd, 1) := by decide +kernel
theorem d_L_law_440 : decode code 440 = .ok (.iaload, 1) := by decide +kernel
theorem d_L_law_441 : decode code 441 = .ok (.invokevirtual 84, 3) := by decide +kernel
theorem d_L_law_444 : decode code 444 = .ok (.istore 6, 2) := by decide +kernel
theorem d_L_law_446 : decode code 446 = .ok (.aload_n 2, 1) := by decide +kernel
theorem d_L_law_447 : decode code 447 = .ok (.invokevirtual 54, 3) := by decide +kernel
theorem d_L_law_450 : decode code 450 = .ok (.iload 5, 2) := by decide +kernel
theorem d_L_law_452 : decode code 452 = .ok (.if_icmp .eq 5, 3) := by decide +kernel
theorem d_L_law_455 : decode code 455 = .ok (.iconst 0, 1) := by decide +kernel
theorem d_L_law_456 : decode code 456 = .ok (.ireturn, 1) := by decide +kernel
theorem d_L_law_457 : decode code 457 = .ok (.iload 5, 2) := by decide +kernel
theorem d_L_law_459 : decode code 459 = .ok (.ifCond .ne 15, 3) := by decide +kernel
theorem d_L_law_462 : decode code 462 = .ok (.aload_n 3, 1) := by decide +kernel
