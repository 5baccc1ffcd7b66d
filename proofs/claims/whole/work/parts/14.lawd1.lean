theorem d_LW_law_297 : decode b_LW_law 297 = .ok (.aload_n 0, 1) := by decide +kernel
theorem d_LW_law_298 : decode b_LW_law 298 = .ok (.iload_n 3, 1) := by decide +kernel
theorem d_LW_law_299 : decode b_LW_law 299 = .ok (.iconst 3, 1) := by decide +kernel
theorem d_LW_law_300 : decode b_LW_law 300 = .ok (.iadd, 1) := by decide +kernel
theorem d_LW_law_301 : decode b_LW_law 301 = .ok (.iaload, 1) := by decide +kernel
theorem d_LW_law_302 : decode b_LW_law 302 = .ok (.ifCond .eq 7, 3) := by decide +kernel
theorem d_LW_law_305 : decode b_LW_law 305 = .ok (.iconst 1, 1) := by decide +kernel
theorem d_LW_law_306 : decode b_LW_law 306 = .ok (.goto 4, 3) := by decide +kernel
theorem d_LW_law_309 : decode b_LW_law 309 = .ok (.iconst 0, 1) := by decide +kernel
theorem d_LW_law_310 : decode b_LW_law 310 = .ok (.invokevirtual 33, 3) := by decide +kernel
theorem d_LW_law_313 : decode b_LW_law 313 = .ok (.aload_n 2, 1) := by decide +kernel
theorem d_LW_law_314 : decode b_LW_law 314 = .ok (.aload_n 0, 1) := by decide +kernel
theorem d_LW_law_315 : decode b_LW_law 315 = .ok (.iload_n 3, 1) := by decide +kernel
theorem d_LW_law_316 : decode b_LW_law 316 = .ok (.iconst 1, 1) := by decide +kernel
theorem d_LW_law_317 : decode b_LW_law 317 = .ok (.iadd, 1) := by decide +kernel
theorem d_LW_law_318 : decode b_LW_law 318 = .ok (.iaload, 1) := by decide +kernel
theorem d_LW_law_319 : decode b_LW_law 319 = .ok (.aload_n 0, 1) := by decide +kernel
theorem d_LW_law_320 : decode b_LW_law 320 = .ok (.iload_n 3, 1) := by decide +kernel
theorem d_LW_law_321 : decode b_LW_law 321 = .ok (.iconst 2, 1) := by decide +kernel
theorem d_LW_law_322 : decode b_LW_law 322 = .ok (.iadd, 1) := by decide +kernel
theorem d_LW_law_323 : decode b_LW_law 323 = .ok (.iaload, 1) := by decide +kernel
theorem d_LW_law_324 : decode b_LW_law 324 = .ok (.aload_n 0, 1) := by decide +kernel
theorem d_LW_law_325 : decode b_LW_law 325 = .ok (.iload_n 3, 1) := by decide +kernel
theorem d_LW_law_326 : decode b_LW_law 326 = .ok (.iconst 3, 1) := by decide +kernel
theorem d_LW_law_327 : decode b_LW_law 327 = .ok (.iadd, 1) := by decide +kernel
theorem d_LW_law_328 : decode b_LW_law 328 = .ok (.iaload, 1) := by decide +kernel
theorem d_LW_law_329 : decode b_LW_law 329 = .ok (.ifCond .eq 7, 3) := by decide +kernel
theorem d_LW_law_332 : decode b_LW_law 332 = .ok (.iconst 1, 1) := by decide +kernel
theorem d_LW_law_333 : decode b_LW_law 333 = .ok (.goto 4, 3) := by decide +kernel
theorem d_LW_law_336 : decode b_LW_law 336 = .ok (.iconst 0, 1) := by decide +kernel
theorem d_LW_law_337 : decode b_LW_law 337 = .ok (.invokevirtual 37, 3) := by decide +kernel
theorem d_LW_law_340 : decode b_LW_law 340 = .ok (.if_icmp .eq 510, 3) := by decide +kernel
theorem d_LW_law_343 : decode b_LW_law 343 = .ok (.iconst 0, 1) := by decide +kernel
theorem d_LW_law_344 : decode b_LW_law 344 = .ok (.ireturn, 1) := by decide +kernel
theorem d_LW_law_345 : decode b_LW_law 345 = .ok (.aload_n 1, 1) := by decide +kernel
theorem d_LW_law_346 : decode b_LW_law 346 = .ok (.aload_n 0, 1) := by decide +kernel
theorem d_LW_law_347 : decode b_LW_law 347 = .ok (.iload_n 3, 1) := by decide +kernel
theorem d_LW_law_348 : decode b_LW_law 348 = .ok (.iconst 1, 1) := by decide +kernel
theorem d_LW_law_349 : decode b_LW_law 349 = .ok (.iadd, 1) := by decide +kernel
theorem d_LW_law_350 : decode b_LW_law 350 = .ok (.iaload, 1) := by decide +kernel
theorem d_LW_law_351 : decode b_LW_law 351 = .ok (.aload_n 0, 1) := by decide +kernel
theorem d_LW_law_352 : decode b_LW_law 352 = .ok (.iload_n 3, 1) := by decide +kernel
theorem d_LW_law_353 : decode b_LW_law 353 = .ok (.iconst 2, 1) := by decide +kernel
theorem d_LW_law_354 : decode b_LW_law 354 = .ok (.iadd, 1) := by decide +kernel
theorem d_LW_law_355 : decode b_LW_law 355 = .ok (.iaload, 1) := by decide +kernel
theorem d_LW_law_356 : decode b_LW_law 356 = .ok (.aload_n 0, 1) := by decide +kernel
theorem d_LW_law_357 : decode b_LW_law 357 = .ok (.iload_n 3, 1) := by decide +kernel
theorem d_LW_law_358 : decode b_LW_law 358 = .ok (.iconst 3, 1) := by decide +kernel
theorem d_LW_law_359 : decode b_LW_law 359 = .ok (.iadd, 1) := by decide +kernel
theorem d_LW_law_360 : decode b_LW_law 360 = .ok (.iaload, 1) := by decide +kernel
theorem d_LW_law_361 : decode b_LW_law 361 = .ok (.invokevirtual 38, 3) := by decide +kernel
theorem d_LW_law_364 : decode b_LW_law 364 = .ok (.aload_n 2, 1) := by decide +kernel
theorem d_LW_law_365 : decode b_LW_law 365 = .ok (.aload_n 0, 1) := by decide +kernel
theorem d_LW_law_366 : decode b_LW_law 366 = .ok (.iload_n 3, 1) := by decide +kernel
theorem d_LW_law_367 : decode b_LW_law 367 = .ok (.iconst 1, 1) := by decide +kernel
theorem d_LW_law_368 : decode b_LW_law 368 = .ok (.iadd, 1) := by decide +kernel
theorem d_LW_law_369 : decode b_LW_law 369 = .ok (.iaload, 1) := by decide +kernel
theorem d_LW_law_370 : decode b_LW_law 370 = .ok (.aload_n 0, 1) := by decide +kernel
theorem d_LW_law_371 : decode b_LW_law 371 = .ok (.iload_n 3, 1) := by decide +kernel
theorem d_LW_law_372 : decode b_LW_law 372 = .ok (.iconst 2, 1) := by decide +kernel
theorem d_LW_law_373 : decode b_LW_law 373 = .ok (.iadd, 1) := by decide +kernel
theorem d_LW_law_374 : decode b_LW_law 374 = .ok (.iaload, 1) := by decide +kernel
theorem d_LW_law_375 : decode b_LW_law 375 = .ok (.aload_n 0, 1) := by decide +kernel
theorem d_LW_law_376 : decode b_LW_law 376 = .ok (.iload_n 3, 1) := by decide +kernel
theorem d_LW_law_377 : decode b_LW_law 377 = .ok (.iconst 3, 1) := by decide +kernel
theorem d_LW_law_378 : decode b_LW_law 378 = .ok (.iadd, 1) := by decide +kernel
theorem d_LW_law_379 : decode b_LW_law 379 = .ok (.iaload, 1) := by decide +kernel
theorem d_LW_law_380 : decode b_LW_law 380 = .ok (.invokevirtual 42, 3) := by decide +kernel
theorem d_LW_law_383 : decode b_LW_law 383 = .ok (.if_icmp .eq 467, 3) := by decide +kernel
theorem d_LW_law_386 : decode b_LW_law 386 = .ok (.iconst 0, 1) := by decide +kernel
theorem d_LW_law_387 : decode b_LW_law 387 = .ok (.ireturn, 1) := by decide +kernel
theorem d_LW_law_388 : decode b_LW_law 388 = .ok (.aload_n 1, 1) := by decide +kernel
theorem d_LW_law_389 : decode b_LW_law 389 = .ok (.aload_n 0, 1) := by decide +kernel
theorem d_LW_law_390 : decode b_LW_law 390 = .ok (.iload_n 3, 1) := by decide +kernel
theorem d_LW_law_391 : decode b_LW_law 391 = .ok (.iconst 1, 1) := by decide +kernel
theorem d_LW_law_392 : decode b_LW_law 392 = .ok (.iadd, 1) := by decide +kernel
theorem d_LW_law_393 : decode b_LW_law 393 = .ok (.iaload, 1) := by decide +kernel
theorem d_LW_law_394 : decode b_LW_law 394 = .ok (.aload_n 0, 1) := by decide +kernel
theorem d_LW_law_395 : decode b_LW_law 395 = .ok (.iload_n 3, 1) := by decide +kernel
theorem d_LW_law_396 : decode b_LW_law 396 = .ok (.iconst 2, 1) := by decide +kernel
theorem d_LW_law_397 : decode b_LW_law 397 = .ok (.iadd, 1) := by decide +kernel
theorem d_LW_law_398 : decode b_LW_law 398 = .ok (.iaload, 1) := by decide +kernel
theorem d_LW_law_399 : decode b_LW_law 399 = .ok (.aload_n 0, 1) := by decide +kernel
theorem d_LW_law_400 : decode b_LW_law 400 = .ok (.iload_n 3, 1) := by decide +kernel
theorem d_LW_law_401 : decode b_LW_law 401 = .ok (.iconst 3, 1) := by decide +kernel
theorem d_LW_law_402 : decode b_LW_law 402 = .ok (.iadd, 1) := by decide +kernel
theorem d_LW_law_403 : decode b_LW_law 403 = .ok (.iaload, 1) := by decide +kernel
theorem d_LW_law_404 : decode b_LW_law 404 = .ok (.aload_n 0, 1) := by decide +kernel
theorem d_LW_law_405 : decode b_LW_law 405 = .ok (.iload_n 3, 1) := by decide +kernel
theorem d_LW_law_406 : decode b_LW_law 406 = .ok (.iconst 4, 1) := by decide +kernel
theorem d_LW_law_407 : decode b_LW_law 407 = .ok (.iadd, 1) := by decide +kernel
theorem d_LW_law_408 : decode b_LW_law 408 = .ok (.iaload, 1) := by decide +kernel
theorem d_LW_law_409 : decode b_LW_law 409 = .ok (.aload_n 0, 1) := by decide +kernel
theorem d_LW_law_410 : decode b_LW_law 410 = .ok (.iload_n 3, 1) := by decide +kernel
theorem d_LW_law_411 : decode b_LW_law 411 = .ok (.iconst 5, 1) := by decide +kernel
theorem d_LW_law_412 : decode b_LW_law 412 = .ok (.iadd, 1) := by decide +kernel
theorem d_LW_law_413 : decode b_LW_law 413 = .ok (.iaload, 1) := by decide +kernel
theorem d_LW_law_414 : decode b_LW_law 414 = .ok (.invokevirtual 43, 3) := by decide +kernel
theorem d_LW_law_417 : decode b_LW_law 417 = .ok (.aload_n 2, 1) := by decide +kernel
theorem d_LW_law_418 : decode b_LW_law 418 = .ok (.aload_n 0, 1) := by decide +kernel
theorem d_LW_law_419 : decode b_LW_law 419 = .ok (.iload_n 3, 1) := by decide +kernel
theorem d_LW_law_420 : decode b_LW_law 420 = .ok (.iconst 1, 1) := by decide +kernel
theorem d_LW_law_421 : decode b_LW_law 421 = .ok (.iadd, 1) := by decide +kernel
theorem d_LW_law_422 : decode b_LW_law 422 = .ok (.iaload, 1) := by decide +kernel
theorem d_LW_law_423 : decode b_LW_law 423 = .ok (.aload_n 0, 1) := by decide +kernel
theorem d_LW_law_424 : decode b_LW_law 424 = .ok (.iload_n 3, 1) := by decide +kernel
theorem d_LW_law_425 : decode b_LW_law 425 = .ok (.iconst 2, 1) := by decide +kernel
theorem d_LW_law_426 : decode b_LW_law 426 = .ok (.iadd, 1) := by decide +kernel
theorem d_LW_law_427 : decode b_LW_law 427 = .ok (.iaload, 1) := by decide +kernel
theorem d_LW_law_428 : decode b_LW_law 428 = .ok (.aload_n 0, 1) := by decide +kernel
theorem d_LW_law_429 : decode b_LW_law 429 = .ok (.iload_n 3, 1) := by decide +kernel
theorem d_LW_law_430 : decode b_LW_law 430 = .ok (.iconst 3, 1) := by decide +kernel
theorem d_LW_law_431 : decode b_LW_law 431 = .ok (.iadd, 1) := by decide +kernel
theorem d_LW_law_432 : decode b_LW_law 432 = .ok (.iaload, 1) := by decide +kernel
theorem d_LW_law_433 : decode b_LW_law 433 = .ok (.aload_n 0, 1) := by decide +kernel
theorem d_LW_law_434 : decode b_LW_law 434 = .ok (.iload_n 3, 1) := by decide +kernel
theorem d_LW_law_435 : decode b_LW_law 435 = .ok (.iconst 4, 1) := by decide +kernel
theorem d_LW_law_436 : decode b_LW_law 436 = .ok (.iadd, 1) := by decide +kernel
theorem d_LW_law_437 : decode b_LW_law 437 = .ok (.iaload, 1) := by decide +kernel
theorem d_LW_law_438 : decode b_LW_law 438 = .ok (.aload_n 0, 1) := by decide +kernel
theorem d_LW_law_439 : decode b_LW_law 439 = .ok (.iload_n 3, 1) := by decide +kernel
theorem d_LW_law_440 : decode b_LW_law 440 = .ok (.iconst 5, 1) := by decide +kernel
theorem d_LW_law_441 : decode b_LW_law 441 = .ok (.iadd, 1) := by decide +kernel
theorem d_LW_law_442 : decode b_LW_law 442 = .ok (.iaload, 1) := by decide +kernel
theorem d_LW_law_443 : decode b_LW_law 443 = .ok (.invokevirtual 47, 3) := by decide +kernel
theorem d_LW_law_446 : decode b_LW_law 446 = .ok (.if_icmp .eq 404, 3) := by decide +kernel
theorem d_LW_law_449 : decode b_LW_law 449 = .ok (.iconst 0, 1) := by decide +kernel
theorem d_LW_law_450 : decode b_LW_law 450 = .ok (.ireturn, 1) := by decide +kernel
theorem d_LW_law_451 : decode b_LW_law 451 = .ok (.aload_n 1, 1) := by decide +kernel
theorem d_LW_law_452 : decode b_LW_law 452 = .ok (.aload_n 0, 1) := by decide +kernel
theorem d_LW_law_453 : decode b_LW_law 453 = .ok (.iload_n 3, 1) := by decide +kernel
theorem d_LW_law_454 : decode b_LW_law 454 = .ok (.iconst 1, 1) := by decide +kernel
theorem d_LW_law_455 : decode b_LW_law 455 = .ok (.iadd, 1) := by decide +kernel
theorem d_LW_law_456 : decode b_LW_law 456 = .ok (.iaload, 1) := by decide +kernel
theorem d_LW_law_457 : decode b_LW_law 457 = .ok (.invokevirtual 48, 3) := by decide +kernel
theorem d_LW_law_460 : decode b_LW_law 460 = .ok (.aload_n 2, 1) := by decide +kernel
theorem d_LW_law_461 : decode b_LW_law 461 = .ok (.aload_n 0, 1) := by decide +kernel
theorem d_LW_law_462 : decode b_LW_law 462 = .ok (.iload_n 3, 1) := by decide +kernel
theorem d_LW_law_463 : decode b_LW_law 463 = .ok (.iconst 1, 1) := by decide +kernel
theorem d_LW_law_464 : decode b_LW_law 464 = .ok (.iadd, 1) := by decide +kernel
theorem d_LW_law_465 : decode b_LW_law 465 = .ok (.iaload, 1) := by decide +kernel
theorem d_LW_law_466 : decode b_LW_law 466 = .ok (.invokevirtual 51, 3) := by decide +kernel
theorem d_LW_law_469 : decode b_LW_law 469 = .ok (.if_icmp .eq 381, 3) := by decide +kernel
theorem d_LW_law_472 : decode b_LW_law 472 = .ok (.iconst 0, 1) := by decide +kernel
theorem d_LW_law_473 : decode b_LW_law 473 = .ok (.ireturn, 1) := by decide +kernel
theorem d_LW_law_474 : decode b_LW_law 474 = .ok (.aload_n 1, 1) := by decide +kernel
theorem d_LW_law_475 : decode b_LW_law 475 = .ok (.aload_n 0, 1) := by decide +kernel
theorem d_LW_law_476 : decode b_LW_law 476 = .ok (.iload_n 3, 1) := by decide +kernel
theorem d_LW_law_477 : decode b_LW_law 477 = .ok (.iconst 1, 1) := by decide +kernel
theorem d_LW_law_478 : decode b_LW_law 478 = .ok (.iadd, 1) := by decide +kernel
theorem d_LW_law_479 : decode b_LW_law 479 = .ok (.iaload, 1) := by decide +kernel
theorem d_LW_law_480 : decode b_LW_law 480 = .ok (.aload_n 0, 1) := by decide +kernel
theorem d_LW_law_481 : decode b_LW_law 481 = .ok (.iload_n 3, 1) := by decide +kernel
theorem d_LW_law_482 : decode b_LW_law 482 = .ok (.iconst 2, 1) := by decide +kernel
theorem d_LW_law_483 : decode b_LW_law 483 = .ok (.iadd, 1) := by decide +kernel
theorem d_LW_law_484 : decode b_LW_law 484 = .ok (.iaload, 1) := by decide +kernel
theorem d_LW_law_485 : decode b_LW_law 485 = .ok (.aload_n 0, 1) := by decide +kernel
theorem d_LW_law_486 : decode b_LW_law 486 = .ok (.iload_n 3, 1) := by decide +kernel
theorem d_LW_law_487 : decode b_LW_law 487 = .ok (.iconst 3, 1) := by decide +kernel
theorem d_LW_law_488 : decode b_LW_law 488 = .ok (.iadd, 1) := by decide +kernel
