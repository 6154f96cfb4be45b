theorem nd_L_law_312 : decode nb_L_law 312 = .ok (.iload 6, 2) := by decide +kernel
theorem nd_L_law_314 : decode nb_L_law 314 = .ok (.i2l, 1) := by decide +kernel
theorem nd_L_law_315 : decode nb_L_law 315 = .ok (.lcmp, 1) := by decide +kernel
theorem nd_L_law_316 : decode nb_L_law 316 = .ok (.ifCond .eq 5, 3) := by decide +kernel
theorem nd_L_law_319 : decode nb_L_law 319 = .ok (.iconst 0, 1) := by decide +kernel
theorem nd_L_law_320 : decode nb_L_law 320 = .ok (.ireturn, 1) := by decide +kernel
theorem nd_L_law_321 : decode nb_L_law 321 = .ok (.goto 758, 3) := by decide +kernel
theorem nd_L_law_324 : decode nb_L_law 324 = .ok (.aload_n 1, 1) := by decide +kernel
theorem nd_L_law_325 : decode nb_L_law 325 = .ok (.aload_n 0, 1) := by decide +kernel
theorem nd_L_law_326 : decode nb_L_law 326 = .ok (.iload 4, 2) := by decide +kernel
theorem nd_L_law_328 : decode nb_L_law 328 = .ok (.iconst 1, 1) := by decide +kernel
theorem nd_L_law_329 : decode nb_L_law 329 = .ok (.iadd, 1) := by decide +kernel
theorem nd_L_law_330 : decode nb_L_law 330 = .ok (.iaload, 1) := by decide +kernel
theorem nd_L_law_331 : decode nb_L_law 331 = .ok (.aload_n 0, 1) := by decide +kernel
theorem nd_L_law_332 : decode nb_L_law 332 = .ok (.iload 4, 2) := by decide +kernel
theorem nd_L_law_334 : decode nb_L_law 334 = .ok (.iconst 2, 1) := by decide +kernel
theorem nd_L_law_335 : decode nb_L_law 335 = .ok (.iadd, 1) := by decide +kernel
theorem nd_L_law_336 : decode nb_L_law 336 = .ok (.iaload, 1) := by decide +kernel
theorem nd_L_law_337 : decode nb_L_law 337 = .ok (.aload_n 0, 1) := by decide +kernel
theorem nd_L_law_338 : decode nb_L_law 338 = .ok (.iload 4, 2) := by decide +kernel
theorem nd_L_law_340 : decode nb_L_law 340 = .ok (.iconst 3, 1) := by decide +kernel
theorem nd_L_law_341 : decode nb_L_law 341 = .ok (.iadd, 1) := by decide +kernel
theorem nd_L_law_342 : decode nb_L_law 342 = .ok (.iaload, 1) := by decide +kernel
theorem nd_L_law_343 : decode nb_L_law 343 = .ok (.aload_n 0, 1) := by decide +kernel
theorem nd_L_law_344 : decode nb_L_law 344 = .ok (.iload 4, 2) := by decide +kernel
theorem nd_L_law_346 : decode nb_L_law 346 = .ok (.iconst 4, 1) := by decide +kernel
theorem nd_L_law_347 : decode nb_L_law 347 = .ok (.iadd, 1) := by decide +kernel
theorem nd_L_law_348 : decode nb_L_law 348 = .ok (.iaload, 1) := by decide +kernel
theorem nd_L_law_349 : decode nb_L_law 349 = .ok (.i2l, 1) := by decide +kernel
theorem nd_L_law_350 : decode nb_L_law 350 = .ok (.bipush 32, 2) := by decide +kernel
theorem nd_L_law_352 : decode nb_L_law 352 = .ok (.lshl, 1) := by decide +kernel
theorem nd_L_law_353 : decode nb_L_law 353 = .ok (.aload_n 0, 1) := by decide +kernel
theorem nd_L_law_354 : decode nb_L_law 354 = .ok (.iload 4, 2) := by decide +kernel
theorem nd_L_law_356 : decode nb_L_law 356 = .ok (.iconst 5, 1) := by decide +kernel
theorem nd_L_law_357 : decode nb_L_law 357 = .ok (.iadd, 1) := by decide +kernel
theorem nd_L_law_358 : decode nb_L_law 358 = .ok (.iaload, 1) := by decide +kernel
theorem nd_L_law_359 : decode nb_L_law 359 = .ok (.i2l, 1) := by decide +kernel
theorem nd_L_law_360 : decode nb_L_law 360 = .ok (.ldc2_w 62, 3) := by decide +kernel
theorem nd_L_law_363 : decode nb_L_law 363 = .ok (.land, 1) := by decide +kernel
theorem nd_L_law_364 : decode nb_L_law 364 = .ok (.lor, 1) := by decide +kernel
theorem nd_L_law_365 : decode nb_L_law 365 = .ok (.aload_n 3, 1) := by decide +kernel
theorem nd_L_law_366 : decode nb_L_law 366 = .ok (.invokestatic 77, 3) := by decide +kernel
theorem nd_L_law_369 : decode nb_L_law 369 = .ok (.istore 5, 2) := by decide +kernel
theorem nd_L_law_371 : decode nb_L_law 371 = .ok (.aload_n 2, 1) := by decide +kernel
theorem nd_L_law_372 : decode nb_L_law 372 = .ok (.aload_n 0, 1) := by decide +kernel
theorem nd_L_law_373 : decode nb_L_law 373 = .ok (.iload 4, 2) := by decide +kernel
theorem nd_L_law_375 : decode nb_L_law 375 = .ok (.iconst 1, 1) := by decide +kernel
theorem nd_L_law_376 : decode nb_L_law 376 = .ok (.iadd, 1) := by decide +kernel
theorem nd_L_law_377 : decode nb_L_law 377 = .ok (.iaload, 1) := by decide +kernel
theorem nd_L_law_378 : decode nb_L_law 378 = .ok (.aload_n 0, 1) := by decide +kernel
theorem nd_L_law_379 : decode nb_L_law 379 = .ok (.iload 4, 2) := by decide +kernel
theorem nd_L_law_381 : decode nb_L_law 381 = .ok (.iconst 2, 1) := by decide +kernel
theorem nd_L_law_382 : decode nb_L_law 382 = .ok (.iadd, 1) := by decide +kernel
theorem nd_L_law_383 : decode nb_L_law 383 = .ok (.iaload, 1) := by decide +kernel
theorem nd_L_law_384 : decode nb_L_law 384 = .ok (.aload_n 0, 1) := by decide +kernel
theorem nd_L_law_385 : decode nb_L_law 385 = .ok (.iload 4, 2) := by decide +kernel
theorem nd_L_law_387 : decode nb_L_law 387 = .ok (.iconst 3, 1) := by decide +kernel
theorem nd_L_law_388 : decode nb_L_law 388 = .ok (.iadd, 1) := by decide +kernel
theorem nd_L_law_389 : decode nb_L_law 389 = .ok (.iaload, 1) := by decide +kernel
theorem nd_L_law_390 : decode nb_L_law 390 = .ok (.aload_n 0, 1) := by decide +kernel
theorem nd_L_law_391 : decode nb_L_law 391 = .ok (.iload 4, 2) := by decide +kernel
theorem nd_L_law_393 : decode nb_L_law 393 = .ok (.iconst 4, 1) := by decide +kernel
theorem nd_L_law_394 : decode nb_L_law 394 = .ok (.iadd, 1) := by decide +kernel
theorem nd_L_law_395 : decode nb_L_law 395 = .ok (.iaload, 1) := by decide +kernel
theorem nd_L_law_396 : decode nb_L_law 396 = .ok (.i2l, 1) := by decide +kernel
theorem nd_L_law_397 : decode nb_L_law 397 = .ok (.bipush 32, 2) := by decide +kernel
theorem nd_L_law_399 : decode nb_L_law 399 = .ok (.lshl, 1) := by decide +kernel
theorem nd_L_law_400 : decode nb_L_law 400 = .ok (.aload_n 0, 1) := by decide +kernel
theorem nd_L_law_401 : decode nb_L_law 401 = .ok (.iload 4, 2) := by decide +kernel
theorem nd_L_law_403 : decode nb_L_law 403 = .ok (.iconst 5, 1) := by decide +kernel
theorem nd_L_law_404 : decode nb_L_law 404 = .ok (.iadd, 1) := by decide +kernel
theorem nd_L_law_405 : decode nb_L_law 405 = .ok (.iaload, 1) := by decide +kernel
theorem nd_L_law_406 : decode nb_L_law 406 = .ok (.i2l, 1) := by decide +kernel
theorem nd_L_law_407 : decode nb_L_law 407 = .ok (.ldc2_w 62, 3) := by decide +kernel
theorem nd_L_law_410 : decode nb_L_law 410 = .ok (.land, 1) := by decide +kernel
theorem nd_L_law_411 : decode nb_L_law 411 = .ok (.lor, 1) := by decide +kernel
theorem nd_L_law_412 : decode nb_L_law 412 = .ok (.invokevirtual 80, 3) := by decide +kernel
theorem nd_L_law_415 : decode nb_L_law 415 = .ok (.lstore 6, 2) := by decide +kernel
theorem nd_L_law_417 : decode nb_L_law 417 = .ok (.aload_n 2, 1) := by decide +kernel
theorem nd_L_law_418 : decode nb_L_law 418 = .ok (.invokevirtual 70, 3) := by decide +kernel
theorem nd_L_law_421 : decode nb_L_law 421 = .ok (.iload 5, 2) := by decide +kernel
theorem nd_L_law_423 : decode nb_L_law 423 = .ok (.if_icmp .eq 5, 3) := by decide +kernel
theorem nd_L_law_426 : decode nb_L_law 426 = .ok (.iconst 0, 1) := by decide +kernel
theorem nd_L_law_427 : decode nb_L_law 427 = .ok (.ireturn, 1) := by decide +kernel
theorem nd_L_law_428 : decode nb_L_law 428 = .ok (.iload 5, 2) := by decide +kernel
theorem nd_L_law_430 : decode nb_L_law 430 = .ok (.ifCond .ne 14, 3) := by decide +kernel
theorem nd_L_law_433 : decode nb_L_law 433 = .ok (.aload_n 3, 1) := by decide +kernel
theorem nd_L_law_434 : decode nb_L_law 434 = .ok (.iconst 0, 1) := by decide +kernel
theorem nd_L_law_435 : decode nb_L_law 435 = .ok (.laload, 1) := by decide +kernel
theorem nd_L_law_436 : decode nb_L_law 436 = .ok (.lload 6, 2) := by decide +kernel
theorem nd_L_law_438 : decode nb_L_law 438 = .ok (.lcmp, 1) := by decide +kernel
theorem nd_L_law_439 : decode nb_L_law 439 = .ok (.ifCond .eq 5, 3) := by decide +kernel
theorem nd_L_law_442 : decode nb_L_law 442 = .ok (.iconst 0, 1) := by decide +kernel
theorem nd_L_law_443 : decode nb_L_law 443 = .ok (.ireturn, 1) := by decide +kernel
theorem nd_L_law_444 : decode nb_L_law 444 = .ok (.goto 635, 3) := by decide +kernel
theorem nd_L_law_447 : decode nb_L_law 447 = .ok (.aload_n 1, 1) := by decide +kernel
theorem nd_L_law_448 : decode nb_L_law 448 = .ok (.aload_n 0, 1) := by decide +kernel
theorem nd_L_law_449 : decode nb_L_law 449 = .ok (.iload 4, 2) := by decide +kernel
theorem nd_L_law_451 : decode nb_L_law 451 = .ok (.iconst 1, 1) := by decide +kernel
theorem nd_L_law_452 : decode nb_L_law 452 = .ok (.iadd, 1) := by decide +kernel
theorem nd_L_law_453 : decode nb_L_law 453 = .ok (.iaload, 1) := by decide +kernel
theorem nd_L_law_454 : decode nb_L_law 454 = .ok (.aload_n 0, 1) := by decide +kernel
theorem nd_L_law_455 : decode nb_L_law 455 = .ok (.iload 4, 2) := by decide +kernel
theorem nd_L_law_457 : decode nb_L_law 457 = .ok (.iconst 2, 1) := by decide +kernel
theorem nd_L_law_458 : decode nb_L_law 458 = .ok (.iadd, 1) := by decide +kernel
theorem nd_L_law_459 : decode nb_L_law 459 = .ok (.iaload, 1) := by decide +kernel
theorem nd_L_law_460 : decode nb_L_law 460 = .ok (.aload_n 3, 1) := by decide +kernel
theorem nd_L_law_461 : decode nb_L_law 461 = .ok (.invokestatic 81, 3) := by decide +kernel
theorem nd_L_law_464 : decode nb_L_law 464 = .ok (.istore 5, 2) := by decide +kernel
theorem nd_L_law_466 : decode nb_L_law 466 = .ok (.aload_n 2, 1) := by decide +kernel
theorem nd_L_law_467 : decode nb_L_law 467 = .ok (.aload_n 0, 1) := by decide +kernel
theorem nd_L_law_468 : decode nb_L_law 468 = .ok (.iload 4, 2) := by decide +kernel
theorem nd_L_law_470 : decode nb_L_law 470 = .ok (.iconst 1, 1) := by decide +kernel
theorem nd_L_law_471 : decode nb_L_law 471 = .ok (.iadd, 1) := by decide +kernel
theorem nd_L_law_472 : decode nb_L_law 472 = .ok (.iaload, 1) := by decide +kernel
theorem nd_L_law_473 : decode nb_L_law 473 = .ok (.aload_n 0, 1) := by decide +kernel
theorem nd_L_law_474 : decode nb_L_law 474 = .ok (.iload 4, 2) := by decide +kernel
theorem nd_L_law_476 : decode nb_L_law 476 = .ok (.iconst 2, 1) := by decide +kernel
theorem nd_L_law_477 : decode nb_L_law 477 = .ok (.iadd, 1) := by decide +kernel
theorem nd_L_law_478 : decode nb_L_law 478 = .ok (.iaload, 1) := by decide +kernel
theorem nd_L_law_479 : decode nb_L_law 479 = .ok (.invokevirtual 84, 3) := by decide +kernel
theorem nd_L_law_482 : decode nb_L_law 482 = .ok (.lstore 6, 2) := by decide +kernel
theorem nd_L_law_484 : decode nb_L_law 484 = .ok (.aload_n 2, 1) := by decide +kernel
theorem nd_L_law_485 : decode nb_L_law 485 = .ok (.invokevirtual 70, 3) := by decide +kernel
theorem nd_L_law_488 : decode nb_L_law 488 = .ok (.iload 5, 2) := by decide +kernel
theorem nd_L_law_490 : decode nb_L_law 490 = .ok (.if_icmp .eq 5, 3) := by decide +kernel
theorem nd_L_law_493 : decode nb_L_law 493 = .ok (.iconst 0, 1) := by decide +kernel
theorem nd_L_law_494 : decode nb_L_law 494 = .ok (.ireturn, 1) := by decide +kernel
theorem nd_L_law_495 : decode nb_L_law 495 = .ok (.iload 5, 2) := by decide +kernel
theorem nd_L_law_497 : decode nb_L_law 497 = .ok (.ifCond .ne 14, 3) := by decide +kernel
theorem nd_L_law_500 : decode nb_L_law 500 = .ok (.aload_n 3, 1) := by decide +kernel
theorem nd_L_law_501 : decode nb_L_law 501 = .ok (.iconst 0, 1) := by decide +kernel
theorem nd_L_law_502 : decode nb_L_law 502 = .ok (.laload, 1) := by decide +kernel
theorem nd_L_law_503 : decode nb_L_law 503 = .ok (.lload 6, 2) := by decide +kernel
theorem nd_L_law_505 : decode nb_L_law 505 = .ok (.lcmp, 1) := by decide +kernel
theorem nd_L_law_506 : decode nb_L_law 506 = .ok (.ifCond .eq 5, 3) := by decide +kernel
theorem nd_L_law_509 : decode nb_L_law 509 = .ok (.iconst 0, 1) := by decide +kernel
theorem nd_L_law_510 : decode nb_L_law 510 = .ok (.ireturn, 1) := by decide +kernel
theorem nd_L_law_511 : decode nb_L_law 511 = .ok (.goto 568, 3) := by decide +kernel
theorem nd_L_law_514 : decode nb_L_law 514 = .ok (.aload_n 1, 1) := by decide +kernel
theorem nd_L_law_515 : decode nb_L_law 515 = .ok (.aload_n 0, 1) := by decide +kernel
theorem nd_L_law_516 : decode nb_L_law 516 = .ok (.iload 4, 2) := by decide +kernel
theorem nd_L_law_518 : decode nb_L_law 518 = .ok (.iconst 1, 1) := by decide +kernel
theorem nd_L_law_519 : decode nb_L_law 519 = .ok (.iadd, 1) := by decide +kernel
theorem nd_L_law_520 : decode nb_L_law 520 = .ok (.iaload, 1) := by decide +kernel
theorem nd_L_law_521 : decode nb_L_law 521 = .ok (.aload_n 0, 1) := by decide +kernel
theorem nd_L_law_522 : decode nb_L_law 522 = .ok (.iload 4, 2) := by decide +kernel
theorem nd_L_law_524 : decode nb_L_law 524 = .ok (.iconst 2, 1) := by decide +kernel
theorem nd_L_law_525 : decode nb_L_law 525 = .ok (.iadd, 1) := by decide +kernel
theorem nd_L_law_526 : decode nb_L_law 526 = .ok (.iaload, 1) := by decide +kernel
theorem nd_L_law_527 : decode nb_L_law 527 = .ok (.aload_n 0, 1) := by decide +kernel
theorem nd_L_law_528 : decode nb_L_law 528 = .ok (.iload 4, 2) := by decide +kernel
theorem nd_L_law_530 : decode nb_L_law 530 = .ok (.iconst 3, 1) := by decide +kernel
theorem nd_L_law_531 : decode nb_L_law 531 = .ok (.iadd, 1) := by decide +kernel
theorem nd_L_law_532 : decode nb_L_law 532 = .ok (.iaload, 1) := by decide +kernel
theorem nd_L_law_533 : decode nb_L_law 533 = .ok (.aload_n 0, 1) := by decide +kernel
theorem nd_L_law_534 : decode nb_L_law 534 = .ok (.iload 4, 2) := by decide +kernel
theorem nd_L_law_536 : decode nb_L_law 536 = .ok (.iconst 4, 1) := by decide +kernel
theorem nd_L_law_537 : decode nb_L_law 537 = .ok (.iadd, 1) := by decide +kernel
theorem nd_L_law_538 : decode nb_L_law 538 = .ok (.iaload, 1) := by decide +kernel
theorem nd_L_law_539 : decode nb_L_law 539 = .ok (.aload_n 3, 1) := by decide +kernel
theorem nd_L_law_540 : decode nb_L_law 540 = .ok (.invokestatic 85, 3) := by decide +kernel
theorem nd_L_law_543 : decode nb_L_law 543 = .ok (.istore 5, 2) := by decide +kernel
theorem nd_L_law_545 : decode nb_L_law 545 = .ok (.aload_n 2, 1) := by decide +kernel
theorem nd_L_law_546 : decode nb_L_law 546 = .ok (.aload_n 0, 1) := by decide +kernel
theorem nd_L_law_547 : decode nb_L_law 547 = .ok (.iload 4, 2) := by decide +kernel
theorem nd_L_law_549 : decode nb_L_law 549 = .ok (.iconst 1, 1) := by decide +kernel
theorem nd_L_law_550 : decode nb_L_law 550 = .ok (.iadd, 1) := by decide +kernel
theorem nd_L_law_551 : decode nb_L_law 551 = .ok (.iaload, 1) := by decide +kernel
theorem nd_L_law_552 : decode nb_L_law 552 = .ok (.aload_n 0, 1) := by decide +kernel
theorem nd_L_law_553 : decode nb_L_law 553 = .ok (.iload 4, 2) := by decide +kernel
theorem nd_L_law_555 : decode nb_L_law 555 = .ok (.iconst 2, 1) := by decide +kernel
theorem nd_L_law_556 : decode nb_L_law 556 = .ok (.iadd, 1) := by decide +kernel
theorem nd_L_law_557 : decode nb_L_law 557 = .ok (.iaload, 1) := by decide +kernel
theorem nd_L_law_558 : decode nb_L_law 558 = .ok (.aload_n 0, 1) := by decide +kernel
theorem nd_L_law_559 : decode nb_L_law 559 = .ok (.iload 4, 2) := by decide +kernel
