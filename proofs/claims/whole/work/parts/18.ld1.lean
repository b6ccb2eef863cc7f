theorem d_La_law_336 : decode code 336 = .ok (.aload_n 2, 1) := by decide +kernel
theorem d_La_law_337 : decode code 337 = .ok (.aload_n 0, 1) := by decide +kernel
theorem d_La_law_338 : decode code 338 = .ok (.iload 4, 2) := by decide +kernel
theorem d_La_law_340 : decode code 340 = .ok (.iconst (1), 1) := by decide +kernel
theorem d_La_law_341 : decode code 341 = .ok (.iadd, 1) := by decide +kernel
theorem d_La_law_342 : decode code 342 = .ok (.iaload, 1) := by decide +kernel
theorem d_La_law_343 : decode code 343 = .ok (.aload_n 0, 1) := by decide +kernel
theorem d_La_law_344 : decode code 344 = .ok (.iload 4, 2) := by decide +kernel
theorem d_La_law_346 : decode code 346 = .ok (.iconst (2), 1) := by decide +kernel
theorem d_La_law_347 : decode code 347 = .ok (.iadd, 1) := by decide +kernel
theorem d_La_law_348 : decode code 348 = .ok (.iaload, 1) := by decide +kernel
theorem d_La_law_349 : decode code 349 = .ok (.aload_n 0, 1) := by decide +kernel
theorem d_La_law_350 : decode code 350 = .ok (.iload 4, 2) := by decide +kernel
theorem d_La_law_352 : decode code 352 = .ok (.iconst (3), 1) := by decide +kernel
theorem d_La_law_353 : decode code 353 = .ok (.iadd, 1) := by decide +kernel
theorem d_La_law_354 : decode code 354 = .ok (.iaload, 1) := by decide +kernel
theorem d_La_law_355 : decode code 355 = .ok (.invokevirtual 76, 3) := by decide +kernel
theorem d_La_law_358 : decode code 358 = .ok (.if_icmp .eq (671), 3) := by decide +kernel
theorem d_La_law_361 : decode code 361 = .ok (.iconst (0), 1) := by decide +kernel
theorem d_La_law_362 : decode code 362 = .ok (.ireturn, 1) := by decide +kernel
theorem d_La_law_363 : decode code 363 = .ok (.aload_n 1, 1) := by decide +kernel
theorem d_La_law_364 : decode code 364 = .ok (.aload_n 0, 1) := by decide +kernel
theorem d_La_law_365 : decode code 365 = .ok (.iload 4, 2) := by decide +kernel
theorem d_La_law_367 : decode code 367 = .ok (.iconst (1), 1) := by decide +kernel
theorem d_La_law_368 : decode code 368 = .ok (.iadd, 1) := by decide +kernel
theorem d_La_law_369 : decode code 369 = .ok (.iaload, 1) := by decide +kernel
theorem d_La_law_370 : decode code 370 = .ok (.aload_n 0, 1) := by decide +kernel
theorem d_La_law_371 : decode code 371 = .ok (.iload 4, 2) := by decide +kernel
theorem d_La_law_373 : decode code 373 = .ok (.iconst (2), 1) := by decide +kernel
theorem d_La_law_374 : decode code 374 = .ok (.iadd, 1) := by decide +kernel
theorem d_La_law_375 : decode code 375 = .ok (.iaload, 1) := by decide +kernel
theorem d_La_law_376 : decode code 376 = .ok (.invokevirtual 77, 3) := by decide +kernel
theorem d_La_law_379 : decode code 379 = .ok (.aload_n 2, 1) := by decide +kernel
theorem d_La_law_380 : decode code 380 = .ok (.aload_n 0, 1) := by decide +kernel
theorem d_La_law_381 : decode code 381 = .ok (.iload 4, 2) := by decide +kernel
theorem d_La_law_383 : decode code 383 = .ok (.iconst (1), 1) := by decide +kernel
theorem d_La_law_384 : decode code 384 = .ok (.iadd, 1) := by decide +kernel
theorem d_La_law_385 : decode code 385 = .ok (.iaload, 1) := by decide +kernel
theorem d_La_law_386 : decode code 386 = .ok (.aload_n 0, 1) := by decide +kernel
theorem d_La_law_387 : decode code 387 = .ok (.iload 4, 2) := by decide +kernel
theorem d_La_law_389 : decode code 389 = .ok (.iconst (2), 1) := by decide +kernel
theorem d_La_law_390 : decode code 390 = .ok (.iadd, 1) := by decide +kernel
theorem d_La_law_391 : decode code 391 = .ok (.iaload, 1) := by decide +kernel
theorem d_La_law_392 : decode code 392 = .ok (.invokevirtual 80, 3) := by decide +kernel
theorem d_La_law_395 : decode code 395 = .ok (.if_icmp .eq (634), 3) := by decide +kernel
theorem d_La_law_398 : decode code 398 = .ok (.iconst (0), 1) := by decide +kernel
theorem d_La_law_399 : decode code 399 = .ok (.ireturn, 1) := by decide +kernel
theorem d_La_law_400 : decode code 400 = .ok (.aload_n 1, 1) := by decide +kernel
theorem d_La_law_401 : decode code 401 = .ok (.aload_n 0, 1) := by decide +kernel
theorem d_La_law_402 : decode code 402 = .ok (.iload 4, 2) := by decide +kernel
theorem d_La_law_404 : decode code 404 = .ok (.iconst (1), 1) := by decide +kernel
theorem d_La_law_405 : decode code 405 = .ok (.iadd, 1) := by decide +kernel
theorem d_La_law_406 : decode code 406 = .ok (.iaload, 1) := by decide +kernel
theorem d_La_law_407 : decode code 407 = .ok (.invokevirtual 81, 3) := by decide +kernel
theorem d_La_law_410 : decode code 410 = .ok (.aload_n 2, 1) := by decide +kernel
theorem d_La_law_411 : decode code 411 = .ok (.aload_n 0, 1) := by decide +kernel
theorem d_La_law_412 : decode code 412 = .ok (.iload 4, 2) := by decide +kernel
theorem d_La_law_414 : decode code 414 = .ok (.iconst (1), 1) := by decide +kernel
theorem d_La_law_415 : decode code 415 = .ok (.iadd, 1) := by decide +kernel
theorem d_La_law_416 : decode code 416 = .ok (.iaload, 1) := by decide +kernel
theorem d_La_law_417 : decode code 417 = .ok (.invokevirtual 85, 3) := by decide +kernel
theorem d_La_law_420 : decode code 420 = .ok (.lcmp, 1) := by decide +kernel
theorem d_La_law_421 : decode code 421 = .ok (.ifCond .eq (608), 3) := by decide +kernel
theorem d_La_law_424 : decode code 424 = .ok (.iconst (0), 1) := by decide +kernel
theorem d_La_law_425 : decode code 425 = .ok (.ireturn, 1) := by decide +kernel
theorem d_La_law_426 : decode code 426 = .ok (.aload_n 1, 1) := by decide +kernel
theorem d_La_law_427 : decode code 427 = .ok (.aload_n 0, 1) := by decide +kernel
theorem d_La_law_428 : decode code 428 = .ok (.iload 4, 2) := by decide +kernel
theorem d_La_law_430 : decode code 430 = .ok (.iconst (1), 1) := by decide +kernel
theorem d_La_law_431 : decode code 431 = .ok (.iadd, 1) := by decide +kernel
theorem d_La_law_432 : decode code 432 = .ok (.iaload, 1) := by decide +kernel
theorem d_La_law_433 : decode code 433 = .ok (.aload_n 0, 1) := by decide +kernel
theorem d_La_law_434 : decode code 434 = .ok (.iload 4, 2) := by decide +kernel
theorem d_La_law_436 : decode code 436 = .ok (.iconst (2), 1) := by decide +kernel
theorem d_La_law_437 : decode code 437 = .ok (.iadd, 1) := by decide +kernel
theorem d_La_law_438 : decode code 438 = .ok (.iaload, 1) := by decide +kernel
theorem d_La_law_439 : decode code 439 = .ok (.aload_n 3, 1) := by decide +kernel
theorem d_La_law_440 : decode code 440 = .ok (.invokestatic 86, 3) := by decide +kernel
theorem d_La_law_443 : decode code 443 = .ok (.istore 5, 2) := by decide +kernel
theorem d_La_law_445 : decode code 445 = .ok (.aload_n 2, 1) := by decide +kernel
theorem d_La_law_446 : decode code 446 = .ok (.aload_n 0, 1) := by decide +kernel
theorem d_La_law_447 : decode code 447 = .ok (.iload 4, 2) := by decide +kernel
theorem d_La_law_449 : decode code 449 = .ok (.iconst (1), 1) := by decide +kernel
theorem d_La_law_450 : decode code 450 = .ok (.iadd, 1) := by decide +kernel
theorem d_La_law_451 : decode code 451 = .ok (.iaload, 1) := by decide +kernel
theorem d_La_law_452 : decode code 452 = .ok (.aload_n 0, 1) := by decide +kernel
theorem d_La_law_453 : decode code 453 = .ok (.iload 4, 2) := by decide +kernel
theorem d_La_law_455 : decode code 455 = .ok (.iconst (2), 1) := by decide +kernel
theorem d_La_law_456 : decode code 456 = .ok (.iadd, 1) := by decide +kernel
theorem d_La_law_457 : decode code 457 = .ok (.iaload, 1) := by decide +kernel
theorem d_La_law_458 : decode code 458 = .ok (.invokevirtual 89, 3) := by decide +kernel
theorem d_La_law_461 : decode code 461 = .ok (.lstore 6, 2) := by decide +kernel
theorem d_La_law_463 : decode code 463 = .ok (.aload_n 2, 1) := by decide +kernel
theorem d_La_law_464 : decode code 464 = .ok (.invokevirtual 90, 3) := by decide +kernel
theorem d_La_law_467 : decode code 467 = .ok (.iload 5, 2) := by decide +kernel
theorem d_La_law_469 : decode code 469 = .ok (.if_icmp .eq (5), 3) := by decide +kernel
theorem d_La_law_472 : decode code 472 = .ok (.iconst (0), 1) := by decide +kernel
theorem d_La_law_473 : decode code 473 = .ok (.ireturn, 1) := by decide +kernel
theorem d_La_law_474 : decode code 474 = .ok (.iload 5, 2) := by decide +kernel
theorem d_La_law_476 : decode code 476 = .ok (.ifCond .ne (14), 3) := by decide +kernel
theorem d_La_law_479 : decode code 479 = .ok (.aload_n 3, 1) := by decide +kernel
theorem d_La_law_480 : decode code 480 = .ok (.iconst (0), 1) := by decide +kernel
theorem d_La_law_481 : decode code 481 = .ok (.laload, 1) := by decide +kernel
theorem d_La_law_482 : decode code 482 = .ok (.lload 6, 2) := by decide +kernel
theorem d_La_law_484 : decode code 484 = .ok (.lcmp, 1) := by decide +kernel
theorem d_La_law_485 : decode code 485 = .ok (.ifCond .eq (5), 3) := by decide +kernel
theorem d_La_law_488 : decode code 488 = .ok (.iconst (0), 1) := by decide +kernel
theorem d_La_law_489 : decode code 489 = .ok (.ireturn, 1) := by decide +kernel
theorem d_La_law_490 : decode code 490 = .ok (.goto (539), 3) := by decide +kernel
theorem d_La_law_493 : decode code 493 = .ok (.aload_n 1, 1) := by decide +kernel
theorem d_La_law_494 : decode code 494 = .ok (.aload_n 0, 1) := by decide +kernel
theorem d_La_law_495 : decode code 495 = .ok (.iload 4, 2) := by decide +kernel
theorem d_La_law_497 : decode code 497 = .ok (.iconst (1), 1) := by decide +kernel
theorem d_La_law_498 : decode code 498 = .ok (.iadd, 1) := by decide +kernel
theorem d_La_law_499 : decode code 499 = .ok (.iaload, 1) := by decide +kernel
theorem d_La_law_500 : decode code 500 = .ok (.aload_n 0, 1) := by decide +kernel
theorem d_La_law_501 : decode code 501 = .ok (.iload 4, 2) := by decide +kernel
theorem d_La_law_503 : decode code 503 = .ok (.iconst (2), 1) := by decide +kernel
theorem d_La_law_504 : decode code 504 = .ok (.iadd, 1) := by decide +kernel
theorem d_La_law_505 : decode code 505 = .ok (.iaload, 1) := by decide +kernel
theorem d_La_law_506 : decode code 506 = .ok (.aload_n 0, 1) := by decide +kernel
theorem d_La_law_507 : decode code 507 = .ok (.iload 4, 2) := by decide +kernel
theorem d_La_law_509 : decode code 509 = .ok (.iconst (3), 1) := by decide +kernel
theorem d_La_law_510 : decode code 510 = .ok (.iadd, 1) := by decide +kernel
theorem d_La_law_511 : decode code 511 = .ok (.iaload, 1) := by decide +kernel
theorem d_La_law_512 : decode code 512 = .ok (.aload_n 3, 1) := by decide +kernel
theorem d_La_law_513 : decode code 513 = .ok (.invokestatic 93, 3) := by decide +kernel
theorem d_La_law_516 : decode code 516 = .ok (.istore 5, 2) := by decide +kernel
theorem d_La_law_518 : decode code 518 = .ok (.aload_n 2, 1) := by decide +kernel
theorem d_La_law_519 : decode code 519 = .ok (.aload_n 0, 1) := by decide +kernel
theorem d_La_law_520 : decode code 520 = .ok (.iload 4, 2) := by decide +kernel
theorem d_La_law_522 : decode code 522 = .ok (.iconst (1), 1) := by decide +kernel
theorem d_La_law_523 : decode code 523 = .ok (.iadd, 1) := by decide +kernel
theorem d_La_law_524 : decode code 524 = .ok (.iaload, 1) := by decide +kernel
theorem d_La_law_525 : decode code 525 = .ok (.aload_n 0, 1) := by decide +kernel
theorem d_La_law_526 : decode code 526 = .ok (.iload 4, 2) := by decide +kernel
theorem d_La_law_528 : decode code 528 = .ok (.iconst (2), 1) := by decide +kernel
theorem d_La_law_529 : decode code 529 = .ok (.iadd, 1) := by decide +kernel
theorem d_La_law_530 : decode code 530 = .ok (.iaload, 1) := by decide +kernel
theorem d_La_law_531 : decode code 531 = .ok (.aload_n 0, 1) := by decide +kernel
theorem d_La_law_532 : decode code 532 = .ok (.iload 4, 2) := by decide +kernel
theorem d_La_law_534 : decode code 534 = .ok (.iconst (3), 1) := by decide +kernel
theorem d_La_law_535 : decode code 535 = .ok (.iadd, 1) := by decide +kernel
theorem d_La_law_536 : decode code 536 = .ok (.iaload, 1) := by decide +kernel
theorem d_La_law_537 : decode code 537 = .ok (.invokevirtual 96, 3) := by decide +kernel
theorem d_La_law_540 : decode code 540 = .ok (.lstore 6, 2) := by decide +kernel
theorem d_La_law_542 : decode code 542 = .ok (.aload_n 2, 1) := by decide +kernel
theorem d_La_law_543 : decode code 543 = .ok (.invokevirtual 90, 3) := by decide +kernel
theorem d_La_law_546 : decode code 546 = .ok (.iload 5, 2) := by decide +kernel
theorem d_La_law_548 : decode code 548 = .ok (.if_icmp .eq (5), 3) := by decide +kernel
theorem d_La_law_551 : decode code 551 = .ok (.iconst (0), 1) := by decide +kernel
theorem d_La_law_552 : decode code 552 = .ok (.ireturn, 1) := by decide +kernel
theorem d_La_law_553 : decode code 553 = .ok (.iload 5, 2) := by decide +kernel
theorem d_La_law_555 : decode code 555 = .ok (.ifCond .ne (14), 3) := by decide +kernel
theorem d_La_law_558 : decode code 558 = .ok (.aload_n 3, 1) := by decide +kernel
theorem d_La_law_559 : decode code 559 = .ok (.iconst (0), 1) := by decide +kernel
theorem d_La_law_560 : decode code 560 = .ok (.laload, 1) := by decide +kernel
theorem d_La_law_561 : decode code 561 = .ok (.lload 6, 2) := by decide +kernel
theorem d_La_law_563 : decode code 563 = .ok (.lcmp, 1) := by decide +kernel
theorem d_La_law_564 : decode code 564 = .ok (.ifCond .eq (5), 3) := by decide +kernel
theorem d_La_law_567 : decode code 567 = .ok (.iconst (0), 1) := by decide +kernel
theorem d_La_law_568 : decode code 568 = .ok (.ireturn, 1) := by decide +kernel
theorem d_La_law_569 : decode code 569 = .ok (.goto (460), 3) := by decide +kernel
theorem d_La_law_572 : decode code 572 = .ok (.aload_n 1, 1) := by decide +kernel
theorem d_La_law_573 : decode code 573 = .ok (.aload_n 0, 1) := by decide +kernel
theorem d_La_law_574 : decode code 574 = .ok (.iload 4, 2) := by decide +kernel
theorem d_La_law_576 : decode code 576 = .ok (.iconst (1), 1) := by decide +kernel
theorem d_La_law_577 : decode code 577 = .ok (.iadd, 1) := by decide +kernel
theorem d_La_law_578 : decode code 578 = .ok (.iaload, 1) := by decide +kernel
theorem d_La_law_579 : decode code 579 = .ok (.aload_n 0, 1) := by decide +kernel
