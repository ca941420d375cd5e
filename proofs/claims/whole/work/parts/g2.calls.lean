/-! ===== the law, calls 0 to 11 ===== -/
theorem d_law_284 : decode code 284 = .ok (.aload_n 1, 1) := by decide +kernel
theorem d_law_285 : decode code 285 = .ok (.invokevirtual 13, 3) := by decide +kernel
theorem d_law_288 : decode code 288 = .ok (.aload_n 2, 1) := by decide +kernel
theorem d_law_289 : decode code 289 = .ok (.invokevirtual 17, 3) := by decide +kernel
theorem d_law_292 : decode code 292 = .ok (.if_icmp .eq 1626, 3) := by decide +kernel
theorem d_law_295 : decode code 295 = .ok (.iconst 0, 1) := by decide +kernel
theorem d_law_296 : decode code 296 = .ok (.ireturn, 1) := by decide +kernel
theorem d_law_297 : decode code 297 = .ok (.aload_n 1, 1) := by decide +kernel
theorem d_law_298 : decode code 298 = .ok (.invokevirtual 18, 3) := by decide +kernel
theorem d_law_301 : decode code 301 = .ok (.aload_n 2, 1) := by decide +kernel
theorem d_law_302 : decode code 302 = .ok (.invokevirtual 22, 3) := by decide +kernel
theorem d_law_305 : decode code 305 = .ok (.lcmp, 1) := by decide +kernel
theorem d_law_306 : decode code 306 = .ok (.ifCond .eq 1612, 3) := by decide +kernel
theorem d_law_309 : decode code 309 = .ok (.iconst 0, 1) := by decide +kernel
theorem d_law_310 : decode code 310 = .ok (.ireturn, 1) := by decide +kernel
theorem d_law_311 : decode code 311 = .ok (.aload_n 1, 1) := by decide +kernel
theorem d_law_312 : decode code 312 = .ok (.invokevirtual 23, 3) := by decide +kernel
theorem d_law_315 : decode code 315 = .ok (.aload_n 2, 1) := by decide +kernel
theorem d_law_316 : decode code 316 = .ok (.invokevirtual 26, 3) := by decide +kernel
theorem d_law_319 : decode code 319 = .ok (.lcmp, 1) := by decide +kernel
theorem d_law_320 : decode code 320 = .ok (.ifCond .eq 1598, 3) := by decide +kernel
theorem d_law_323 : decode code 323 = .ok (.iconst 0, 1) := by decide +kernel
theorem d_law_324 : decode code 324 = .ok (.ireturn, 1) := by decide +kernel
theorem d_law_325 : decode code 325 = .ok (.aload_n 1, 1) := by decide +kernel
theorem d_law_326 : decode code 326 = .ok (.aload_n 0, 1) := by decide +kernel
theorem d_law_327 : decode code 327 = .ok (.iload_n 3, 1) := by decide +kernel
theorem d_law_328 : decode code 328 = .ok (.iconst 1, 1) := by decide +kernel
theorem d_law_329 : decode code 329 = .ok (.iadd, 1) := by decide +kernel
theorem d_law_330 : decode code 330 = .ok (.iaload, 1) := by decide +kernel
theorem d_law_331 : decode code 331 = .ok (.aload_n 0, 1) := by decide +kernel
theorem d_law_332 : decode code 332 = .ok (.iload_n 3, 1) := by decide +kernel
theorem d_law_333 : decode code 333 = .ok (.iconst 2, 1) := by decide +kernel
theorem d_law_334 : decode code 334 = .ok (.iadd, 1) := by decide +kernel
theorem d_law_335 : decode code 335 = .ok (.iaload, 1) := by decide +kernel
theorem d_law_336 : decode code 336 = .ok (.aload_n 0, 1) := by decide +kernel
theorem d_law_337 : decode code 337 = .ok (.iload_n 3, 1) := by decide +kernel
theorem d_law_338 : decode code 338 = .ok (.iconst 3, 1) := by decide +kernel
theorem d_law_339 : decode code 339 = .ok (.iadd, 1) := by decide +kernel
theorem d_law_340 : decode code 340 = .ok (.iaload, 1) := by decide +kernel
theorem d_law_341 : decode code 341 = .ok (.invokevirtual 27, 3) := by decide +kernel
theorem d_law_344 : decode code 344 = .ok (.aload_n 2, 1) := by decide +kernel
theorem d_law_345 : decode code 345 = .ok (.aload_n 0, 1) := by decide +kernel
theorem d_law_346 : decode code 346 = .ok (.iload_n 3, 1) := by decide +kernel
theorem d_law_347 : decode code 347 = .ok (.iconst 1, 1) := by decide +kernel
theorem d_law_348 : decode code 348 = .ok (.iadd, 1) := by decide +kernel
theorem d_law_349 : decode code 349 = .ok (.iaload, 1) := by decide +kernel
theorem d_law_350 : decode code 350 = .ok (.aload_n 0, 1) := by decide +kernel
theorem d_law_351 : decode code 351 = .ok (.iload_n 3, 1) := by decide +kernel
theorem d_law_352 : decode code 352 = .ok (.iconst 2, 1) := by decide +kernel
theorem d_law_353 : decode code 353 = .ok (.iadd, 1) := by decide +kernel
theorem d_law_354 : decode code 354 = .ok (.iaload, 1) := by decide +kernel
theorem d_law_355 : decode code 355 = .ok (.aload_n 0, 1) := by decide +kernel
theorem d_law_356 : decode code 356 = .ok (.iload_n 3, 1) := by decide +kernel
theorem d_law_357 : decode code 357 = .ok (.iconst 3, 1) := by decide +kernel
theorem d_law_358 : decode code 358 = .ok (.iadd, 1) := by decide +kernel
theorem d_law_359 : decode code 359 = .ok (.iaload, 1) := by decide +kernel
theorem d_law_360 : decode code 360 = .ok (.invokevirtual 31, 3) := by decide +kernel
theorem d_law_363 : decode code 363 = .ok (.if_icmp .eq 1555, 3) := by decide +kernel
theorem d_law_366 : decode code 366 = .ok (.iconst 0, 1) := by decide +kernel
theorem d_law_367 : decode code 367 = .ok (.ireturn, 1) := by decide +kernel
theorem d_law_368 : decode code 368 = .ok (.aload_n 1, 1) := by decide +kernel
theorem d_law_369 : decode code 369 = .ok (.aload_n 0, 1) := by decide +kernel
theorem d_law_370 : decode code 370 = .ok (.iload_n 3, 1) := by decide +kernel
theorem d_law_371 : decode code 371 = .ok (.iconst 1, 1) := by decide +kernel
theorem d_law_372 : decode code 372 = .ok (.iadd, 1) := by decide +kernel
theorem d_law_373 : decode code 373 = .ok (.iaload, 1) := by decide +kernel
theorem d_law_374 : decode code 374 = .ok (.aload_n 0, 1) := by decide +kernel
theorem d_law_375 : decode code 375 = .ok (.iload_n 3, 1) := by decide +kernel
theorem d_law_376 : decode code 376 = .ok (.iconst 2, 1) := by decide +kernel
theorem d_law_377 : decode code 377 = .ok (.iadd, 1) := by decide +kernel
theorem d_law_378 : decode code 378 = .ok (.iaload, 1) := by decide +kernel
theorem d_law_379 : decode code 379 = .ok (.aload_n 0, 1) := by decide +kernel
theorem d_law_380 : decode code 380 = .ok (.iload_n 3, 1) := by decide +kernel
theorem d_law_381 : decode code 381 = .ok (.iconst 3, 1) := by decide +kernel
theorem d_law_382 : decode code 382 = .ok (.iadd, 1) := by decide +kernel
theorem d_law_383 : decode code 383 = .ok (.iaload, 1) := by decide +kernel
theorem d_law_384 : decode code 384 = .ok (.i2l, 1) := by decide +kernel
theorem d_law_385 : decode code 385 = .ok (.bipush 32, 2) := by decide +kernel
theorem d_law_387 : decode code 387 = .ok (.lshl, 1) := by decide +kernel
theorem d_law_388 : decode code 388 = .ok (.aload_n 0, 1) := by decide +kernel
theorem d_law_389 : decode code 389 = .ok (.iload_n 3, 1) := by decide +kernel
theorem d_law_390 : decode code 390 = .ok (.iconst 4, 1) := by decide +kernel
theorem d_law_391 : decode code 391 = .ok (.iadd, 1) := by decide +kernel
theorem d_law_392 : decode code 392 = .ok (.iaload, 1) := by decide +kernel
theorem d_law_393 : decode code 393 = .ok (.i2l, 1) := by decide +kernel
theorem d_law_394 : decode code 394 = .ok (.ldc2_w 32, 3) := by decide +kernel
theorem d_law_397 : decode code 397 = .ok (.land, 1) := by decide +kernel
theorem d_law_398 : decode code 398 = .ok (.lor, 1) := by decide +kernel
theorem d_law_399 : decode code 399 = .ok (.invokevirtual 34, 3) := by decide +kernel
theorem d_law_402 : decode code 402 = .ok (.aload_n 2, 1) := by decide +kernel
theorem d_law_403 : decode code 403 = .ok (.aload_n 0, 1) := by decide +kernel
theorem d_law_404 : decode code 404 = .ok (.iload_n 3, 1) := by decide +kernel
theorem d_law_405 : decode code 405 = .ok (.iconst 1, 1) := by decide +kernel
theorem d_law_406 : decode code 406 = .ok (.iadd, 1) := by decide +kernel
theorem d_law_407 : decode code 407 = .ok (.iaload, 1) := by decide +kernel
theorem d_law_408 : decode code 408 = .ok (.aload_n 0, 1) := by decide +kernel
theorem d_law_409 : decode code 409 = .ok (.iload_n 3, 1) := by decide +kernel
theorem d_law_410 : decode code 410 = .ok (.iconst 2, 1) := by decide +kernel
theorem d_law_411 : decode code 411 = .ok (.iadd, 1) := by decide +kernel
theorem d_law_412 : decode code 412 = .ok (.iaload, 1) := by decide +kernel
theorem d_law_413 : decode code 413 = .ok (.aload_n 0, 1) := by decide +kernel
theorem d_law_414 : decode code 414 = .ok (.iload_n 3, 1) := by decide +kernel
theorem d_law_415 : decode code 415 = .ok (.iconst 3, 1) := by decide +kernel
theorem d_law_416 : decode code 416 = .ok (.iadd, 1) := by decide +kernel
theorem d_law_417 : decode code 417 = .ok (.iaload, 1) := by decide +kernel
theorem d_law_418 : decode code 418 = .ok (.i2l, 1) := by decide +kernel
theorem d_law_419 : decode code 419 = .ok (.bipush 32, 2) := by decide +kernel
theorem d_law_421 : decode code 421 = .ok (.lshl, 1) := by decide +kernel
theorem d_law_422 : decode code 422 = .ok (.aload_n 0, 1) := by decide +kernel
theorem d_law_423 : decode code 423 = .ok (.iload_n 3, 1) := by decide +kernel
theorem d_law_424 : decode code 424 = .ok (.iconst 4, 1) := by decide +kernel
theorem d_law_425 : decode code 425 = .ok (.iadd, 1) := by decide +kernel
theorem d_law_426 : decode code 426 = .ok (.iaload, 1) := by decide +kernel
theorem d_law_427 : decode code 427 = .ok (.i2l, 1) := by decide +kernel
theorem d_law_428 : decode code 428 = .ok (.ldc2_w 32, 3) := by decide +kernel
theorem d_law_431 : decode code 431 = .ok (.land, 1) := by decide +kernel
theorem d_law_432 : decode code 432 = .ok (.lor, 1) := by decide +kernel
theorem d_law_433 : decode code 433 = .ok (.invokevirtual 38, 3) := by decide +kernel
theorem d_law_436 : decode code 436 = .ok (.if_icmp .eq 1482, 3) := by decide +kernel
theorem d_law_439 : decode code 439 = .ok (.iconst 0, 1) := by decide +kernel
theorem d_law_440 : decode code 440 = .ok (.ireturn, 1) := by decide +kernel
theorem d_law_441 : decode code 441 = .ok (.aload_n 1, 1) := by decide +kernel
theorem d_law_442 : decode code 442 = .ok (.aload_n 0, 1) := by decide +kernel
theorem d_law_443 : decode code 443 = .ok (.iload_n 3, 1) := by decide +kernel
theorem d_law_444 : decode code 444 = .ok (.iconst 1, 1) := by decide +kernel
theorem d_law_445 : decode code 445 = .ok (.iadd, 1) := by decide +kernel
theorem d_law_446 : decode code 446 = .ok (.iaload, 1) := by decide +kernel
theorem d_law_447 : decode code 447 = .ok (.aload_n 0, 1) := by decide +kernel
theorem d_law_448 : decode code 448 = .ok (.iload_n 3, 1) := by decide +kernel
theorem d_law_449 : decode code 449 = .ok (.iconst 2, 1) := by decide +kernel
theorem d_law_450 : decode code 450 = .ok (.iadd, 1) := by decide +kernel
theorem d_law_451 : decode code 451 = .ok (.iaload, 1) := by decide +kernel
theorem d_law_452 : decode code 452 = .ok (.invokevirtual 39, 3) := by decide +kernel
theorem d_law_455 : decode code 455 = .ok (.aload_n 2, 1) := by decide +kernel
theorem d_law_456 : decode code 456 = .ok (.aload_n 0, 1) := by decide +kernel
theorem d_law_457 : decode code 457 = .ok (.iload_n 3, 1) := by decide +kernel
theorem d_law_458 : decode code 458 = .ok (.iconst 1, 1) := by decide +kernel
theorem d_law_459 : decode code 459 = .ok (.iadd, 1) := by decide +kernel
theorem d_law_460 : decode code 460 = .ok (.iaload, 1) := by decide +kernel
theorem d_law_461 : decode code 461 = .ok (.aload_n 0, 1) := by decide +kernel
theorem d_law_462 : decode code 462 = .ok (.iload_n 3, 1) := by decide +kernel
theorem d_law_463 : decode code 463 = .ok (.iconst 2, 1) := by decide +kernel
theorem d_law_464 : decode code 464 = .ok (.iadd, 1) := by decide +kernel
theorem d_law_465 : decode code 465 = .ok (.iaload, 1) := by decide +kernel
theorem d_law_466 : decode code 466 = .ok (.invokevirtual 43, 3) := by decide +kernel
theorem d_law_469 : decode code 469 = .ok (.lcmp, 1) := by decide +kernel
theorem d_law_470 : decode code 470 = .ok (.ifCond .eq 1448, 3) := by decide +kernel
theorem d_law_473 : decode code 473 = .ok (.iconst 0, 1) := by decide +kernel
theorem d_law_474 : decode code 474 = .ok (.ireturn, 1) := by decide +kernel
theorem d_law_475 : decode code 475 = .ok (.aload_n 1, 1) := by decide +kernel
theorem d_law_476 : decode code 476 = .ok (.aload_n 0, 1) := by decide +kernel
theorem d_law_477 : decode code 477 = .ok (.iload_n 3, 1) := by decide +kernel
theorem d_law_478 : decode code 478 = .ok (.iconst 1, 1) := by decide +kernel
theorem d_law_479 : decode code 479 = .ok (.iadd, 1) := by decide +kernel
theorem d_law_480 : decode code 480 = .ok (.iaload, 1) := by decide +kernel
theorem d_law_481 : decode code 481 = .ok (.aload_n 0, 1) := by decide +kernel
theorem d_law_482 : decode code 482 = .ok (.iload_n 3, 1) := by decide +kernel
theorem d_law_483 : decode code 483 = .ok (.iconst 2, 1) := by decide +kernel
theorem d_law_484 : decode code 484 = .ok (.iadd, 1) := by decide +kernel
theorem d_law_485 : decode code 485 = .ok (.iaload, 1) := by decide +kernel
theorem d_law_486 : decode code 486 = .ok (.aload_n 0, 1) := by decide +kernel
theorem d_law_487 : decode code 487 = .ok (.iload_n 3, 1) := by decide +kernel
theorem d_law_488 : decode code 488 = .ok (.iconst 3, 1) := by decide +kernel
theorem d_law_489 : decode code 489 = .ok (.iadd, 1) := by decide +kernel
theorem d_law_490 : decode code 490 = .ok (.iaload, 1) := by decide +kernel
theorem d_law_491 : decode code 491 = .ok (.aload_n 0, 1) := by decide +kernel
theorem d_law_492 : decode code 492 = .ok (.iload_n 3, 1) := by decide +kernel
theorem d_law_493 : decode code 493 = .ok (.iconst 4, 1) := by decide +kernel
theorem d_law_494 : decode code 494 = .ok (.iadd, 1) := by decide +kernel
theorem d_law_495 : decode code 495 = .ok (.iaload, 1) := by decide +kernel
theorem d_law_496 : decode code 496 = .ok (.aload_n 0, 1) := by decide +kernel
theorem d_law_497 : decode code 497 = .ok (.iload_n 3, 1) := by decide +kernel
theorem d_law_498 : decode code 498 = .ok (.iconst 5, 1) := by decide +kernel
theorem d_law_499 : decode code 499 = .ok (.iadd, 1) := by decide +kernel
theorem d_law_500 : decode code 500 = .ok (.iaload, 1) := by decide +kernel
theorem d_law_501 : decode code 501 = .ok (.invokevirtual 44, 3) := by decide +kernel
theorem d_law_504 : decode code 504 = .ok (.aload_n 2, 1) := by decide +kernel
theorem d_law_505 : decode code 505 = .ok (.aload_n 0, 1) := by decide +kernel
theorem d_law_506 : decode code 506 = .ok (.iload_n 3, 1) := by decide +kernel
theorem d_law_507 : decode code 507 = .ok (.iconst 1, 1) := by decide +kernel
theorem d_law_508 : decode code 508 = .ok (.iadd, 1) := by decide +kernel
theorem d_law_509 : decode code 509 = .ok (.iaload, 1) := by decide +kernel
theorem d_law_510 : decode code 510 = .ok (.aload_n 0, 1) := by decide +kernel
theorem d_law_511 : decode code 511 = .ok (.iload_n 3, 1) := by decide +kernel
theorem d_law_512 : decode code 512 = .ok (.iconst 2, 1) := by decide +kernel
theorem d_law_513 : decode code 513 = .ok (.iadd, 1) := by decide +kernel
theorem d_law_514 : decode code 514 = .ok (.iaload, 1) := by decide +kernel
theorem d_law_515 : decode code 515 = .ok (.aload_n 0, 1) := by decide +kernel
theorem d_law_516 : decode code 516 = .ok (.iload_n 3, 1) := by decide +kernel
theorem d_law_517 : decode code 517 = .ok (.iconst 3, 1) := by decide +kernel
theorem d_law_518 : decode code 518 = .ok (.iadd, 1) := by decide +kernel
theorem d_law_519 : decode code 519 = .ok (.iaload, 1) := by decide +kernel
theorem d_law_520 : decode code 520 = .ok (.aload_n 0, 1) := by decide +kernel
theorem d_law_521 : decode code 521 = .ok (.iload_n 3, 1) := by decide +kernel
theorem d_law_522 : decode code 522 = .ok (.iconst 4, 1) := by decide +kernel
theorem d_law_523 : decode code 523 = .ok (.iadd, 1) := by decide +kernel
theorem d_law_524 : decode code 524 = .ok (.iaload, 1) := by decide +kernel
theorem d_law_525 : decode code 525 = .ok (.aload_n 0, 1) := by decide +kernel
theorem d_law_526 : decode code 526 = .ok (.iload_n 3, 1) := by decide +kernel
theorem d_law_527 : decode code 527 = .ok (.iconst 5, 1) := by decide +kernel
theorem d_law_528 : decode code 528 = .ok (.iadd, 1) := by decide +kernel
theorem d_law_529 : decode code 529 = .ok (.iaload, 1) := by decide +kernel
theorem d_law_530 : decode code 530 = .ok (.invokevirtual 48, 3) := by decide +kernel
theorem d_law_533 : decode code 533 = .ok (.if_icmp .eq 1385, 3) := by decide +kernel
theorem d_law_536 : decode code 536 = .ok (.iconst 0, 1) := by decide +kernel
theorem d_law_537 : decode code 537 = .ok (.ireturn, 1) := by decide +kernel
theorem d_law_538 : decode code 538 = .ok (.aload_n 1, 1) := by decide +kernel
theorem d_law_539 : decode code 539 = .ok (.aload_n 0, 1) := by decide +kernel
theorem d_law_540 : decode code 540 = .ok (.iload_n 3, 1) := by decide +kernel
theorem d_law_541 : decode code 541 = .ok (.iconst 1, 1) := by decide +kernel
theorem d_law_542 : decode code 542 = .ok (.iadd, 1) := by decide +kernel
theorem d_law_543 : decode code 543 = .ok (.iaload, 1) := by decide +kernel
theorem d_law_544 : decode code 544 = .ok (.aload_n 0, 1) := by decide +kernel
theorem d_law_545 : decode code 545 = .ok (.iload_n 3, 1) := by decide +kernel
theorem d_law_546 : decode code 546 = .ok (.iconst 2, 1) := by decide +kernel
theorem d_law_547 : decode code 547 = .ok (.iadd, 1) := by decide +kernel
theorem d_law_548 : decode code 548 = .ok (.iaload, 1) := by decide +kernel
theorem d_law_549 : decode code 549 = .ok (.aload_n 0, 1) := by decide +kernel
theorem d_law_550 : decode code 550 = .ok (.iload_n 3, 1) := by decide +kernel
theorem d_law_551 : decode code 551 = .ok (.iconst 3, 1) := by decide +kernel
theorem d_law_552 : decode code 552 = .ok (.iadd, 1) := by decide +kernel
theorem d_law_553 : decode code 553 = .ok (.iaload, 1) := by decide +kernel
theorem d_law_554 : decode code 554 = .ok (.aload_n 0, 1) := by decide +kernel
theorem d_law_555 : decode code 555 = .ok (.iload_n 3, 1) := by decide +kernel
theorem d_law_556 : decode code 556 = .ok (.iconst 4, 1) := by decide +kernel
theorem d_law_557 : decode code 557 = .ok (.iadd, 1) := by decide +kernel
theorem d_law_558 : decode code 558 = .ok (.iaload, 1) := by decide +kernel
theorem d_law_559 : decode code 559 = .ok (.aload_n 0, 1) := by decide +kernel
theorem d_law_560 : decode code 560 = .ok (.iload_n 3, 1) := by decide +kernel
theorem d_law_561 : decode code 561 = .ok (.iconst 5, 1) := by decide +kernel
theorem d_law_562 : decode code 562 = .ok (.iadd, 1) := by decide +kernel
theorem d_law_563 : decode code 563 = .ok (.iaload, 1) := by decide +kernel
theorem d_law_564 : decode code 564 = .ok (.invokevirtual 49, 3) := by decide +kernel
theorem d_law_567 : decode code 567 = .ok (.aload_n 2, 1) := by decide +kernel
theorem d_law_568 : decode code 568 = .ok (.aload_n 0, 1) := by decide +kernel
theorem d_law_569 : decode code 569 = .ok (.iload_n 3, 1) := by decide +kernel
theorem d_law_570 : decode code 570 = .ok (.iconst 1, 1) := by decide +kernel
theorem d_law_571 : decode code 571 = .ok (.iadd, 1) := by decide +kernel
theorem d_law_572 : decode code 572 = .ok (.iaload, 1) := by decide +kernel
theorem d_law_573 : decode code 573 = .ok (.aload_n 0, 1) := by decide +kernel
theorem d_law_574 : decode code 574 = .ok (.iload_n 3, 1) := by decide +kernel
theorem d_law_575 : decode code 575 = .ok (.iconst 2, 1) := by decide +kernel
theorem d_law_576 : decode code 576 = .ok (.iadd, 1) := by decide +kernel
theorem d_law_577 : decode code 577 = .ok (.iaload, 1) := by decide +kernel
theorem d_law_578 : decode code 578 = .ok (.aload_n 0, 1) := by decide +kernel
theorem d_law_579 : decode code 579 = .ok (.iload_n 3, 1) := by decide +kernel
theorem d_law_580 : decode code 580 = .ok (.iconst 3, 1) := by decide +kernel
theorem d_law_581 : decode code 581 = .ok (.iadd, 1) := by decide +kernel
theorem d_law_582 : decode code 582 = .ok (.iaload, 1) := by decide +kernel
theorem d_law_583 : decode code 583 = .ok (.aload_n 0, 1) := by decide +kernel
theorem d_law_584 : decode code 584 = .ok (.iload_n 3, 1) := by decide +kernel
theorem d_law_585 : decode code 585 = .ok (.iconst 4, 1) := by decide +kernel
theorem d_law_586 : decode code 586 = .ok (.iadd, 1) := by decide +kernel
theorem d_law_587 : decode code 587 = .ok (.iaload, 1) := by decide +kernel
theorem d_law_588 : decode code 588 = .ok (.aload_n 0, 1) := by decide +kernel
theorem d_law_589 : decode code 589 = .ok (.iload_n 3, 1) := by decide +kernel
theorem d_law_590 : decode code 590 = .ok (.iconst 5, 1) := by decide +kernel
theorem d_law_591 : decode code 591 = .ok (.iadd, 1) := by decide +kernel
theorem d_law_592 : decode code 592 = .ok (.iaload, 1) := by decide +kernel
theorem d_law_593 : decode code 593 = .ok (.invokevirtual 53, 3) := by decide +kernel
theorem d_law_596 : decode code 596 = .ok (.if_icmp .eq 1322, 3) := by decide +kernel
theorem d_law_599 : decode code 599 = .ok (.iconst 0, 1) := by decide +kernel
theorem d_law_600 : decode code 600 = .ok (.ireturn, 1) := by decide +kernel
theorem d_law_601 : decode code 601 = .ok (.aload_n 1, 1) := by decide +kernel
theorem d_law_602 : decode code 602 = .ok (.aload_n 0, 1) := by decide +kernel
theorem d_law_603 : decode code 603 = .ok (.iload_n 3, 1) := by decide +kernel
theorem d_law_604 : decode code 604 = .ok (.iconst 1, 1) := by decide +kernel
theorem d_law_605 : decode code 605 = .ok (.iadd, 1) := by decide +kernel
theorem d_law_606 : decode code 606 = .ok (.iaload, 1) := by decide +kernel
theorem d_law_607 : decode code 607 = .ok (.invokevirtual 54, 3) := by decide +kernel
theorem d_law_610 : decode code 610 = .ok (.aload_n 2, 1) := by decide +kernel
theorem d_law_611 : decode code 611 = .ok (.aload_n 0, 1) := by decide +kernel
theorem d_law_612 : decode code 612 = .ok (.iload_n 3, 1) := by decide +kernel
theorem d_law_613 : decode code 613 = .ok (.iconst 1, 1) := by decide +kernel
theorem d_law_614 : decode code 614 = .ok (.iadd, 1) := by decide +kernel
theorem d_law_615 : decode code 615 = .ok (.iaload, 1) := by decide +kernel
theorem d_law_616 : decode code 616 = .ok (.invokevirtual 58, 3) := by decide +kernel
theorem d_law_619 : decode code 619 = .ok (.if_icmp .eq 1299, 3) := by decide +kernel
theorem d_law_622 : decode code 622 = .ok (.iconst 0, 1) := by decide +kernel
theorem d_law_623 : decode code 623 = .ok (.ireturn, 1) := by decide +kernel
theorem d_law_624 : decode code 624 = .ok (.aload_n 1, 1) := by decide +kernel
theorem d_law_625 : decode code 625 = .ok (.aload_n 0, 1) := by decide +kernel
theorem d_law_626 : decode code 626 = .ok (.iload_n 3, 1) := by decide +kernel
theorem d_law_627 : decode code 627 = .ok (.iconst 1, 1) := by decide +kernel
theorem d_law_628 : decode code 628 = .ok (.iadd, 1) := by decide +kernel
theorem d_law_629 : decode code 629 = .ok (.iaload, 1) := by decide +kernel
theorem d_law_630 : decode code 630 = .ok (.invokevirtual 59, 3) := by decide +kernel
theorem d_law_633 : decode code 633 = .ok (.aload_n 2, 1) := by decide +kernel
theorem d_law_634 : decode code 634 = .ok (.aload_n 0, 1) := by decide +kernel
theorem d_law_635 : decode code 635 = .ok (.iload_n 3, 1) := by decide +kernel
theorem d_law_636 : decode code 636 = .ok (.iconst 1, 1) := by decide +kernel
theorem d_law_637 : decode code 637 = .ok (.iadd, 1) := by decide +kernel
theorem d_law_638 : decode code 638 = .ok (.iaload, 1) := by decide +kernel
theorem d_law_639 : decode code 639 = .ok (.invokevirtual 62, 3) := by decide +kernel
theorem d_law_642 : decode code 642 = .ok (.if_icmp .eq 1276, 3) := by decide +kernel
theorem d_law_645 : decode code 645 = .ok (.iconst 0, 1) := by decide +kernel
theorem d_law_646 : decode code 646 = .ok (.ireturn, 1) := by decide +kernel
theorem d_law_647 : decode code 647 = .ok (.aload_n 1, 1) := by decide +kernel
theorem d_law_648 : decode code 648 = .ok (.aload_n 0, 1) := by decide +kernel
theorem d_law_649 : decode code 649 = .ok (.iload_n 3, 1) := by decide +kernel
theorem d_law_650 : decode code 650 = .ok (.iconst 1, 1) := by decide +kernel
theorem d_law_651 : decode code 651 = .ok (.iadd, 1) := by decide +kernel
theorem d_law_652 : decode code 652 = .ok (.iaload, 1) := by decide +kernel
theorem d_law_653 : decode code 653 = .ok (.invokevirtual 63, 3) := by decide +kernel
theorem d_law_656 : decode code 656 = .ok (.aload_n 2, 1) := by decide +kernel
theorem d_law_657 : decode code 657 = .ok (.aload_n 0, 1) := by decide +kernel
theorem d_law_658 : decode code 658 = .ok (.iload_n 3, 1) := by decide +kernel
theorem d_law_659 : decode code 659 = .ok (.iconst 1, 1) := by decide +kernel
theorem d_law_660 : decode code 660 = .ok (.iadd, 1) := by decide +kernel
theorem d_law_661 : decode code 661 = .ok (.iaload, 1) := by decide +kernel
theorem d_law_662 : decode code 662 = .ok (.invokevirtual 66, 3) := by decide +kernel
theorem d_law_665 : decode code 665 = .ok (.if_icmp .eq 1253, 3) := by decide +kernel
theorem d_law_668 : decode code 668 = .ok (.iconst 0, 1) := by decide +kernel
theorem d_law_669 : decode code 669 = .ok (.ireturn, 1) := by decide +kernel
theorem d_law_670 : decode code 670 = .ok (.aload_n 1, 1) := by decide +kernel
theorem d_law_671 : decode code 671 = .ok (.aload_n 0, 1) := by decide +kernel
theorem d_law_672 : decode code 672 = .ok (.iload_n 3, 1) := by decide +kernel
theorem d_law_673 : decode code 673 = .ok (.iconst 1, 1) := by decide +kernel
theorem d_law_674 : decode code 674 = .ok (.iadd, 1) := by decide +kernel
theorem d_law_675 : decode code 675 = .ok (.iaload, 1) := by decide +kernel
theorem d_law_676 : decode code 676 = .ok (.invokevirtual 67, 3) := by decide +kernel
theorem d_law_679 : decode code 679 = .ok (.aload_n 2, 1) := by decide +kernel
theorem d_law_680 : decode code 680 = .ok (.aload_n 0, 1) := by decide +kernel
theorem d_law_681 : decode code 681 = .ok (.iload_n 3, 1) := by decide +kernel
theorem d_law_682 : decode code 682 = .ok (.iconst 1, 1) := by decide +kernel
theorem d_law_683 : decode code 683 = .ok (.iadd, 1) := by decide +kernel
theorem d_law_684 : decode code 684 = .ok (.iaload, 1) := by decide +kernel
theorem d_law_685 : decode code 685 = .ok (.invokevirtual 70, 3) := by decide +kernel
theorem d_law_688 : decode code 688 = .ok (.if_icmp .eq 1230, 3) := by decide +kernel
theorem d_law_691 : decode code 691 = .ok (.iconst 0, 1) := by decide +kernel
theorem d_law_692 : decode code 692 = .ok (.ireturn, 1) := by decide +kernel
section LAWC
variable {p : Program} {l : Launch} {e : Env} {s : State} {m : MethodId} {below : List Frame} {meth : Method} {c : Code} {b L : Nat} {xs : Nat → Int32} {G : Gm} {aP : Nat}
theorem law_0 (C : LCx p s m meth c b L xs G aP) (hL : L ≤ 3072) {i : Nat} (hi : i + 6 ≤ L) {hc hm : Hp} (J : JJ (pY G aP) (mY G (aP + 184)) hc aP hm (aP + 184) kw0) (nx : ∀ hc hm, JJ (pY G aP) (mY G (aP + 184)) hc aP hm (aP + 184) kw0 → LW p l e s m below meth c b G aP 1918 (lvL b aP i) [] hc hm) : LW p l e s m below meth c b G aP 284 (lvL b aP i) [] hc hm := by
  obtain ⟨v, hm1, e1, e2, J1⟩ := so_status J 
  refine lw_aload C (pc := 284) (q := 2) d_law_284 rfl rfl ?_
  refine lw_callC C (pc := 285) (K' := K_LP_status) (n' := 0) (As := []) (st := []) okV_LP_status rfl (ok_LP_status (pY G aP) aP hc (oP G aP)) e1 w3_55 d_law_285 rfl (by decide) rfl (Nat.le_of_ble_eq_true rfl) ?_
  show LW p l e s m below meth c b G aP 288 (lvL b aP i) [.int v] hc hm
  refine lw_aload C (pc := 288) (q := 3) d_law_288 rfl rfl ?_
  refine lw_callM C (pc := 289) (K' := K_M_status) (n' := 0) (As := []) (st := [.int v]) okV_M_status rfl (ok_M_status (mY G (aP + 184)) (aP + 184) hm (M_isO G (aP + 184))) e2 w7_160 d_law_289 rfl (by decide) rfl (Nat.le_of_ble_eq_true rfl) ?_
  show LW p l e s m below meth c b G aP 292 (lvL b aP i) [.int v, .int v] hc hm1
  exact lw_icmp_eq C (pc := 292) (tgt := 1918) d_law_292 (by decide) (nx _ _ J1)
theorem law_1 (C : LCx p s m meth c b L xs G aP) (hL : L ≤ 3072) {i : Nat} (hi : i + 6 ≤ L) {hc hm : Hp} (J : JJ (pY G aP) (mY G (aP + 184)) hc aP hm (aP + 184) kw0) (nx : ∀ hc hm, JJ (pY G aP) (mY G (aP + 184)) hc aP hm (aP + 184) kw0 → LW p l e s m below meth c b G aP 1918 (lvL b aP i) [] hc hm) : LW p l e s m below meth c b G aP 297 (lvL b aP i) [] hc hm := by
  obtain ⟨v, hm1, e1, e2, J1⟩ := so_top J 
  refine lw_aload C (pc := 297) (q := 2) d_law_297 rfl rfl ?_
  refine lw_callC C (pc := 298) (K' := K_LP_top) (n' := 0) (As := []) (st := []) okV_LP_top rfl (ok_LP_top (pY G aP) aP hc (oP G aP)) e1 w3_59 d_law_298 rfl (by decide) rfl (Nat.le_of_ble_eq_true rfl) ?_
  show LW p l e s m below meth c b G aP 301 (lvL b aP i) [.long v] hc hm
  refine lw_aload C (pc := 301) (q := 3) d_law_301 rfl rfl ?_
  refine lw_callM C (pc := 302) (K' := K_M_top) (n' := 0) (As := []) (st := [.long v]) okV_M_top rfl (ok_M_top (mY G (aP + 184)) (aP + 184) hm (M_isO G (aP + 184))) e2 w7_164 d_law_302 rfl (by decide) rfl (Nat.le_of_ble_eq_true rfl) ?_
  show LW p l e s m below meth c b G aP 305 (lvL b aP i) [.long v, .long v] hc hm1
  exact lw_lcmp_eq C (pc := 305) (tgt := 1918) d_law_305 d_law_306 (by decide) (nx _ _ J1)
theorem law_2 (C : LCx p s m meth c b L xs G aP) (hL : L ≤ 3072) {i : Nat} (hi : i + 6 ≤ L) {hc hm : Hp} (J : JJ (pY G aP) (mY G (aP + 184)) hc aP hm (aP + 184) kw0) (nx : ∀ hc hm, JJ (pY G aP) (mY G (aP + 184)) hc aP hm (aP + 184) kw0 → LW p l e s m below meth c b G aP 1918 (lvL b aP i) [] hc hm) : LW p l e s m below meth c b G aP 311 (lvL b aP i) [] hc hm := by
  obtain ⟨v, hm1, e1, e2, J1⟩ := so_bottom J 
  refine lw_aload C (pc := 311) (q := 2) d_law_311 rfl rfl ?_
  refine lw_callC C (pc := 312) (K' := K_LP_bottom) (n' := 0) (As := []) (st := []) okV_LP_bottom rfl (ok_LP_bottom (pY G aP) aP hc (oP G aP)) e1 w3_63 d_law_312 rfl (by decide) rfl (Nat.le_of_ble_eq_true rfl) ?_
  show LW p l e s m below meth c b G aP 315 (lvL b aP i) [.long v] hc hm
  refine lw_aload C (pc := 315) (q := 3) d_law_315 rfl rfl ?_
  refine lw_callM C (pc := 316) (K' := K_M_bottom) (n' := 0) (As := []) (st := [.long v]) okV_M_bottom rfl (ok_M_bottom (mY G (aP + 184)) (aP + 184) hm (M_isO G (aP + 184))) e2 w7_168 d_law_316 rfl (by decide) rfl (Nat.le_of_ble_eq_true rfl) ?_
  show LW p l e s m below meth c b G aP 319 (lvL b aP i) [.long v, .long v] hc hm1
  exact lw_lcmp_eq C (pc := 319) (tgt := 1918) d_law_319 d_law_320 (by decide) (nx _ _ J1)
theorem law_3 (C : LCx p s m meth c b L xs G aP) (hL : L ≤ 3072) {i : Nat} (hi : i + 6 ≤ L) {hc hm : Hp} (J : JJ (pY G aP) (mY G (aP + 184)) hc aP hm (aP + 184) kw0) (nx : ∀ hc hm, JJ (pY G aP) (mY G (aP + 184)) hc aP hm (aP + 184) kw0 → LW p l e s m below meth c b G aP 1918 (lvL b aP i) [] hc hm) : LW p l e s m below meth c b G aP 325 (lvL b aP i) [] hc hm := by
  obtain ⟨v, hc1, hm1, e1, e2, J1⟩ := so_tray J (xs (i + 1)) (xs (i + 2)) (xs (i + 3))
  refine lw_aload C (pc := 325) (q := 2) d_law_325 rfl rfl ?_
  refine lw_cell C (i := i) (k := 1) (pc := 326) hL hi (by decide) d_law_326 d_law_327 d_law_328 (by decide) d_law_329 d_law_330 ?_
  refine lw_cell C (i := i) (k := 2) (pc := 331) hL hi (by decide) d_law_331 d_law_332 d_law_333 (by decide) d_law_334 d_law_335 ?_
  refine lw_cell C (i := i) (k := 3) (pc := 336) hL hi (by decide) d_law_336 d_law_337 d_law_338 (by decide) d_law_339 d_law_340 ?_
  refine lw_callC C (pc := 341) (K' := K_LP_tray) (n' := 2) (As := [.int (xs (i + 1)), .int (xs (i + 2)), .int (xs (i + 3))]) (st := []) okV_LP_tray rfl (ok_LP_tray (pY G aP) aP (xs (i + 1)) (xs (i + 2)) (xs (i + 3)) hc (oP G aP)) e1 w3_67 d_law_341 rfl (by decide) rfl (Nat.le_of_ble_eq_true rfl) ?_
  show LW p l e s m below meth c b G aP 344 (lvL b aP i) [.int (b2i v)] hc1 hm
  refine lw_aload C (pc := 344) (q := 3) d_law_344 rfl rfl ?_
  refine lw_cell C (i := i) (k := 1) (pc := 345) hL hi (by decide) d_law_345 d_law_346 d_law_347 (by decide) d_law_348 d_law_349 ?_
  refine lw_cell C (i := i) (k := 2) (pc := 350) hL hi (by decide) d_law_350 d_law_351 d_law_352 (by decide) d_law_353 d_law_354 ?_
  refine lw_cell C (i := i) (k := 3) (pc := 355) hL hi (by decide) d_law_355 d_law_356 d_law_357 (by decide) d_law_358 d_law_359 ?_
  refine lw_callM C (pc := 360) (K' := K_M_tray) (n' := 1) (As := [.int (xs (i + 1)), .int (xs (i + 2)), .int (xs (i + 3))]) (st := [.int (b2i v)]) okV_M_tray rfl (ok_M_tray (mY G (aP + 184)) (aP + 184) (xs (i + 1)) (xs (i + 2)) (xs (i + 3)) hm (M_isO G (aP + 184))) e2 w7_172 d_law_360 rfl (by decide) rfl (Nat.le_of_ble_eq_true rfl) ?_
  show LW p l e s m below meth c b G aP 363 (lvL b aP i) [.int (b2i v), .int (b2i v)] hc1 hm1
  exact lw_icmp_eq C (pc := 363) (tgt := 1918) d_law_363 (by decide) (nx _ _ J1)
theorem law_4 (C : LCx p s m meth c b L xs G aP) (hL : L ≤ 3072) {i : Nat} (hi : i + 6 ≤ L) {hc hm : Hp} (J : JJ (pY G aP) (mY G (aP + 184)) hc aP hm (aP + 184) kw0) (nx : ∀ hc hm, JJ (pY G aP) (mY G (aP + 184)) hc aP hm (aP + 184) kw0 → LW p l e s m below meth c b G aP 1918 (lvL b aP i) [] hc hm) : LW p l e s m below meth c b G aP 368 (lvL b aP i) [] hc hm := by
  obtain ⟨v, hc1, hm1, e1, e2, J1⟩ := so_write J (xs (i + 1)) (xs (i + 2)) ((((xs (i + 3)).toInt64) <<< ((32 : Int32).toInt64 &&& 63)) ||| (((xs (i + 4)).toInt64) &&& (4294967295 : Int64)))
  refine lw_aload C (pc := 368) (q := 2) d_law_368 rfl rfl ?_
  refine lw_cell C (i := i) (k := 1) (pc := 369) hL hi (by decide) d_law_369 d_law_370 d_law_371 (by decide) d_law_372 d_law_373 ?_
  refine lw_cell C (i := i) (k := 2) (pc := 374) hL hi (by decide) d_law_374 d_law_375 d_law_376 (by decide) d_law_377 d_law_378 ?_
  refine lw_cell C (i := i) (k := 3) (pc := 379) hL hi (by decide) d_law_379 d_law_380 d_law_381 (by decide) d_law_382 d_law_383 ?_
  refine lw_i2l C (pc := 384) d_law_384 ?_
  refine lw_bipush C (pc := 385) (x := 32) d_law_385 (by decide) ?_
  refine lw_lshl C (pc := 387) d_law_387 ?_
  refine lw_cell C (i := i) (k := 4) (pc := 388) hL hi (by decide) d_law_388 d_law_389 d_law_390 (by decide) d_law_391 d_law_392 ?_
  refine lw_i2l C (pc := 393) d_law_393 ?_
  refine lw_ldc2 C (pc := 394) w10_176 d_law_394 ?_
  refine lw_land C (pc := 397) d_law_397 ?_
  refine lw_lor C (pc := 398) d_law_398 ?_
  refine lw_callC C (pc := 399) (K' := K_LP_write) (n' := 2) (As := [.int (xs (i + 1)), .int (xs (i + 2)), .long ((((xs (i + 3)).toInt64) <<< ((32 : Int32).toInt64 &&& 63)) ||| (((xs (i + 4)).toInt64) &&& (4294967295 : Int64)))]) (st := []) okV_LP_write rfl (ok_LP_write (pY G aP) aP (xs (i + 1)) (xs (i + 2)) ((((xs (i + 3)).toInt64) <<< ((32 : Int32).toInt64 &&& 63)) ||| (((xs (i + 4)).toInt64) &&& (4294967295 : Int64))) hc (oP G aP)) e1 w3_90 d_law_399 rfl (by decide) rfl (Nat.le_of_ble_eq_true rfl) ?_
  show LW p l e s m below meth c b G aP 402 (lvL b aP i) [.int (b2i v)] hc1 hm
  refine lw_aload C (pc := 402) (q := 3) d_law_402 rfl rfl ?_
  refine lw_cell C (i := i) (k := 1) (pc := 403) hL hi (by decide) d_law_403 d_law_404 d_law_405 (by decide) d_law_406 d_law_407 ?_
  refine lw_cell C (i := i) (k := 2) (pc := 408) hL hi (by decide) d_law_408 d_law_409 d_law_410 (by decide) d_law_411 d_law_412 ?_
  refine lw_cell C (i := i) (k := 3) (pc := 413) hL hi (by decide) d_law_413 d_law_414 d_law_415 (by decide) d_law_416 d_law_417 ?_
  refine lw_i2l C (pc := 418) d_law_418 ?_
  refine lw_bipush C (pc := 419) (x := 32) d_law_419 (by decide) ?_
  refine lw_lshl C (pc := 421) d_law_421 ?_
  refine lw_cell C (i := i) (k := 4) (pc := 422) hL hi (by decide) d_law_422 d_law_423 d_law_424 (by decide) d_law_425 d_law_426 ?_
  refine lw_i2l C (pc := 427) d_law_427 ?_
  refine lw_ldc2 C (pc := 428) w10_176 d_law_428 ?_
  refine lw_land C (pc := 431) d_law_431 ?_
  refine lw_lor C (pc := 432) d_law_432 ?_
  refine lw_callM C (pc := 433) (K' := K_M_write) (n' := 2) (As := [.int (xs (i + 1)), .int (xs (i + 2)), .long ((((xs (i + 3)).toInt64) <<< ((32 : Int32).toInt64 &&& 63)) ||| (((xs (i + 4)).toInt64) &&& (4294967295 : Int64)))]) (st := [.int (b2i v)]) okV_M_write rfl (ok_M_write (mY G (aP + 184)) (aP + 184) (xs (i + 1)) (xs (i + 2)) ((((xs (i + 3)).toInt64) <<< ((32 : Int32).toInt64 &&& 63)) ||| (((xs (i + 4)).toInt64) &&& (4294967295 : Int64))) hm (M_isO G (aP + 184))) e2 w7_180 d_law_433 rfl (by decide) rfl (Nat.le_of_ble_eq_true rfl) ?_
  show LW p l e s m below meth c b G aP 436 (lvL b aP i) [.int (b2i v), .int (b2i v)] hc1 hm1
  exact lw_icmp_eq C (pc := 436) (tgt := 1918) d_law_436 (by decide) (nx _ _ J1)
theorem law_5 (C : LCx p s m meth c b L xs G aP) (hL : L ≤ 3072) {i : Nat} (hi : i + 6 ≤ L) {hc hm : Hp} (J : JJ (pY G aP) (mY G (aP + 184)) hc aP hm (aP + 184) kw0) (nx : ∀ hc hm, JJ (pY G aP) (mY G (aP + 184)) hc aP hm (aP + 184) kw0 → LW p l e s m below meth c b G aP 1918 (lvL b aP i) [] hc hm) : LW p l e s m below meth c b G aP 441 (lvL b aP i) [] hc hm := by
  obtain ⟨v, hc1, hm1, e1, e2, J1⟩ := so_read J (xs (i + 1)) (xs (i + 2))
  refine lw_aload C (pc := 441) (q := 2) d_law_441 rfl rfl ?_
  refine lw_cell C (i := i) (k := 1) (pc := 442) hL hi (by decide) d_law_442 d_law_443 d_law_444 (by decide) d_law_445 d_law_446 ?_
  refine lw_cell C (i := i) (k := 2) (pc := 447) hL hi (by decide) d_law_447 d_law_448 d_law_449 (by decide) d_law_450 d_law_451 ?_
  refine lw_callC C (pc := 452) (K' := K_LP_read) (n' := 2) (As := [.int (xs (i + 1)), .int (xs (i + 2))]) (st := []) okV_LP_read rfl (ok_LP_read (pY G aP) aP (xs (i + 1)) (xs (i + 2)) hc (oP G aP)) e1 w3_110 d_law_452 rfl (by decide) rfl (Nat.le_of_ble_eq_true rfl) ?_
  show LW p l e s m below meth c b G aP 455 (lvL b aP i) [.long v] hc1 hm
  refine lw_aload C (pc := 455) (q := 3) d_law_455 rfl rfl ?_
  refine lw_cell C (i := i) (k := 1) (pc := 456) hL hi (by decide) d_law_456 d_law_457 d_law_458 (by decide) d_law_459 d_law_460 ?_
  refine lw_cell C (i := i) (k := 2) (pc := 461) hL hi (by decide) d_law_461 d_law_462 d_law_463 (by decide) d_law_464 d_law_465 ?_
  refine lw_callM C (pc := 466) (K' := K_M_read) (n' := 2) (As := [.int (xs (i + 1)), .int (xs (i + 2))]) (st := [.long v]) okV_M_read rfl (ok_M_read (mY G (aP + 184)) (aP + 184) (xs (i + 1)) (xs (i + 2)) hm (M_isO G (aP + 184))) e2 w7_195 d_law_466 rfl (by decide) rfl (Nat.le_of_ble_eq_true rfl) ?_
  show LW p l e s m below meth c b G aP 469 (lvL b aP i) [.long v, .long v] hc1 hm1
  exact lw_lcmp_eq C (pc := 469) (tgt := 1918) d_law_469 d_law_470 (by decide) (nx _ _ J1)
theorem law_6 (C : LCx p s m meth c b L xs G aP) (hL : L ≤ 3072) {i : Nat} (hi : i + 6 ≤ L) {hc hm : Hp} (J : JJ (pY G aP) (mY G (aP + 184)) hc aP hm (aP + 184) kw0) (nx : ∀ hc hm, JJ (pY G aP) (mY G (aP + 184)) hc aP hm (aP + 184) kw0 → LW p l e s m below meth c b G aP 1918 (lvL b aP i) [] hc hm) : LW p l e s m below meth c b G aP 475 (lvL b aP i) [] hc hm := by
  obtain ⟨v, hc1, hm1, e1, e2, J1⟩ := so_pour J (xs (i + 1)) (xs (i + 2)) (xs (i + 3)) (xs (i + 4)) (xs (i + 5))
  refine lw_aload C (pc := 475) (q := 2) d_law_475 rfl rfl ?_
  refine lw_cell C (i := i) (k := 1) (pc := 476) hL hi (by decide) d_law_476 d_law_477 d_law_478 (by decide) d_law_479 d_law_480 ?_
  refine lw_cell C (i := i) (k := 2) (pc := 481) hL hi (by decide) d_law_481 d_law_482 d_law_483 (by decide) d_law_484 d_law_485 ?_
  refine lw_cell C (i := i) (k := 3) (pc := 486) hL hi (by decide) d_law_486 d_law_487 d_law_488 (by decide) d_law_489 d_law_490 ?_
  refine lw_cell C (i := i) (k := 4) (pc := 491) hL hi (by decide) d_law_491 d_law_492 d_law_493 (by decide) d_law_494 d_law_495 ?_
  refine lw_cell C (i := i) (k := 5) (pc := 496) hL hi (by decide) d_law_496 d_law_497 d_law_498 (by decide) d_law_499 d_law_500 ?_
  refine lw_callC C (pc := 501) (K' := K_LP_pour) (n' := 1) (As := [.int (xs (i + 1)), .int (xs (i + 2)), .int (xs (i + 3)), .int (xs (i + 4)), .int (xs (i + 5))]) (st := []) okV_LP_pour rfl (ok_LP_pour (pY G aP) aP (xs (i + 1)) (xs (i + 2)) (xs (i + 3)) (xs (i + 4)) (xs (i + 5)) hc (oP G aP)) e1 w3_123 d_law_501 rfl (by decide) rfl (Nat.le_of_ble_eq_true rfl) ?_
  show LW p l e s m below meth c b G aP 504 (lvL b aP i) [.int (b2i v)] hc1 hm
  refine lw_aload C (pc := 504) (q := 3) d_law_504 rfl rfl ?_
  refine lw_cell C (i := i) (k := 1) (pc := 505) hL hi (by decide) d_law_505 d_law_506 d_law_507 (by decide) d_law_508 d_law_509 ?_
  refine lw_cell C (i := i) (k := 2) (pc := 510) hL hi (by decide) d_law_510 d_law_511 d_law_512 (by decide) d_law_513 d_law_514 ?_
  refine lw_cell C (i := i) (k := 3) (pc := 515) hL hi (by decide) d_law_515 d_law_516 d_law_517 (by decide) d_law_518 d_law_519 ?_
  refine lw_cell C (i := i) (k := 4) (pc := 520) hL hi (by decide) d_law_520 d_law_521 d_law_522 (by decide) d_law_523 d_law_524 ?_
  refine lw_cell C (i := i) (k := 5) (pc := 525) hL hi (by decide) d_law_525 d_law_526 d_law_527 (by decide) d_law_528 d_law_529 ?_
  refine lw_callM C (pc := 530) (K' := K_M_pour) (n' := 1) (As := [.int (xs (i + 1)), .int (xs (i + 2)), .int (xs (i + 3)), .int (xs (i + 4)), .int (xs (i + 5))]) (st := [.int (b2i v)]) okV_M_pour rfl (ok_M_pour (mY G (aP + 184)) (aP + 184) (xs (i + 1)) (xs (i + 2)) (xs (i + 3)) (xs (i + 4)) (xs (i + 5)) hm (M_isO G (aP + 184))) e2 w7_200 d_law_530 rfl (by decide) rfl (Nat.le_of_ble_eq_true rfl) ?_
  show LW p l e s m below meth c b G aP 533 (lvL b aP i) [.int (b2i v), .int (b2i v)] hc1 hm1
  exact lw_icmp_eq C (pc := 533) (tgt := 1918) d_law_533 (by decide) (nx _ _ J1)
theorem law_7 (C : LCx p s m meth c b L xs G aP) (hL : L ≤ 3072) {i : Nat} (hi : i + 6 ≤ L) {hc hm : Hp} (J : JJ (pY G aP) (mY G (aP + 184)) hc aP hm (aP + 184) kw0) (nx : ∀ hc hm, JJ (pY G aP) (mY G (aP + 184)) hc aP hm (aP + 184) kw0 → LW p l e s m below meth c b G aP 1918 (lvL b aP i) [] hc hm) : LW p l e s m below meth c b G aP 538 (lvL b aP i) [] hc hm := by
  obtain ⟨v, hc1, hm1, e1, e2, J1⟩ := so_feed J (xs (i + 1)) (xs (i + 2)) (xs (i + 3)) (xs (i + 4)) (xs (i + 5))
  refine lw_aload C (pc := 538) (q := 2) d_law_538 rfl rfl ?_
  refine lw_cell C (i := i) (k := 1) (pc := 539) hL hi (by decide) d_law_539 d_law_540 d_law_541 (by decide) d_law_542 d_law_543 ?_
  refine lw_cell C (i := i) (k := 2) (pc := 544) hL hi (by decide) d_law_544 d_law_545 d_law_546 (by decide) d_law_547 d_law_548 ?_
  refine lw_cell C (i := i) (k := 3) (pc := 549) hL hi (by decide) d_law_549 d_law_550 d_law_551 (by decide) d_law_552 d_law_553 ?_
  refine lw_cell C (i := i) (k := 4) (pc := 554) hL hi (by decide) d_law_554 d_law_555 d_law_556 (by decide) d_law_557 d_law_558 ?_
  refine lw_cell C (i := i) (k := 5) (pc := 559) hL hi (by decide) d_law_559 d_law_560 d_law_561 (by decide) d_law_562 d_law_563 ?_
  refine lw_callC C (pc := 564) (K' := K_LP_feed) (n' := 1) (As := [.int (xs (i + 1)), .int (xs (i + 2)), .int (xs (i + 3)), .int (xs (i + 4)), .int (xs (i + 5))]) (st := []) okV_LP_feed rfl (ok_LP_feed (pY G aP) aP (xs (i + 1)) (xs (i + 2)) (xs (i + 3)) (xs (i + 4)) (xs (i + 5)) hc (oP G aP)) e1 w3_130 d_law_564 rfl (by decide) rfl (Nat.le_of_ble_eq_true rfl) ?_
  show LW p l e s m below meth c b G aP 567 (lvL b aP i) [.int v] hc1 hm
  refine lw_aload C (pc := 567) (q := 3) d_law_567 rfl rfl ?_
  refine lw_cell C (i := i) (k := 1) (pc := 568) hL hi (by decide) d_law_568 d_law_569 d_law_570 (by decide) d_law_571 d_law_572 ?_
  refine lw_cell C (i := i) (k := 2) (pc := 573) hL hi (by decide) d_law_573 d_law_574 d_law_575 (by decide) d_law_576 d_law_577 ?_
  refine lw_cell C (i := i) (k := 3) (pc := 578) hL hi (by decide) d_law_578 d_law_579 d_law_580 (by decide) d_law_581 d_law_582 ?_
  refine lw_cell C (i := i) (k := 4) (pc := 583) hL hi (by decide) d_law_583 d_law_584 d_law_585 (by decide) d_law_586 d_law_587 ?_
  refine lw_cell C (i := i) (k := 5) (pc := 588) hL hi (by decide) d_law_588 d_law_589 d_law_590 (by decide) d_law_591 d_law_592 ?_
  refine lw_callM C (pc := 593) (K' := K_M_feed) (n' := 1) (As := [.int (xs (i + 1)), .int (xs (i + 2)), .int (xs (i + 3)), .int (xs (i + 4)), .int (xs (i + 5))]) (st := [.int v]) okV_M_feed rfl (ok_M_feed (mY G (aP + 184)) (aP + 184) (xs (i + 1)) (xs (i + 2)) (xs (i + 3)) (xs (i + 4)) (xs (i + 5)) hm (M_isO G (aP + 184))) e2 w7_204 d_law_593 rfl (by decide) rfl (Nat.le_of_ble_eq_true rfl) ?_
  show LW p l e s m below meth c b G aP 596 (lvL b aP i) [.int v, .int v] hc1 hm1
  exact lw_icmp_eq C (pc := 596) (tgt := 1918) d_law_596 (by decide) (nx _ _ J1)
theorem law_8 (C : LCx p s m meth c b L xs G aP) (hL : L ≤ 3072) {i : Nat} (hi : i + 6 ≤ L) {hc hm : Hp} (J : JJ (pY G aP) (mY G (aP + 184)) hc aP hm (aP + 184) kw0) (nx : ∀ hc hm, JJ (pY G aP) (mY G (aP + 184)) hc aP hm (aP + 184) kw0 → LW p l e s m below meth c b G aP 1918 (lvL b aP i) [] hc hm) : LW p l e s m below meth c b G aP 601 (lvL b aP i) [] hc hm := by
  obtain ⟨v, hc1, hm1, e1, e2, J1⟩ := so_shelf J (fun _ _ => rfl) (xs (i + 1))
  refine lw_aload C (pc := 601) (q := 2) d_law_601 rfl rfl ?_
  refine lw_cell C (i := i) (k := 1) (pc := 602) hL hi (by decide) d_law_602 d_law_603 d_law_604 (by decide) d_law_605 d_law_606 ?_
  refine lw_callC C (pc := 607) (K' := K_LP_shelf) (n' := 6) (As := [.int (xs (i + 1))]) (st := []) okV_LP_shelf rfl (ok_LP_shelf (pY G aP) aP (xs (i + 1)) hc (oP G aP)) e1 w3_138 d_law_607 rfl (by decide) rfl (Nat.le_of_ble_eq_true rfl) ?_
  show LW p l e s m below meth c b G aP 610 (lvL b aP i) [.int v] hc1 hm
  refine lw_aload C (pc := 610) (q := 3) d_law_610 rfl rfl ?_
  refine lw_cell C (i := i) (k := 1) (pc := 611) hL hi (by decide) d_law_611 d_law_612 d_law_613 (by decide) d_law_614 d_law_615 ?_
  refine lw_callM C (pc := 616) (K' := K_M_shelf) (n' := 10) (As := [.int (xs (i + 1))]) (st := [.int v]) okV_M_shelf rfl (ok_M_shelf (mY G (aP + 184)) (aP + 184) (xs (i + 1)) hm (M_isO G (aP + 184))) e2 w7_216 d_law_616 rfl (by decide) rfl (Nat.le_of_ble_eq_true rfl) ?_
  show LW p l e s m below meth c b G aP 619 (lvL b aP i) [.int v, .int v] hc1 hm1
  exact lw_icmp_eq C (pc := 619) (tgt := 1918) d_law_619 (by decide) (nx _ _ J1)
theorem law_9 (C : LCx p s m meth c b L xs G aP) (hL : L ≤ 3072) {i : Nat} (hi : i + 6 ≤ L) {hc hm : Hp} (J : JJ (pY G aP) (mY G (aP + 184)) hc aP hm (aP + 184) kw0) (nx : ∀ hc hm, JJ (pY G aP) (mY G (aP + 184)) hc aP hm (aP + 184) kw0 → LW p l e s m below meth c b G aP 1918 (lvL b aP i) [] hc hm) : LW p l e s m below meth c b G aP 624 (lvL b aP i) [] hc hm := by
  obtain ⟨v, hc1, hm1, e1, e2, J1⟩ := so_weeks J (fun _ _ => rfl) (xs (i + 1))
  refine lw_aload C (pc := 624) (q := 2) d_law_624 rfl rfl ?_
  refine lw_cell C (i := i) (k := 1) (pc := 625) hL hi (by decide) d_law_625 d_law_626 d_law_627 (by decide) d_law_628 d_law_629 ?_
  refine lw_callC C (pc := 630) (K' := K_LP_weeks) (n' := 6) (As := [.int (xs (i + 1))]) (st := []) okV_LP_weeks rfl (ok_LP_weeks (pY G aP) aP (xs (i + 1)) hc (oP G aP)) e1 w4_92 d_law_630 rfl (by decide) rfl (Nat.le_of_ble_eq_true rfl) ?_
  show LW p l e s m below meth c b G aP 633 (lvL b aP i) [.int v] hc1 hm
  refine lw_aload C (pc := 633) (q := 3) d_law_633 rfl rfl ?_
  refine lw_cell C (i := i) (k := 1) (pc := 634) hL hi (by decide) d_law_634 d_law_635 d_law_636 (by decide) d_law_637 d_law_638 ?_
  refine lw_callM C (pc := 639) (K' := K_M_weeks) (n' := 24) (As := [.int (xs (i + 1))]) (st := [.int v]) okV_M_weeks rfl (ok_M_weeks (mY G (aP + 184)) (aP + 184) (xs (i + 1)) hm (M_isO G (aP + 184))) e2 w8_227 d_law_639 rfl (by decide) rfl (Nat.le_of_ble_eq_true rfl) ?_
  show LW p l e s m below meth c b G aP 642 (lvL b aP i) [.int v, .int v] hc1 hm1
  exact lw_icmp_eq C (pc := 642) (tgt := 1918) d_law_642 (by decide) (nx _ _ J1)
theorem law_10 (C : LCx p s m meth c b L xs G aP) (hL : L ≤ 3072) {i : Nat} (hi : i + 6 ≤ L) {hc hm : Hp} (J : JJ (pY G aP) (mY G (aP + 184)) hc aP hm (aP + 184) kw0) (nx : ∀ hc hm, JJ (pY G aP) (mY G (aP + 184)) hc aP hm (aP + 184) kw0 → LW p l e s m below meth c b G aP 1918 (lvL b aP i) [] hc hm) : LW p l e s m below meth c b G aP 647 (lvL b aP i) [] hc hm := by
  obtain ⟨v, hm1, e1, e2, J1⟩ := so_fault J (xs (i + 1))
  refine lw_aload C (pc := 647) (q := 2) d_law_647 rfl rfl ?_
  refine lw_cell C (i := i) (k := 1) (pc := 648) hL hi (by decide) d_law_648 d_law_649 d_law_650 (by decide) d_law_651 d_law_652 ?_
  refine lw_callC C (pc := 653) (K' := K_LP_fault) (n' := 0) (As := [.int (xs (i + 1))]) (st := []) okV_LP_fault rfl (ok_LP_fault (pY G aP) aP (xs (i + 1)) hc (oP G aP)) e1 w4_156 d_law_653 rfl (by decide) rfl (Nat.le_of_ble_eq_true rfl) ?_
  show LW p l e s m below meth c b G aP 656 (lvL b aP i) [.int v] hc hm
  refine lw_aload C (pc := 656) (q := 3) d_law_656 rfl rfl ?_
  refine lw_cell C (i := i) (k := 1) (pc := 657) hL hi (by decide) d_law_657 d_law_658 d_law_659 (by decide) d_law_660 d_law_661 ?_
  refine lw_callM C (pc := 662) (K' := K_M_fault) (n' := 0) (As := [.int (xs (i + 1))]) (st := [.int v]) okV_M_fault rfl (ok_M_fault (mY G (aP + 184)) (aP + 184) (xs (i + 1)) hm (M_isO G (aP + 184))) e2 w7_212 d_law_662 rfl (by decide) rfl (Nat.le_of_ble_eq_true rfl) ?_
  show LW p l e s m below meth c b G aP 665 (lvL b aP i) [.int v, .int v] hc hm1
  exact lw_icmp_eq C (pc := 665) (tgt := 1918) d_law_665 (by decide) (nx _ _ J1)
theorem law_11 (C : LCx p s m meth c b L xs G aP) (hL : L ≤ 3072) {i : Nat} (hi : i + 6 ≤ L) {hc hm : Hp} (J : JJ (pY G aP) (mY G (aP + 184)) hc aP hm (aP + 184) kw0) (nx : ∀ hc hm, JJ (pY G aP) (mY G (aP + 184)) hc aP hm (aP + 184) kw0 → LW p l e s m below meth c b G aP 1918 (lvL b aP i) [] hc hm) : LW p l e s m below meth c b G aP 670 (lvL b aP i) [] hc hm := by
  obtain ⟨v, hc1, hm1, e1, e2, J1⟩ := so_many J (xs (i + 1))
  refine lw_aload C (pc := 670) (q := 2) d_law_670 rfl rfl ?_
  refine lw_cell C (i := i) (k := 1) (pc := 671) hL hi (by decide) d_law_671 d_law_672 d_law_673 (by decide) d_law_674 d_law_675 ?_
  refine lw_callC C (pc := 676) (K' := K_LP_many) (n' := 2) (As := [.int (xs (i + 1))]) (st := []) okV_LP_many rfl (ok_LP_many (pY G aP) aP (xs (i + 1)) hc (oP G aP)) e1 w4_160 d_law_676 rfl (by decide) rfl (Nat.le_of_ble_eq_true rfl) ?_
  show LW p l e s m below meth c b G aP 679 (lvL b aP i) [.int v] hc1 hm
  refine lw_aload C (pc := 679) (q := 3) d_law_679 rfl rfl ?_
  refine lw_cell C (i := i) (k := 1) (pc := 680) hL hi (by decide) d_law_680 d_law_681 d_law_682 (by decide) d_law_683 d_law_684 ?_
  refine lw_callM C (pc := 685) (K' := K_M_many) (n' := 1) (As := [.int (xs (i + 1))]) (st := [.int v]) okV_M_many rfl (ok_M_many (mY G (aP + 184)) (aP + 184) (xs (i + 1)) hm (M_isO G (aP + 184))) e2 w9_3 d_law_685 rfl (by decide) rfl (Nat.le_of_ble_eq_true rfl) ?_
  show LW p l e s m below meth c b G aP 688 (lvL b aP i) [.int v, .int v] hc1 hm1
  exact lw_icmp_eq C (pc := 688) (tgt := 1918) d_law_688 (by decide) (nx _ _ J1)
end LAWC
