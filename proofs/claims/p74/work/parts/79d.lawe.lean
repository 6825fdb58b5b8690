theorem xl_d_0 : decode code 0 = .ok (.new 7, 3) := by decide +kernel
theorem xl_d_3 : decode code 3 = .ok (.dup, 1) := by decide +kernel
theorem xl_d_4 : decode code 4 = .ok (.invokespecial 9, 3) := by decide +kernel
theorem xl_d_7 : decode code 7 = .ok (.astore_n 1, 1) := by decide +kernel
theorem xl_d_8 : decode code 8 = .ok (.new 10, 3) := by decide +kernel
theorem xl_d_11 : decode code 11 = .ok (.dup, 1) := by decide +kernel
theorem xl_d_12 : decode code 12 = .ok (.invokespecial 12, 3) := by decide +kernel
theorem xl_d_15 : decode code 15 = .ok (.astore_n 2, 1) := by decide +kernel
theorem xl_d_16 : decode code 16 = .ok (.iconst 0, 1) := by decide +kernel
theorem xl_d_17 : decode code 17 = .ok (.istore_n 3, 1) := by decide +kernel
theorem xl_d_18 : decode code 18 = .ok (.iload_n 3, 1) := by decide +kernel
theorem xl_d_19 : decode code 19 = .ok (.aload_n 0, 1) := by decide +kernel
theorem xl_d_20 : decode code 20 = .ok (.arraylength, 1) := by decide +kernel
theorem xl_d_21 : decode code 21 = .ok (.bipush 6, 2) := by decide +kernel
theorem xl_d_23 : decode code 23 = .ok (.isub, 1) := by decide +kernel
theorem xl_d_24 : decode code 24 = .ok (.if_icmp .gt 2118, 3) := by decide +kernel
theorem xl_d_27 : decode code 27 = .ok (.aload_n 0, 1) := by decide +kernel
theorem xl_d_28 : decode code 28 = .ok (.iload_n 3, 1) := by decide +kernel
theorem xl_d_29 : decode code 29 = .ok (.iaload, 1) := by decide +kernel
theorem xl_d_30 : decode code 30 = .ok (.bipush 127, 2) := by decide +kernel
theorem xl_d_32 : decode code 32 = .ok (.iand, 1) := by decide +kernel
theorem xl_d_33 : decode code 33 = .ok (.tableswitch 2103 0 73 #[311, 374, 397, 410, 433, 466, 499, 532, 545, 568, 591, 614, 637, 660, 673, 696, 709, 722, 735, 748, 761, 774, 797, 820, 863, 876, 899, 912, 935, 948, 961, 984, 1017, 1040, 1053, 1066, 1089, 1112, 1135, 1158, 1191, 1214, 1237, 1260, 1283, 1316, 1349, 1362, 1375, 1398, 1421, 1434, 1447, 1460, 1473, 1496, 1509, 1522, 1545, 1558, 1571, 1594, 1617, 1640, 1693, 1746, 1779, 1812, 1855, 1878, 1901, 1924, 1967, 2040], 311) := by decide +kernel
theorem xl_d_344 : decode code 344 = .ok (.aload_n 1, 1) := by decide +kernel
theorem xl_d_345 : decode code 345 = .ok (.aload_n 0, 1) := by decide +kernel
theorem xl_d_346 : decode code 346 = .ok (.iload_n 3, 1) := by decide +kernel
theorem xl_d_347 : decode code 347 = .ok (.iconst 1, 1) := by decide +kernel
theorem xl_d_348 : decode code 348 = .ok (.iadd, 1) := by decide +kernel
theorem xl_d_349 : decode code 349 = .ok (.iaload, 1) := by decide +kernel
theorem xl_d_350 : decode code 350 = .ok (.aload_n 0, 1) := by decide +kernel
theorem xl_d_351 : decode code 351 = .ok (.iload_n 3, 1) := by decide +kernel
theorem xl_d_352 : decode code 352 = .ok (.iconst 2, 1) := by decide +kernel
theorem xl_d_353 : decode code 353 = .ok (.iadd, 1) := by decide +kernel
theorem xl_d_354 : decode code 354 = .ok (.iaload, 1) := by decide +kernel
theorem xl_d_355 : decode code 355 = .ok (.aload_n 0, 1) := by decide +kernel
theorem xl_d_356 : decode code 356 = .ok (.iload_n 3, 1) := by decide +kernel
theorem xl_d_357 : decode code 357 = .ok (.iconst 3, 1) := by decide +kernel
theorem xl_d_358 : decode code 358 = .ok (.iadd, 1) := by decide +kernel
theorem xl_d_359 : decode code 359 = .ok (.iaload, 1) := by decide +kernel
theorem xl_d_360 : decode code 360 = .ok (.aload_n 0, 1) := by decide +kernel
theorem xl_d_361 : decode code 361 = .ok (.iload_n 3, 1) := by decide +kernel
theorem xl_d_362 : decode code 362 = .ok (.iconst 4, 1) := by decide +kernel
theorem xl_d_363 : decode code 363 = .ok (.iadd, 1) := by decide +kernel
theorem xl_d_364 : decode code 364 = .ok (.iaload, 1) := by decide +kernel
theorem xl_d_365 : decode code 365 = .ok (.aload_n 0, 1) := by decide +kernel
theorem xl_d_366 : decode code 366 = .ok (.iload_n 3, 1) := by decide +kernel
theorem xl_d_367 : decode code 367 = .ok (.iconst 5, 1) := by decide +kernel
theorem xl_d_368 : decode code 368 = .ok (.iadd, 1) := by decide +kernel
theorem xl_d_369 : decode code 369 = .ok (.iaload, 1) := by decide +kernel
theorem xl_d_370 : decode code 370 = .ok (.invokevirtual 13, 3) := by decide +kernel
theorem xl_d_373 : decode code 373 = .ok (.pop, 1) := by decide +kernel
theorem xl_d_374 : decode code 374 = .ok (.aload_n 2, 1) := by decide +kernel
theorem xl_d_375 : decode code 375 = .ok (.aload_n 0, 1) := by decide +kernel
theorem xl_d_376 : decode code 376 = .ok (.iload_n 3, 1) := by decide +kernel
theorem xl_d_377 : decode code 377 = .ok (.iconst 1, 1) := by decide +kernel
theorem xl_d_378 : decode code 378 = .ok (.iadd, 1) := by decide +kernel
theorem xl_d_379 : decode code 379 = .ok (.iaload, 1) := by decide +kernel
theorem xl_d_380 : decode code 380 = .ok (.aload_n 0, 1) := by decide +kernel
theorem xl_d_381 : decode code 381 = .ok (.iload_n 3, 1) := by decide +kernel
theorem xl_d_382 : decode code 382 = .ok (.iconst 2, 1) := by decide +kernel
theorem xl_d_383 : decode code 383 = .ok (.iadd, 1) := by decide +kernel
theorem xl_d_384 : decode code 384 = .ok (.iaload, 1) := by decide +kernel
theorem xl_d_385 : decode code 385 = .ok (.aload_n 0, 1) := by decide +kernel
theorem xl_d_386 : decode code 386 = .ok (.iload_n 3, 1) := by decide +kernel
theorem xl_d_387 : decode code 387 = .ok (.iconst 3, 1) := by decide +kernel
theorem xl_d_388 : decode code 388 = .ok (.iadd, 1) := by decide +kernel
theorem xl_d_389 : decode code 389 = .ok (.iaload, 1) := by decide +kernel
theorem xl_d_390 : decode code 390 = .ok (.aload_n 0, 1) := by decide +kernel
theorem xl_d_391 : decode code 391 = .ok (.iload_n 3, 1) := by decide +kernel
theorem xl_d_392 : decode code 392 = .ok (.iconst 4, 1) := by decide +kernel
theorem xl_d_393 : decode code 393 = .ok (.iadd, 1) := by decide +kernel
theorem xl_d_394 : decode code 394 = .ok (.iaload, 1) := by decide +kernel
theorem xl_d_395 : decode code 395 = .ok (.aload_n 0, 1) := by decide +kernel
theorem xl_d_396 : decode code 396 = .ok (.iload_n 3, 1) := by decide +kernel
theorem xl_d_397 : decode code 397 = .ok (.iconst 5, 1) := by decide +kernel
theorem xl_d_398 : decode code 398 = .ok (.iadd, 1) := by decide +kernel
theorem xl_d_399 : decode code 399 = .ok (.iaload, 1) := by decide +kernel
theorem xl_d_400 : decode code 400 = .ok (.invokevirtual 17, 3) := by decide +kernel
theorem xl_d_403 : decode code 403 = .ok (.pop, 1) := by decide +kernel
theorem xl_d_404 : decode code 404 = .ok (.goto 1732, 3) := by decide +kernel
theorem xl_d_407 : decode code 407 = .ok (.aload_n 1, 1) := by decide +kernel
theorem xl_d_408 : decode code 408 = .ok (.aload_n 0, 1) := by decide +kernel
theorem xl_d_409 : decode code 409 = .ok (.iload_n 3, 1) := by decide +kernel
theorem xl_d_410 : decode code 410 = .ok (.iconst 1, 1) := by decide +kernel
theorem xl_d_411 : decode code 411 = .ok (.iadd, 1) := by decide +kernel
theorem xl_d_412 : decode code 412 = .ok (.iaload, 1) := by decide +kernel
theorem xl_d_413 : decode code 413 = .ok (.invokevirtual 18, 3) := by decide +kernel
theorem xl_d_416 : decode code 416 = .ok (.pop, 1) := by decide +kernel
theorem xl_d_417 : decode code 417 = .ok (.aload_n 2, 1) := by decide +kernel
theorem xl_d_418 : decode code 418 = .ok (.aload_n 0, 1) := by decide +kernel
theorem xl_d_419 : decode code 419 = .ok (.iload_n 3, 1) := by decide +kernel
theorem xl_d_420 : decode code 420 = .ok (.iconst 1, 1) := by decide +kernel
theorem xl_d_421 : decode code 421 = .ok (.iadd, 1) := by decide +kernel
theorem xl_d_422 : decode code 422 = .ok (.iaload, 1) := by decide +kernel
theorem xl_d_423 : decode code 423 = .ok (.invokevirtual 22, 3) := by decide +kernel
theorem xl_d_426 : decode code 426 = .ok (.pop, 1) := by decide +kernel
theorem xl_d_427 : decode code 427 = .ok (.goto 1709, 3) := by decide +kernel
theorem xl_d_430 : decode code 430 = .ok (.aload_n 1, 1) := by decide +kernel
theorem xl_d_431 : decode code 431 = .ok (.invokevirtual 23, 3) := by decide +kernel
theorem xl_d_434 : decode code 434 = .ok (.pop, 1) := by decide +kernel
theorem xl_d_435 : decode code 435 = .ok (.aload_n 2, 1) := by decide +kernel
theorem xl_d_436 : decode code 436 = .ok (.invokevirtual 27, 3) := by decide +kernel
theorem xl_d_439 : decode code 439 = .ok (.pop, 1) := by decide +kernel
theorem xl_d_440 : decode code 440 = .ok (.goto 1696, 3) := by decide +kernel
theorem xl_d_443 : decode code 443 = .ok (.aload_n 1, 1) := by decide +kernel
theorem xl_d_444 : decode code 444 = .ok (.aload_n 0, 1) := by decide +kernel
theorem xl_d_445 : decode code 445 = .ok (.iload_n 3, 1) := by decide +kernel
theorem xl_d_446 : decode code 446 = .ok (.iconst 1, 1) := by decide +kernel
theorem xl_d_447 : decode code 447 = .ok (.iadd, 1) := by decide +kernel
theorem xl_d_448 : decode code 448 = .ok (.iaload, 1) := by decide +kernel
theorem xl_d_449 : decode code 449 = .ok (.invokevirtual 28, 3) := by decide +kernel
theorem xl_d_452 : decode code 452 = .ok (.pop, 1) := by decide +kernel
theorem xl_d_453 : decode code 453 = .ok (.aload_n 2, 1) := by decide +kernel
theorem xl_d_454 : decode code 454 = .ok (.aload_n 0, 1) := by decide +kernel
theorem xl_d_455 : decode code 455 = .ok (.iload_n 3, 1) := by decide +kernel
theorem xl_d_456 : decode code 456 = .ok (.iconst 1, 1) := by decide +kernel
theorem xl_d_457 : decode code 457 = .ok (.iadd, 1) := by decide +kernel
theorem xl_d_458 : decode code 458 = .ok (.iaload, 1) := by decide +kernel
theorem xl_d_459 : decode code 459 = .ok (.invokevirtual 31, 3) := by decide +kernel
theorem xl_d_462 : decode code 462 = .ok (.pop, 1) := by decide +kernel
theorem xl_d_463 : decode code 463 = .ok (.goto 1673, 3) := by decide +kernel
theorem xl_d_466 : decode code 466 = .ok (.aload_n 1, 1) := by decide +kernel
theorem xl_d_467 : decode code 467 = .ok (.aload_n 0, 1) := by decide +kernel
theorem xl_d_468 : decode code 468 = .ok (.iload_n 3, 1) := by decide +kernel
theorem xl_d_469 : decode code 469 = .ok (.iconst 1, 1) := by decide +kernel
theorem xl_d_470 : decode code 470 = .ok (.iadd, 1) := by decide +kernel
theorem xl_d_471 : decode code 471 = .ok (.iaload, 1) := by decide +kernel
theorem xl_d_472 : decode code 472 = .ok (.aload_n 0, 1) := by decide +kernel
theorem xl_d_473 : decode code 473 = .ok (.iload_n 3, 1) := by decide +kernel
theorem xl_d_474 : decode code 474 = .ok (.iconst 2, 1) := by decide +kernel
theorem xl_d_475 : decode code 475 = .ok (.iadd, 1) := by decide +kernel
theorem xl_d_476 : decode code 476 = .ok (.iaload, 1) := by decide +kernel
theorem xl_d_477 : decode code 477 = .ok (.invokevirtual 32, 3) := by decide +kernel
theorem xl_d_480 : decode code 480 = .ok (.pop, 1) := by decide +kernel
theorem xl_d_481 : decode code 481 = .ok (.aload_n 2, 1) := by decide +kernel
theorem xl_d_482 : decode code 482 = .ok (.aload_n 0, 1) := by decide +kernel
theorem xl_d_483 : decode code 483 = .ok (.iload_n 3, 1) := by decide +kernel
theorem xl_d_484 : decode code 484 = .ok (.iconst 1, 1) := by decide +kernel
theorem xl_d_485 : decode code 485 = .ok (.iadd, 1) := by decide +kernel
theorem xl_d_486 : decode code 486 = .ok (.iaload, 1) := by decide +kernel
theorem xl_d_487 : decode code 487 = .ok (.aload_n 0, 1) := by decide +kernel
theorem xl_d_488 : decode code 488 = .ok (.iload_n 3, 1) := by decide +kernel
theorem xl_d_489 : decode code 489 = .ok (.iconst 2, 1) := by decide +kernel
theorem xl_d_490 : decode code 490 = .ok (.iadd, 1) := by decide +kernel
theorem xl_d_491 : decode code 491 = .ok (.iaload, 1) := by decide +kernel
theorem xl_d_492 : decode code 492 = .ok (.invokevirtual 36, 3) := by decide +kernel
theorem xl_d_495 : decode code 495 = .ok (.pop, 1) := by decide +kernel
theorem xl_d_496 : decode code 496 = .ok (.goto 1640, 3) := by decide +kernel
theorem xl_d_499 : decode code 499 = .ok (.aload_n 1, 1) := by decide +kernel
theorem xl_d_500 : decode code 500 = .ok (.aload_n 0, 1) := by decide +kernel
theorem xl_d_501 : decode code 501 = .ok (.iload_n 3, 1) := by decide +kernel
theorem xl_d_502 : decode code 502 = .ok (.iconst 1, 1) := by decide +kernel
theorem xl_d_503 : decode code 503 = .ok (.iadd, 1) := by decide +kernel
theorem xl_d_504 : decode code 504 = .ok (.iaload, 1) := by decide +kernel
theorem xl_d_505 : decode code 505 = .ok (.aload_n 0, 1) := by decide +kernel
theorem xl_d_506 : decode code 506 = .ok (.iload_n 3, 1) := by decide +kernel
theorem xl_d_507 : decode code 507 = .ok (.iconst 2, 1) := by decide +kernel
theorem xl_d_508 : decode code 508 = .ok (.iadd, 1) := by decide +kernel
theorem xl_d_509 : decode code 509 = .ok (.iaload, 1) := by decide +kernel
theorem xl_d_510 : decode code 510 = .ok (.invokevirtual 37, 3) := by decide +kernel
theorem xl_d_513 : decode code 513 = .ok (.pop, 1) := by decide +kernel
theorem xl_d_514 : decode code 514 = .ok (.aload_n 2, 1) := by decide +kernel
theorem xl_d_515 : decode code 515 = .ok (.aload_n 0, 1) := by decide +kernel
theorem xl_d_516 : decode code 516 = .ok (.iload_n 3, 1) := by decide +kernel
theorem xl_d_517 : decode code 517 = .ok (.iconst 1, 1) := by decide +kernel
theorem xl_d_518 : decode code 518 = .ok (.iadd, 1) := by decide +kernel
theorem xl_d_519 : decode code 519 = .ok (.iaload, 1) := by decide +kernel
theorem xl_d_520 : decode code 520 = .ok (.aload_n 0, 1) := by decide +kernel
theorem xl_d_521 : decode code 521 = .ok (.iload_n 3, 1) := by decide +kernel
theorem xl_d_522 : decode code 522 = .ok (.iconst 2, 1) := by decide +kernel
theorem xl_d_523 : decode code 523 = .ok (.iadd, 1) := by decide +kernel
theorem xl_d_524 : decode code 524 = .ok (.iaload, 1) := by decide +kernel
theorem xl_d_525 : decode code 525 = .ok (.invokevirtual 40, 3) := by decide +kernel
theorem xl_d_528 : decode code 528 = .ok (.pop, 1) := by decide +kernel
theorem xl_d_529 : decode code 529 = .ok (.goto 1607, 3) := by decide +kernel
theorem xl_d_532 : decode code 532 = .ok (.aload_n 1, 1) := by decide +kernel
theorem xl_d_533 : decode code 533 = .ok (.aload_n 0, 1) := by decide +kernel
theorem xl_d_534 : decode code 534 = .ok (.iload_n 3, 1) := by decide +kernel
theorem xl_d_535 : decode code 535 = .ok (.iconst 1, 1) := by decide +kernel
theorem xl_d_536 : decode code 536 = .ok (.iadd, 1) := by decide +kernel
theorem xl_d_537 : decode code 537 = .ok (.iaload, 1) := by decide +kernel
theorem xl_d_538 : decode code 538 = .ok (.aload_n 0, 1) := by decide +kernel
theorem xl_d_539 : decode code 539 = .ok (.iload_n 3, 1) := by decide +kernel
theorem xl_d_540 : decode code 540 = .ok (.iconst 2, 1) := by decide +kernel
theorem xl_d_541 : decode code 541 = .ok (.iadd, 1) := by decide +kernel
theorem xl_d_542 : decode code 542 = .ok (.iaload, 1) := by decide +kernel
theorem xl_d_543 : decode code 543 = .ok (.invokevirtual 41, 3) := by decide +kernel
theorem xl_d_546 : decode code 546 = .ok (.pop, 1) := by decide +kernel
theorem xl_d_547 : decode code 547 = .ok (.aload_n 2, 1) := by decide +kernel
theorem xl_d_548 : decode code 548 = .ok (.aload_n 0, 1) := by decide +kernel
theorem xl_d_549 : decode code 549 = .ok (.iload_n 3, 1) := by decide +kernel
theorem xl_d_550 : decode code 550 = .ok (.iconst 1, 1) := by decide +kernel
theorem xl_d_551 : decode code 551 = .ok (.iadd, 1) := by decide +kernel
theorem xl_d_552 : decode code 552 = .ok (.iaload, 1) := by decide +kernel
theorem xl_d_553 : decode code 553 = .ok (.aload_n 0, 1) := by decide +kernel
theorem xl_d_554 : decode code 554 = .ok (.iload_n 3, 1) := by decide +kernel
theorem xl_d_555 : decode code 555 = .ok (.iconst 2, 1) := by decide +kernel
theorem xl_d_556 : decode code 556 = .ok (.iadd, 1) := by decide +kernel
theorem xl_d_557 : decode code 557 = .ok (.iaload, 1) := by decide +kernel
theorem xl_d_558 : decode code 558 = .ok (.invokevirtual 44, 3) := by decide +kernel
theorem xl_d_561 : decode code 561 = .ok (.pop, 1) := by decide +kernel
theorem xl_d_562 : decode code 562 = .ok (.goto 1574, 3) := by decide +kernel
theorem xl_d_565 : decode code 565 = .ok (.aload_n 1, 1) := by decide +kernel
theorem xl_d_566 : decode code 566 = .ok (.invokevirtual 45, 3) := by decide +kernel
theorem xl_d_569 : decode code 569 = .ok (.pop, 1) := by decide +kernel
theorem xl_d_570 : decode code 570 = .ok (.aload_n 2, 1) := by decide +kernel
theorem xl_d_571 : decode code 571 = .ok (.invokevirtual 48, 3) := by decide +kernel
theorem xl_d_574 : decode code 574 = .ok (.pop, 1) := by decide +kernel
theorem xl_d_575 : decode code 575 = .ok (.goto 1561, 3) := by decide +kernel
theorem xl_d_578 : decode code 578 = .ok (.aload_n 1, 1) := by decide +kernel
theorem xl_d_579 : decode code 579 = .ok (.aload_n 0, 1) := by decide +kernel
theorem xl_d_580 : decode code 580 = .ok (.iload_n 3, 1) := by decide +kernel
theorem xl_d_581 : decode code 581 = .ok (.iconst 1, 1) := by decide +kernel
theorem xl_d_582 : decode code 582 = .ok (.iadd, 1) := by decide +kernel
theorem xl_d_583 : decode code 583 = .ok (.iaload, 1) := by decide +kernel
theorem xl_d_584 : decode code 584 = .ok (.invokevirtual 49, 3) := by decide +kernel
theorem xl_d_587 : decode code 587 = .ok (.pop, 1) := by decide +kernel
theorem xl_d_588 : decode code 588 = .ok (.aload_n 2, 1) := by decide +kernel
theorem xl_d_589 : decode code 589 = .ok (.aload_n 0, 1) := by decide +kernel
theorem xl_d_590 : decode code 590 = .ok (.iload_n 3, 1) := by decide +kernel
theorem xl_d_591 : decode code 591 = .ok (.iconst 1, 1) := by decide +kernel
theorem xl_d_592 : decode code 592 = .ok (.iadd, 1) := by decide +kernel
theorem xl_d_593 : decode code 593 = .ok (.iaload, 1) := by decide +kernel
theorem xl_d_594 : decode code 594 = .ok (.invokevirtual 52, 3) := by decide +kernel
theorem xl_d_597 : decode code 597 = .ok (.pop, 1) := by decide +kernel
theorem xl_d_598 : decode code 598 = .ok (.goto 1538, 3) := by decide +kernel
theorem xl_d_601 : decode code 601 = .ok (.aload_n 1, 1) := by decide +kernel
theorem xl_d_602 : decode code 602 = .ok (.aload_n 0, 1) := by decide +kernel
theorem xl_d_603 : decode code 603 = .ok (.iload_n 3, 1) := by decide +kernel
theorem xl_d_604 : decode code 604 = .ok (.iconst 1, 1) := by decide +kernel
theorem xl_d_605 : decode code 605 = .ok (.iadd, 1) := by decide +kernel
theorem xl_d_606 : decode code 606 = .ok (.iaload, 1) := by decide +kernel
theorem xl_d_607 : decode code 607 = .ok (.invokevirtual 53, 3) := by decide +kernel
theorem xl_d_610 : decode code 610 = .ok (.pop, 1) := by decide +kernel
theorem xl_d_611 : decode code 611 = .ok (.aload_n 2, 1) := by decide +kernel
theorem xl_d_612 : decode code 612 = .ok (.aload_n 0, 1) := by decide +kernel
theorem xl_d_613 : decode code 613 = .ok (.iload_n 3, 1) := by decide +kernel
theorem xl_d_614 : decode code 614 = .ok (.iconst 1, 1) := by decide +kernel
theorem xl_d_615 : decode code 615 = .ok (.iadd, 1) := by decide +kernel
theorem xl_d_616 : decode code 616 = .ok (.iaload, 1) := by decide +kernel
theorem xl_d_617 : decode code 617 = .ok (.invokevirtual 56, 3) := by decide +kernel
theorem xl_d_620 : decode code 620 = .ok (.pop, 1) := by decide +kernel
theorem xl_d_621 : decode code 621 = .ok (.goto 1515, 3) := by decide +kernel
theorem xl_d_624 : decode code 624 = .ok (.aload_n 1, 1) := by decide +kernel
theorem xl_d_625 : decode code 625 = .ok (.aload_n 0, 1) := by decide +kernel
theorem xl_d_626 : decode code 626 = .ok (.iload_n 3, 1) := by decide +kernel
theorem xl_d_627 : decode code 627 = .ok (.iconst 1, 1) := by decide +kernel
theorem xl_d_628 : decode code 628 = .ok (.iadd, 1) := by decide +kernel
theorem xl_d_629 : decode code 629 = .ok (.iaload, 1) := by decide +kernel
theorem xl_d_630 : decode code 630 = .ok (.invokevirtual 57, 3) := by decide +kernel
theorem xl_d_633 : decode code 633 = .ok (.pop, 1) := by decide +kernel
theorem xl_d_634 : decode code 634 = .ok (.aload_n 2, 1) := by decide +kernel
theorem xl_d_635 : decode code 635 = .ok (.aload_n 0, 1) := by decide +kernel
theorem xl_d_636 : decode code 636 = .ok (.iload_n 3, 1) := by decide +kernel
theorem xl_d_637 : decode code 637 = .ok (.iconst 1, 1) := by decide +kernel
theorem xl_d_638 : decode code 638 = .ok (.iadd, 1) := by decide +kernel
theorem xl_d_639 : decode code 639 = .ok (.iaload, 1) := by decide +kernel
theorem xl_d_640 : decode code 640 = .ok (.invokevirtual 60, 3) := by decide +kernel
theorem xl_d_643 : decode code 643 = .ok (.pop, 1) := by decide +kernel
theorem xl_d_644 : decode code 644 = .ok (.goto 1492, 3) := by decide +kernel
theorem xl_d_647 : decode code 647 = .ok (.aload_n 1, 1) := by decide +kernel
theorem xl_d_648 : decode code 648 = .ok (.aload_n 0, 1) := by decide +kernel
theorem xl_d_649 : decode code 649 = .ok (.iload_n 3, 1) := by decide +kernel
theorem xl_d_650 : decode code 650 = .ok (.iconst 1, 1) := by decide +kernel
theorem xl_d_651 : decode code 651 = .ok (.iadd, 1) := by decide +kernel
theorem xl_d_652 : decode code 652 = .ok (.iaload, 1) := by decide +kernel
theorem xl_d_653 : decode code 653 = .ok (.invokevirtual 61, 3) := by decide +kernel
theorem xl_d_656 : decode code 656 = .ok (.pop, 1) := by decide +kernel
theorem xl_d_657 : decode code 657 = .ok (.aload_n 2, 1) := by decide +kernel
theorem xl_d_658 : decode code 658 = .ok (.aload_n 0, 1) := by decide +kernel
theorem xl_d_659 : decode code 659 = .ok (.iload_n 3, 1) := by decide +kernel
theorem xl_d_660 : decode code 660 = .ok (.iconst 1, 1) := by decide +kernel
theorem xl_d_661 : decode code 661 = .ok (.iadd, 1) := by decide +kernel
theorem xl_d_662 : decode code 662 = .ok (.iaload, 1) := by decide +kernel
theorem xl_d_663 : decode code 663 = .ok (.invokevirtual 64, 3) := by decide +kernel
theorem xl_d_666 : decode code 666 = .ok (.pop, 1) := by decide +kernel
theorem xl_d_667 : decode code 667 = .ok (.goto 1469, 3) := by decide +kernel
theorem xl_d_670 : decode code 670 = .ok (.aload_n 1, 1) := by decide +kernel
theorem xl_d_671 : decode code 671 = .ok (.aload_n 0, 1) := by decide +kernel
theorem xl_d_672 : decode code 672 = .ok (.iload_n 3, 1) := by decide +kernel
theorem xl_d_673 : decode code 673 = .ok (.iconst 1, 1) := by decide +kernel
theorem xl_d_674 : decode code 674 = .ok (.iadd, 1) := by decide +kernel
theorem xl_d_675 : decode code 675 = .ok (.iaload, 1) := by decide +kernel
theorem xl_d_676 : decode code 676 = .ok (.invokevirtual 65, 3) := by decide +kernel
theorem xl_d_679 : decode code 679 = .ok (.pop, 1) := by decide +kernel
theorem xl_d_680 : decode code 680 = .ok (.aload_n 2, 1) := by decide +kernel
theorem xl_d_681 : decode code 681 = .ok (.aload_n 0, 1) := by decide +kernel
theorem xl_d_682 : decode code 682 = .ok (.iload_n 3, 1) := by decide +kernel
theorem xl_d_683 : decode code 683 = .ok (.iconst 1, 1) := by decide +kernel
theorem xl_d_684 : decode code 684 = .ok (.iadd, 1) := by decide +kernel
theorem xl_d_685 : decode code 685 = .ok (.iaload, 1) := by decide +kernel
theorem xl_d_686 : decode code 686 = .ok (.invokevirtual 68, 3) := by decide +kernel
theorem xl_d_689 : decode code 689 = .ok (.pop, 1) := by decide +kernel
theorem xl_d_690 : decode code 690 = .ok (.goto 1446, 3) := by decide +kernel
theorem xl_d_693 : decode code 693 = .ok (.aload_n 1, 1) := by decide +kernel
theorem xl_d_694 : decode code 694 = .ok (.invokevirtual 69, 3) := by decide +kernel
theorem xl_d_697 : decode code 697 = .ok (.pop, 1) := by decide +kernel
theorem xl_d_698 : decode code 698 = .ok (.aload_n 2, 1) := by decide +kernel
theorem xl_d_699 : decode code 699 = .ok (.invokevirtual 72, 3) := by decide +kernel
theorem xl_d_702 : decode code 702 = .ok (.pop, 1) := by decide +kernel
theorem xl_d_703 : decode code 703 = .ok (.goto 1433, 3) := by decide +kernel
theorem xl_d_706 : decode code 706 = .ok (.aload_n 1, 1) := by decide +kernel
theorem xl_d_707 : decode code 707 = .ok (.aload_n 0, 1) := by decide +kernel
theorem xl_d_708 : decode code 708 = .ok (.iload_n 3, 1) := by decide +kernel
theorem xl_d_709 : decode code 709 = .ok (.iconst 1, 1) := by decide +kernel
theorem xl_d_710 : decode code 710 = .ok (.iadd, 1) := by decide +kernel
theorem xl_d_711 : decode code 711 = .ok (.iaload, 1) := by decide +kernel
theorem xl_d_712 : decode code 712 = .ok (.invokevirtual 73, 3) := by decide +kernel
theorem xl_d_715 : decode code 715 = .ok (.pop, 1) := by decide +kernel
theorem xl_d_716 : decode code 716 = .ok (.aload_n 2, 1) := by decide +kernel
theorem xl_d_717 : decode code 717 = .ok (.aload_n 0, 1) := by decide +kernel
theorem xl_d_718 : decode code 718 = .ok (.iload_n 3, 1) := by decide +kernel
theorem xl_d_719 : decode code 719 = .ok (.iconst 1, 1) := by decide +kernel
theorem xl_d_720 : decode code 720 = .ok (.iadd, 1) := by decide +kernel
theorem xl_d_721 : decode code 721 = .ok (.iaload, 1) := by decide +kernel
theorem xl_d_722 : decode code 722 = .ok (.invokevirtual 76, 3) := by decide +kernel
theorem xl_d_725 : decode code 725 = .ok (.pop, 1) := by decide +kernel
theorem xl_d_726 : decode code 726 = .ok (.goto 1410, 3) := by decide +kernel
theorem xl_d_729 : decode code 729 = .ok (.aload_n 1, 1) := by decide +kernel
theorem xl_d_730 : decode code 730 = .ok (.invokevirtual 77, 3) := by decide +kernel
theorem xl_d_733 : decode code 733 = .ok (.pop, 1) := by decide +kernel
theorem xl_d_734 : decode code 734 = .ok (.aload_n 2, 1) := by decide +kernel
theorem xl_d_735 : decode code 735 = .ok (.invokevirtual 80, 3) := by decide +kernel
theorem xl_d_738 : decode code 738 = .ok (.pop, 1) := by decide +kernel
theorem xl_d_739 : decode code 739 = .ok (.goto 1397, 3) := by decide +kernel
theorem xl_d_742 : decode code 742 = .ok (.aload_n 1, 1) := by decide +kernel
theorem xl_d_743 : decode code 743 = .ok (.invokevirtual 81, 3) := by decide +kernel
theorem xl_d_746 : decode code 746 = .ok (.pop, 1) := by decide +kernel
theorem xl_d_747 : decode code 747 = .ok (.aload_n 2, 1) := by decide +kernel
theorem xl_d_748 : decode code 748 = .ok (.invokevirtual 84, 3) := by decide +kernel
theorem xl_d_751 : decode code 751 = .ok (.pop, 1) := by decide +kernel
theorem xl_d_752 : decode code 752 = .ok (.goto 1384, 3) := by decide +kernel
theorem xl_d_755 : decode code 755 = .ok (.aload_n 1, 1) := by decide +kernel
theorem xl_d_756 : decode code 756 = .ok (.invokevirtual 85, 3) := by decide +kernel
theorem xl_d_759 : decode code 759 = .ok (.pop, 1) := by decide +kernel
theorem xl_d_760 : decode code 760 = .ok (.aload_n 2, 1) := by decide +kernel
theorem xl_d_761 : decode code 761 = .ok (.invokevirtual 88, 3) := by decide +kernel
theorem xl_d_764 : decode code 764 = .ok (.pop, 1) := by decide +kernel
theorem xl_d_765 : decode code 765 = .ok (.goto 1371, 3) := by decide +kernel
theorem xl_d_768 : decode code 768 = .ok (.aload_n 1, 1) := by decide +kernel
theorem xl_d_769 : decode code 769 = .ok (.invokevirtual 89, 3) := by decide +kernel
theorem xl_d_772 : decode code 772 = .ok (.pop, 1) := by decide +kernel
theorem xl_d_773 : decode code 773 = .ok (.aload_n 2, 1) := by decide +kernel
theorem xl_d_774 : decode code 774 = .ok (.invokevirtual 92, 3) := by decide +kernel
theorem xl_d_777 : decode code 777 = .ok (.pop, 1) := by decide +kernel
theorem xl_d_778 : decode code 778 = .ok (.goto 1358, 3) := by decide +kernel
theorem xl_d_781 : decode code 781 = .ok (.aload_n 1, 1) := by decide +kernel
theorem xl_d_782 : decode code 782 = .ok (.invokevirtual 93, 3) := by decide +kernel
theorem xl_d_785 : decode code 785 = .ok (.pop, 1) := by decide +kernel
theorem xl_d_786 : decode code 786 = .ok (.aload_n 2, 1) := by decide +kernel
theorem xl_d_787 : decode code 787 = .ok (.invokevirtual 96, 3) := by decide +kernel
theorem xl_d_790 : decode code 790 = .ok (.pop, 1) := by decide +kernel
theorem xl_d_791 : decode code 791 = .ok (.goto 1345, 3) := by decide +kernel
theorem xl_d_794 : decode code 794 = .ok (.aload_n 1, 1) := by decide +kernel
theorem xl_d_795 : decode code 795 = .ok (.invokevirtual 97, 3) := by decide +kernel
theorem xl_d_798 : decode code 798 = .ok (.pop, 1) := by decide +kernel
theorem xl_d_799 : decode code 799 = .ok (.aload_n 2, 1) := by decide +kernel
theorem xl_d_800 : decode code 800 = .ok (.invokevirtual 100, 3) := by decide +kernel
theorem xl_d_803 : decode code 803 = .ok (.pop, 1) := by decide +kernel
theorem xl_d_804 : decode code 804 = .ok (.goto 1332, 3) := by decide +kernel
theorem xl_d_807 : decode code 807 = .ok (.aload_n 1, 1) := by decide +kernel
theorem xl_d_808 : decode code 808 = .ok (.aload_n 0, 1) := by decide +kernel
theorem xl_d_809 : decode code 809 = .ok (.iload_n 3, 1) := by decide +kernel
theorem xl_d_810 : decode code 810 = .ok (.iconst 1, 1) := by decide +kernel
theorem xl_d_811 : decode code 811 = .ok (.iadd, 1) := by decide +kernel
theorem xl_d_812 : decode code 812 = .ok (.iaload, 1) := by decide +kernel
theorem xl_d_813 : decode code 813 = .ok (.invokevirtual 101, 3) := by decide +kernel
theorem xl_d_816 : decode code 816 = .ok (.pop, 1) := by decide +kernel
theorem xl_d_817 : decode code 817 = .ok (.aload_n 2, 1) := by decide +kernel
theorem xl_d_818 : decode code 818 = .ok (.aload_n 0, 1) := by decide +kernel
theorem xl_d_819 : decode code 819 = .ok (.iload_n 3, 1) := by decide +kernel
theorem xl_d_820 : decode code 820 = .ok (.iconst 1, 1) := by decide +kernel
theorem xl_d_821 : decode code 821 = .ok (.iadd, 1) := by decide +kernel
theorem xl_d_822 : decode code 822 = .ok (.iaload, 1) := by decide +kernel
theorem xl_d_823 : decode code 823 = .ok (.invokevirtual 104, 3) := by decide +kernel
theorem xl_d_826 : decode code 826 = .ok (.pop, 1) := by decide +kernel
theorem xl_d_827 : decode code 827 = .ok (.goto 1309, 3) := by decide +kernel
theorem xl_d_830 : decode code 830 = .ok (.aload_n 1, 1) := by decide +kernel
theorem xl_d_831 : decode code 831 = .ok (.aload_n 0, 1) := by decide +kernel
theorem xl_d_832 : decode code 832 = .ok (.iload_n 3, 1) := by decide +kernel
theorem xl_d_833 : decode code 833 = .ok (.iconst 1, 1) := by decide +kernel
theorem xl_d_834 : decode code 834 = .ok (.iadd, 1) := by decide +kernel
theorem xl_d_835 : decode code 835 = .ok (.iaload, 1) := by decide +kernel
theorem xl_d_836 : decode code 836 = .ok (.invokevirtual 105, 3) := by decide +kernel
theorem xl_d_839 : decode code 839 = .ok (.pop, 1) := by decide +kernel
theorem xl_d_840 : decode code 840 = .ok (.aload_n 2, 1) := by decide +kernel
theorem xl_d_841 : decode code 841 = .ok (.aload_n 0, 1) := by decide +kernel
theorem xl_d_842 : decode code 842 = .ok (.iload_n 3, 1) := by decide +kernel
theorem xl_d_843 : decode code 843 = .ok (.iconst 1, 1) := by decide +kernel
theorem xl_d_844 : decode code 844 = .ok (.iadd, 1) := by decide +kernel
theorem xl_d_845 : decode code 845 = .ok (.iaload, 1) := by decide +kernel
theorem xl_d_846 : decode code 846 = .ok (.invokevirtual 108, 3) := by decide +kernel
theorem xl_d_849 : decode code 849 = .ok (.pop, 1) := by decide +kernel
theorem xl_d_850 : decode code 850 = .ok (.goto 1286, 3) := by decide +kernel
theorem xl_d_853 : decode code 853 = .ok (.aload_n 1, 1) := by decide +kernel
theorem xl_d_854 : decode code 854 = .ok (.aload_n 0, 1) := by decide +kernel
theorem xl_d_855 : decode code 855 = .ok (.iload_n 3, 1) := by decide +kernel
theorem xl_d_856 : decode code 856 = .ok (.iconst 1, 1) := by decide +kernel
theorem xl_d_857 : decode code 857 = .ok (.iadd, 1) := by decide +kernel
theorem xl_d_858 : decode code 858 = .ok (.iaload, 1) := by decide +kernel
theorem xl_d_859 : decode code 859 = .ok (.aload_n 0, 1) := by decide +kernel
