/-! the law: its calls, further -/
theorem eL_362 : decode mL_law.2.1 362 = .ok (.aload_n 1, 1) := dL_law_362
theorem eL_363 : decode mL_law.2.1 363 = .ok (.invokevirtual 106, 3) := dL_law_363
theorem eL_366 : decode mL_law.2.1 366 = .ok (.aload_n 2, 1) := dL_law_366
theorem eL_367 : decode mL_law.2.1 367 = .ok (.invokevirtual 109, 3) := dL_law_367
theorem eL_370 : decode mL_law.2.1 370 = .ok (.if_icmp .eq 1529, 3) := dL_law_370
theorem eL_373 : decode mL_law.2.1 373 = .ok (.iconst 0, 1) := dL_law_373
theorem eL_374 : decode mL_law.2.1 374 = .ok (.ireturn, 1) := dL_law_374
theorem eL_375 : decode mL_law.2.1 375 = .ok (.aload_n 1, 1) := dL_law_375
theorem eL_376 : decode mL_law.2.1 376 = .ok (.aload_n 0, 1) := dL_law_376
theorem eL_377 : decode mL_law.2.1 377 = .ok (.iload 4, 2) := dL_law_377
theorem eL_379 : decode mL_law.2.1 379 = .ok (.iconst 1, 1) := dL_law_379
theorem eL_380 : decode mL_law.2.1 380 = .ok (.iadd, 1) := dL_law_380
theorem eL_381 : decode mL_law.2.1 381 = .ok (.iaload, 1) := dL_law_381
theorem eL_382 : decode mL_law.2.1 382 = .ok (.aload_n 0, 1) := dL_law_382
theorem eL_383 : decode mL_law.2.1 383 = .ok (.iload 4, 2) := dL_law_383
theorem eL_385 : decode mL_law.2.1 385 = .ok (.iconst 2, 1) := dL_law_385
theorem eL_386 : decode mL_law.2.1 386 = .ok (.iadd, 1) := dL_law_386
theorem eL_387 : decode mL_law.2.1 387 = .ok (.iaload, 1) := dL_law_387
theorem eL_388 : decode mL_law.2.1 388 = .ok (.aload_n 3, 1) := dL_law_388
theorem eL_389 : decode mL_law.2.1 389 = .ok (.invokestatic 110, 3) := dL_law_389
theorem eL_392 : decode mL_law.2.1 392 = .ok (.istore 5, 2) := dL_law_392
theorem eL_394 : decode mL_law.2.1 394 = .ok (.aload_n 2, 1) := dL_law_394
theorem eL_395 : decode mL_law.2.1 395 = .ok (.aload_n 0, 1) := dL_law_395
theorem eL_396 : decode mL_law.2.1 396 = .ok (.iload 4, 2) := dL_law_396
theorem eL_398 : decode mL_law.2.1 398 = .ok (.iconst 1, 1) := dL_law_398
theorem eL_399 : decode mL_law.2.1 399 = .ok (.iadd, 1) := dL_law_399
theorem eL_400 : decode mL_law.2.1 400 = .ok (.iaload, 1) := dL_law_400
theorem eL_401 : decode mL_law.2.1 401 = .ok (.aload_n 0, 1) := dL_law_401
theorem eL_402 : decode mL_law.2.1 402 = .ok (.iload 4, 2) := dL_law_402
theorem eL_404 : decode mL_law.2.1 404 = .ok (.iconst 2, 1) := dL_law_404
theorem eL_405 : decode mL_law.2.1 405 = .ok (.iadd, 1) := dL_law_405
theorem eL_406 : decode mL_law.2.1 406 = .ok (.iaload, 1) := dL_law_406
theorem eL_407 : decode mL_law.2.1 407 = .ok (.invokevirtual 112, 3) := dL_law_407
theorem eL_410 : decode mL_law.2.1 410 = .ok (.istore 6, 2) := dL_law_410
theorem eL_412 : decode mL_law.2.1 412 = .ok (.aload_n 2, 1) := dL_law_412
theorem eL_413 : decode mL_law.2.1 413 = .ok (.invokevirtual 103, 3) := dL_law_413
theorem eL_416 : decode mL_law.2.1 416 = .ok (.iload 5, 2) := dL_law_416
theorem eL_418 : decode mL_law.2.1 418 = .ok (.if_icmp .eq 5, 3) := dL_law_418
theorem eL_421 : decode mL_law.2.1 421 = .ok (.iconst 0, 1) := dL_law_421
theorem eL_422 : decode mL_law.2.1 422 = .ok (.ireturn, 1) := dL_law_422
theorem eL_423 : decode mL_law.2.1 423 = .ok (.iload 5, 2) := dL_law_423
theorem eL_425 : decode mL_law.2.1 425 = .ok (.ifCond .ne 15, 3) := dL_law_425
theorem eL_428 : decode mL_law.2.1 428 = .ok (.aload_n 3, 1) := dL_law_428
theorem eL_429 : decode mL_law.2.1 429 = .ok (.iconst 0, 1) := dL_law_429
theorem eL_430 : decode mL_law.2.1 430 = .ok (.laload, 1) := dL_law_430
theorem eL_431 : decode mL_law.2.1 431 = .ok (.iload 6, 2) := dL_law_431
theorem eL_433 : decode mL_law.2.1 433 = .ok (.i2l, 1) := dL_law_433
theorem eL_434 : decode mL_law.2.1 434 = .ok (.lcmp, 1) := dL_law_434
theorem eL_435 : decode mL_law.2.1 435 = .ok (.ifCond .eq 5, 3) := dL_law_435
theorem eL_438 : decode mL_law.2.1 438 = .ok (.iconst 0, 1) := dL_law_438
theorem eL_439 : decode mL_law.2.1 439 = .ok (.ireturn, 1) := dL_law_439
theorem eL_440 : decode mL_law.2.1 440 = .ok (.goto 1459, 3) := dL_law_440
theorem eL_443 : decode mL_law.2.1 443 = .ok (.aload_n 1, 1) := dL_law_443
theorem eL_444 : decode mL_law.2.1 444 = .ok (.aload_n 0, 1) := dL_law_444
theorem eL_445 : decode mL_law.2.1 445 = .ok (.iload 4, 2) := dL_law_445
theorem eL_447 : decode mL_law.2.1 447 = .ok (.iconst 1, 1) := dL_law_447
theorem eL_448 : decode mL_law.2.1 448 = .ok (.iadd, 1) := dL_law_448
theorem eL_449 : decode mL_law.2.1 449 = .ok (.iaload, 1) := dL_law_449
theorem eL_450 : decode mL_law.2.1 450 = .ok (.aload_n 3, 1) := dL_law_450
theorem eL_451 : decode mL_law.2.1 451 = .ok (.invokestatic 113, 3) := dL_law_451
theorem eL_454 : decode mL_law.2.1 454 = .ok (.istore 5, 2) := dL_law_454
theorem eL_456 : decode mL_law.2.1 456 = .ok (.aload_n 2, 1) := dL_law_456
theorem eL_457 : decode mL_law.2.1 457 = .ok (.aload_n 0, 1) := dL_law_457
theorem eL_458 : decode mL_law.2.1 458 = .ok (.iload 4, 2) := dL_law_458
theorem eL_460 : decode mL_law.2.1 460 = .ok (.iconst 1, 1) := dL_law_460
theorem eL_461 : decode mL_law.2.1 461 = .ok (.iadd, 1) := dL_law_461
theorem eL_462 : decode mL_law.2.1 462 = .ok (.iaload, 1) := dL_law_462
theorem eL_463 : decode mL_law.2.1 463 = .ok (.invokevirtual 116, 3) := dL_law_463
theorem eL_466 : decode mL_law.2.1 466 = .ok (.istore 6, 2) := dL_law_466
theorem eL_468 : decode mL_law.2.1 468 = .ok (.aload_n 2, 1) := dL_law_468
theorem eL_469 : decode mL_law.2.1 469 = .ok (.invokevirtual 103, 3) := dL_law_469
theorem eL_472 : decode mL_law.2.1 472 = .ok (.iload 5, 2) := dL_law_472
theorem eL_474 : decode mL_law.2.1 474 = .ok (.if_icmp .eq 5, 3) := dL_law_474
theorem eL_477 : decode mL_law.2.1 477 = .ok (.iconst 0, 1) := dL_law_477
theorem eL_478 : decode mL_law.2.1 478 = .ok (.ireturn, 1) := dL_law_478
theorem eL_479 : decode mL_law.2.1 479 = .ok (.iload 5, 2) := dL_law_479
theorem eL_481 : decode mL_law.2.1 481 = .ok (.ifCond .ne 15, 3) := dL_law_481
theorem eL_484 : decode mL_law.2.1 484 = .ok (.aload_n 3, 1) := dL_law_484
theorem eL_485 : decode mL_law.2.1 485 = .ok (.iconst 0, 1) := dL_law_485
theorem eL_486 : decode mL_law.2.1 486 = .ok (.laload, 1) := dL_law_486
theorem eL_487 : decode mL_law.2.1 487 = .ok (.iload 6, 2) := dL_law_487
theorem eL_489 : decode mL_law.2.1 489 = .ok (.i2l, 1) := dL_law_489
theorem eL_490 : decode mL_law.2.1 490 = .ok (.lcmp, 1) := dL_law_490
theorem eL_491 : decode mL_law.2.1 491 = .ok (.ifCond .eq 5, 3) := dL_law_491
theorem eL_494 : decode mL_law.2.1 494 = .ok (.iconst 0, 1) := dL_law_494
theorem eL_495 : decode mL_law.2.1 495 = .ok (.ireturn, 1) := dL_law_495
theorem eL_496 : decode mL_law.2.1 496 = .ok (.goto 1403, 3) := dL_law_496
theorem eL_499 : decode mL_law.2.1 499 = .ok (.aload_n 1, 1) := dL_law_499
theorem eL_500 : decode mL_law.2.1 500 = .ok (.aload_n 0, 1) := dL_law_500
theorem eL_501 : decode mL_law.2.1 501 = .ok (.iload 4, 2) := dL_law_501
theorem eL_503 : decode mL_law.2.1 503 = .ok (.iconst 1, 1) := dL_law_503
theorem eL_504 : decode mL_law.2.1 504 = .ok (.iadd, 1) := dL_law_504
theorem eL_505 : decode mL_law.2.1 505 = .ok (.iaload, 1) := dL_law_505
theorem eL_506 : decode mL_law.2.1 506 = .ok (.aload_n 3, 1) := dL_law_506
theorem eL_507 : decode mL_law.2.1 507 = .ok (.invokestatic 117, 3) := dL_law_507
theorem eL_510 : decode mL_law.2.1 510 = .ok (.istore 5, 2) := dL_law_510
theorem eL_512 : decode mL_law.2.1 512 = .ok (.aload_n 2, 1) := dL_law_512
theorem eL_513 : decode mL_law.2.1 513 = .ok (.aload_n 0, 1) := dL_law_513
theorem eL_514 : decode mL_law.2.1 514 = .ok (.iload 4, 2) := dL_law_514
theorem eL_516 : decode mL_law.2.1 516 = .ok (.iconst 1, 1) := dL_law_516
theorem eL_517 : decode mL_law.2.1 517 = .ok (.iadd, 1) := dL_law_517
theorem eL_518 : decode mL_law.2.1 518 = .ok (.iaload, 1) := dL_law_518
theorem eL_519 : decode mL_law.2.1 519 = .ok (.invokevirtual 119, 3) := dL_law_519
theorem eL_522 : decode mL_law.2.1 522 = .ok (.istore 6, 2) := dL_law_522
theorem eL_524 : decode mL_law.2.1 524 = .ok (.aload_n 2, 1) := dL_law_524
theorem eL_525 : decode mL_law.2.1 525 = .ok (.invokevirtual 103, 3) := dL_law_525
theorem eL_528 : decode mL_law.2.1 528 = .ok (.iload 5, 2) := dL_law_528
theorem eL_530 : decode mL_law.2.1 530 = .ok (.if_icmp .eq 5, 3) := dL_law_530
theorem eL_533 : decode mL_law.2.1 533 = .ok (.iconst 0, 1) := dL_law_533
theorem eL_534 : decode mL_law.2.1 534 = .ok (.ireturn, 1) := dL_law_534
theorem eL_535 : decode mL_law.2.1 535 = .ok (.iload 5, 2) := dL_law_535
theorem eL_537 : decode mL_law.2.1 537 = .ok (.ifCond .ne 15, 3) := dL_law_537
theorem eL_540 : decode mL_law.2.1 540 = .ok (.aload_n 3, 1) := dL_law_540
theorem eL_541 : decode mL_law.2.1 541 = .ok (.iconst 0, 1) := dL_law_541
theorem eL_542 : decode mL_law.2.1 542 = .ok (.laload, 1) := dL_law_542
theorem eL_543 : decode mL_law.2.1 543 = .ok (.iload 6, 2) := dL_law_543
theorem eL_545 : decode mL_law.2.1 545 = .ok (.i2l, 1) := dL_law_545
theorem eL_546 : decode mL_law.2.1 546 = .ok (.lcmp, 1) := dL_law_546
theorem eL_547 : decode mL_law.2.1 547 = .ok (.ifCond .eq 5, 3) := dL_law_547
theorem eL_550 : decode mL_law.2.1 550 = .ok (.iconst 0, 1) := dL_law_550
theorem eL_551 : decode mL_law.2.1 551 = .ok (.ireturn, 1) := dL_law_551
theorem eL_552 : decode mL_law.2.1 552 = .ok (.goto 1347, 3) := dL_law_552
theorem eL_555 : decode mL_law.2.1 555 = .ok (.aload_n 1, 1) := dL_law_555
theorem eL_556 : decode mL_law.2.1 556 = .ok (.aload_n 0, 1) := dL_law_556
theorem eL_557 : decode mL_law.2.1 557 = .ok (.iload 4, 2) := dL_law_557
theorem eL_559 : decode mL_law.2.1 559 = .ok (.iconst 1, 1) := dL_law_559
theorem eL_560 : decode mL_law.2.1 560 = .ok (.iadd, 1) := dL_law_560
theorem eL_561 : decode mL_law.2.1 561 = .ok (.iaload, 1) := dL_law_561
theorem eL_562 : decode mL_law.2.1 562 = .ok (.aload_n 0, 1) := dL_law_562
theorem eL_563 : decode mL_law.2.1 563 = .ok (.iload 4, 2) := dL_law_563
theorem eL_565 : decode mL_law.2.1 565 = .ok (.iconst 2, 1) := dL_law_565
theorem eL_566 : decode mL_law.2.1 566 = .ok (.iadd, 1) := dL_law_566
theorem eL_567 : decode mL_law.2.1 567 = .ok (.iaload, 1) := dL_law_567
theorem eL_568 : decode mL_law.2.1 568 = .ok (.aload_n 0, 1) := dL_law_568
theorem eL_569 : decode mL_law.2.1 569 = .ok (.iload 4, 2) := dL_law_569
theorem eL_571 : decode mL_law.2.1 571 = .ok (.iconst 3, 1) := dL_law_571
theorem eL_572 : decode mL_law.2.1 572 = .ok (.iadd, 1) := dL_law_572
theorem eL_573 : decode mL_law.2.1 573 = .ok (.iaload, 1) := dL_law_573
theorem eL_574 : decode mL_law.2.1 574 = .ok (.aload_n 3, 1) := dL_law_574
theorem eL_575 : decode mL_law.2.1 575 = .ok (.invokestatic 120, 3) := dL_law_575
theorem eL_578 : decode mL_law.2.1 578 = .ok (.istore 5, 2) := dL_law_578
theorem eL_580 : decode mL_law.2.1 580 = .ok (.aload_n 2, 1) := dL_law_580
theorem eL_581 : decode mL_law.2.1 581 = .ok (.aload_n 0, 1) := dL_law_581
theorem eL_582 : decode mL_law.2.1 582 = .ok (.iload 4, 2) := dL_law_582
theorem eL_584 : decode mL_law.2.1 584 = .ok (.iconst 1, 1) := dL_law_584
theorem eL_585 : decode mL_law.2.1 585 = .ok (.iadd, 1) := dL_law_585
theorem eL_586 : decode mL_law.2.1 586 = .ok (.iaload, 1) := dL_law_586
theorem eL_587 : decode mL_law.2.1 587 = .ok (.aload_n 0, 1) := dL_law_587
theorem eL_588 : decode mL_law.2.1 588 = .ok (.iload 4, 2) := dL_law_588
theorem eL_590 : decode mL_law.2.1 590 = .ok (.iconst 2, 1) := dL_law_590
theorem eL_591 : decode mL_law.2.1 591 = .ok (.iadd, 1) := dL_law_591
theorem eL_592 : decode mL_law.2.1 592 = .ok (.iaload, 1) := dL_law_592
theorem eL_593 : decode mL_law.2.1 593 = .ok (.aload_n 0, 1) := dL_law_593
theorem eL_594 : decode mL_law.2.1 594 = .ok (.iload 4, 2) := dL_law_594
theorem eL_596 : decode mL_law.2.1 596 = .ok (.iconst 3, 1) := dL_law_596
theorem eL_597 : decode mL_law.2.1 597 = .ok (.iadd, 1) := dL_law_597
theorem eL_598 : decode mL_law.2.1 598 = .ok (.iaload, 1) := dL_law_598
theorem eL_599 : decode mL_law.2.1 599 = .ok (.invokevirtual 123, 3) := dL_law_599
theorem eL_602 : decode mL_law.2.1 602 = .ok (.istore 6, 2) := dL_law_602
theorem eL_604 : decode mL_law.2.1 604 = .ok (.aload_n 2, 1) := dL_law_604
theorem eL_605 : decode mL_law.2.1 605 = .ok (.invokevirtual 103, 3) := dL_law_605
theorem eL_608 : decode mL_law.2.1 608 = .ok (.iload 5, 2) := dL_law_608
theorem eL_610 : decode mL_law.2.1 610 = .ok (.if_icmp .eq 5, 3) := dL_law_610
theorem eL_613 : decode mL_law.2.1 613 = .ok (.iconst 0, 1) := dL_law_613
theorem eL_614 : decode mL_law.2.1 614 = .ok (.ireturn, 1) := dL_law_614
theorem eL_615 : decode mL_law.2.1 615 = .ok (.iload 5, 2) := dL_law_615
theorem eL_617 : decode mL_law.2.1 617 = .ok (.ifCond .ne 15, 3) := dL_law_617
theorem eL_620 : decode mL_law.2.1 620 = .ok (.aload_n 3, 1) := dL_law_620
theorem eL_621 : decode mL_law.2.1 621 = .ok (.iconst 0, 1) := dL_law_621
theorem eL_622 : decode mL_law.2.1 622 = .ok (.laload, 1) := dL_law_622
theorem eL_623 : decode mL_law.2.1 623 = .ok (.iload 6, 2) := dL_law_623
theorem eL_625 : decode mL_law.2.1 625 = .ok (.i2l, 1) := dL_law_625
theorem eL_626 : decode mL_law.2.1 626 = .ok (.lcmp, 1) := dL_law_626
theorem eL_627 : decode mL_law.2.1 627 = .ok (.ifCond .eq 5, 3) := dL_law_627
theorem eL_630 : decode mL_law.2.1 630 = .ok (.iconst 0, 1) := dL_law_630
theorem eL_631 : decode mL_law.2.1 631 = .ok (.ireturn, 1) := dL_law_631
theorem eL_632 : decode mL_law.2.1 632 = .ok (.goto 1267, 3) := dL_law_632
theorem eL_635 : decode mL_law.2.1 635 = .ok (.aload_n 1, 1) := dL_law_635
theorem eL_636 : decode mL_law.2.1 636 = .ok (.aload_n 0, 1) := dL_law_636
theorem eL_637 : decode mL_law.2.1 637 = .ok (.iload 4, 2) := dL_law_637
theorem eL_639 : decode mL_law.2.1 639 = .ok (.iconst 1, 1) := dL_law_639
theorem eL_640 : decode mL_law.2.1 640 = .ok (.iadd, 1) := dL_law_640
theorem eL_641 : decode mL_law.2.1 641 = .ok (.iaload, 1) := dL_law_641
theorem eL_642 : decode mL_law.2.1 642 = .ok (.aload_n 0, 1) := dL_law_642
theorem eL_643 : decode mL_law.2.1 643 = .ok (.iload 4, 2) := dL_law_643
theorem eL_645 : decode mL_law.2.1 645 = .ok (.iconst 2, 1) := dL_law_645
theorem eL_646 : decode mL_law.2.1 646 = .ok (.iadd, 1) := dL_law_646
theorem eL_647 : decode mL_law.2.1 647 = .ok (.iaload, 1) := dL_law_647
theorem eL_648 : decode mL_law.2.1 648 = .ok (.aload_n 3, 1) := dL_law_648
theorem eL_649 : decode mL_law.2.1 649 = .ok (.invokestatic 124, 3) := dL_law_649
theorem eL_652 : decode mL_law.2.1 652 = .ok (.istore 5, 2) := dL_law_652
theorem eL_654 : decode mL_law.2.1 654 = .ok (.aload_n 2, 1) := dL_law_654
theorem eL_655 : decode mL_law.2.1 655 = .ok (.aload_n 0, 1) := dL_law_655
theorem eL_656 : decode mL_law.2.1 656 = .ok (.iload 4, 2) := dL_law_656
theorem eL_658 : decode mL_law.2.1 658 = .ok (.iconst 1, 1) := dL_law_658
theorem eL_659 : decode mL_law.2.1 659 = .ok (.iadd, 1) := dL_law_659
theorem eL_660 : decode mL_law.2.1 660 = .ok (.iaload, 1) := dL_law_660
theorem eL_661 : decode mL_law.2.1 661 = .ok (.aload_n 0, 1) := dL_law_661
theorem eL_662 : decode mL_law.2.1 662 = .ok (.iload 4, 2) := dL_law_662
theorem eL_664 : decode mL_law.2.1 664 = .ok (.iconst 2, 1) := dL_law_664
theorem eL_665 : decode mL_law.2.1 665 = .ok (.iadd, 1) := dL_law_665
theorem eL_666 : decode mL_law.2.1 666 = .ok (.iaload, 1) := dL_law_666
theorem eL_667 : decode mL_law.2.1 667 = .ok (.invokevirtual 126, 3) := dL_law_667
theorem eL_670 : decode mL_law.2.1 670 = .ok (.istore 6, 2) := dL_law_670
theorem eL_672 : decode mL_law.2.1 672 = .ok (.aload_n 2, 1) := dL_law_672
theorem eL_673 : decode mL_law.2.1 673 = .ok (.invokevirtual 103, 3) := dL_law_673
theorem eL_676 : decode mL_law.2.1 676 = .ok (.iload 5, 2) := dL_law_676
theorem eL_678 : decode mL_law.2.1 678 = .ok (.if_icmp .eq 5, 3) := dL_law_678
theorem eL_681 : decode mL_law.2.1 681 = .ok (.iconst 0, 1) := dL_law_681
theorem eL_682 : decode mL_law.2.1 682 = .ok (.ireturn, 1) := dL_law_682
theorem eL_683 : decode mL_law.2.1 683 = .ok (.iload 5, 2) := dL_law_683
theorem eL_685 : decode mL_law.2.1 685 = .ok (.ifCond .ne 15, 3) := dL_law_685
theorem eL_688 : decode mL_law.2.1 688 = .ok (.aload_n 3, 1) := dL_law_688
theorem eL_689 : decode mL_law.2.1 689 = .ok (.iconst 0, 1) := dL_law_689
theorem eL_690 : decode mL_law.2.1 690 = .ok (.laload, 1) := dL_law_690
theorem eL_691 : decode mL_law.2.1 691 = .ok (.iload 6, 2) := dL_law_691
theorem eL_693 : decode mL_law.2.1 693 = .ok (.i2l, 1) := dL_law_693
theorem eL_694 : decode mL_law.2.1 694 = .ok (.lcmp, 1) := dL_law_694
theorem eL_695 : decode mL_law.2.1 695 = .ok (.ifCond .eq 5, 3) := dL_law_695
theorem eL_698 : decode mL_law.2.1 698 = .ok (.iconst 0, 1) := dL_law_698
theorem eL_699 : decode mL_law.2.1 699 = .ok (.ireturn, 1) := dL_law_699
theorem eL_700 : decode mL_law.2.1 700 = .ok (.goto 1199, 3) := dL_law_700
theorem eL_703 : decode mL_law.2.1 703 = .ok (.aload_n 1, 1) := dL_law_703
theorem eL_704 : decode mL_law.2.1 704 = .ok (.aload_n 0, 1) := dL_law_704
theorem eL_705 : decode mL_law.2.1 705 = .ok (.iload 4, 2) := dL_law_705
theorem eL_707 : decode mL_law.2.1 707 = .ok (.iconst 1, 1) := dL_law_707
theorem eL_708 : decode mL_law.2.1 708 = .ok (.iadd, 1) := dL_law_708
theorem eL_709 : decode mL_law.2.1 709 = .ok (.iaload, 1) := dL_law_709
theorem eL_710 : decode mL_law.2.1 710 = .ok (.aload_n 0, 1) := dL_law_710
theorem eL_711 : decode mL_law.2.1 711 = .ok (.iload 4, 2) := dL_law_711
theorem eL_713 : decode mL_law.2.1 713 = .ok (.iconst 2, 1) := dL_law_713
theorem eL_714 : decode mL_law.2.1 714 = .ok (.iadd, 1) := dL_law_714
theorem eL_715 : decode mL_law.2.1 715 = .ok (.iaload, 1) := dL_law_715
theorem eL_716 : decode mL_law.2.1 716 = .ok (.aload_n 3, 1) := dL_law_716
theorem eL_717 : decode mL_law.2.1 717 = .ok (.invokestatic 127, 3) := dL_law_717
theorem eL_720 : decode mL_law.2.1 720 = .ok (.istore 5, 2) := dL_law_720
theorem eL_722 : decode mL_law.2.1 722 = .ok (.aload_n 2, 1) := dL_law_722
theorem eL_723 : decode mL_law.2.1 723 = .ok (.aload_n 0, 1) := dL_law_723
theorem eL_724 : decode mL_law.2.1 724 = .ok (.iload 4, 2) := dL_law_724
theorem eL_726 : decode mL_law.2.1 726 = .ok (.iconst 1, 1) := dL_law_726
theorem eL_727 : decode mL_law.2.1 727 = .ok (.iadd, 1) := dL_law_727
theorem eL_728 : decode mL_law.2.1 728 = .ok (.iaload, 1) := dL_law_728
theorem eL_729 : decode mL_law.2.1 729 = .ok (.aload_n 0, 1) := dL_law_729
theorem eL_730 : decode mL_law.2.1 730 = .ok (.iload 4, 2) := dL_law_730
theorem eL_732 : decode mL_law.2.1 732 = .ok (.iconst 2, 1) := dL_law_732
theorem eL_733 : decode mL_law.2.1 733 = .ok (.iadd, 1) := dL_law_733
theorem eL_734 : decode mL_law.2.1 734 = .ok (.iaload, 1) := dL_law_734
theorem eL_735 : decode mL_law.2.1 735 = .ok (.invokevirtual 129, 3) := dL_law_735
theorem eL_738 : decode mL_law.2.1 738 = .ok (.istore 6, 2) := dL_law_738
theorem eL_740 : decode mL_law.2.1 740 = .ok (.aload_n 2, 1) := dL_law_740
theorem eL_741 : decode mL_law.2.1 741 = .ok (.invokevirtual 103, 3) := dL_law_741
theorem eL_744 : decode mL_law.2.1 744 = .ok (.iload 5, 2) := dL_law_744
theorem eL_746 : decode mL_law.2.1 746 = .ok (.if_icmp .eq 5, 3) := dL_law_746
theorem eL_749 : decode mL_law.2.1 749 = .ok (.iconst 0, 1) := dL_law_749
theorem eL_750 : decode mL_law.2.1 750 = .ok (.ireturn, 1) := dL_law_750
theorem eL_751 : decode mL_law.2.1 751 = .ok (.iload 5, 2) := dL_law_751
theorem eL_753 : decode mL_law.2.1 753 = .ok (.ifCond .ne 15, 3) := dL_law_753
theorem eL_756 : decode mL_law.2.1 756 = .ok (.aload_n 3, 1) := dL_law_756
theorem eL_757 : decode mL_law.2.1 757 = .ok (.iconst 0, 1) := dL_law_757
theorem eL_758 : decode mL_law.2.1 758 = .ok (.laload, 1) := dL_law_758
theorem eL_759 : decode mL_law.2.1 759 = .ok (.iload 6, 2) := dL_law_759
theorem eL_761 : decode mL_law.2.1 761 = .ok (.i2l, 1) := dL_law_761
theorem eL_762 : decode mL_law.2.1 762 = .ok (.lcmp, 1) := dL_law_762
theorem eL_763 : decode mL_law.2.1 763 = .ok (.ifCond .eq 5, 3) := dL_law_763
theorem eL_766 : decode mL_law.2.1 766 = .ok (.iconst 0, 1) := dL_law_766
theorem eL_767 : decode mL_law.2.1 767 = .ok (.ireturn, 1) := dL_law_767
theorem eL_768 : decode mL_law.2.1 768 = .ok (.goto 1131, 3) := dL_law_768
theorem eL_771 : decode mL_law.2.1 771 = .ok (.aload_n 1, 1) := dL_law_771
theorem eL_772 : decode mL_law.2.1 772 = .ok (.aload_n 0, 1) := dL_law_772
theorem eL_773 : decode mL_law.2.1 773 = .ok (.iload 4, 2) := dL_law_773
theorem eL_775 : decode mL_law.2.1 775 = .ok (.iconst 1, 1) := dL_law_775
theorem eL_776 : decode mL_law.2.1 776 = .ok (.iadd, 1) := dL_law_776
theorem eL_777 : decode mL_law.2.1 777 = .ok (.iaload, 1) := dL_law_777
theorem eL_778 : decode mL_law.2.1 778 = .ok (.aload_n 0, 1) := dL_law_778
theorem eL_779 : decode mL_law.2.1 779 = .ok (.iload 4, 2) := dL_law_779
theorem eL_781 : decode mL_law.2.1 781 = .ok (.iconst 2, 1) := dL_law_781
theorem eL_782 : decode mL_law.2.1 782 = .ok (.iadd, 1) := dL_law_782
theorem eL_783 : decode mL_law.2.1 783 = .ok (.iaload, 1) := dL_law_783
theorem eL_784 : decode mL_law.2.1 784 = .ok (.aload_n 0, 1) := dL_law_784
theorem eL_785 : decode mL_law.2.1 785 = .ok (.iload 4, 2) := dL_law_785
theorem eL_787 : decode mL_law.2.1 787 = .ok (.iconst 3, 1) := dL_law_787
theorem eL_788 : decode mL_law.2.1 788 = .ok (.iadd, 1) := dL_law_788
theorem eL_789 : decode mL_law.2.1 789 = .ok (.iaload, 1) := dL_law_789
theorem eL_790 : decode mL_law.2.1 790 = .ok (.aload_n 0, 1) := dL_law_790
theorem eL_791 : decode mL_law.2.1 791 = .ok (.iload 4, 2) := dL_law_791
theorem eL_793 : decode mL_law.2.1 793 = .ok (.iconst 4, 1) := dL_law_793
theorem eL_794 : decode mL_law.2.1 794 = .ok (.iadd, 1) := dL_law_794
theorem eL_795 : decode mL_law.2.1 795 = .ok (.iaload, 1) := dL_law_795
theorem eL_796 : decode mL_law.2.1 796 = .ok (.aload_n 3, 1) := dL_law_796
theorem eL_797 : decode mL_law.2.1 797 = .ok (.invokestatic 130, 3) := dL_law_797
theorem eL_800 : decode mL_law.2.1 800 = .ok (.istore 5, 2) := dL_law_800
theorem eL_802 : decode mL_law.2.1 802 = .ok (.aload_n 2, 1) := dL_law_802
theorem eL_803 : decode mL_law.2.1 803 = .ok (.aload_n 0, 1) := dL_law_803
theorem eL_804 : decode mL_law.2.1 804 = .ok (.iload 4, 2) := dL_law_804
theorem eL_806 : decode mL_law.2.1 806 = .ok (.iconst 1, 1) := dL_law_806
theorem eL_807 : decode mL_law.2.1 807 = .ok (.iadd, 1) := dL_law_807
theorem eL_808 : decode mL_law.2.1 808 = .ok (.iaload, 1) := dL_law_808
theorem eL_809 : decode mL_law.2.1 809 = .ok (.aload_n 0, 1) := dL_law_809
theorem eL_810 : decode mL_law.2.1 810 = .ok (.iload 4, 2) := dL_law_810
theorem eL_812 : decode mL_law.2.1 812 = .ok (.iconst 2, 1) := dL_law_812
theorem eL_813 : decode mL_law.2.1 813 = .ok (.iadd, 1) := dL_law_813
theorem eL_814 : decode mL_law.2.1 814 = .ok (.iaload, 1) := dL_law_814
theorem eL_815 : decode mL_law.2.1 815 = .ok (.aload_n 0, 1) := dL_law_815
theorem eL_816 : decode mL_law.2.1 816 = .ok (.iload 4, 2) := dL_law_816
theorem eL_818 : decode mL_law.2.1 818 = .ok (.iconst 3, 1) := dL_law_818
theorem eL_819 : decode mL_law.2.1 819 = .ok (.iadd, 1) := dL_law_819
theorem eL_820 : decode mL_law.2.1 820 = .ok (.iaload, 1) := dL_law_820
theorem eL_821 : decode mL_law.2.1 821 = .ok (.aload_n 0, 1) := dL_law_821
theorem eL_822 : decode mL_law.2.1 822 = .ok (.iload 4, 2) := dL_law_822
theorem eL_824 : decode mL_law.2.1 824 = .ok (.iconst 4, 1) := dL_law_824
theorem eL_825 : decode mL_law.2.1 825 = .ok (.iadd, 1) := dL_law_825
theorem eL_826 : decode mL_law.2.1 826 = .ok (.iaload, 1) := dL_law_826
theorem eL_827 : decode mL_law.2.1 827 = .ok (.invokevirtual 133, 3) := dL_law_827
theorem eL_830 : decode mL_law.2.1 830 = .ok (.istore 6, 2) := dL_law_830
theorem eL_832 : decode mL_law.2.1 832 = .ok (.aload_n 2, 1) := dL_law_832
theorem eL_833 : decode mL_law.2.1 833 = .ok (.invokevirtual 103, 3) := dL_law_833
theorem eL_836 : decode mL_law.2.1 836 = .ok (.iload 5, 2) := dL_law_836
theorem eL_838 : decode mL_law.2.1 838 = .ok (.if_icmp .eq 5, 3) := dL_law_838
theorem eL_841 : decode mL_law.2.1 841 = .ok (.iconst 0, 1) := dL_law_841
theorem eL_842 : decode mL_law.2.1 842 = .ok (.ireturn, 1) := dL_law_842
theorem eL_843 : decode mL_law.2.1 843 = .ok (.iload 5, 2) := dL_law_843
theorem eL_845 : decode mL_law.2.1 845 = .ok (.ifCond .ne 15, 3) := dL_law_845
theorem eL_848 : decode mL_law.2.1 848 = .ok (.aload_n 3, 1) := dL_law_848
theorem eL_849 : decode mL_law.2.1 849 = .ok (.iconst 0, 1) := dL_law_849
theorem eL_850 : decode mL_law.2.1 850 = .ok (.laload, 1) := dL_law_850
theorem eL_851 : decode mL_law.2.1 851 = .ok (.iload 6, 2) := dL_law_851
theorem eL_853 : decode mL_law.2.1 853 = .ok (.i2l, 1) := dL_law_853
theorem eL_854 : decode mL_law.2.1 854 = .ok (.lcmp, 1) := dL_law_854
theorem eL_855 : decode mL_law.2.1 855 = .ok (.ifCond .eq 5, 3) := dL_law_855
theorem eL_858 : decode mL_law.2.1 858 = .ok (.iconst 0, 1) := dL_law_858
theorem eL_859 : decode mL_law.2.1 859 = .ok (.ireturn, 1) := dL_law_859
theorem eL_860 : decode mL_law.2.1 860 = .ok (.goto 1039, 3) := dL_law_860
theorem eL_863 : decode mL_law.2.1 863 = .ok (.aload_n 1, 1) := dL_law_863
theorem eL_864 : decode mL_law.2.1 864 = .ok (.aload_n 0, 1) := dL_law_864
theorem eL_865 : decode mL_law.2.1 865 = .ok (.iload 4, 2) := dL_law_865
theorem eL_867 : decode mL_law.2.1 867 = .ok (.iconst 1, 1) := dL_law_867
theorem eL_868 : decode mL_law.2.1 868 = .ok (.iadd, 1) := dL_law_868
theorem eL_869 : decode mL_law.2.1 869 = .ok (.iaload, 1) := dL_law_869
theorem eL_870 : decode mL_law.2.1 870 = .ok (.aload_n 0, 1) := dL_law_870
theorem eL_871 : decode mL_law.2.1 871 = .ok (.iload 4, 2) := dL_law_871
theorem eL_873 : decode mL_law.2.1 873 = .ok (.iconst 2, 1) := dL_law_873
theorem eL_874 : decode mL_law.2.1 874 = .ok (.iadd, 1) := dL_law_874
theorem eL_875 : decode mL_law.2.1 875 = .ok (.iaload, 1) := dL_law_875
theorem eL_876 : decode mL_law.2.1 876 = .ok (.aload_n 3, 1) := dL_law_876
theorem eL_877 : decode mL_law.2.1 877 = .ok (.invokestatic 134, 3) := dL_law_877
theorem eL_880 : decode mL_law.2.1 880 = .ok (.istore 5, 2) := dL_law_880
theorem eL_882 : decode mL_law.2.1 882 = .ok (.aload_n 2, 1) := dL_law_882
theorem eL_883 : decode mL_law.2.1 883 = .ok (.aload_n 0, 1) := dL_law_883
theorem eL_884 : decode mL_law.2.1 884 = .ok (.iload 4, 2) := dL_law_884
theorem eL_886 : decode mL_law.2.1 886 = .ok (.iconst 1, 1) := dL_law_886
theorem eL_887 : decode mL_law.2.1 887 = .ok (.iadd, 1) := dL_law_887
theorem eL_888 : decode mL_law.2.1 888 = .ok (.iaload, 1) := dL_law_888
theorem eL_889 : decode mL_law.2.1 889 = .ok (.aload_n 0, 1) := dL_law_889
theorem eL_890 : decode mL_law.2.1 890 = .ok (.iload 4, 2) := dL_law_890
theorem eL_892 : decode mL_law.2.1 892 = .ok (.iconst 2, 1) := dL_law_892
theorem eL_893 : decode mL_law.2.1 893 = .ok (.iadd, 1) := dL_law_893
theorem eL_894 : decode mL_law.2.1 894 = .ok (.iaload, 1) := dL_law_894
theorem eL_895 : decode mL_law.2.1 895 = .ok (.invokevirtual 136, 3) := dL_law_895
theorem eL_898 : decode mL_law.2.1 898 = .ok (.istore 6, 2) := dL_law_898
theorem eL_900 : decode mL_law.2.1 900 = .ok (.aload_n 2, 1) := dL_law_900
theorem eL_901 : decode mL_law.2.1 901 = .ok (.invokevirtual 103, 3) := dL_law_901
theorem eL_904 : decode mL_law.2.1 904 = .ok (.iload 5, 2) := dL_law_904
theorem eL_906 : decode mL_law.2.1 906 = .ok (.if_icmp .eq 5, 3) := dL_law_906
theorem eL_909 : decode mL_law.2.1 909 = .ok (.iconst 0, 1) := dL_law_909
theorem eL_910 : decode mL_law.2.1 910 = .ok (.ireturn, 1) := dL_law_910
theorem eL_911 : decode mL_law.2.1 911 = .ok (.iload 5, 2) := dL_law_911
theorem eL_913 : decode mL_law.2.1 913 = .ok (.ifCond .ne 15, 3) := dL_law_913
theorem eL_916 : decode mL_law.2.1 916 = .ok (.aload_n 3, 1) := dL_law_916
theorem eL_917 : decode mL_law.2.1 917 = .ok (.iconst 0, 1) := dL_law_917
theorem eL_918 : decode mL_law.2.1 918 = .ok (.laload, 1) := dL_law_918
theorem eL_919 : decode mL_law.2.1 919 = .ok (.iload 6, 2) := dL_law_919
theorem eL_921 : decode mL_law.2.1 921 = .ok (.i2l, 1) := dL_law_921
theorem eL_922 : decode mL_law.2.1 922 = .ok (.lcmp, 1) := dL_law_922
theorem eL_923 : decode mL_law.2.1 923 = .ok (.ifCond .eq 5, 3) := dL_law_923
theorem eL_926 : decode mL_law.2.1 926 = .ok (.iconst 0, 1) := dL_law_926
theorem eL_927 : decode mL_law.2.1 927 = .ok (.ireturn, 1) := dL_law_927
theorem eL_928 : decode mL_law.2.1 928 = .ok (.goto 971, 3) := dL_law_928
set_option maxRecDepth 20000 in
theorem st_fault {S0 : Nat → Int} {n0 i oo nc ns dx cx sx dm cm sm D mc ms : Nat} {v0 : Int} {QX QM : HF → HA → Prop} {l5 l6 : Option LV} {F : HF} {A : HA} {al : AL} {Post : PO}
    (hK : KX al) (hM : KM al) (hs : al.1 0 = (4, n0)) (hoo : al.1 oo = (2, 1)) (h67 : 67 ≤ oo) (hot : oo < al.2) (hA0 : A 0 = S0) (hi : i + 6 ≤ n0) (hn0 : n0 ≤ 3072)
    (hD : 60 ≤ D) (hdx : dx ≤ 57) (hdm : dm ≤ 57) (hmc : nc + cx + cm ≤ mc) (hms : ns + sx + sm ≤ ms)
    (hQX : ∀ (F1 : HF) (A1 : HA) (F2 : HF) (A2 : HA), QX F1 A1 → (∀ b k, b < 44 → F2 b k = F1 b k) → (∀ b, b < 44 → A2 b = A1 b) → QX F2 A2)
    (evx : QE dx cx sx mX11_fault (vA 1 :: []) F A al (PXR eN (some v0) F A al QX))
    (evm : ∀ (F1 : HF) (A1 : HA), (∀ b k, 44 ≤ b → F1 b k = F b k) → (∀ b, 44 ≤ b → b < 67 → A1 b = A b) → QE dm cm sm mX12_fault (vA 44 :: []) F1 A1 al (PMR (some v0) F1 A1 al QM))
    (kk : ∀ (F2 : HF) (A2 : HA) (al2 : AL) (l5 l6 : Option LV), KE al.2 al al2 → QX F2 A2 → QM F2 A2 → A2 0 = S0 → QW mL_law D mc ms Post (nc + cx + cm) (ns + sx + sm) 1899 [some (vA 0), some (vA 1), some (vA 44), some (vA oo), some (vI (i : Nat)), l5, l6] [] F2 A2 al2) :
    QW mL_law D mc ms Post nc ns 362 [some (vA 0), some (vA 1), some (vA 44), some (vA oo), some (vI (i : Nat)), l5, l6] [] F A al := by
  refine q_aload_n eL_362 rfl ?_
  refine q_callV [] (M1 := mX11_fault) eL_363 mf_X11_fault lk_L_106 (hK 1 (by decide) (by decide)) evx (by intro E F A al h; cases h.1) (by omega) (by omega) (by omega) (Nat.le_of_ble_eq_true rfl) (st := []) rfl (fun v1 F1 A1 al1 h1 => ?_)
  obtain ⟨e1, rfl, f1, a1, q9⟩ := h1
  cases e1
  have hA1 : A1 0 = S0 := (a1 0 (Or.inl rfl)).trans hA0
  refine q_aload_n eL_366 rfl ?_
  refine q_callV [] (M1 := mX12_fault) eL_367 mf_X12_fault lk_L_109 (hM 44 (by decide) (by decide)) (evm F1 A1 f1 (fun b h1 _ => a1 b (Or.inr h1))) (by intro E F A al h; cases h.1) (by omega) (by omega) (by omega) (Nat.le_of_ble_eq_true rfl) (st := [vI v0]) rfl (fun v2 F2 A2 al2 h2 => ?_)
  obtain ⟨e2, t2, ke, f2, a2, q2⟩ := h2
  obtain rfl := Sum.inl.inj e2
  have hA2 : A2 0 = S0 := (a2 0 (by omega) (Or.inl (by decide))).trans hA1
  have hx2 : QX F2 A2 := hQX F1 A1 F2 A2 q9 (fun b k hb => f2 b k (by omega) (by omega)) (fun b hb => a2 b (by omega) (Or.inl hb))
  refine q_icmp_same (tgt := 1899) eL_370 (by decide) ?_
  exact kk F2 A2 al2 _ _ ke hx2 q2 hA2
set_option maxRecDepth 20000 in
theorem st_put {S0 : Nat → Int} {n0 i oo nc ns dx cx sx dm cm sm D mc ms : Nat} {R : Option Int} {QX QM : HF → HA → Prop} {l5 l6 : Option LV} {F : HF} {A : HA} {al : AL} {Post : PO}
    (hK : KX al) (hM : KM al) (hs : al.1 0 = (4, n0)) (hoo : al.1 oo = (2, 1)) (h67 : 67 ≤ oo) (hot : oo < al.2) (hA0 : A 0 = S0) (hi : i + 6 ≤ n0) (hn0 : n0 ≤ 3072)
    (hD : 60 ≤ D) (hdx : dx ≤ 57) (hdm : dm ≤ 57) (hmc : nc + cx + cm ≤ mc) (hms : ns + sx + sm ≤ ms)
    (hQX : ∀ (F1 : HF) (A1 : HA) (F2 : HF) (A2 : HA), QX F1 A1 → (∀ b k, b < 44 → F2 b k = F1 b k) → (∀ b, b < 44 → A2 b = A1 b) → QX F2 A2)
    (evx : QE dx cx sx mX11_put (vA 1 :: [vI (S0 ((i : Int) + 1).toNat), vI (S0 ((i : Int) + 2).toNat)]) F A al (PXR eN R F A al QX))
    (evm : ∀ (F1 : HF) (A1 : HA), (∀ b k, 44 ≤ b → F1 b k = F b k) → (∀ b, 44 ≤ b → b < 67 → A1 b = A b) → QE dm cm sm mX12_put (vA 44 :: [vI (S0 ((i : Int) + 1).toNat), vI (S0 ((i : Int) + 2).toNat)]) F1 A1 al (PMR R F1 A1 al QM))
    (kk : ∀ (F2 : HF) (A2 : HA) (al2 : AL) (l5 l6 : Option LV), KE al.2 al al2 → QX F2 A2 → QM F2 A2 → A2 0 = S0 → QW mL_law D mc ms Post (nc + cx + cm) (ns + sx + sm) 1899 [some (vA 0), some (vA 1), some (vA 44), some (vA oo), some (vI (i : Nat)), l5, l6] [] F2 A2 al2) :
    QW mL_law D mc ms Post nc ns 375 [some (vA 0), some (vA 1), some (vA 44), some (vA oo), some (vI (i : Nat)), l5, l6] [] F A al := by
  refine q_aload_n eL_375 rfl ?_
  refine q_aload_n eL_376 rfl ?_
  refine q_iload eL_377 rfl ?_
  refine q_iconst eL_379 ?_
  refine q_iadd eL_380 ?_
  refine q_sldE eL_381 hA0 hs (by omega) (by omega) ?_
  refine q_aload_n eL_382 rfl ?_
  refine q_iload eL_383 rfl ?_
  refine q_iconst eL_385 ?_
  refine q_iadd eL_386 ?_
  refine q_sldE eL_387 hA0 hs (by omega) (by omega) ?_
  refine q_aload_n eL_388 rfl ?_
  refine q_callSW [vA 1, vI (S0 ((i : Int) + 1).toNat), vI (S0 ((i : Int) + 2).toNat), vA oo] (M1 := mL_put) eL_389 mfw_put lkw_put (lw_put (D := 58) hK hoo h67 (by omega) evx) nt_PW (by omega) (by omega) (by omega) (Nat.le_of_ble_eq_true rfl) (st := []) rfl (fun v1 F1 A1 al1 h1 => ?_)
  obtain ⟨e1, rfl, f1, a1, ⟨A9, q9, b9⟩, w9⟩ := h1
  obtain rfl := Sum.inl.inj e1
  have hA1 : A1 0 = S0 := (a1 0 (Or.inl rfl)).trans hA0
  refine q_istore eL_392 (by decide) rfl ?_
  refine q_aload_n eL_394 rfl ?_
  refine q_aload_n eL_395 rfl ?_
  refine q_iload eL_396 rfl ?_
  refine q_iconst eL_398 ?_
  refine q_iadd eL_399 ?_
  refine q_sldE eL_400 hA1 hs (by omega) (by omega) ?_
  refine q_aload_n eL_401 rfl ?_
  refine q_iload eL_402 rfl ?_
  refine q_iconst eL_404 ?_
  refine q_iadd eL_405 ?_
  refine q_sldE eL_406 hA1 hs (by omega) (by omega) ?_
  refine q_callV [vI (S0 ((i : Int) + 1).toNat), vI (S0 ((i : Int) + 2).toNat)] (M1 := mX12_put) eL_407 mf_X12_put lk_L_112 (hM 44 (by decide) (by decide)) (evm F1 A1 f1 (fun b h1 h2 => a1 b (Or.inr ⟨h1, h2⟩))) (by intro E F A al h; cases h.1) (by omega) (by omega) (by omega) (Nat.le_of_ble_eq_true rfl) (st := []) rfl (fun v2 F2 A2 al2 h2 => ?_)
  obtain ⟨e2, t2, ke, f2, a2, q2⟩ := h2
  obtain rfl := Sum.inl.inj e2
  have hA2 : A2 0 = S0 := (a2 0 (by omega) (Or.inl (by decide))).trans hA1
  have hx2 : QX F2 A2 := hQX F1 A9 F2 A2 q9 (fun b k hb => f2 b k (by omega) (by omega)) (fun b hb => (a2 b (by omega) (Or.inl hb)).trans (b9 b hb))
  have hM2 : KM al2 := fun a h1 h2 => (ke.2 a (by omega)).trans (hM a h1 h2)
  refine q_istore eL_410 (by decide) rfl ?_
  refine q_aload_n eL_412 rfl ?_
  refine q_callVP [] (M1 := mX12_thrown) eL_413 mf_X12_thrown lk_L_103 (hM2 44 (by decide) (by decide)) (mo_thrown hM2 t2) (by omega) (by omega) (by omega) (Nat.le_of_ble_eq_true rfl) rfl ?_
  refine q_iload eL_416 rfl ?_
  refine q_icmp_same (tgt := 423) eL_418 (by decide) ?_
  refine q_iload eL_423 rfl ?_
  rcases R with _ | a9
  · refine q_if_ne (tgt := 440) eL_425 (by decide) ⟨by decide, by decide⟩ (fun c => ?_) (fun c => absurd c (by decide))
    refine q_goto (tgt := 1899) eL_440 (by decide) ?_
    exact kk F2 A2 al2 _ _ ke hx2 q2 hA2
  · refine q_if_ne (tgt := 440) eL_425 (by decide) inR0 (fun c => absurd (show thE (some a9) = 0 from rfl) c) (fun c => ?_)
    refine q_aload_n eL_428 rfl ?_
    refine q_iconst eL_429 ?_
    refine q_lald eL_430 ((ke.2 oo hot).trans hoo) (by decide) (by decide) ?_
    rw [show A2 oo (0 : Int).toNat = wr a9 from (congrFun (a2 oo hot (Or.inr h67)) 0).trans (w9 a9 rfl)]
    refine q_iload eL_431 rfl ?_
    refine q_i2lw eL_433 ?_
    refine q_lcmp eL_434 (wr_L _) (wr_L _) ?_
    refine q_if_eq (tgt := 440) eL_435 (by decide) (cmpL_R _ _) (fun c => ?_) (fun c => absurd (cmpL_same _) c)
    refine q_goto (tgt := 1899) eL_440 (by decide) ?_
    exact kk F2 A2 al2 _ _ ke hx2 q2 hA2
set_option maxRecDepth 20000 in
theorem st_count {S0 : Nat → Int} {n0 i oo nc ns dx cx sx dm cm sm D mc ms : Nat} {R : Option Int} {QX QM : HF → HA → Prop} {l5 l6 : Option LV} {F : HF} {A : HA} {al : AL} {Post : PO}
    (hK : KX al) (hM : KM al) (hs : al.1 0 = (4, n0)) (hoo : al.1 oo = (2, 1)) (h67 : 67 ≤ oo) (hot : oo < al.2) (hA0 : A 0 = S0) (hi : i + 6 ≤ n0) (hn0 : n0 ≤ 3072)
    (hD : 60 ≤ D) (hdx : dx ≤ 57) (hdm : dm ≤ 57) (hmc : nc + cx + cm ≤ mc) (hms : ns + sx + sm ≤ ms)
    (hQX : ∀ (F1 : HF) (A1 : HA) (F2 : HF) (A2 : HA), QX F1 A1 → (∀ b k, b < 44 → F2 b k = F1 b k) → (∀ b, b < 44 → A2 b = A1 b) → QX F2 A2)
    (evx : QE dx cx sx mX11_count (vA 1 :: [vI (S0 ((i : Int) + 1).toNat)]) F A al (PXR eN R F A al QX))
    (evm : ∀ (F1 : HF) (A1 : HA), (∀ b k, 44 ≤ b → F1 b k = F b k) → (∀ b, 44 ≤ b → b < 67 → A1 b = A b) → QE dm cm sm mX12_count (vA 44 :: [vI (S0 ((i : Int) + 1).toNat)]) F1 A1 al (PMR R F1 A1 al QM))
    (kk : ∀ (F2 : HF) (A2 : HA) (al2 : AL) (l5 l6 : Option LV), KE al.2 al al2 → QX F2 A2 → QM F2 A2 → A2 0 = S0 → QW mL_law D mc ms Post (nc + cx + cm) (ns + sx + sm) 1899 [some (vA 0), some (vA 1), some (vA 44), some (vA oo), some (vI (i : Nat)), l5, l6] [] F2 A2 al2) :
    QW mL_law D mc ms Post nc ns 443 [some (vA 0), some (vA 1), some (vA 44), some (vA oo), some (vI (i : Nat)), l5, l6] [] F A al := by
  refine q_aload_n eL_443 rfl ?_
  refine q_aload_n eL_444 rfl ?_
  refine q_iload eL_445 rfl ?_
  refine q_iconst eL_447 ?_
  refine q_iadd eL_448 ?_
  refine q_sldE eL_449 hA0 hs (by omega) (by omega) ?_
  refine q_aload_n eL_450 rfl ?_
  refine q_callSW [vA 1, vI (S0 ((i : Int) + 1).toNat), vA oo] (M1 := mL_count) eL_451 mfw_count lkw_count (lw_count (D := 58) hK hoo h67 (by omega) evx) nt_PW (by omega) (by omega) (by omega) (Nat.le_of_ble_eq_true rfl) (st := []) rfl (fun v1 F1 A1 al1 h1 => ?_)
  obtain ⟨e1, rfl, f1, a1, ⟨A9, q9, b9⟩, w9⟩ := h1
  obtain rfl := Sum.inl.inj e1
  have hA1 : A1 0 = S0 := (a1 0 (Or.inl rfl)).trans hA0
  refine q_istore eL_454 (by decide) rfl ?_
  refine q_aload_n eL_456 rfl ?_
  refine q_aload_n eL_457 rfl ?_
  refine q_iload eL_458 rfl ?_
  refine q_iconst eL_460 ?_
  refine q_iadd eL_461 ?_
  refine q_sldE eL_462 hA1 hs (by omega) (by omega) ?_
  refine q_callV [vI (S0 ((i : Int) + 1).toNat)] (M1 := mX12_count) eL_463 mf_X12_count lk_L_116 (hM 44 (by decide) (by decide)) (evm F1 A1 f1 (fun b h1 h2 => a1 b (Or.inr ⟨h1, h2⟩))) (by intro E F A al h; cases h.1) (by omega) (by omega) (by omega) (Nat.le_of_ble_eq_true rfl) (st := []) rfl (fun v2 F2 A2 al2 h2 => ?_)
  obtain ⟨e2, t2, ke, f2, a2, q2⟩ := h2
  obtain rfl := Sum.inl.inj e2
  have hA2 : A2 0 = S0 := (a2 0 (by omega) (Or.inl (by decide))).trans hA1
  have hx2 : QX F2 A2 := hQX F1 A9 F2 A2 q9 (fun b k hb => f2 b k (by omega) (by omega)) (fun b hb => (a2 b (by omega) (Or.inl hb)).trans (b9 b hb))
  have hM2 : KM al2 := fun a h1 h2 => (ke.2 a (by omega)).trans (hM a h1 h2)
  refine q_istore eL_466 (by decide) rfl ?_
  refine q_aload_n eL_468 rfl ?_
  refine q_callVP [] (M1 := mX12_thrown) eL_469 mf_X12_thrown lk_L_103 (hM2 44 (by decide) (by decide)) (mo_thrown hM2 t2) (by omega) (by omega) (by omega) (Nat.le_of_ble_eq_true rfl) rfl ?_
  refine q_iload eL_472 rfl ?_
  refine q_icmp_same (tgt := 479) eL_474 (by decide) ?_
  refine q_iload eL_479 rfl ?_
  rcases R with _ | a9
  · refine q_if_ne (tgt := 496) eL_481 (by decide) ⟨by decide, by decide⟩ (fun c => ?_) (fun c => absurd c (by decide))
    refine q_goto (tgt := 1899) eL_496 (by decide) ?_
    exact kk F2 A2 al2 _ _ ke hx2 q2 hA2
  · refine q_if_ne (tgt := 496) eL_481 (by decide) inR0 (fun c => absurd (show thE (some a9) = 0 from rfl) c) (fun c => ?_)
    refine q_aload_n eL_484 rfl ?_
    refine q_iconst eL_485 ?_
    refine q_lald eL_486 ((ke.2 oo hot).trans hoo) (by decide) (by decide) ?_
    rw [show A2 oo (0 : Int).toNat = wr a9 from (congrFun (a2 oo hot (Or.inr h67)) 0).trans (w9 a9 rfl)]
    refine q_iload eL_487 rfl ?_
    refine q_i2lw eL_489 ?_
    refine q_lcmp eL_490 (wr_L _) (wr_L _) ?_
    refine q_if_eq (tgt := 496) eL_491 (by decide) (cmpL_R _ _) (fun c => ?_) (fun c => absurd (cmpL_same _) c)
    refine q_goto (tgt := 1899) eL_496 (by decide) ?_
    exact kk F2 A2 al2 _ _ ke hx2 q2 hA2
set_option maxRecDepth 20000 in
theorem st_modulus {S0 : Nat → Int} {n0 i oo nc ns dx cx sx dm cm sm D mc ms : Nat} {R : Option Int} {QX QM : HF → HA → Prop} {l5 l6 : Option LV} {F : HF} {A : HA} {al : AL} {Post : PO}
    (hK : KX al) (hM : KM al) (hs : al.1 0 = (4, n0)) (hoo : al.1 oo = (2, 1)) (h67 : 67 ≤ oo) (hot : oo < al.2) (hA0 : A 0 = S0) (hi : i + 6 ≤ n0) (hn0 : n0 ≤ 3072)
    (hD : 60 ≤ D) (hdx : dx ≤ 57) (hdm : dm ≤ 57) (hmc : nc + cx + cm ≤ mc) (hms : ns + sx + sm ≤ ms)
    (hQX : ∀ (F1 : HF) (A1 : HA) (F2 : HF) (A2 : HA), QX F1 A1 → (∀ b k, b < 44 → F2 b k = F1 b k) → (∀ b, b < 44 → A2 b = A1 b) → QX F2 A2)
    (evx : QE dx cx sx mX11_modulus (vA 1 :: [vI (S0 ((i : Int) + 1).toNat)]) F A al (PXR eN R F A al QX))
    (evm : ∀ (F1 : HF) (A1 : HA), (∀ b k, 44 ≤ b → F1 b k = F b k) → (∀ b, 44 ≤ b → b < 67 → A1 b = A b) → QE dm cm sm mX12_modulus (vA 44 :: [vI (S0 ((i : Int) + 1).toNat)]) F1 A1 al (PMR R F1 A1 al QM))
    (kk : ∀ (F2 : HF) (A2 : HA) (al2 : AL) (l5 l6 : Option LV), KE al.2 al al2 → QX F2 A2 → QM F2 A2 → A2 0 = S0 → QW mL_law D mc ms Post (nc + cx + cm) (ns + sx + sm) 1899 [some (vA 0), some (vA 1), some (vA 44), some (vA oo), some (vI (i : Nat)), l5, l6] [] F2 A2 al2) :
    QW mL_law D mc ms Post nc ns 499 [some (vA 0), some (vA 1), some (vA 44), some (vA oo), some (vI (i : Nat)), l5, l6] [] F A al := by
  refine q_aload_n eL_499 rfl ?_
  refine q_aload_n eL_500 rfl ?_
  refine q_iload eL_501 rfl ?_
  refine q_iconst eL_503 ?_
  refine q_iadd eL_504 ?_
  refine q_sldE eL_505 hA0 hs (by omega) (by omega) ?_
  refine q_aload_n eL_506 rfl ?_
  refine q_callSW [vA 1, vI (S0 ((i : Int) + 1).toNat), vA oo] (M1 := mL_modulus) eL_507 mfw_modulus lkw_modulus (lw_modulus (D := 58) hK hoo h67 (by omega) evx) nt_PW (by omega) (by omega) (by omega) (Nat.le_of_ble_eq_true rfl) (st := []) rfl (fun v1 F1 A1 al1 h1 => ?_)
  obtain ⟨e1, rfl, f1, a1, ⟨A9, q9, b9⟩, w9⟩ := h1
  obtain rfl := Sum.inl.inj e1
  have hA1 : A1 0 = S0 := (a1 0 (Or.inl rfl)).trans hA0
  refine q_istore eL_510 (by decide) rfl ?_
  refine q_aload_n eL_512 rfl ?_
  refine q_aload_n eL_513 rfl ?_
  refine q_iload eL_514 rfl ?_
  refine q_iconst eL_516 ?_
  refine q_iadd eL_517 ?_
  refine q_sldE eL_518 hA1 hs (by omega) (by omega) ?_
  refine q_callV [vI (S0 ((i : Int) + 1).toNat)] (M1 := mX12_modulus) eL_519 mf_X12_modulus lk_L_119 (hM 44 (by decide) (by decide)) (evm F1 A1 f1 (fun b h1 h2 => a1 b (Or.inr ⟨h1, h2⟩))) (by intro E F A al h; cases h.1) (by omega) (by omega) (by omega) (Nat.le_of_ble_eq_true rfl) (st := []) rfl (fun v2 F2 A2 al2 h2 => ?_)
  obtain ⟨e2, t2, ke, f2, a2, q2⟩ := h2
  obtain rfl := Sum.inl.inj e2
  have hA2 : A2 0 = S0 := (a2 0 (by omega) (Or.inl (by decide))).trans hA1
  have hx2 : QX F2 A2 := hQX F1 A9 F2 A2 q9 (fun b k hb => f2 b k (by omega) (by omega)) (fun b hb => (a2 b (by omega) (Or.inl hb)).trans (b9 b hb))
  have hM2 : KM al2 := fun a h1 h2 => (ke.2 a (by omega)).trans (hM a h1 h2)
  refine q_istore eL_522 (by decide) rfl ?_
  refine q_aload_n eL_524 rfl ?_
  refine q_callVP [] (M1 := mX12_thrown) eL_525 mf_X12_thrown lk_L_103 (hM2 44 (by decide) (by decide)) (mo_thrown hM2 t2) (by omega) (by omega) (by omega) (Nat.le_of_ble_eq_true rfl) rfl ?_
  refine q_iload eL_528 rfl ?_
  refine q_icmp_same (tgt := 535) eL_530 (by decide) ?_
  refine q_iload eL_535 rfl ?_
  rcases R with _ | a9
  · refine q_if_ne (tgt := 552) eL_537 (by decide) ⟨by decide, by decide⟩ (fun c => ?_) (fun c => absurd c (by decide))
    refine q_goto (tgt := 1899) eL_552 (by decide) ?_
    exact kk F2 A2 al2 _ _ ke hx2 q2 hA2
  · refine q_if_ne (tgt := 552) eL_537 (by decide) inR0 (fun c => absurd (show thE (some a9) = 0 from rfl) c) (fun c => ?_)
    refine q_aload_n eL_540 rfl ?_
    refine q_iconst eL_541 ?_
    refine q_lald eL_542 ((ke.2 oo hot).trans hoo) (by decide) (by decide) ?_
    rw [show A2 oo (0 : Int).toNat = wr a9 from (congrFun (a2 oo hot (Or.inr h67)) 0).trans (w9 a9 rfl)]
    refine q_iload eL_543 rfl ?_
    refine q_i2lw eL_545 ?_
    refine q_lcmp eL_546 (wr_L _) (wr_L _) ?_
    refine q_if_eq (tgt := 552) eL_547 (by decide) (cmpL_R _ _) (fun c => ?_) (fun c => absurd (cmpL_same _) c)
    refine q_goto (tgt := 1899) eL_552 (by decide) ?_
    exact kk F2 A2 al2 _ _ ke hx2 q2 hA2
set_option maxRecDepth 20000 in
theorem st_element {S0 : Nat → Int} {n0 i oo nc ns dx cx sx dm cm sm D mc ms : Nat} {R : Option Int} {QX QM : HF → HA → Prop} {l5 l6 : Option LV} {F : HF} {A : HA} {al : AL} {Post : PO}
    (hK : KX al) (hM : KM al) (hs : al.1 0 = (4, n0)) (hoo : al.1 oo = (2, 1)) (h67 : 67 ≤ oo) (hot : oo < al.2) (hA0 : A 0 = S0) (hi : i + 6 ≤ n0) (hn0 : n0 ≤ 3072)
    (hD : 60 ≤ D) (hdx : dx ≤ 57) (hdm : dm ≤ 57) (hmc : nc + cx + cm ≤ mc) (hms : ns + sx + sm ≤ ms)
    (hQX : ∀ (F1 : HF) (A1 : HA) (F2 : HF) (A2 : HA), QX F1 A1 → (∀ b k, b < 44 → F2 b k = F1 b k) → (∀ b, b < 44 → A2 b = A1 b) → QX F2 A2)
    (evx : QE dx cx sx mX11_element (vA 1 :: [vI (S0 ((i : Int) + 1).toNat), vI (S0 ((i : Int) + 2).toNat), vI (S0 ((i : Int) + 3).toNat)]) F A al (PXR eN R F A al QX))
    (evm : ∀ (F1 : HF) (A1 : HA), (∀ b k, 44 ≤ b → F1 b k = F b k) → (∀ b, 44 ≤ b → b < 67 → A1 b = A b) → QE dm cm sm mX12_element (vA 44 :: [vI (S0 ((i : Int) + 1).toNat), vI (S0 ((i : Int) + 2).toNat), vI (S0 ((i : Int) + 3).toNat)]) F1 A1 al (PMR R F1 A1 al QM))
    (kk : ∀ (F2 : HF) (A2 : HA) (al2 : AL) (l5 l6 : Option LV), KE al.2 al al2 → QX F2 A2 → QM F2 A2 → A2 0 = S0 → QW mL_law D mc ms Post (nc + cx + cm) (ns + sx + sm) 1899 [some (vA 0), some (vA 1), some (vA 44), some (vA oo), some (vI (i : Nat)), l5, l6] [] F2 A2 al2) :
    QW mL_law D mc ms Post nc ns 555 [some (vA 0), some (vA 1), some (vA 44), some (vA oo), some (vI (i : Nat)), l5, l6] [] F A al := by
  refine q_aload_n eL_555 rfl ?_
  refine q_aload_n eL_556 rfl ?_
  refine q_iload eL_557 rfl ?_
  refine q_iconst eL_559 ?_
  refine q_iadd eL_560 ?_
  refine q_sldE eL_561 hA0 hs (by omega) (by omega) ?_
  refine q_aload_n eL_562 rfl ?_
  refine q_iload eL_563 rfl ?_
  refine q_iconst eL_565 ?_
  refine q_iadd eL_566 ?_
  refine q_sldE eL_567 hA0 hs (by omega) (by omega) ?_
  refine q_aload_n eL_568 rfl ?_
  refine q_iload eL_569 rfl ?_
  refine q_iconst eL_571 ?_
  refine q_iadd eL_572 ?_
  refine q_sldE eL_573 hA0 hs (by omega) (by omega) ?_
  refine q_aload_n eL_574 rfl ?_
  refine q_callSW [vA 1, vI (S0 ((i : Int) + 1).toNat), vI (S0 ((i : Int) + 2).toNat), vI (S0 ((i : Int) + 3).toNat), vA oo] (M1 := mL_element) eL_575 mfw_element lkw_element (lw_element (D := 58) hK hoo h67 (by omega) evx) nt_PW (by omega) (by omega) (by omega) (Nat.le_of_ble_eq_true rfl) (st := []) rfl (fun v1 F1 A1 al1 h1 => ?_)
  obtain ⟨e1, rfl, f1, a1, ⟨A9, q9, b9⟩, w9⟩ := h1
  obtain rfl := Sum.inl.inj e1
  have hA1 : A1 0 = S0 := (a1 0 (Or.inl rfl)).trans hA0
  refine q_istore eL_578 (by decide) rfl ?_
  refine q_aload_n eL_580 rfl ?_
  refine q_aload_n eL_581 rfl ?_
  refine q_iload eL_582 rfl ?_
  refine q_iconst eL_584 ?_
  refine q_iadd eL_585 ?_
  refine q_sldE eL_586 hA1 hs (by omega) (by omega) ?_
  refine q_aload_n eL_587 rfl ?_
  refine q_iload eL_588 rfl ?_
  refine q_iconst eL_590 ?_
  refine q_iadd eL_591 ?_
  refine q_sldE eL_592 hA1 hs (by omega) (by omega) ?_
  refine q_aload_n eL_593 rfl ?_
  refine q_iload eL_594 rfl ?_
  refine q_iconst eL_596 ?_
  refine q_iadd eL_597 ?_
  refine q_sldE eL_598 hA1 hs (by omega) (by omega) ?_
  refine q_callV [vI (S0 ((i : Int) + 1).toNat), vI (S0 ((i : Int) + 2).toNat), vI (S0 ((i : Int) + 3).toNat)] (M1 := mX12_element) eL_599 mf_X12_element lk_L_123 (hM 44 (by decide) (by decide)) (evm F1 A1 f1 (fun b h1 h2 => a1 b (Or.inr ⟨h1, h2⟩))) (by intro E F A al h; cases h.1) (by omega) (by omega) (by omega) (Nat.le_of_ble_eq_true rfl) (st := []) rfl (fun v2 F2 A2 al2 h2 => ?_)
  obtain ⟨e2, t2, ke, f2, a2, q2⟩ := h2
  obtain rfl := Sum.inl.inj e2
  have hA2 : A2 0 = S0 := (a2 0 (by omega) (Or.inl (by decide))).trans hA1
  have hx2 : QX F2 A2 := hQX F1 A9 F2 A2 q9 (fun b k hb => f2 b k (by omega) (by omega)) (fun b hb => (a2 b (by omega) (Or.inl hb)).trans (b9 b hb))
  have hM2 : KM al2 := fun a h1 h2 => (ke.2 a (by omega)).trans (hM a h1 h2)
  refine q_istore eL_602 (by decide) rfl ?_
  refine q_aload_n eL_604 rfl ?_
  refine q_callVP [] (M1 := mX12_thrown) eL_605 mf_X12_thrown lk_L_103 (hM2 44 (by decide) (by decide)) (mo_thrown hM2 t2) (by omega) (by omega) (by omega) (Nat.le_of_ble_eq_true rfl) rfl ?_
  refine q_iload eL_608 rfl ?_
  refine q_icmp_same (tgt := 615) eL_610 (by decide) ?_
  refine q_iload eL_615 rfl ?_
  rcases R with _ | a9
  · refine q_if_ne (tgt := 632) eL_617 (by decide) ⟨by decide, by decide⟩ (fun c => ?_) (fun c => absurd c (by decide))
    refine q_goto (tgt := 1899) eL_632 (by decide) ?_
    exact kk F2 A2 al2 _ _ ke hx2 q2 hA2
  · refine q_if_ne (tgt := 632) eL_617 (by decide) inR0 (fun c => absurd (show thE (some a9) = 0 from rfl) c) (fun c => ?_)
    refine q_aload_n eL_620 rfl ?_
    refine q_iconst eL_621 ?_
    refine q_lald eL_622 ((ke.2 oo hot).trans hoo) (by decide) (by decide) ?_
    rw [show A2 oo (0 : Int).toNat = wr a9 from (congrFun (a2 oo hot (Or.inr h67)) 0).trans (w9 a9 rfl)]
    refine q_iload eL_623 rfl ?_
    refine q_i2lw eL_625 ?_
    refine q_lcmp eL_626 (wr_L _) (wr_L _) ?_
    refine q_if_eq (tgt := 632) eL_627 (by decide) (cmpL_R _ _) (fun c => ?_) (fun c => absurd (cmpL_same _) c)
    refine q_goto (tgt := 1899) eL_632 (by decide) ?_
    exact kk F2 A2 al2 _ _ ke hx2 q2 hA2
set_option maxRecDepth 20000 in
theorem st_of {S0 : Nat → Int} {n0 i oo nc ns dx cx sx dm cm sm D mc ms : Nat} {R : Option Int} {QX QM : HF → HA → Prop} {l5 l6 : Option LV} {F : HF} {A : HA} {al : AL} {Post : PO}
    (hK : KX al) (hM : KM al) (hs : al.1 0 = (4, n0)) (hoo : al.1 oo = (2, 1)) (h67 : 67 ≤ oo) (hot : oo < al.2) (hA0 : A 0 = S0) (hi : i + 6 ≤ n0) (hn0 : n0 ≤ 3072)
    (hD : 60 ≤ D) (hdx : dx ≤ 57) (hdm : dm ≤ 57) (hmc : nc + cx + cm ≤ mc) (hms : ns + sx + sm ≤ ms)
    (hQX : ∀ (F1 : HF) (A1 : HA) (F2 : HF) (A2 : HA), QX F1 A1 → (∀ b k, b < 44 → F2 b k = F1 b k) → (∀ b, b < 44 → A2 b = A1 b) → QX F2 A2)
    (evx : QE dx cx sx mX11_of (vA 1 :: [vI (S0 ((i : Int) + 1).toNat), vI (S0 ((i : Int) + 2).toNat)]) F A al (PXR eN R F A al QX))
    (evm : ∀ (F1 : HF) (A1 : HA), (∀ b k, 44 ≤ b → F1 b k = F b k) → (∀ b, 44 ≤ b → b < 67 → A1 b = A b) → QE dm cm sm mX12_of (vA 44 :: [vI (S0 ((i : Int) + 1).toNat), vI (S0 ((i : Int) + 2).toNat)]) F1 A1 al (PMR R F1 A1 al QM))
    (kk : ∀ (F2 : HF) (A2 : HA) (al2 : AL) (l5 l6 : Option LV), KE al.2 al al2 → QX F2 A2 → QM F2 A2 → A2 0 = S0 → QW mL_law D mc ms Post (nc + cx + cm) (ns + sx + sm) 1899 [some (vA 0), some (vA 1), some (vA 44), some (vA oo), some (vI (i : Nat)), l5, l6] [] F2 A2 al2) :
    QW mL_law D mc ms Post nc ns 635 [some (vA 0), some (vA 1), some (vA 44), some (vA oo), some (vI (i : Nat)), l5, l6] [] F A al := by
  refine q_aload_n eL_635 rfl ?_
  refine q_aload_n eL_636 rfl ?_
  refine q_iload eL_637 rfl ?_
  refine q_iconst eL_639 ?_
  refine q_iadd eL_640 ?_
  refine q_sldE eL_641 hA0 hs (by omega) (by omega) ?_
  refine q_aload_n eL_642 rfl ?_
  refine q_iload eL_643 rfl ?_
  refine q_iconst eL_645 ?_
  refine q_iadd eL_646 ?_
  refine q_sldE eL_647 hA0 hs (by omega) (by omega) ?_
  refine q_aload_n eL_648 rfl ?_
  refine q_callSW [vA 1, vI (S0 ((i : Int) + 1).toNat), vI (S0 ((i : Int) + 2).toNat), vA oo] (M1 := mL_of) eL_649 mfw_of lkw_of (lw_of (D := 58) hK hoo h67 (by omega) evx) nt_PW (by omega) (by omega) (by omega) (Nat.le_of_ble_eq_true rfl) (st := []) rfl (fun v1 F1 A1 al1 h1 => ?_)
  obtain ⟨e1, rfl, f1, a1, ⟨A9, q9, b9⟩, w9⟩ := h1
  obtain rfl := Sum.inl.inj e1
  have hA1 : A1 0 = S0 := (a1 0 (Or.inl rfl)).trans hA0
  refine q_istore eL_652 (by decide) rfl ?_
  refine q_aload_n eL_654 rfl ?_
  refine q_aload_n eL_655 rfl ?_
  refine q_iload eL_656 rfl ?_
  refine q_iconst eL_658 ?_
  refine q_iadd eL_659 ?_
  refine q_sldE eL_660 hA1 hs (by omega) (by omega) ?_
  refine q_aload_n eL_661 rfl ?_
  refine q_iload eL_662 rfl ?_
  refine q_iconst eL_664 ?_
  refine q_iadd eL_665 ?_
  refine q_sldE eL_666 hA1 hs (by omega) (by omega) ?_
  refine q_callV [vI (S0 ((i : Int) + 1).toNat), vI (S0 ((i : Int) + 2).toNat)] (M1 := mX12_of) eL_667 mf_X12_of lk_L_126 (hM 44 (by decide) (by decide)) (evm F1 A1 f1 (fun b h1 h2 => a1 b (Or.inr ⟨h1, h2⟩))) (by intro E F A al h; cases h.1) (by omega) (by omega) (by omega) (Nat.le_of_ble_eq_true rfl) (st := []) rfl (fun v2 F2 A2 al2 h2 => ?_)
  obtain ⟨e2, t2, ke, f2, a2, q2⟩ := h2
  obtain rfl := Sum.inl.inj e2
  have hA2 : A2 0 = S0 := (a2 0 (by omega) (Or.inl (by decide))).trans hA1
  have hx2 : QX F2 A2 := hQX F1 A9 F2 A2 q9 (fun b k hb => f2 b k (by omega) (by omega)) (fun b hb => (a2 b (by omega) (Or.inl hb)).trans (b9 b hb))
  have hM2 : KM al2 := fun a h1 h2 => (ke.2 a (by omega)).trans (hM a h1 h2)
  refine q_istore eL_670 (by decide) rfl ?_
  refine q_aload_n eL_672 rfl ?_
  refine q_callVP [] (M1 := mX12_thrown) eL_673 mf_X12_thrown lk_L_103 (hM2 44 (by decide) (by decide)) (mo_thrown hM2 t2) (by omega) (by omega) (by omega) (Nat.le_of_ble_eq_true rfl) rfl ?_
  refine q_iload eL_676 rfl ?_
  refine q_icmp_same (tgt := 683) eL_678 (by decide) ?_
  refine q_iload eL_683 rfl ?_
  rcases R with _ | a9
  · refine q_if_ne (tgt := 700) eL_685 (by decide) ⟨by decide, by decide⟩ (fun c => ?_) (fun c => absurd c (by decide))
    refine q_goto (tgt := 1899) eL_700 (by decide) ?_
    exact kk F2 A2 al2 _ _ ke hx2 q2 hA2
  · refine q_if_ne (tgt := 700) eL_685 (by decide) inR0 (fun c => absurd (show thE (some a9) = 0 from rfl) c) (fun c => ?_)
    refine q_aload_n eL_688 rfl ?_
    refine q_iconst eL_689 ?_
    refine q_lald eL_690 ((ke.2 oo hot).trans hoo) (by decide) (by decide) ?_
    rw [show A2 oo (0 : Int).toNat = wr a9 from (congrFun (a2 oo hot (Or.inr h67)) 0).trans (w9 a9 rfl)]
    refine q_iload eL_691 rfl ?_
    refine q_i2lw eL_693 ?_
    refine q_lcmp eL_694 (wr_L _) (wr_L _) ?_
    refine q_if_eq (tgt := 700) eL_695 (by decide) (cmpL_R _ _) (fun c => ?_) (fun c => absurd (cmpL_same _) c)
    refine q_goto (tgt := 1899) eL_700 (by decide) ?_
    exact kk F2 A2 al2 _ _ ke hx2 q2 hA2
set_option maxRecDepth 20000 in
theorem st_digit {S0 : Nat → Int} {n0 i oo nc ns dx cx sx dm cm sm D mc ms : Nat} {R : Option Int} {QX QM : HF → HA → Prop} {l5 l6 : Option LV} {F : HF} {A : HA} {al : AL} {Post : PO}
    (hK : KX al) (hM : KM al) (hs : al.1 0 = (4, n0)) (hoo : al.1 oo = (2, 1)) (h67 : 67 ≤ oo) (hot : oo < al.2) (hA0 : A 0 = S0) (hi : i + 6 ≤ n0) (hn0 : n0 ≤ 3072)
    (hD : 60 ≤ D) (hdx : dx ≤ 57) (hdm : dm ≤ 57) (hmc : nc + cx + cm ≤ mc) (hms : ns + sx + sm ≤ ms)
    (hQX : ∀ (F1 : HF) (A1 : HA) (F2 : HF) (A2 : HA), QX F1 A1 → (∀ b k, b < 44 → F2 b k = F1 b k) → (∀ b, b < 44 → A2 b = A1 b) → QX F2 A2)
    (evx : QE dx cx sx mX11_digit (vA 1 :: [vI (S0 ((i : Int) + 1).toNat), vI (S0 ((i : Int) + 2).toNat)]) F A al (PXR eN R F A al QX))
    (evm : ∀ (F1 : HF) (A1 : HA), (∀ b k, 44 ≤ b → F1 b k = F b k) → (∀ b, 44 ≤ b → b < 67 → A1 b = A b) → QE dm cm sm mX12_digit (vA 44 :: [vI (S0 ((i : Int) + 1).toNat), vI (S0 ((i : Int) + 2).toNat)]) F1 A1 al (PMR R F1 A1 al QM))
    (kk : ∀ (F2 : HF) (A2 : HA) (al2 : AL) (l5 l6 : Option LV), KE al.2 al al2 → QX F2 A2 → QM F2 A2 → A2 0 = S0 → QW mL_law D mc ms Post (nc + cx + cm) (ns + sx + sm) 1899 [some (vA 0), some (vA 1), some (vA 44), some (vA oo), some (vI (i : Nat)), l5, l6] [] F2 A2 al2) :
    QW mL_law D mc ms Post nc ns 703 [some (vA 0), some (vA 1), some (vA 44), some (vA oo), some (vI (i : Nat)), l5, l6] [] F A al := by
  refine q_aload_n eL_703 rfl ?_
  refine q_aload_n eL_704 rfl ?_
  refine q_iload eL_705 rfl ?_
  refine q_iconst eL_707 ?_
  refine q_iadd eL_708 ?_
  refine q_sldE eL_709 hA0 hs (by omega) (by omega) ?_
  refine q_aload_n eL_710 rfl ?_
  refine q_iload eL_711 rfl ?_
  refine q_iconst eL_713 ?_
  refine q_iadd eL_714 ?_
  refine q_sldE eL_715 hA0 hs (by omega) (by omega) ?_
  refine q_aload_n eL_716 rfl ?_
  refine q_callSW [vA 1, vI (S0 ((i : Int) + 1).toNat), vI (S0 ((i : Int) + 2).toNat), vA oo] (M1 := mL_digit) eL_717 mfw_digit lkw_digit (lw_digit (D := 58) hK hoo h67 (by omega) evx) nt_PW (by omega) (by omega) (by omega) (Nat.le_of_ble_eq_true rfl) (st := []) rfl (fun v1 F1 A1 al1 h1 => ?_)
  obtain ⟨e1, rfl, f1, a1, ⟨A9, q9, b9⟩, w9⟩ := h1
  obtain rfl := Sum.inl.inj e1
  have hA1 : A1 0 = S0 := (a1 0 (Or.inl rfl)).trans hA0
  refine q_istore eL_720 (by decide) rfl ?_
  refine q_aload_n eL_722 rfl ?_
  refine q_aload_n eL_723 rfl ?_
  refine q_iload eL_724 rfl ?_
  refine q_iconst eL_726 ?_
  refine q_iadd eL_727 ?_
  refine q_sldE eL_728 hA1 hs (by omega) (by omega) ?_
  refine q_aload_n eL_729 rfl ?_
  refine q_iload eL_730 rfl ?_
  refine q_iconst eL_732 ?_
  refine q_iadd eL_733 ?_
  refine q_sldE eL_734 hA1 hs (by omega) (by omega) ?_
  refine q_callV [vI (S0 ((i : Int) + 1).toNat), vI (S0 ((i : Int) + 2).toNat)] (M1 := mX12_digit) eL_735 mf_X12_digit lk_L_129 (hM 44 (by decide) (by decide)) (evm F1 A1 f1 (fun b h1 h2 => a1 b (Or.inr ⟨h1, h2⟩))) (by intro E F A al h; cases h.1) (by omega) (by omega) (by omega) (Nat.le_of_ble_eq_true rfl) (st := []) rfl (fun v2 F2 A2 al2 h2 => ?_)
  obtain ⟨e2, t2, ke, f2, a2, q2⟩ := h2
  obtain rfl := Sum.inl.inj e2
  have hA2 : A2 0 = S0 := (a2 0 (by omega) (Or.inl (by decide))).trans hA1
  have hx2 : QX F2 A2 := hQX F1 A9 F2 A2 q9 (fun b k hb => f2 b k (by omega) (by omega)) (fun b hb => (a2 b (by omega) (Or.inl hb)).trans (b9 b hb))
  have hM2 : KM al2 := fun a h1 h2 => (ke.2 a (by omega)).trans (hM a h1 h2)
  refine q_istore eL_738 (by decide) rfl ?_
  refine q_aload_n eL_740 rfl ?_
  refine q_callVP [] (M1 := mX12_thrown) eL_741 mf_X12_thrown lk_L_103 (hM2 44 (by decide) (by decide)) (mo_thrown hM2 t2) (by omega) (by omega) (by omega) (Nat.le_of_ble_eq_true rfl) rfl ?_
  refine q_iload eL_744 rfl ?_
  refine q_icmp_same (tgt := 751) eL_746 (by decide) ?_
  refine q_iload eL_751 rfl ?_
  rcases R with _ | a9
  · refine q_if_ne (tgt := 768) eL_753 (by decide) ⟨by decide, by decide⟩ (fun c => ?_) (fun c => absurd c (by decide))
    refine q_goto (tgt := 1899) eL_768 (by decide) ?_
    exact kk F2 A2 al2 _ _ ke hx2 q2 hA2
  · refine q_if_ne (tgt := 768) eL_753 (by decide) inR0 (fun c => absurd (show thE (some a9) = 0 from rfl) c) (fun c => ?_)
    refine q_aload_n eL_756 rfl ?_
    refine q_iconst eL_757 ?_
    refine q_lald eL_758 ((ke.2 oo hot).trans hoo) (by decide) (by decide) ?_
    rw [show A2 oo (0 : Int).toNat = wr a9 from (congrFun (a2 oo hot (Or.inr h67)) 0).trans (w9 a9 rfl)]
    refine q_iload eL_759 rfl ?_
    refine q_i2lw eL_761 ?_
    refine q_lcmp eL_762 (wr_L _) (wr_L _) ?_
    refine q_if_eq (tgt := 768) eL_763 (by decide) (cmpL_R _ _) (fun c => ?_) (fun c => absurd (cmpL_same _) c)
    refine q_goto (tgt := 1899) eL_768 (by decide) ?_
    exact kk F2 A2 al2 _ _ ke hx2 q2 hA2
set_option maxRecDepth 20000 in
theorem st_whole {S0 : Nat → Int} {n0 i oo nc ns dx cx sx dm cm sm D mc ms : Nat} {R : Option Int} {QX QM : HF → HA → Prop} {l5 l6 : Option LV} {F : HF} {A : HA} {al : AL} {Post : PO}
    (hK : KX al) (hM : KM al) (hs : al.1 0 = (4, n0)) (hoo : al.1 oo = (2, 1)) (h67 : 67 ≤ oo) (hot : oo < al.2) (hA0 : A 0 = S0) (hi : i + 6 ≤ n0) (hn0 : n0 ≤ 3072)
    (hD : 60 ≤ D) (hdx : dx ≤ 57) (hdm : dm ≤ 57) (hmc : nc + cx + cm ≤ mc) (hms : ns + sx + sm ≤ ms)
    (hQX : ∀ (F1 : HF) (A1 : HA) (F2 : HF) (A2 : HA), QX F1 A1 → (∀ b k, b < 44 → F2 b k = F1 b k) → (∀ b, b < 44 → A2 b = A1 b) → QX F2 A2)
    (evx : QE dx cx sx mX11_whole (vA 1 :: [vI (S0 ((i : Int) + 1).toNat), vI (S0 ((i : Int) + 2).toNat), vI (S0 ((i : Int) + 3).toNat), vI (S0 ((i : Int) + 4).toNat)]) F A al (PXR eN R F A al QX))
    (evm : ∀ (F1 : HF) (A1 : HA), (∀ b k, 44 ≤ b → F1 b k = F b k) → (∀ b, 44 ≤ b → b < 67 → A1 b = A b) → QE dm cm sm mX12_whole (vA 44 :: [vI (S0 ((i : Int) + 1).toNat), vI (S0 ((i : Int) + 2).toNat), vI (S0 ((i : Int) + 3).toNat), vI (S0 ((i : Int) + 4).toNat)]) F1 A1 al (PMR R F1 A1 al QM))
    (kk : ∀ (F2 : HF) (A2 : HA) (al2 : AL) (l5 l6 : Option LV), KE al.2 al al2 → QX F2 A2 → QM F2 A2 → A2 0 = S0 → QW mL_law D mc ms Post (nc + cx + cm) (ns + sx + sm) 1899 [some (vA 0), some (vA 1), some (vA 44), some (vA oo), some (vI (i : Nat)), l5, l6] [] F2 A2 al2) :
    QW mL_law D mc ms Post nc ns 771 [some (vA 0), some (vA 1), some (vA 44), some (vA oo), some (vI (i : Nat)), l5, l6] [] F A al := by
  refine q_aload_n eL_771 rfl ?_
  refine q_aload_n eL_772 rfl ?_
  refine q_iload eL_773 rfl ?_
  refine q_iconst eL_775 ?_
  refine q_iadd eL_776 ?_
  refine q_sldE eL_777 hA0 hs (by omega) (by omega) ?_
  refine q_aload_n eL_778 rfl ?_
  refine q_iload eL_779 rfl ?_
  refine q_iconst eL_781 ?_
  refine q_iadd eL_782 ?_
  refine q_sldE eL_783 hA0 hs (by omega) (by omega) ?_
  refine q_aload_n eL_784 rfl ?_
  refine q_iload eL_785 rfl ?_
  refine q_iconst eL_787 ?_
  refine q_iadd eL_788 ?_
  refine q_sldE eL_789 hA0 hs (by omega) (by omega) ?_
  refine q_aload_n eL_790 rfl ?_
  refine q_iload eL_791 rfl ?_
  refine q_iconst eL_793 ?_
  refine q_iadd eL_794 ?_
  refine q_sldE eL_795 hA0 hs (by omega) (by omega) ?_
  refine q_aload_n eL_796 rfl ?_
  refine q_callSW [vA 1, vI (S0 ((i : Int) + 1).toNat), vI (S0 ((i : Int) + 2).toNat), vI (S0 ((i : Int) + 3).toNat), vI (S0 ((i : Int) + 4).toNat), vA oo] (M1 := mL_whole) eL_797 mfw_whole lkw_whole (lw_whole (D := 58) hK hoo h67 (by omega) evx) nt_PW (by omega) (by omega) (by omega) (Nat.le_of_ble_eq_true rfl) (st := []) rfl (fun v1 F1 A1 al1 h1 => ?_)
  obtain ⟨e1, rfl, f1, a1, ⟨A9, q9, b9⟩, w9⟩ := h1
  obtain rfl := Sum.inl.inj e1
  have hA1 : A1 0 = S0 := (a1 0 (Or.inl rfl)).trans hA0
  refine q_istore eL_800 (by decide) rfl ?_
  refine q_aload_n eL_802 rfl ?_
  refine q_aload_n eL_803 rfl ?_
  refine q_iload eL_804 rfl ?_
  refine q_iconst eL_806 ?_
  refine q_iadd eL_807 ?_
  refine q_sldE eL_808 hA1 hs (by omega) (by omega) ?_
  refine q_aload_n eL_809 rfl ?_
  refine q_iload eL_810 rfl ?_
  refine q_iconst eL_812 ?_
  refine q_iadd eL_813 ?_
  refine q_sldE eL_814 hA1 hs (by omega) (by omega) ?_
  refine q_aload_n eL_815 rfl ?_
  refine q_iload eL_816 rfl ?_
  refine q_iconst eL_818 ?_
  refine q_iadd eL_819 ?_
  refine q_sldE eL_820 hA1 hs (by omega) (by omega) ?_
  refine q_aload_n eL_821 rfl ?_
  refine q_iload eL_822 rfl ?_
  refine q_iconst eL_824 ?_
  refine q_iadd eL_825 ?_
  refine q_sldE eL_826 hA1 hs (by omega) (by omega) ?_
  refine q_callV [vI (S0 ((i : Int) + 1).toNat), vI (S0 ((i : Int) + 2).toNat), vI (S0 ((i : Int) + 3).toNat), vI (S0 ((i : Int) + 4).toNat)] (M1 := mX12_whole) eL_827 mf_X12_whole lk_L_133 (hM 44 (by decide) (by decide)) (evm F1 A1 f1 (fun b h1 h2 => a1 b (Or.inr ⟨h1, h2⟩))) (by intro E F A al h; cases h.1) (by omega) (by omega) (by omega) (Nat.le_of_ble_eq_true rfl) (st := []) rfl (fun v2 F2 A2 al2 h2 => ?_)
  obtain ⟨e2, t2, ke, f2, a2, q2⟩ := h2
  obtain rfl := Sum.inl.inj e2
  have hA2 : A2 0 = S0 := (a2 0 (by omega) (Or.inl (by decide))).trans hA1
  have hx2 : QX F2 A2 := hQX F1 A9 F2 A2 q9 (fun b k hb => f2 b k (by omega) (by omega)) (fun b hb => (a2 b (by omega) (Or.inl hb)).trans (b9 b hb))
  have hM2 : KM al2 := fun a h1 h2 => (ke.2 a (by omega)).trans (hM a h1 h2)
  refine q_istore eL_830 (by decide) rfl ?_
  refine q_aload_n eL_832 rfl ?_
  refine q_callVP [] (M1 := mX12_thrown) eL_833 mf_X12_thrown lk_L_103 (hM2 44 (by decide) (by decide)) (mo_thrown hM2 t2) (by omega) (by omega) (by omega) (Nat.le_of_ble_eq_true rfl) rfl ?_
  refine q_iload eL_836 rfl ?_
  refine q_icmp_same (tgt := 843) eL_838 (by decide) ?_
  refine q_iload eL_843 rfl ?_
  rcases R with _ | a9
  · refine q_if_ne (tgt := 860) eL_845 (by decide) ⟨by decide, by decide⟩ (fun c => ?_) (fun c => absurd c (by decide))
    refine q_goto (tgt := 1899) eL_860 (by decide) ?_
    exact kk F2 A2 al2 _ _ ke hx2 q2 hA2
  · refine q_if_ne (tgt := 860) eL_845 (by decide) inR0 (fun c => absurd (show thE (some a9) = 0 from rfl) c) (fun c => ?_)
    refine q_aload_n eL_848 rfl ?_
    refine q_iconst eL_849 ?_
    refine q_lald eL_850 ((ke.2 oo hot).trans hoo) (by decide) (by decide) ?_
    rw [show A2 oo (0 : Int).toNat = wr a9 from (congrFun (a2 oo hot (Or.inr h67)) 0).trans (w9 a9 rfl)]
    refine q_iload eL_851 rfl ?_
    refine q_i2lw eL_853 ?_
    refine q_lcmp eL_854 (wr_L _) (wr_L _) ?_
    refine q_if_eq (tgt := 860) eL_855 (by decide) (cmpL_R _ _) (fun c => ?_) (fun c => absurd (cmpL_same _) c)
    refine q_goto (tgt := 1899) eL_860 (by decide) ?_
    exact kk F2 A2 al2 _ _ ke hx2 q2 hA2
set_option maxRecDepth 20000 in
theorem st_sum {S0 : Nat → Int} {n0 i oo nc ns dx cx sx dm cm sm D mc ms : Nat} {R : Option Int} {QX QM : HF → HA → Prop} {l5 l6 : Option LV} {F : HF} {A : HA} {al : AL} {Post : PO}
    (hK : KX al) (hM : KM al) (hs : al.1 0 = (4, n0)) (hoo : al.1 oo = (2, 1)) (h67 : 67 ≤ oo) (hot : oo < al.2) (hA0 : A 0 = S0) (hi : i + 6 ≤ n0) (hn0 : n0 ≤ 3072)
    (hD : 60 ≤ D) (hdx : dx ≤ 57) (hdm : dm ≤ 57) (hmc : nc + cx + cm ≤ mc) (hms : ns + sx + sm ≤ ms)
    (hQX : ∀ (F1 : HF) (A1 : HA) (F2 : HF) (A2 : HA), QX F1 A1 → (∀ b k, b < 44 → F2 b k = F1 b k) → (∀ b, b < 44 → A2 b = A1 b) → QX F2 A2)
    (evx : QE dx cx sx mX11_sum (vA 1 :: [vI (S0 ((i : Int) + 1).toNat), vI (S0 ((i : Int) + 2).toNat)]) F A al (PXR eN R F A al QX))
    (evm : ∀ (F1 : HF) (A1 : HA), (∀ b k, 44 ≤ b → F1 b k = F b k) → (∀ b, 44 ≤ b → b < 67 → A1 b = A b) → QE dm cm sm mX12_sum (vA 44 :: [vI (S0 ((i : Int) + 1).toNat), vI (S0 ((i : Int) + 2).toNat)]) F1 A1 al (PMR R F1 A1 al QM))
    (kk : ∀ (F2 : HF) (A2 : HA) (al2 : AL) (l5 l6 : Option LV), KE al.2 al al2 → QX F2 A2 → QM F2 A2 → A2 0 = S0 → QW mL_law D mc ms Post (nc + cx + cm) (ns + sx + sm) 1899 [some (vA 0), some (vA 1), some (vA 44), some (vA oo), some (vI (i : Nat)), l5, l6] [] F2 A2 al2) :
    QW mL_law D mc ms Post nc ns 863 [some (vA 0), some (vA 1), some (vA 44), some (vA oo), some (vI (i : Nat)), l5, l6] [] F A al := by
  refine q_aload_n eL_863 rfl ?_
  refine q_aload_n eL_864 rfl ?_
  refine q_iload eL_865 rfl ?_
  refine q_iconst eL_867 ?_
  refine q_iadd eL_868 ?_
  refine q_sldE eL_869 hA0 hs (by omega) (by omega) ?_
  refine q_aload_n eL_870 rfl ?_
  refine q_iload eL_871 rfl ?_
  refine q_iconst eL_873 ?_
  refine q_iadd eL_874 ?_
  refine q_sldE eL_875 hA0 hs (by omega) (by omega) ?_
  refine q_aload_n eL_876 rfl ?_
  refine q_callSW [vA 1, vI (S0 ((i : Int) + 1).toNat), vI (S0 ((i : Int) + 2).toNat), vA oo] (M1 := mL_sum) eL_877 mfw_sum lkw_sum (lw_sum (D := 58) hK hoo h67 (by omega) evx) nt_PW (by omega) (by omega) (by omega) (Nat.le_of_ble_eq_true rfl) (st := []) rfl (fun v1 F1 A1 al1 h1 => ?_)
  obtain ⟨e1, rfl, f1, a1, ⟨A9, q9, b9⟩, w9⟩ := h1
  obtain rfl := Sum.inl.inj e1
  have hA1 : A1 0 = S0 := (a1 0 (Or.inl rfl)).trans hA0
  refine q_istore eL_880 (by decide) rfl ?_
  refine q_aload_n eL_882 rfl ?_
  refine q_aload_n eL_883 rfl ?_
  refine q_iload eL_884 rfl ?_
  refine q_iconst eL_886 ?_
  refine q_iadd eL_887 ?_
  refine q_sldE eL_888 hA1 hs (by omega) (by omega) ?_
  refine q_aload_n eL_889 rfl ?_
  refine q_iload eL_890 rfl ?_
  refine q_iconst eL_892 ?_
  refine q_iadd eL_893 ?_
  refine q_sldE eL_894 hA1 hs (by omega) (by omega) ?_
  refine q_callV [vI (S0 ((i : Int) + 1).toNat), vI (S0 ((i : Int) + 2).toNat)] (M1 := mX12_sum) eL_895 mf_X12_sum lk_L_136 (hM 44 (by decide) (by decide)) (evm F1 A1 f1 (fun b h1 h2 => a1 b (Or.inr ⟨h1, h2⟩))) (by intro E F A al h; cases h.1) (by omega) (by omega) (by omega) (Nat.le_of_ble_eq_true rfl) (st := []) rfl (fun v2 F2 A2 al2 h2 => ?_)
  obtain ⟨e2, t2, ke, f2, a2, q2⟩ := h2
  obtain rfl := Sum.inl.inj e2
  have hA2 : A2 0 = S0 := (a2 0 (by omega) (Or.inl (by decide))).trans hA1
  have hx2 : QX F2 A2 := hQX F1 A9 F2 A2 q9 (fun b k hb => f2 b k (by omega) (by omega)) (fun b hb => (a2 b (by omega) (Or.inl hb)).trans (b9 b hb))
  have hM2 : KM al2 := fun a h1 h2 => (ke.2 a (by omega)).trans (hM a h1 h2)
  refine q_istore eL_898 (by decide) rfl ?_
  refine q_aload_n eL_900 rfl ?_
  refine q_callVP [] (M1 := mX12_thrown) eL_901 mf_X12_thrown lk_L_103 (hM2 44 (by decide) (by decide)) (mo_thrown hM2 t2) (by omega) (by omega) (by omega) (Nat.le_of_ble_eq_true rfl) rfl ?_
  refine q_iload eL_904 rfl ?_
  refine q_icmp_same (tgt := 911) eL_906 (by decide) ?_
  refine q_iload eL_911 rfl ?_
  rcases R with _ | a9
  · refine q_if_ne (tgt := 928) eL_913 (by decide) ⟨by decide, by decide⟩ (fun c => ?_) (fun c => absurd c (by decide))
    refine q_goto (tgt := 1899) eL_928 (by decide) ?_
    exact kk F2 A2 al2 _ _ ke hx2 q2 hA2
  · refine q_if_ne (tgt := 928) eL_913 (by decide) inR0 (fun c => absurd (show thE (some a9) = 0 from rfl) c) (fun c => ?_)
    refine q_aload_n eL_916 rfl ?_
    refine q_iconst eL_917 ?_
    refine q_lald eL_918 ((ke.2 oo hot).trans hoo) (by decide) (by decide) ?_
    rw [show A2 oo (0 : Int).toNat = wr a9 from (congrFun (a2 oo hot (Or.inr h67)) 0).trans (w9 a9 rfl)]
    refine q_iload eL_919 rfl ?_
    refine q_i2lw eL_921 ?_
    refine q_lcmp eL_922 (wr_L _) (wr_L _) ?_
    refine q_if_eq (tgt := 928) eL_923 (by decide) (cmpL_R _ _) (fun c => ?_) (fun c => absurd (cmpL_same _) c)
    refine q_goto (tgt := 1899) eL_928 (by decide) ?_
    exact kk F2 A2 al2 _ _ ke hx2 q2 hA2
