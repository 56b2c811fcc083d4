theorem dL_434 : decode code 434 = .ok (.ireturn, 1) := by decide +kernel
theorem dL_435 : decode code 435 = .ok (.aload_n 1, 1) := by decide +kernel
theorem dL_436 : decode code 436 = .ok (.aload_n 0, 1) := by decide +kernel
theorem dL_437 : decode code 437 = .ok (.iload_n 3, 1) := by decide +kernel
theorem dL_438 : decode code 438 = .ok (.iconst 1, 1) := by decide +kernel
theorem dL_439 : decode code 439 = .ok (.iadd, 1) := by decide +kernel
theorem dL_440 : decode code 440 = .ok (.iaload, 1) := by decide +kernel
theorem dL_441 : decode code 441 = .ok (.aload_n 0, 1) := by decide +kernel
theorem dL_442 : decode code 442 = .ok (.iload_n 3, 1) := by decide +kernel
theorem dL_443 : decode code 443 = .ok (.iconst 2, 1) := by decide +kernel
theorem dL_444 : decode code 444 = .ok (.iadd, 1) := by decide +kernel
theorem dL_445 : decode code 445 = .ok (.iaload, 1) := by decide +kernel
theorem dL_446 : decode code 446 = .ok (.invokevirtual 44, 3) := by decide +kernel
theorem dL_449 : decode code 449 = .ok (.aload_n 2, 1) := by decide +kernel
theorem dL_450 : decode code 450 = .ok (.aload_n 0, 1) := by decide +kernel
theorem dL_451 : decode code 451 = .ok (.iload_n 3, 1) := by decide +kernel
theorem dL_452 : decode code 452 = .ok (.iconst 1, 1) := by decide +kernel
theorem dL_453 : decode code 453 = .ok (.iadd, 1) := by decide +kernel
theorem dL_454 : decode code 454 = .ok (.iaload, 1) := by decide +kernel
theorem dL_455 : decode code 455 = .ok (.aload_n 0, 1) := by decide +kernel
theorem dL_456 : decode code 456 = .ok (.iload_n 3, 1) := by decide +kernel
theorem dL_457 : decode code 457 = .ok (.iconst 2, 1) := by decide +kernel
theorem dL_458 : decode code 458 = .ok (.iadd, 1) := by decide +kernel
theorem dL_459 : decode code 459 = .ok (.iaload, 1) := by decide +kernel
theorem dL_460 : decode code 460 = .ok (.invokevirtual 47, 3) := by decide +kernel
theorem dL_463 : decode code 463 = .ok (.if_icmp .eq 999, 3) := by decide +kernel
theorem dL_466 : decode code 466 = .ok (.iconst 0, 1) := by decide +kernel
theorem dL_467 : decode code 467 = .ok (.ireturn, 1) := by decide +kernel
theorem dL_468 : decode code 468 = .ok (.aload_n 1, 1) := by decide +kernel
theorem dL_469 : decode code 469 = .ok (.aload_n 0, 1) := by decide +kernel
theorem dL_470 : decode code 470 = .ok (.iload_n 3, 1) := by decide +kernel
theorem dL_471 : decode code 471 = .ok (.iconst 1, 1) := by decide +kernel
theorem dL_472 : decode code 472 = .ok (.iadd, 1) := by decide +kernel
theorem dL_473 : decode code 473 = .ok (.iaload, 1) := by decide +kernel
theorem dL_474 : decode code 474 = .ok (.aload_n 0, 1) := by decide +kernel
theorem dL_475 : decode code 475 = .ok (.iload_n 3, 1) := by decide +kernel
theorem dL_476 : decode code 476 = .ok (.iconst 2, 1) := by decide +kernel
theorem dL_477 : decode code 477 = .ok (.iadd, 1) := by decide +kernel
theorem dL_478 : decode code 478 = .ok (.iaload, 1) := by decide +kernel
theorem dL_479 : decode code 479 = .ok (.invokevirtual 48, 3) := by decide +kernel
theorem dL_482 : decode code 482 = .ok (.aload_n 2, 1) := by decide +kernel
theorem dL_483 : decode code 483 = .ok (.aload_n 0, 1) := by decide +kernel
theorem dL_484 : decode code 484 = .ok (.iload_n 3, 1) := by decide +kernel
theorem dL_485 : decode code 485 = .ok (.iconst 1, 1) := by decide +kernel
theorem dL_486 : decode code 486 = .ok (.iadd, 1) := by decide +kernel
theorem dL_487 : decode code 487 = .ok (.iaload, 1) := by decide +kernel
theorem dL_488 : decode code 488 = .ok (.aload_n 0, 1) := by decide +kernel
theorem dL_489 : decode code 489 = .ok (.iload_n 3, 1) := by decide +kernel
theorem dL_490 : decode code 490 = .ok (.iconst 2, 1) := by decide +kernel
theorem dL_491 : decode code 491 = .ok (.iadd, 1) := by decide +kernel
theorem dL_492 : decode code 492 = .ok (.iaload, 1) := by decide +kernel
theorem dL_493 : decode code 493 = .ok (.invokevirtual 51, 3) := by decide +kernel
theorem dL_496 : decode code 496 = .ok (.if_icmp .eq 966, 3) := by decide +kernel
theorem dL_499 : decode code 499 = .ok (.iconst 0, 1) := by decide +kernel
theorem dL_500 : decode code 500 = .ok (.ireturn, 1) := by decide +kernel
theorem dL_501 : decode code 501 = .ok (.aload_n 1, 1) := by decide +kernel
theorem dL_502 : decode code 502 = .ok (.aload_n 0, 1) := by decide +kernel
theorem dL_503 : decode code 503 = .ok (.iload_n 3, 1) := by decide +kernel
theorem dL_504 : decode code 504 = .ok (.iconst 1, 1) := by decide +kernel
theorem dL_505 : decode code 505 = .ok (.iadd, 1) := by decide +kernel
theorem dL_506 : decode code 506 = .ok (.iaload, 1) := by decide +kernel
theorem dL_507 : decode code 507 = .ok (.aload_n 0, 1) := by decide +kernel
theorem dL_508 : decode code 508 = .ok (.iload_n 3, 1) := by decide +kernel
theorem dL_509 : decode code 509 = .ok (.iconst 2, 1) := by decide +kernel
theorem dL_510 : decode code 510 = .ok (.iadd, 1) := by decide +kernel
theorem dL_511 : decode code 511 = .ok (.iaload, 1) := by decide +kernel
theorem dL_512 : decode code 512 = .ok (.invokevirtual 52, 3) := by decide +kernel
theorem dL_515 : decode code 515 = .ok (.aload_n 2, 1) := by decide +kernel
theorem dL_516 : decode code 516 = .ok (.aload_n 0, 1) := by decide +kernel
theorem dL_517 : decode code 517 = .ok (.iload_n 3, 1) := by decide +kernel
theorem dL_518 : decode code 518 = .ok (.iconst 1, 1) := by decide +kernel
theorem dL_519 : decode code 519 = .ok (.iadd, 1) := by decide +kernel
theorem dL_520 : decode code 520 = .ok (.iaload, 1) := by decide +kernel
theorem dL_521 : decode code 521 = .ok (.aload_n 0, 1) := by decide +kernel
theorem dL_522 : decode code 522 = .ok (.iload_n 3, 1) := by decide +kernel
theorem dL_523 : decode code 523 = .ok (.iconst 2, 1) := by decide +kernel
theorem dL_524 : decode code 524 = .ok (.iadd, 1) := by decide +kernel
theorem dL_525 : decode code 525 = .ok (.iaload, 1) := by decide +kernel
theorem dL_526 : decode code 526 = .ok (.invokevirtual 55, 3) := by decide +kernel
theorem dL_529 : decode code 529 = .ok (.if_icmp .eq 933, 3) := by decide +kernel
theorem dL_532 : decode code 532 = .ok (.iconst 0, 1) := by decide +kernel
theorem dL_533 : decode code 533 = .ok (.ireturn, 1) := by decide +kernel
theorem dL_534 : decode code 534 = .ok (.aload_n 1, 1) := by decide +kernel
theorem dL_535 : decode code 535 = .ok (.aload_n 0, 1) := by decide +kernel
theorem dL_536 : decode code 536 = .ok (.iload_n 3, 1) := by decide +kernel
theorem dL_537 : decode code 537 = .ok (.iconst 1, 1) := by decide +kernel
theorem dL_538 : decode code 538 = .ok (.iadd, 1) := by decide +kernel
theorem dL_539 : decode code 539 = .ok (.iaload, 1) := by decide +kernel
theorem dL_540 : decode code 540 = .ok (.invokevirtual 56, 3) := by decide +kernel
theorem dL_543 : decode code 543 = .ok (.aload_n 2, 1) := by decide +kernel
theorem dL_544 : decode code 544 = .ok (.aload_n 0, 1) := by decide +kernel
theorem dL_545 : decode code 545 = .ok (.iload_n 3, 1) := by decide +kernel
theorem dL_546 : decode code 546 = .ok (.iconst 1, 1) := by decide +kernel
theorem dL_547 : decode code 547 = .ok (.iadd, 1) := by decide +kernel
theorem dL_548 : decode code 548 = .ok (.iaload, 1) := by decide +kernel
theorem dL_549 : decode code 549 = .ok (.invokevirtual 59, 3) := by decide +kernel
theorem dL_552 : decode code 552 = .ok (.if_icmp .eq 910, 3) := by decide +kernel
theorem dL_555 : decode code 555 = .ok (.iconst 0, 1) := by decide +kernel
theorem dL_556 : decode code 556 = .ok (.ireturn, 1) := by decide +kernel
theorem dL_557 : decode code 557 = .ok (.aload_n 1, 1) := by decide +kernel
theorem dL_558 : decode code 558 = .ok (.aload_n 0, 1) := by decide +kernel
theorem dL_559 : decode code 559 = .ok (.iload_n 3, 1) := by decide +kernel
theorem dL_560 : decode code 560 = .ok (.iconst 1, 1) := by decide +kernel
theorem dL_561 : decode code 561 = .ok (.iadd, 1) := by decide +kernel
theorem dL_562 : decode code 562 = .ok (.iaload, 1) := by decide +kernel
theorem dL_563 : decode code 563 = .ok (.aload_n 0, 1) := by decide +kernel
theorem dL_564 : decode code 564 = .ok (.iload_n 3, 1) := by decide +kernel
theorem dL_565 : decode code 565 = .ok (.iconst 2, 1) := by decide +kernel
theorem dL_566 : decode code 566 = .ok (.iadd, 1) := by decide +kernel
theorem dL_567 : decode code 567 = .ok (.iaload, 1) := by decide +kernel
theorem dL_568 : decode code 568 = .ok (.aload_n 0, 1) := by decide +kernel
theorem dL_569 : decode code 569 = .ok (.iload_n 3, 1) := by decide +kernel
theorem dL_570 : decode code 570 = .ok (.iconst 3, 1) := by decide +kernel
theorem dL_571 : decode code 571 = .ok (.iadd, 1) := by decide +kernel
theorem dL_572 : decode code 572 = .ok (.iaload, 1) := by decide +kernel
theorem dL_573 : decode code 573 = .ok (.invokevirtual 60, 3) := by decide +kernel
theorem dL_576 : decode code 576 = .ok (.aload_n 2, 1) := by decide +kernel
theorem dL_577 : decode code 577 = .ok (.aload_n 0, 1) := by decide +kernel
theorem dL_578 : decode code 578 = .ok (.iload_n 3, 1) := by decide +kernel
theorem dL_579 : decode code 579 = .ok (.iconst 1, 1) := by decide +kernel
theorem dL_580 : decode code 580 = .ok (.iadd, 1) := by decide +kernel
theorem dL_581 : decode code 581 = .ok (.iaload, 1) := by decide +kernel
theorem dL_582 : decode code 582 = .ok (.aload_n 0, 1) := by decide +kernel
theorem dL_583 : decode code 583 = .ok (.iload_n 3, 1) := by decide +kernel
theorem dL_584 : decode code 584 = .ok (.iconst 2, 1) := by decide +kernel
theorem dL_585 : decode code 585 = .ok (.iadd, 1) := by decide +kernel
theorem dL_586 : decode code 586 = .ok (.iaload, 1) := by decide +kernel
theorem dL_587 : decode code 587 = .ok (.aload_n 0, 1) := by decide +kernel
theorem dL_588 : decode code 588 = .ok (.iload_n 3, 1) := by decide +kernel
theorem dL_589 : decode code 589 = .ok (.iconst 3, 1) := by decide +kernel
theorem dL_590 : decode code 590 = .ok (.iadd, 1) := by decide +kernel
theorem dL_591 : decode code 591 = .ok (.iaload, 1) := by decide +kernel
theorem dL_592 : decode code 592 = .ok (.invokevirtual 63, 3) := by decide +kernel
theorem dL_595 : decode code 595 = .ok (.if_icmp .eq 867, 3) := by decide +kernel
theorem dL_598 : decode code 598 = .ok (.iconst 0, 1) := by decide +kernel
theorem dL_599 : decode code 599 = .ok (.ireturn, 1) := by decide +kernel
theorem dL_600 : decode code 600 = .ok (.aload_n 1, 1) := by decide +kernel
theorem dL_601 : decode code 601 = .ok (.aload_n 0, 1) := by decide +kernel
theorem dL_602 : decode code 602 = .ok (.iload_n 3, 1) := by decide +kernel
theorem dL_603 : decode code 603 = .ok (.iconst 1, 1) := by decide +kernel
theorem dL_604 : decode code 604 = .ok (.iadd, 1) := by decide +kernel
theorem dL_605 : decode code 605 = .ok (.iaload, 1) := by decide +kernel
theorem dL_606 : decode code 606 = .ok (.invokevirtual 64, 3) := by decide +kernel
theorem dL_609 : decode code 609 = .ok (.aload_n 2, 1) := by decide +kernel
theorem dL_610 : decode code 610 = .ok (.aload_n 0, 1) := by decide +kernel
theorem dL_611 : decode code 611 = .ok (.iload_n 3, 1) := by decide +kernel
theorem dL_612 : decode code 612 = .ok (.iconst 1, 1) := by decide +kernel
theorem dL_613 : decode code 613 = .ok (.iadd, 1) := by decide +kernel
theorem dL_614 : decode code 614 = .ok (.iaload, 1) := by decide +kernel
theorem dL_615 : decode code 615 = .ok (.invokevirtual 67, 3) := by decide +kernel
theorem dL_618 : decode code 618 = .ok (.if_icmp .eq 844, 3) := by decide +kernel
theorem dL_621 : decode code 621 = .ok (.iconst 0, 1) := by decide +kernel
theorem dL_622 : decode code 622 = .ok (.ireturn, 1) := by decide +kernel
theorem dL_623 : decode code 623 = .ok (.aload_n 1, 1) := by decide +kernel
theorem dL_624 : decode code 624 = .ok (.aload_n 0, 1) := by decide +kernel
theorem dL_625 : decode code 625 = .ok (.iload_n 3, 1) := by decide +kernel
theorem dL_626 : decode code 626 = .ok (.iconst 1, 1) := by decide +kernel
theorem dL_627 : decode code 627 = .ok (.iadd, 1) := by decide +kernel
theorem dL_628 : decode code 628 = .ok (.iaload, 1) := by decide +kernel
theorem dL_629 : decode code 629 = .ok (.invokevirtual 68, 3) := by decide +kernel
theorem dL_632 : decode code 632 = .ok (.aload_n 2, 1) := by decide +kernel
theorem dL_633 : decode code 633 = .ok (.aload_n 0, 1) := by decide +kernel
theorem dL_634 : decode code 634 = .ok (.iload_n 3, 1) := by decide +kernel
theorem dL_635 : decode code 635 = .ok (.iconst 1, 1) := by decide +kernel
theorem dL_636 : decode code 636 = .ok (.iadd, 1) := by decide +kernel
theorem dL_637 : decode code 637 = .ok (.iaload, 1) := by decide +kernel
theorem dL_638 : decode code 638 = .ok (.invokevirtual 71, 3) := by decide +kernel
theorem dL_641 : decode code 641 = .ok (.if_icmp .eq 821, 3) := by decide +kernel
theorem dL_644 : decode code 644 = .ok (.iconst 0, 1) := by decide +kernel
theorem dL_645 : decode code 645 = .ok (.ireturn, 1) := by decide +kernel
theorem dL_646 : decode code 646 = .ok (.aload_n 1, 1) := by decide +kernel
theorem dL_647 : decode code 647 = .ok (.aload_n 0, 1) := by decide +kernel
theorem dL_648 : decode code 648 = .ok (.iload_n 3, 1) := by decide +kernel
theorem dL_649 : decode code 649 = .ok (.iconst 1, 1) := by decide +kernel
theorem dL_650 : decode code 650 = .ok (.iadd, 1) := by decide +kernel
theorem dL_651 : decode code 651 = .ok (.iaload, 1) := by decide +kernel
theorem dL_652 : decode code 652 = .ok (.aload_n 0, 1) := by decide +kernel
theorem dL_653 : decode code 653 = .ok (.iload_n 3, 1) := by decide +kernel
theorem dL_654 : decode code 654 = .ok (.iconst 2, 1) := by decide +kernel
theorem dL_655 : decode code 655 = .ok (.iadd, 1) := by decide +kernel
theorem dL_656 : decode code 656 = .ok (.iaload, 1) := by decide +kernel
theorem dL_657 : decode code 657 = .ok (.aload_n 0, 1) := by decide +kernel
theorem dL_658 : decode code 658 = .ok (.iload_n 3, 1) := by decide +kernel
theorem dL_659 : decode code 659 = .ok (.iconst 3, 1) := by decide +kernel
theorem dL_660 : decode code 660 = .ok (.iadd, 1) := by decide +kernel
theorem dL_661 : decode code 661 = .ok (.iaload, 1) := by decide +kernel
theorem dL_662 : decode code 662 = .ok (.invokevirtual 72, 3) := by decide +kernel
theorem dL_665 : decode code 665 = .ok (.aload_n 2, 1) := by decide +kernel
theorem dL_666 : decode code 666 = .ok (.aload_n 0, 1) := by decide +kernel
theorem dL_667 : decode code 667 = .ok (.iload_n 3, 1) := by decide +kernel
theorem dL_668 : decode code 668 = .ok (.iconst 1, 1) := by decide +kernel
theorem dL_669 : decode code 669 = .ok (.iadd, 1) := by decide +kernel
theorem dL_670 : decode code 670 = .ok (.iaload, 1) := by decide +kernel
theorem dL_671 : decode code 671 = .ok (.aload_n 0, 1) := by decide +kernel
theorem dL_672 : decode code 672 = .ok (.iload_n 3, 1) := by decide +kernel
theorem dL_673 : decode code 673 = .ok (.iconst 2, 1) := by decide +kernel
theorem dL_674 : decode code 674 = .ok (.iadd, 1) := by decide +kernel
theorem dL_675 : decode code 675 = .ok (.iaload, 1) := by decide +kernel
theorem dL_676 : decode code 676 = .ok (.aload_n 0, 1) := by decide +kernel
theorem dL_677 : decode code 677 = .ok (.iload_n 3, 1) := by decide +kernel
theorem dL_678 : decode code 678 = .ok (.iconst 3, 1) := by decide +kernel
theorem dL_679 : decode code 679 = .ok (.iadd, 1) := by decide +kernel
theorem dL_680 : decode code 680 = .ok (.iaload, 1) := by decide +kernel
theorem dL_681 : decode code 681 = .ok (.invokevirtual 75, 3) := by decide +kernel
theorem dL_684 : decode code 684 = .ok (.if_icmp .eq 778, 3) := by decide +kernel
theorem dL_687 : decode code 687 = .ok (.iconst 0, 1) := by decide +kernel
theorem dL_688 : decode code 688 = .ok (.ireturn, 1) := by decide +kernel
theorem dL_689 : decode code 689 = .ok (.aload_n 1, 1) := by decide +kernel
theorem dL_690 : decode code 690 = .ok (.aload_n 0, 1) := by decide +kernel
theorem dL_691 : decode code 691 = .ok (.iload_n 3, 1) := by decide +kernel
