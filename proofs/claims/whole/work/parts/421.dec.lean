theorem dd_X12_init_442 : decode m_X12_init.2.1 442 = .ok (.dup, 1) := by decide +kernel
theorem dd_X12_init_443 : decode m_X12_init.2.1 443 = .ok (.iconst 2, 1) := by decide +kernel
theorem dd_X12_init_444 : decode m_X12_init.2.1 444 = .ok (.bipush 97, 2) := by decide +kernel
theorem dd_X12_init_446 : decode m_X12_init.2.1 446 = .ok (.castore, 1) := by decide +kernel
theorem dd_X12_init_447 : decode m_X12_init.2.1 447 = .ok (.dup, 1) := by decide +kernel
theorem dd_X12_init_448 : decode m_X12_init.2.1 448 = .ok (.iconst 3, 1) := by decide +kernel
theorem dd_X12_init_449 : decode m_X12_init.2.1 449 = .ok (.bipush 121, 2) := by decide +kernel
theorem dd_X12_init_451 : decode m_X12_init.2.1 451 = .ok (.castore, 1) := by decide +kernel
theorem dd_X12_init_452 : decode m_X12_init.2.1 452 = .ok (.dup, 1) := by decide +kernel
theorem dd_X12_init_453 : decode m_X12_init.2.1 453 = .ok (.iconst 4, 1) := by decide +kernel
theorem dd_X12_init_454 : decode m_X12_init.2.1 454 = .ok (.bipush 115, 2) := by decide +kernel
theorem dd_X12_init_456 : decode m_X12_init.2.1 456 = .ok (.castore, 1) := by decide +kernel
theorem dd_X12_init_457 : decode m_X12_init.2.1 457 = .ok (.putfield 57, 3) := by decide +kernel
theorem dd_X12_init_460 : decode m_X12_init.2.1 460 = .ok (.aload_n 0, 1) := by decide +kernel
theorem dd_X12_init_461 : decode m_X12_init.2.1 461 = .ok (.iconst 4, 1) := by decide +kernel
theorem dd_X12_init_462 : decode m_X12_init.2.1 462 = .ok (.newarray .char, 2) := by decide +kernel
theorem dd_X12_init_464 : decode m_X12_init.2.1 464 = .ok (.dup, 1) := by decide +kernel
theorem dd_X12_init_465 : decode m_X12_init.2.1 465 = .ok (.iconst 0, 1) := by decide +kernel
theorem dd_X12_init_466 : decode m_X12_init.2.1 466 = .ok (.bipush 115, 2) := by decide +kernel
theorem dd_X12_init_468 : decode m_X12_init.2.1 468 = .ok (.castore, 1) := by decide +kernel
theorem dd_X12_init_469 : decode m_X12_init.2.1 469 = .ok (.dup, 1) := by decide +kernel
theorem dd_X12_init_470 : decode m_X12_init.2.1 470 = .ok (.iconst 1, 1) := by decide +kernel
theorem dd_X12_init_471 : decode m_X12_init.2.1 471 = .ok (.bipush 110, 2) := by decide +kernel
theorem dd_X12_init_473 : decode m_X12_init.2.1 473 = .ok (.castore, 1) := by decide +kernel
theorem dd_X12_init_474 : decode m_X12_init.2.1 474 = .ok (.dup, 1) := by decide +kernel
theorem dd_X12_init_475 : decode m_X12_init.2.1 475 = .ok (.iconst 2, 1) := by decide +kernel
theorem dd_X12_init_476 : decode m_X12_init.2.1 476 = .ok (.bipush 111, 2) := by decide +kernel
theorem dd_X12_init_478 : decode m_X12_init.2.1 478 = .ok (.castore, 1) := by decide +kernel
theorem dd_X12_init_479 : decode m_X12_init.2.1 479 = .ok (.dup, 1) := by decide +kernel
theorem dd_X12_init_480 : decode m_X12_init.2.1 480 = .ok (.iconst 3, 1) := by decide +kernel
theorem dd_X12_init_481 : decode m_X12_init.2.1 481 = .ok (.bipush 119, 2) := by decide +kernel
theorem dd_X12_init_483 : decode m_X12_init.2.1 483 = .ok (.castore, 1) := by decide +kernel
theorem dd_X12_init_484 : decode m_X12_init.2.1 484 = .ok (.putfield 60, 3) := by decide +kernel
theorem dd_X12_init_487 : decode m_X12_init.2.1 487 = .ok (.aload_n 0, 1) := by decide +kernel
theorem dd_X12_init_488 : decode m_X12_init.2.1 488 = .ok (.iconst 4, 1) := by decide +kernel
theorem dd_X12_init_489 : decode m_X12_init.2.1 489 = .ok (.newarray .char, 2) := by decide +kernel
theorem dd_X12_init_491 : decode m_X12_init.2.1 491 = .ok (.dup, 1) := by decide +kernel
theorem dd_X12_init_492 : decode m_X12_init.2.1 492 = .ok (.iconst 0, 1) := by decide +kernel
theorem dd_X12_init_493 : decode m_X12_init.2.1 493 = .ok (.bipush 121, 2) := by decide +kernel
theorem dd_X12_init_495 : decode m_X12_init.2.1 495 = .ok (.castore, 1) := by decide +kernel
theorem dd_X12_init_496 : decode m_X12_init.2.1 496 = .ok (.dup, 1) := by decide +kernel
theorem dd_X12_init_497 : decode m_X12_init.2.1 497 = .ok (.iconst 1, 1) := by decide +kernel
theorem dd_X12_init_498 : decode m_X12_init.2.1 498 = .ok (.bipush 101, 2) := by decide +kernel
theorem dd_X12_init_500 : decode m_X12_init.2.1 500 = .ok (.castore, 1) := by decide +kernel
theorem dd_X12_init_501 : decode m_X12_init.2.1 501 = .ok (.dup, 1) := by decide +kernel
theorem dd_X12_init_502 : decode m_X12_init.2.1 502 = .ok (.iconst 2, 1) := by decide +kernel
theorem dd_X12_init_503 : decode m_X12_init.2.1 503 = .ok (.bipush 97, 2) := by decide +kernel
theorem dd_X12_init_505 : decode m_X12_init.2.1 505 = .ok (.castore, 1) := by decide +kernel
theorem dd_X12_init_506 : decode m_X12_init.2.1 506 = .ok (.dup, 1) := by decide +kernel
theorem dd_X12_init_507 : decode m_X12_init.2.1 507 = .ok (.iconst 3, 1) := by decide +kernel
theorem dd_X12_init_508 : decode m_X12_init.2.1 508 = .ok (.bipush 114, 2) := by decide +kernel
theorem dd_X12_init_510 : decode m_X12_init.2.1 510 = .ok (.castore, 1) := by decide +kernel
theorem dd_X12_init_511 : decode m_X12_init.2.1 511 = .ok (.putfield 63, 3) := by decide +kernel
theorem dd_X12_init_514 : decode m_X12_init.2.1 514 = .ok (.aload_n 0, 1) := by decide +kernel
theorem dd_X12_init_515 : decode m_X12_init.2.1 515 = .ok (.iconst 4, 1) := by decide +kernel
theorem dd_X12_init_516 : decode m_X12_init.2.1 516 = .ok (.newarray .char, 2) := by decide +kernel
theorem dd_X12_init_518 : decode m_X12_init.2.1 518 = .ok (.dup, 1) := by decide +kernel
theorem dd_X12_init_519 : decode m_X12_init.2.1 519 = .ok (.iconst 0, 1) := by decide +kernel
theorem dd_X12_init_520 : decode m_X12_init.2.1 520 = .ok (.bipush 97, 2) := by decide +kernel
theorem dd_X12_init_522 : decode m_X12_init.2.1 522 = .ok (.castore, 1) := by decide +kernel
theorem dd_X12_init_523 : decode m_X12_init.2.1 523 = .ok (.dup, 1) := by decide +kernel
theorem dd_X12_init_524 : decode m_X12_init.2.1 524 = .ok (.iconst 1, 1) := by decide +kernel
theorem dd_X12_init_525 : decode m_X12_init.2.1 525 = .ok (.bipush 119, 2) := by decide +kernel
theorem dd_X12_init_527 : decode m_X12_init.2.1 527 = .ok (.castore, 1) := by decide +kernel
theorem dd_X12_init_528 : decode m_X12_init.2.1 528 = .ok (.dup, 1) := by decide +kernel
theorem dd_X12_init_529 : decode m_X12_init.2.1 529 = .ok (.iconst 2, 1) := by decide +kernel
theorem dd_X12_init_530 : decode m_X12_init.2.1 530 = .ok (.bipush 97, 2) := by decide +kernel
theorem dd_X12_init_532 : decode m_X12_init.2.1 532 = .ok (.castore, 1) := by decide +kernel
theorem dd_X12_init_533 : decode m_X12_init.2.1 533 = .ok (.dup, 1) := by decide +kernel
theorem dd_X12_init_534 : decode m_X12_init.2.1 534 = .ok (.iconst 3, 1) := by decide +kernel
theorem dd_X12_init_535 : decode m_X12_init.2.1 535 = .ok (.bipush 121, 2) := by decide +kernel
theorem dd_X12_init_537 : decode m_X12_init.2.1 537 = .ok (.castore, 1) := by decide +kernel
theorem dd_X12_init_538 : decode m_X12_init.2.1 538 = .ok (.putfield 66, 3) := by decide +kernel
theorem dd_X12_init_541 : decode m_X12_init.2.1 541 = .ok (.aload_n 0, 1) := by decide +kernel
theorem dd_X12_init_542 : decode m_X12_init.2.1 542 = .ok (.bipush 6, 2) := by decide +kernel
theorem dd_X12_init_544 : decode m_X12_init.2.1 544 = .ok (.newarray .char, 2) := by decide +kernel
theorem dd_X12_init_546 : decode m_X12_init.2.1 546 = .ok (.dup, 1) := by decide +kernel
theorem dd_X12_init_547 : decode m_X12_init.2.1 547 = .ok (.iconst 0, 1) := by decide +kernel
theorem dd_X12_init_548 : decode m_X12_init.2.1 548 = .ok (.bipush 103, 2) := by decide +kernel
theorem dd_X12_init_550 : decode m_X12_init.2.1 550 = .ok (.castore, 1) := by decide +kernel
theorem dd_X12_init_551 : decode m_X12_init.2.1 551 = .ok (.dup, 1) := by decide +kernel
theorem dd_X12_init_552 : decode m_X12_init.2.1 552 = .ok (.iconst 1, 1) := by decide +kernel
theorem dd_X12_init_553 : decode m_X12_init.2.1 553 = .ok (.bipush 117, 2) := by decide +kernel
theorem dd_X12_init_555 : decode m_X12_init.2.1 555 = .ok (.castore, 1) := by decide +kernel
theorem dd_X12_init_556 : decode m_X12_init.2.1 556 = .ok (.dup, 1) := by decide +kernel
theorem dd_X12_init_557 : decode m_X12_init.2.1 557 = .ok (.iconst 2, 1) := by decide +kernel
theorem dd_X12_init_558 : decode m_X12_init.2.1 558 = .ok (.bipush 101, 2) := by decide +kernel
theorem dd_X12_init_560 : decode m_X12_init.2.1 560 = .ok (.castore, 1) := by decide +kernel
theorem dd_X12_init_561 : decode m_X12_init.2.1 561 = .ok (.dup, 1) := by decide +kernel
theorem dd_X12_init_562 : decode m_X12_init.2.1 562 = .ok (.iconst 3, 1) := by decide +kernel
theorem dd_X12_init_563 : decode m_X12_init.2.1 563 = .ok (.bipush 115, 2) := by decide +kernel
theorem dd_X12_init_565 : decode m_X12_init.2.1 565 = .ok (.castore, 1) := by decide +kernel
theorem dd_X12_init_566 : decode m_X12_init.2.1 566 = .ok (.dup, 1) := by decide +kernel
theorem dd_X12_init_567 : decode m_X12_init.2.1 567 = .ok (.iconst 4, 1) := by decide +kernel
theorem dd_X12_init_568 : decode m_X12_init.2.1 568 = .ok (.bipush 116, 2) := by decide +kernel
theorem dd_X12_init_570 : decode m_X12_init.2.1 570 = .ok (.castore, 1) := by decide +kernel
theorem dd_X12_init_571 : decode m_X12_init.2.1 571 = .ok (.dup, 1) := by decide +kernel
theorem dd_X12_init_572 : decode m_X12_init.2.1 572 = .ok (.iconst 5, 1) := by decide +kernel
theorem dd_X12_init_573 : decode m_X12_init.2.1 573 = .ok (.bipush 115, 2) := by decide +kernel
theorem dd_X12_init_575 : decode m_X12_init.2.1 575 = .ok (.castore, 1) := by decide +kernel
theorem dd_X12_init_576 : decode m_X12_init.2.1 576 = .ok (.putfield 69, 3) := by decide +kernel
theorem dd_X12_init_579 : decode m_X12_init.2.1 579 = .ok (.aload_n 0, 1) := by decide +kernel
theorem dd_X12_init_580 : decode m_X12_init.2.1 580 = .ok (.bipush 6, 2) := by decide +kernel
theorem dd_X12_init_582 : decode m_X12_init.2.1 582 = .ok (.newarray .char, 2) := by decide +kernel
theorem dd_X12_init_584 : decode m_X12_init.2.1 584 = .ok (.dup, 1) := by decide +kernel
theorem dd_X12_init_585 : decode m_X12_init.2.1 585 = .ok (.iconst 0, 1) := by decide +kernel
theorem dd_X12_init_586 : decode m_X12_init.2.1 586 = .ok (.bipush 110, 2) := by decide +kernel
theorem dd_X12_init_588 : decode m_X12_init.2.1 588 = .ok (.castore, 1) := by decide +kernel
theorem dd_X12_init_589 : decode m_X12_init.2.1 589 = .ok (.dup, 1) := by decide +kernel
theorem dd_X12_init_590 : decode m_X12_init.2.1 590 = .ok (.iconst 1, 1) := by decide +kernel
theorem dd_X12_init_591 : decode m_X12_init.2.1 591 = .ok (.bipush 117, 2) := by decide +kernel
theorem dd_X12_init_593 : decode m_X12_init.2.1 593 = .ok (.castore, 1) := by decide +kernel
theorem dd_X12_init_594 : decode m_X12_init.2.1 594 = .ok (.dup, 1) := by decide +kernel
theorem dd_X12_init_595 : decode m_X12_init.2.1 595 = .ok (.iconst 2, 1) := by decide +kernel
theorem dd_X12_init_596 : decode m_X12_init.2.1 596 = .ok (.bipush 109, 2) := by decide +kernel
theorem dd_X12_init_598 : decode m_X12_init.2.1 598 = .ok (.castore, 1) := by decide +kernel
theorem dd_X12_init_599 : decode m_X12_init.2.1 599 = .ok (.dup, 1) := by decide +kernel
theorem dd_X12_init_600 : decode m_X12_init.2.1 600 = .ok (.iconst 3, 1) := by decide +kernel
theorem dd_X12_init_601 : decode m_X12_init.2.1 601 = .ok (.bipush 98, 2) := by decide +kernel
theorem dd_X12_init_603 : decode m_X12_init.2.1 603 = .ok (.castore, 1) := by decide +kernel
theorem dd_X12_init_604 : decode m_X12_init.2.1 604 = .ok (.dup, 1) := by decide +kernel
theorem dd_X12_init_605 : decode m_X12_init.2.1 605 = .ok (.iconst 4, 1) := by decide +kernel
theorem dd_X12_init_606 : decode m_X12_init.2.1 606 = .ok (.bipush 101, 2) := by decide +kernel
theorem dd_X12_init_608 : decode m_X12_init.2.1 608 = .ok (.castore, 1) := by decide +kernel
theorem dd_X12_init_609 : decode m_X12_init.2.1 609 = .ok (.dup, 1) := by decide +kernel
theorem dd_X12_init_610 : decode m_X12_init.2.1 610 = .ok (.iconst 5, 1) := by decide +kernel
theorem dd_X12_init_611 : decode m_X12_init.2.1 611 = .ok (.bipush 114, 2) := by decide +kernel
theorem dd_X12_init_613 : decode m_X12_init.2.1 613 = .ok (.castore, 1) := by decide +kernel
theorem dd_X12_init_614 : decode m_X12_init.2.1 614 = .ok (.putfield 72, 3) := by decide +kernel
theorem dd_X12_init_617 : decode m_X12_init.2.1 617 = .ok (.aload_n 0, 1) := by decide +kernel
theorem dd_X12_init_618 : decode m_X12_init.2.1 618 = .ok (.iconst 5, 1) := by decide +kernel
theorem dd_X12_init_619 : decode m_X12_init.2.1 619 = .ok (.newarray .char, 2) := by decide +kernel
theorem dd_X12_init_621 : decode m_X12_init.2.1 621 = .ok (.dup, 1) := by decide +kernel
theorem dd_X12_init_622 : decode m_X12_init.2.1 622 = .ok (.iconst 0, 1) := by decide +kernel
theorem dd_X12_init_623 : decode m_X12_init.2.1 623 = .ok (.bipush 108, 2) := by decide +kernel
theorem dd_X12_init_625 : decode m_X12_init.2.1 625 = .ok (.castore, 1) := by decide +kernel
theorem dd_X12_init_626 : decode m_X12_init.2.1 626 = .ok (.dup, 1) := by decide +kernel
theorem dd_X12_init_627 : decode m_X12_init.2.1 627 = .ok (.iconst 1, 1) := by decide +kernel
theorem dd_X12_init_628 : decode m_X12_init.2.1 628 = .ok (.bipush 105, 2) := by decide +kernel
theorem dd_X12_init_630 : decode m_X12_init.2.1 630 = .ok (.castore, 1) := by decide +kernel
theorem dd_X12_init_631 : decode m_X12_init.2.1 631 = .ok (.dup, 1) := by decide +kernel
theorem dd_X12_init_632 : decode m_X12_init.2.1 632 = .ok (.iconst 2, 1) := by decide +kernel
theorem dd_X12_init_633 : decode m_X12_init.2.1 633 = .ok (.bipush 118, 2) := by decide +kernel
theorem dd_X12_init_635 : decode m_X12_init.2.1 635 = .ok (.castore, 1) := by decide +kernel
theorem dd_X12_init_636 : decode m_X12_init.2.1 636 = .ok (.dup, 1) := by decide +kernel
theorem dd_X12_init_637 : decode m_X12_init.2.1 637 = .ok (.iconst 3, 1) := by decide +kernel
theorem dd_X12_init_638 : decode m_X12_init.2.1 638 = .ok (.bipush 101, 2) := by decide +kernel
theorem dd_X12_init_640 : decode m_X12_init.2.1 640 = .ok (.castore, 1) := by decide +kernel
theorem dd_X12_init_641 : decode m_X12_init.2.1 641 = .ok (.dup, 1) := by decide +kernel
theorem dd_X12_init_642 : decode m_X12_init.2.1 642 = .ok (.iconst 4, 1) := by decide +kernel
theorem dd_X12_init_643 : decode m_X12_init.2.1 643 = .ok (.bipush 115, 2) := by decide +kernel
theorem dd_X12_init_645 : decode m_X12_init.2.1 645 = .ok (.castore, 1) := by decide +kernel
theorem dd_X12_init_646 : decode m_X12_init.2.1 646 = .ok (.putfield 75, 3) := by decide +kernel
theorem dd_X12_init_649 : decode m_X12_init.2.1 649 = .ok (.aload_n 0, 1) := by decide +kernel
theorem dd_X12_init_650 : decode m_X12_init.2.1 650 = .ok (.iconst 4, 1) := by decide +kernel
theorem dd_X12_init_651 : decode m_X12_init.2.1 651 = .ok (.newarray .char, 2) := by decide +kernel
theorem dd_X12_init_653 : decode m_X12_init.2.1 653 = .ok (.dup, 1) := by decide +kernel
theorem dd_X12_init_654 : decode m_X12_init.2.1 654 = .ok (.iconst 0, 1) := by decide +kernel
theorem dd_X12_init_655 : decode m_X12_init.2.1 655 = .ok (.bipush 104, 2) := by decide +kernel
theorem dd_X12_init_657 : decode m_X12_init.2.1 657 = .ok (.castore, 1) := by decide +kernel
theorem dd_X12_init_658 : decode m_X12_init.2.1 658 = .ok (.dup, 1) := by decide +kernel
theorem dd_X12_init_659 : decode m_X12_init.2.1 659 = .ok (.iconst 1, 1) := by decide +kernel
theorem dd_X12_init_660 : decode m_X12_init.2.1 660 = .ok (.bipush 111, 2) := by decide +kernel
theorem dd_X12_init_662 : decode m_X12_init.2.1 662 = .ok (.castore, 1) := by decide +kernel
theorem dd_X12_init_663 : decode m_X12_init.2.1 663 = .ok (.dup, 1) := by decide +kernel
theorem dd_X12_init_664 : decode m_X12_init.2.1 664 = .ok (.iconst 2, 1) := by decide +kernel
theorem dd_X12_init_665 : decode m_X12_init.2.1 665 = .ok (.bipush 109, 2) := by decide +kernel
theorem dd_X12_init_667 : decode m_X12_init.2.1 667 = .ok (.castore, 1) := by decide +kernel
theorem dd_X12_init_668 : decode m_X12_init.2.1 668 = .ok (.dup, 1) := by decide +kernel
theorem dd_X12_init_669 : decode m_X12_init.2.1 669 = .ok (.iconst 3, 1) := by decide +kernel
theorem dd_X12_init_670 : decode m_X12_init.2.1 670 = .ok (.bipush 101, 2) := by decide +kernel
theorem dd_X12_init_672 : decode m_X12_init.2.1 672 = .ok (.castore, 1) := by decide +kernel
theorem dd_X12_init_673 : decode m_X12_init.2.1 673 = .ok (.putfield 78, 3) := by decide +kernel
theorem dd_X12_init_676 : decode m_X12_init.2.1 676 = .ok (.aload_n 0, 1) := by decide +kernel
theorem dd_X12_init_677 : decode m_X12_init.2.1 677 = .ok (.iconst 2, 1) := by decide +kernel
theorem dd_X12_init_678 : decode m_X12_init.2.1 678 = .ok (.newarray .char, 2) := by decide +kernel
theorem dd_X12_init_680 : decode m_X12_init.2.1 680 = .ok (.dup, 1) := by decide +kernel
theorem dd_X12_init_681 : decode m_X12_init.2.1 681 = .ok (.iconst 0, 1) := by decide +kernel
theorem dd_X12_init_682 : decode m_X12_init.2.1 682 = .ok (.bipush 111, 2) := by decide +kernel
theorem dd_X12_init_684 : decode m_X12_init.2.1 684 = .ok (.castore, 1) := by decide +kernel
theorem dd_X12_init_685 : decode m_X12_init.2.1 685 = .ok (.dup, 1) := by decide +kernel
theorem dd_X12_init_686 : decode m_X12_init.2.1 686 = .ok (.iconst 1, 1) := by decide +kernel
theorem dd_X12_init_687 : decode m_X12_init.2.1 687 = .ok (.bipush 114, 2) := by decide +kernel
theorem dd_X12_init_689 : decode m_X12_init.2.1 689 = .ok (.castore, 1) := by decide +kernel
theorem dd_X12_init_690 : decode m_X12_init.2.1 690 = .ok (.putfield 81, 3) := by decide +kernel
theorem dd_X12_init_693 : decode m_X12_init.2.1 693 = .ok (.aload_n 0, 1) := by decide +kernel
theorem dd_X12_init_694 : decode m_X12_init.2.1 694 = .ok (.iconst 3, 1) := by decide +kernel
theorem dd_X12_init_695 : decode m_X12_init.2.1 695 = .ok (.newarray .char, 2) := by decide +kernel
theorem dd_X12_init_697 : decode m_X12_init.2.1 697 = .ok (.dup, 1) := by decide +kernel
theorem dd_X12_init_698 : decode m_X12_init.2.1 698 = .ok (.iconst 0, 1) := by decide +kernel
theorem dd_X12_init_699 : decode m_X12_init.2.1 699 = .ok (.bipush 97, 2) := by decide +kernel
theorem dd_X12_init_701 : decode m_X12_init.2.1 701 = .ok (.castore, 1) := by decide +kernel
theorem dd_X12_init_702 : decode m_X12_init.2.1 702 = .ok (.dup, 1) := by decide +kernel
theorem dd_X12_init_703 : decode m_X12_init.2.1 703 = .ok (.iconst 1, 1) := by decide +kernel
theorem dd_X12_init_704 : decode m_X12_init.2.1 704 = .ok (.bipush 110, 2) := by decide +kernel
theorem dd_X12_init_706 : decode m_X12_init.2.1 706 = .ok (.castore, 1) := by decide +kernel
theorem dd_X12_init_707 : decode m_X12_init.2.1 707 = .ok (.dup, 1) := by decide +kernel
theorem dd_X12_init_708 : decode m_X12_init.2.1 708 = .ok (.iconst 2, 1) := by decide +kernel
theorem dd_X12_init_709 : decode m_X12_init.2.1 709 = .ok (.bipush 100, 2) := by decide +kernel
theorem dd_X12_init_711 : decode m_X12_init.2.1 711 = .ok (.castore, 1) := by decide +kernel
theorem dd_X12_init_712 : decode m_X12_init.2.1 712 = .ok (.putfield 84, 3) := by decide +kernel
theorem dd_X12_init_715 : decode m_X12_init.2.1 715 = .ok (.aload_n 0, 1) := by decide +kernel
theorem dd_X12_init_716 : decode m_X12_init.2.1 716 = .ok (.iconst 3, 1) := by decide +kernel
theorem dd_X12_init_717 : decode m_X12_init.2.1 717 = .ok (.newarray .char, 2) := by decide +kernel
theorem dd_X12_init_719 : decode m_X12_init.2.1 719 = .ok (.dup, 1) := by decide +kernel
theorem dd_X12_init_720 : decode m_X12_init.2.1 720 = .ok (.iconst 0, 1) := by decide +kernel
theorem dd_X12_init_721 : decode m_X12_init.2.1 721 = .ok (.bipush 110, 2) := by decide +kernel
theorem dd_X12_init_723 : decode m_X12_init.2.1 723 = .ok (.castore, 1) := by decide +kernel
theorem dd_X12_init_724 : decode m_X12_init.2.1 724 = .ok (.dup, 1) := by decide +kernel
theorem dd_X12_init_725 : decode m_X12_init.2.1 725 = .ok (.iconst 1, 1) := by decide +kernel
theorem dd_X12_init_726 : decode m_X12_init.2.1 726 = .ok (.bipush 111, 2) := by decide +kernel
theorem dd_X12_init_728 : decode m_X12_init.2.1 728 = .ok (.castore, 1) := by decide +kernel
theorem dd_X12_init_729 : decode m_X12_init.2.1 729 = .ok (.dup, 1) := by decide +kernel
theorem dd_X12_init_730 : decode m_X12_init.2.1 730 = .ok (.iconst 2, 1) := by decide +kernel
theorem dd_X12_init_731 : decode m_X12_init.2.1 731 = .ok (.bipush 116, 2) := by decide +kernel
theorem dd_X12_init_733 : decode m_X12_init.2.1 733 = .ok (.castore, 1) := by decide +kernel
theorem dd_X12_init_734 : decode m_X12_init.2.1 734 = .ok (.putfield 87, 3) := by decide +kernel
theorem dd_X12_init_737 : decode m_X12_init.2.1 737 = .ok (.aload_n 0, 1) := by decide +kernel
theorem dd_X12_init_738 : decode m_X12_init.2.1 738 = .ok (.iconst 3, 1) := by decide +kernel
theorem dd_X12_init_739 : decode m_X12_init.2.1 739 = .ok (.newarray .char, 2) := by decide +kernel
theorem dd_X12_init_741 : decode m_X12_init.2.1 741 = .ok (.dup, 1) := by decide +kernel
theorem dd_X12_init_742 : decode m_X12_init.2.1 742 = .ok (.iconst 0, 1) := by decide +kernel
theorem dd_X12_init_743 : decode m_X12_init.2.1 743 = .ok (.bipush 97, 2) := by decide +kernel
theorem dd_X12_init_745 : decode m_X12_init.2.1 745 = .ok (.castore, 1) := by decide +kernel
theorem dd_X12_init_746 : decode m_X12_init.2.1 746 = .ok (.dup, 1) := by decide +kernel
theorem dd_X12_init_747 : decode m_X12_init.2.1 747 = .ok (.iconst 1, 1) := by decide +kernel
theorem dd_X12_init_748 : decode m_X12_init.2.1 748 = .ok (.bipush 108, 2) := by decide +kernel
theorem dd_X12_init_750 : decode m_X12_init.2.1 750 = .ok (.castore, 1) := by decide +kernel
theorem dd_X12_init_751 : decode m_X12_init.2.1 751 = .ok (.dup, 1) := by decide +kernel
theorem dd_X12_init_752 : decode m_X12_init.2.1 752 = .ok (.iconst 2, 1) := by decide +kernel
theorem dd_X12_init_753 : decode m_X12_init.2.1 753 = .ok (.bipush 108, 2) := by decide +kernel
theorem dd_X12_init_755 : decode m_X12_init.2.1 755 = .ok (.castore, 1) := by decide +kernel
theorem dd_X12_init_756 : decode m_X12_init.2.1 756 = .ok (.putfield 90, 3) := by decide +kernel
theorem dd_X12_init_759 : decode m_X12_init.2.1 759 = .ok (.aload_n 0, 1) := by decide +kernel
theorem dd_X12_init_760 : decode m_X12_init.2.1 760 = .ok (.iconst 3, 1) := by decide +kernel
theorem dd_X12_init_761 : decode m_X12_init.2.1 761 = .ok (.newarray .char, 2) := by decide +kernel
theorem dd_X12_init_763 : decode m_X12_init.2.1 763 = .ok (.dup, 1) := by decide +kernel
theorem dd_X12_init_764 : decode m_X12_init.2.1 764 = .ok (.iconst 0, 1) := by decide +kernel
theorem dd_X12_init_765 : decode m_X12_init.2.1 765 = .ok (.bipush 109, 2) := by decide +kernel
theorem dd_X12_init_767 : decode m_X12_init.2.1 767 = .ok (.castore, 1) := by decide +kernel
theorem dd_X12_init_768 : decode m_X12_init.2.1 768 = .ok (.dup, 1) := by decide +kernel
theorem dd_X12_init_769 : decode m_X12_init.2.1 769 = .ok (.iconst 1, 1) := by decide +kernel
theorem dd_X12_init_770 : decode m_X12_init.2.1 770 = .ok (.bipush 105, 2) := by decide +kernel
theorem dd_X12_init_772 : decode m_X12_init.2.1 772 = .ok (.castore, 1) := by decide +kernel
theorem dd_X12_init_773 : decode m_X12_init.2.1 773 = .ok (.dup, 1) := by decide +kernel
theorem dd_X12_init_774 : decode m_X12_init.2.1 774 = .ok (.iconst 2, 1) := by decide +kernel
theorem dd_X12_init_775 : decode m_X12_init.2.1 775 = .ok (.bipush 110, 2) := by decide +kernel
theorem dd_X12_init_777 : decode m_X12_init.2.1 777 = .ok (.castore, 1) := by decide +kernel
theorem dd_X12_init_778 : decode m_X12_init.2.1 778 = .ok (.putfield 93, 3) := by decide +kernel
theorem dd_X12_init_781 : decode m_X12_init.2.1 781 = .ok (.aload_n 0, 1) := by decide +kernel
theorem dd_X12_init_782 : decode m_X12_init.2.1 782 = .ok (.iconst 3, 1) := by decide +kernel
theorem dd_X12_init_783 : decode m_X12_init.2.1 783 = .ok (.newarray .char, 2) := by decide +kernel
theorem dd_X12_init_785 : decode m_X12_init.2.1 785 = .ok (.dup, 1) := by decide +kernel
theorem dd_X12_init_786 : decode m_X12_init.2.1 786 = .ok (.iconst 0, 1) := by decide +kernel
theorem dd_X12_init_787 : decode m_X12_init.2.1 787 = .ok (.bipush 109, 2) := by decide +kernel
theorem dd_X12_init_789 : decode m_X12_init.2.1 789 = .ok (.castore, 1) := by decide +kernel
theorem dd_X12_init_790 : decode m_X12_init.2.1 790 = .ok (.dup, 1) := by decide +kernel
theorem dd_X12_init_791 : decode m_X12_init.2.1 791 = .ok (.iconst 1, 1) := by decide +kernel
theorem dd_X12_init_792 : decode m_X12_init.2.1 792 = .ok (.bipush 97, 2) := by decide +kernel
theorem dd_X12_init_794 : decode m_X12_init.2.1 794 = .ok (.castore, 1) := by decide +kernel
theorem dd_X12_init_795 : decode m_X12_init.2.1 795 = .ok (.dup, 1) := by decide +kernel
theorem dd_X12_init_796 : decode m_X12_init.2.1 796 = .ok (.iconst 2, 1) := by decide +kernel
theorem dd_X12_init_797 : decode m_X12_init.2.1 797 = .ok (.bipush 120, 2) := by decide +kernel
theorem dd_X12_init_799 : decode m_X12_init.2.1 799 = .ok (.castore, 1) := by decide +kernel
theorem dd_X12_init_800 : decode m_X12_init.2.1 800 = .ok (.putfield 96, 3) := by decide +kernel
theorem dd_X12_init_803 : decode m_X12_init.2.1 803 = .ok (.aload_n 0, 1) := by decide +kernel
theorem dd_X12_init_804 : decode m_X12_init.2.1 804 = .ok (.bipush 20, 2) := by decide +kernel
theorem dd_X12_init_806 : decode m_X12_init.2.1 806 = .ok (.newarray .long, 2) := by decide +kernel
theorem dd_X12_init_808 : decode m_X12_init.2.1 808 = .ok (.putfield 99, 3) := by decide +kernel
theorem dd_X12_init_811 : decode m_X12_init.2.1 811 = .ok (.aload_n 0, 1) := by decide +kernel
theorem dd_X12_init_812 : decode m_X12_init.2.1 812 = .ok (.iconst 4, 1) := by decide +kernel
theorem dd_X12_init_813 : decode m_X12_init.2.1 813 = .ok (.newarray .int, 2) := by decide +kernel
theorem dd_X12_init_815 : decode m_X12_init.2.1 815 = .ok (.putfield 103, 3) := by decide +kernel
theorem dd_X12_init_818 : decode m_X12_init.2.1 818 = .ok (.aload_n 0, 1) := by decide +kernel
theorem dd_X12_init_819 : decode m_X12_init.2.1 819 = .ok (.bipush 48, 2) := by decide +kernel
theorem dd_X12_init_821 : decode m_X12_init.2.1 821 = .ok (.newarray .int, 2) := by decide +kernel
theorem dd_X12_init_823 : decode m_X12_init.2.1 823 = .ok (.putfield 106, 3) := by decide +kernel
theorem dd_X12_init_826 : decode m_X12_init.2.1 826 = .ok (.aload_n 0, 1) := by decide +kernel
theorem dd_X12_init_827 : decode m_X12_init.2.1 827 = .ok (.bipush 8, 2) := by decide +kernel
theorem dd_X12_init_829 : decode m_X12_init.2.1 829 = .ok (.newarray .int, 2) := by decide +kernel
theorem dd_X12_init_831 : decode m_X12_init.2.1 831 = .ok (.putfield 109, 3) := by decide +kernel
theorem dd_X12_init_834 : decode m_X12_init.2.1 834 = .ok (.aload_n 0, 1) := by decide +kernel
theorem dd_X12_init_835 : decode m_X12_init.2.1 835 = .ok (.bipush 10, 2) := by decide +kernel
theorem dd_X12_init_837 : decode m_X12_init.2.1 837 = .ok (.newarray .int, 2) := by decide +kernel
theorem dd_X12_init_839 : decode m_X12_init.2.1 839 = .ok (.dup, 1) := by decide +kernel
theorem dd_X12_init_840 : decode m_X12_init.2.1 840 = .ok (.iconst 0, 1) := by decide +kernel
theorem dd_X12_init_841 : decode m_X12_init.2.1 841 = .ok (.iconst (-1), 1) := by decide +kernel
theorem dd_X12_init_842 : decode m_X12_init.2.1 842 = .ok (.iastore, 1) := by decide +kernel
theorem dd_X12_init_843 : decode m_X12_init.2.1 843 = .ok (.dup, 1) := by decide +kernel
theorem dd_X12_init_844 : decode m_X12_init.2.1 844 = .ok (.iconst 1, 1) := by decide +kernel
theorem dd_X12_init_845 : decode m_X12_init.2.1 845 = .ok (.iconst (-1), 1) := by decide +kernel
theorem dd_X12_init_846 : decode m_X12_init.2.1 846 = .ok (.iastore, 1) := by decide +kernel
theorem dd_X12_init_847 : decode m_X12_init.2.1 847 = .ok (.dup, 1) := by decide +kernel
theorem dd_X12_init_848 : decode m_X12_init.2.1 848 = .ok (.iconst 2, 1) := by decide +kernel
theorem dd_X12_init_849 : decode m_X12_init.2.1 849 = .ok (.iconst (-1), 1) := by decide +kernel
theorem dd_X12_init_850 : decode m_X12_init.2.1 850 = .ok (.iastore, 1) := by decide +kernel
theorem dd_X12_init_851 : decode m_X12_init.2.1 851 = .ok (.dup, 1) := by decide +kernel
theorem dd_X12_init_852 : decode m_X12_init.2.1 852 = .ok (.iconst 3, 1) := by decide +kernel
theorem dd_X12_init_853 : decode m_X12_init.2.1 853 = .ok (.iconst (-1), 1) := by decide +kernel
theorem dd_X12_init_854 : decode m_X12_init.2.1 854 = .ok (.iastore, 1) := by decide +kernel
theorem dd_X12_init_855 : decode m_X12_init.2.1 855 = .ok (.dup, 1) := by decide +kernel
theorem dd_X12_init_856 : decode m_X12_init.2.1 856 = .ok (.iconst 4, 1) := by decide +kernel
theorem dd_X12_init_857 : decode m_X12_init.2.1 857 = .ok (.iconst (-1), 1) := by decide +kernel
theorem dd_X12_init_858 : decode m_X12_init.2.1 858 = .ok (.iastore, 1) := by decide +kernel
theorem dd_X12_init_859 : decode m_X12_init.2.1 859 = .ok (.dup, 1) := by decide +kernel
theorem dd_X12_init_860 : decode m_X12_init.2.1 860 = .ok (.iconst 5, 1) := by decide +kernel
theorem dd_X12_init_861 : decode m_X12_init.2.1 861 = .ok (.iconst (-1), 1) := by decide +kernel
theorem dd_X12_init_862 : decode m_X12_init.2.1 862 = .ok (.iastore, 1) := by decide +kernel
theorem dd_X12_init_863 : decode m_X12_init.2.1 863 = .ok (.dup, 1) := by decide +kernel
theorem dd_X12_init_864 : decode m_X12_init.2.1 864 = .ok (.bipush 6, 2) := by decide +kernel
theorem dd_X12_init_866 : decode m_X12_init.2.1 866 = .ok (.iconst (-1), 1) := by decide +kernel
theorem dd_X12_init_867 : decode m_X12_init.2.1 867 = .ok (.iastore, 1) := by decide +kernel
theorem dd_X12_init_868 : decode m_X12_init.2.1 868 = .ok (.dup, 1) := by decide +kernel
theorem dd_X12_init_869 : decode m_X12_init.2.1 869 = .ok (.bipush 7, 2) := by decide +kernel
theorem dd_X12_init_871 : decode m_X12_init.2.1 871 = .ok (.iconst (-1), 1) := by decide +kernel
theorem dd_X12_init_872 : decode m_X12_init.2.1 872 = .ok (.iastore, 1) := by decide +kernel
theorem dd_X12_init_873 : decode m_X12_init.2.1 873 = .ok (.dup, 1) := by decide +kernel
theorem dd_X12_init_874 : decode m_X12_init.2.1 874 = .ok (.bipush 8, 2) := by decide +kernel
theorem dd_X12_init_876 : decode m_X12_init.2.1 876 = .ok (.iconst (-1), 1) := by decide +kernel
theorem dd_X12_init_877 : decode m_X12_init.2.1 877 = .ok (.iastore, 1) := by decide +kernel
