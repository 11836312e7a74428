theorem d_W_498 : decode code 498 = .ok (.ifCond .ne 15, 3) := by decide +kernel
theorem d_W_501 : decode code 501 = .ok (.aload_n 3, 1) := by decide +kernel
theorem d_W_502 : decode code 502 = .ok (.iconst 0, 1) := by decide +kernel
theorem d_W_503 : decode code 503 = .ok (.laload, 1) := by decide +kernel
theorem d_W_504 : decode code 504 = .ok (.iload 6, 2) := by decide +kernel
theorem d_W_506 : decode code 506 = .ok (.i2l, 1) := by decide +kernel
theorem d_W_507 : decode code 507 = .ok (.lcmp, 1) := by decide +kernel
theorem d_W_508 : decode code 508 = .ok (.ifCond .eq 5, 3) := by decide +kernel
theorem d_W_511 : decode code 511 = .ok (.iconst 0, 1) := by decide +kernel
theorem d_W_512 : decode code 512 = .ok (.ireturn, 1) := by decide +kernel
theorem d_W_513 : decode code 513 = .ok (.goto 358, 3) := by decide +kernel
theorem d_W_516 : decode code 516 = .ok (.aload_n 1, 1) := by decide +kernel
theorem d_W_517 : decode code 517 = .ok (.aload_n 0, 1) := by decide +kernel
theorem d_W_518 : decode code 518 = .ok (.iload 4, 2) := by decide +kernel
theorem d_W_520 : decode code 520 = .ok (.iconst 1, 1) := by decide +kernel
theorem d_W_521 : decode code 521 = .ok (.iadd, 1) := by decide +kernel
theorem d_W_522 : decode code 522 = .ok (.iaload, 1) := by decide +kernel
theorem d_W_523 : decode code 523 = .ok (.aload_n 3, 1) := by decide +kernel
theorem d_W_524 : decode code 524 = .ok (.invokestatic 90, 3) := by decide +kernel
theorem d_W_527 : decode code 527 = .ok (.istore 5, 2) := by decide +kernel
theorem d_W_529 : decode code 529 = .ok (.aload_n 2, 1) := by decide +kernel
theorem d_W_530 : decode code 530 = .ok (.aload_n 0, 1) := by decide +kernel
theorem d_W_531 : decode code 531 = .ok (.iload 4, 2) := by decide +kernel
theorem d_W_533 : decode code 533 = .ok (.iconst 1, 1) := by decide +kernel
theorem d_W_534 : decode code 534 = .ok (.iadd, 1) := by decide +kernel
theorem d_W_535 : decode code 535 = .ok (.iaload, 1) := by decide +kernel
theorem d_W_536 : decode code 536 = .ok (.invokevirtual 92, 3) := by decide +kernel
theorem d_W_539 : decode code 539 = .ok (.istore 6, 2) := by decide +kernel
theorem d_W_541 : decode code 541 = .ok (.aload_n 2, 1) := by decide +kernel
theorem d_W_542 : decode code 542 = .ok (.invokevirtual 70, 3) := by decide +kernel
theorem d_W_545 : decode code 545 = .ok (.iload 5, 2) := by decide +kernel
theorem d_W_547 : decode code 547 = .ok (.if_icmp .eq 5, 3) := by decide +kernel
theorem d_W_550 : decode code 550 = .ok (.iconst 0, 1) := by decide +kernel
theorem d_W_551 : decode code 551 = .ok (.ireturn, 1) := by decide +kernel
theorem d_W_552 : decode code 552 = .ok (.iload 5, 2) := by decide +kernel
theorem d_W_554 : decode code 554 = .ok (.ifCond .ne 15, 3) := by decide +kernel
theorem d_W_557 : decode code 557 = .ok (.aload_n 3, 1) := by decide +kernel
theorem d_W_558 : decode code 558 = .ok (.iconst 0, 1) := by decide +kernel
theorem d_W_559 : decode code 559 = .ok (.laload, 1) := by decide +kernel
theorem d_W_560 : decode code 560 = .ok (.iload 6, 2) := by decide +kernel
theorem d_W_562 : decode code 562 = .ok (.i2l, 1) := by decide +kernel
theorem d_W_563 : decode code 563 = .ok (.lcmp, 1) := by decide +kernel
theorem d_W_564 : decode code 564 = .ok (.ifCond .eq 5, 3) := by decide +kernel
theorem d_W_567 : decode code 567 = .ok (.iconst 0, 1) := by decide +kernel
theorem d_W_568 : decode code 568 = .ok (.ireturn, 1) := by decide +kernel
theorem d_W_569 : decode code 569 = .ok (.goto 302, 3) := by decide +kernel
theorem d_W_572 : decode code 572 = .ok (.aload_n 1, 1) := by decide +kernel
theorem d_W_573 : decode code 573 = .ok (.aload_n 0, 1) := by decide +kernel
theorem d_W_574 : decode code 574 = .ok (.iload 4, 2) := by decide +kernel
theorem d_W_576 : decode code 576 = .ok (.iconst 1, 1) := by decide +kernel
theorem d_W_577 : decode code 577 = .ok (.iadd, 1) := by decide +kernel
theorem d_W_578 : decode code 578 = .ok (.iaload, 1) := by decide +kernel
theorem d_W_579 : decode code 579 = .ok (.aload_n 3, 1) := by decide +kernel
theorem d_W_580 : decode code 580 = .ok (.invokestatic 93, 3) := by decide +kernel
theorem d_W_583 : decode code 583 = .ok (.istore 5, 2) := by decide +kernel
theorem d_W_585 : decode code 585 = .ok (.aload_n 2, 1) := by decide +kernel
theorem d_W_586 : decode code 586 = .ok (.aload_n 0, 1) := by decide +kernel
theorem d_W_587 : decode code 587 = .ok (.iload 4, 2) := by decide +kernel
theorem d_W_589 : decode code 589 = .ok (.iconst 1, 1) := by decide +kernel
theorem d_W_590 : decode code 590 = .ok (.iadd, 1) := by decide +kernel
theorem d_W_591 : decode code 591 = .ok (.iaload, 1) := by decide +kernel
theorem d_W_592 : decode code 592 = .ok (.invokevirtual 95, 3) := by decide +kernel
theorem d_W_595 : decode code 595 = .ok (.istore 6, 2) := by decide +kernel
theorem d_W_597 : decode code 597 = .ok (.aload_n 2, 1) := by decide +kernel
theorem d_W_598 : decode code 598 = .ok (.invokevirtual 70, 3) := by decide +kernel
theorem d_W_601 : decode code 601 = .ok (.iload 5, 2) := by decide +kernel
theorem d_W_603 : decode code 603 = .ok (.if_icmp .eq 5, 3) := by decide +kernel
theorem d_W_606 : decode code 606 = .ok (.iconst 0, 1) := by decide +kernel
theorem d_W_607 : decode code 607 = .ok (.ireturn, 1) := by decide +kernel
theorem d_W_608 : decode code 608 = .ok (.iload 5, 2) := by decide +kernel
theorem d_W_610 : decode code 610 = .ok (.ifCond .ne 15, 3) := by decide +kernel
theorem d_W_613 : decode code 613 = .ok (.aload_n 3, 1) := by decide +kernel
theorem d_W_614 : decode code 614 = .ok (.iconst 0, 1) := by decide +kernel
theorem d_W_615 : decode code 615 = .ok (.laload, 1) := by decide +kernel
theorem d_W_616 : decode code 616 = .ok (.iload 6, 2) := by decide +kernel
theorem d_W_618 : decode code 618 = .ok (.i2l, 1) := by decide +kernel
theorem d_W_619 : decode code 619 = .ok (.lcmp, 1) := by decide +kernel
theorem d_W_620 : decode code 620 = .ok (.ifCond .eq 5, 3) := by decide +kernel
theorem d_W_623 : decode code 623 = .ok (.iconst 0, 1) := by decide +kernel
theorem d_W_624 : decode code 624 = .ok (.ireturn, 1) := by decide +kernel
theorem d_W_625 : decode code 625 = .ok (.goto 246, 3) := by decide +kernel
theorem d_W_628 : decode code 628 = .ok (.aload_n 1, 1) := by decide +kernel
theorem d_W_629 : decode code 629 = .ok (.aload_n 0, 1) := by decide +kernel
theorem d_W_630 : decode code 630 = .ok (.iload 4, 2) := by decide +kernel
theorem d_W_632 : decode code 632 = .ok (.iconst 1, 1) := by decide +kernel
theorem d_W_633 : decode code 633 = .ok (.iadd, 1) := by decide +kernel
theorem d_W_634 : decode code 634 = .ok (.iaload, 1) := by decide +kernel
theorem d_W_635 : decode code 635 = .ok (.aload_n 0, 1) := by decide +kernel
theorem d_W_636 : decode code 636 = .ok (.iload 4, 2) := by decide +kernel
theorem d_W_638 : decode code 638 = .ok (.iconst 2, 1) := by decide +kernel
theorem d_W_639 : decode code 639 = .ok (.iadd, 1) := by decide +kernel
theorem d_W_640 : decode code 640 = .ok (.iaload, 1) := by decide +kernel
theorem d_W_641 : decode code 641 = .ok (.aload_n 3, 1) := by decide +kernel
theorem d_W_642 : decode code 642 = .ok (.invokestatic 96, 3) := by decide +kernel
theorem d_W_645 : decode code 645 = .ok (.istore 5, 2) := by decide +kernel
theorem d_W_647 : decode code 647 = .ok (.aload_n 2, 1) := by decide +kernel
theorem d_W_648 : decode code 648 = .ok (.aload_n 0, 1) := by decide +kernel
theorem d_W_649 : decode code 649 = .ok (.iload 4, 2) := by decide +kernel
theorem d_W_651 : decode code 651 = .ok (.iconst 1, 1) := by decide +kernel
theorem d_W_652 : decode code 652 = .ok (.iadd, 1) := by decide +kernel
theorem d_W_653 : decode code 653 = .ok (.iaload, 1) := by decide +kernel
theorem d_W_654 : decode code 654 = .ok (.aload_n 0, 1) := by decide +kernel
theorem d_W_655 : decode code 655 = .ok (.iload 4, 2) := by decide +kernel
theorem d_W_657 : decode code 657 = .ok (.iconst 2, 1) := by decide +kernel
theorem d_W_658 : decode code 658 = .ok (.iadd, 1) := by decide +kernel
theorem d_W_659 : decode code 659 = .ok (.iaload, 1) := by decide +kernel
theorem d_W_660 : decode code 660 = .ok (.invokevirtual 99, 3) := by decide +kernel
theorem d_W_663 : decode code 663 = .ok (.istore 6, 2) := by decide +kernel
theorem d_W_665 : decode code 665 = .ok (.aload_n 2, 1) := by decide +kernel
theorem d_W_666 : decode code 666 = .ok (.invokevirtual 70, 3) := by decide +kernel
theorem d_W_669 : decode code 669 = .ok (.iload 5, 2) := by decide +kernel
theorem d_W_671 : decode code 671 = .ok (.if_icmp .eq 5, 3) := by decide +kernel
theorem d_W_674 : decode code 674 = .ok (.iconst 0, 1) := by decide +kernel
theorem d_W_675 : decode code 675 = .ok (.ireturn, 1) := by decide +kernel
theorem d_W_676 : decode code 676 = .ok (.iload 5, 2) := by decide +kernel
theorem d_W_678 : decode code 678 = .ok (.ifCond .ne 15, 3) := by decide +kernel
theorem d_W_681 : decode code 681 = .ok (.aload_n 3, 1) := by decide +kernel
theorem d_W_682 : decode code 682 = .ok (.iconst 0, 1) := by decide +kernel
theorem d_W_683 : decode code 683 = .ok (.laload, 1) := by decide +kernel
theorem d_W_684 : decode code 684 = .ok (.iload 6, 2) := by decide +kernel
theorem d_W_686 : decode code 686 = .ok (.i2l, 1) := by decide +kernel
theorem d_W_687 : decode code 687 = .ok (.lcmp, 1) := by decide +kernel
theorem d_W_688 : decode code 688 = .ok (.ifCond .eq 5, 3) := by decide +kernel
theorem d_W_691 : decode code 691 = .ok (.iconst 0, 1) := by decide +kernel
theorem d_W_692 : decode code 692 = .ok (.ireturn, 1) := by decide +kernel
theorem d_W_693 : decode code 693 = .ok (.goto 178, 3) := by decide +kernel
theorem d_W_696 : decode code 696 = .ok (.aload_n 1, 1) := by decide +kernel
theorem d_W_697 : decode code 697 = .ok (.aload_n 0, 1) := by decide +kernel
theorem d_W_698 : decode code 698 = .ok (.iload 4, 2) := by decide +kernel
theorem d_W_700 : decode code 700 = .ok (.iconst 1, 1) := by decide +kernel
theorem d_W_701 : decode code 701 = .ok (.iadd, 1) := by decide +kernel
theorem d_W_702 : decode code 702 = .ok (.iaload, 1) := by decide +kernel
theorem d_W_703 : decode code 703 = .ok (.aload_n 0, 1) := by decide +kernel
theorem d_W_704 : decode code 704 = .ok (.iload 4, 2) := by decide +kernel
theorem d_W_706 : decode code 706 = .ok (.iconst 2, 1) := by decide +kernel
theorem d_W_707 : decode code 707 = .ok (.iadd, 1) := by decide +kernel
theorem d_W_708 : decode code 708 = .ok (.iaload, 1) := by decide +kernel
theorem d_W_709 : decode code 709 = .ok (.aload_n 3, 1) := by decide +kernel
theorem d_W_710 : decode code 710 = .ok (.invokestatic 100, 3) := by decide +kernel
theorem d_W_713 : decode code 713 = .ok (.istore 5, 2) := by decide +kernel
