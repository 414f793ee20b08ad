/-! ===== the law: its instructions, 4 ===== -/
theorem dLaw_561 : decode code 561 = .ok (.aload_n 0, 1) := by decide +kernel
theorem dLaw_562 : decode code 562 = .ok (.iload 4, 2) := by decide +kernel
theorem dLaw_564 : decode code 564 = .ok (.iconst 2, 1) := by decide +kernel
theorem dLaw_565 : decode code 565 = .ok (.iadd, 1) := by decide +kernel
theorem dLaw_566 : decode code 566 = .ok (.iaload, 1) := by decide +kernel
theorem dLaw_567 : decode code 567 = .ok (.invokevirtual 93, 3) := by decide +kernel
theorem dLaw_570 : decode code 570 = .ok (.lstore 6, 2) := by decide +kernel
theorem dLaw_572 : decode code 572 = .ok (.aload_n 2, 1) := by decide +kernel
theorem dLaw_573 : decode code 573 = .ok (.invokevirtual 69, 3) := by decide +kernel
theorem dLaw_576 : decode code 576 = .ok (.iload 5, 2) := by decide +kernel
theorem dLaw_578 : decode code 578 = .ok (.if_icmp .eq 5, 3) := by decide +kernel
theorem dLaw_581 : decode code 581 = .ok (.iconst 0, 1) := by decide +kernel
theorem dLaw_582 : decode code 582 = .ok (.ireturn, 1) := by decide +kernel
theorem dLaw_583 : decode code 583 = .ok (.iload 5, 2) := by decide +kernel
theorem dLaw_585 : decode code 585 = .ok (.ifCond .ne 14, 3) := by decide +kernel
theorem dLaw_588 : decode code 588 = .ok (.aload_n 3, 1) := by decide +kernel
theorem dLaw_589 : decode code 589 = .ok (.iconst 0, 1) := by decide +kernel
theorem dLaw_590 : decode code 590 = .ok (.laload, 1) := by decide +kernel
theorem dLaw_591 : decode code 591 = .ok (.lload 6, 2) := by decide +kernel
theorem dLaw_593 : decode code 593 = .ok (.lcmp, 1) := by decide +kernel
theorem dLaw_594 : decode code 594 = .ok (.ifCond .eq 5, 3) := by decide +kernel
theorem dLaw_597 : decode code 597 = .ok (.iconst 0, 1) := by decide +kernel
theorem dLaw_598 : decode code 598 = .ok (.ireturn, 1) := by decide +kernel
theorem dLaw_599 : decode code 599 = .ok (.goto 271, 3) := by decide +kernel
theorem dLaw_602 : decode code 602 = .ok (.aload_n 1, 1) := by decide +kernel
theorem dLaw_603 : decode code 603 = .ok (.aload_n 0, 1) := by decide +kernel
theorem dLaw_604 : decode code 604 = .ok (.iload 4, 2) := by decide +kernel
theorem dLaw_606 : decode code 606 = .ok (.iconst 1, 1) := by decide +kernel
theorem dLaw_607 : decode code 607 = .ok (.iadd, 1) := by decide +kernel
theorem dLaw_608 : decode code 608 = .ok (.iaload, 1) := by decide +kernel
theorem dLaw_609 : decode code 609 = .ok (.aload_n 0, 1) := by decide +kernel
theorem dLaw_610 : decode code 610 = .ok (.iload 4, 2) := by decide +kernel
theorem dLaw_612 : decode code 612 = .ok (.iconst 2, 1) := by decide +kernel
theorem dLaw_613 : decode code 613 = .ok (.iadd, 1) := by decide +kernel
theorem dLaw_614 : decode code 614 = .ok (.iaload, 1) := by decide +kernel
theorem dLaw_615 : decode code 615 = .ok (.aload_n 0, 1) := by decide +kernel
theorem dLaw_616 : decode code 616 = .ok (.iload 4, 2) := by decide +kernel
theorem dLaw_618 : decode code 618 = .ok (.iconst 3, 1) := by decide +kernel
theorem dLaw_619 : decode code 619 = .ok (.iadd, 1) := by decide +kernel
theorem dLaw_620 : decode code 620 = .ok (.iaload, 1) := by decide +kernel
theorem dLaw_621 : decode code 621 = .ok (.i2l, 1) := by decide +kernel
theorem dLaw_622 : decode code 622 = .ok (.bipush 32, 2) := by decide +kernel
theorem dLaw_624 : decode code 624 = .ok (.lshl, 1) := by decide +kernel
theorem dLaw_625 : decode code 625 = .ok (.aload_n 0, 1) := by decide +kernel
theorem dLaw_626 : decode code 626 = .ok (.iload 4, 2) := by decide +kernel
theorem dLaw_628 : decode code 628 = .ok (.iconst 4, 1) := by decide +kernel
theorem dLaw_629 : decode code 629 = .ok (.iadd, 1) := by decide +kernel
theorem dLaw_630 : decode code 630 = .ok (.iaload, 1) := by decide +kernel
theorem dLaw_631 : decode code 631 = .ok (.i2l, 1) := by decide +kernel
theorem dLaw_632 : decode code 632 = .ok (.ldc2_w 61, 3) := by decide +kernel
theorem dLaw_635 : decode code 635 = .ok (.land, 1) := by decide +kernel
theorem dLaw_636 : decode code 636 = .ok (.lor, 1) := by decide +kernel
theorem dLaw_637 : decode code 637 = .ok (.invokestatic 94, 3) := by decide +kernel
theorem dLaw_640 : decode code 640 = .ok (.istore 5, 2) := by decide +kernel
theorem dLaw_642 : decode code 642 = .ok (.aload_n 2, 1) := by decide +kernel
theorem dLaw_643 : decode code 643 = .ok (.aload_n 0, 1) := by decide +kernel
theorem dLaw_644 : decode code 644 = .ok (.iload 4, 2) := by decide +kernel
theorem dLaw_646 : decode code 646 = .ok (.iconst 1, 1) := by decide +kernel
theorem dLaw_647 : decode code 647 = .ok (.iadd, 1) := by decide +kernel
theorem dLaw_648 : decode code 648 = .ok (.iaload, 1) := by decide +kernel
theorem dLaw_649 : decode code 649 = .ok (.aload_n 0, 1) := by decide +kernel
theorem dLaw_650 : decode code 650 = .ok (.iload 4, 2) := by decide +kernel
theorem dLaw_652 : decode code 652 = .ok (.iconst 2, 1) := by decide +kernel
theorem dLaw_653 : decode code 653 = .ok (.iadd, 1) := by decide +kernel
theorem dLaw_654 : decode code 654 = .ok (.iaload, 1) := by decide +kernel
theorem dLaw_655 : decode code 655 = .ok (.aload_n 0, 1) := by decide +kernel
theorem dLaw_656 : decode code 656 = .ok (.iload 4, 2) := by decide +kernel
theorem dLaw_658 : decode code 658 = .ok (.iconst 3, 1) := by decide +kernel
theorem dLaw_659 : decode code 659 = .ok (.iadd, 1) := by decide +kernel
theorem dLaw_660 : decode code 660 = .ok (.iaload, 1) := by decide +kernel
theorem dLaw_661 : decode code 661 = .ok (.i2l, 1) := by decide +kernel
theorem dLaw_662 : decode code 662 = .ok (.bipush 32, 2) := by decide +kernel
theorem dLaw_664 : decode code 664 = .ok (.lshl, 1) := by decide +kernel
theorem dLaw_665 : decode code 665 = .ok (.aload_n 0, 1) := by decide +kernel
theorem dLaw_666 : decode code 666 = .ok (.iload 4, 2) := by decide +kernel
theorem dLaw_668 : decode code 668 = .ok (.iconst 4, 1) := by decide +kernel
theorem dLaw_669 : decode code 669 = .ok (.iadd, 1) := by decide +kernel
theorem dLaw_670 : decode code 670 = .ok (.iaload, 1) := by decide +kernel
theorem dLaw_671 : decode code 671 = .ok (.i2l, 1) := by decide +kernel
theorem dLaw_672 : decode code 672 = .ok (.ldc2_w 61, 3) := by decide +kernel
theorem dLaw_675 : decode code 675 = .ok (.land, 1) := by decide +kernel
theorem dLaw_676 : decode code 676 = .ok (.lor, 1) := by decide +kernel
theorem dLaw_677 : decode code 677 = .ok (.invokevirtual 97, 3) := by decide +kernel
theorem dLaw_680 : decode code 680 = .ok (.aload_n 2, 1) := by decide +kernel
theorem dLaw_681 : decode code 681 = .ok (.invokevirtual 69, 3) := by decide +kernel
theorem dLaw_684 : decode code 684 = .ok (.iload 5, 2) := by decide +kernel
theorem dLaw_686 : decode code 686 = .ok (.if_icmp .eq 5, 3) := by decide +kernel
theorem dLaw_689 : decode code 689 = .ok (.iconst 0, 1) := by decide +kernel
theorem dLaw_690 : decode code 690 = .ok (.ireturn, 1) := by decide +kernel
theorem dLaw_691 : decode code 691 = .ok (.goto 179, 3) := by decide +kernel
theorem dLaw_694 : decode code 694 = .ok (.aload_n 1, 1) := by decide +kernel
theorem dLaw_695 : decode code 695 = .ok (.aload_n 0, 1) := by decide +kernel
theorem dLaw_696 : decode code 696 = .ok (.iload 4, 2) := by decide +kernel
theorem dLaw_698 : decode code 698 = .ok (.iconst 1, 1) := by decide +kernel
theorem dLaw_699 : decode code 699 = .ok (.iadd, 1) := by decide +kernel
theorem dLaw_700 : decode code 700 = .ok (.iaload, 1) := by decide +kernel
theorem dLaw_701 : decode code 701 = .ok (.invokestatic 98, 3) := by decide +kernel
theorem dLaw_704 : decode code 704 = .ok (.istore 5, 2) := by decide +kernel
theorem dLaw_706 : decode code 706 = .ok (.aload_n 2, 1) := by decide +kernel
theorem dLaw_707 : decode code 707 = .ok (.aload_n 0, 1) := by decide +kernel
theorem dLaw_708 : decode code 708 = .ok (.iload 4, 2) := by decide +kernel
theorem dLaw_710 : decode code 710 = .ok (.iconst 1, 1) := by decide +kernel
theorem dLaw_711 : decode code 711 = .ok (.iadd, 1) := by decide +kernel
theorem dLaw_712 : decode code 712 = .ok (.iaload, 1) := by decide +kernel
theorem dLaw_713 : decode code 713 = .ok (.invokevirtual 101, 3) := by decide +kernel
theorem dLaw_716 : decode code 716 = .ok (.aload_n 2, 1) := by decide +kernel
theorem dLaw_717 : decode code 717 = .ok (.invokevirtual 69, 3) := by decide +kernel
theorem dLaw_720 : decode code 720 = .ok (.iload 5, 2) := by decide +kernel
theorem dLaw_722 : decode code 722 = .ok (.if_icmp .eq 5, 3) := by decide +kernel
theorem dLaw_725 : decode code 725 = .ok (.iconst 0, 1) := by decide +kernel
