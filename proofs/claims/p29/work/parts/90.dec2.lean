theorem dl_590 : decode code 590 = .ok (.goto 732, 3) := by decide +kernel
theorem dl_593 : decode code 593 = .ok (.aload_n 1, 1) := by decide +kernel
theorem dl_594 : decode code 594 = .ok (.aload_n 0, 1) := by decide +kernel
theorem dl_595 : decode code 595 = .ok (.iload_n 3, 1) := by decide +kernel
theorem dl_596 : decode code 596 = .ok (.iconst 1, 1) := by decide +kernel
theorem dl_597 : decode code 597 = .ok (.iadd, 1) := by decide +kernel
theorem dl_598 : decode code 598 = .ok (.iaload, 1) := by decide +kernel
theorem dl_599 : decode code 599 = .ok (.aload_n 0, 1) := by decide +kernel
theorem dl_600 : decode code 600 = .ok (.iload_n 3, 1) := by decide +kernel
theorem dl_601 : decode code 601 = .ok (.iconst 2, 1) := by decide +kernel
theorem dl_602 : decode code 602 = .ok (.iadd, 1) := by decide +kernel
theorem dl_603 : decode code 603 = .ok (.iaload, 1) := by decide +kernel
theorem dl_604 : decode code 604 = .ok (.aload_n 0, 1) := by decide +kernel
theorem dl_605 : decode code 605 = .ok (.iload_n 3, 1) := by decide +kernel
theorem dl_606 : decode code 606 = .ok (.iconst 3, 1) := by decide +kernel
theorem dl_607 : decode code 607 = .ok (.iadd, 1) := by decide +kernel
theorem dl_608 : decode code 608 = .ok (.iaload, 1) := by decide +kernel
theorem dl_609 : decode code 609 = .ok (.invokevirtual 85, 3) := by decide +kernel
theorem dl_612 : decode code 612 = .ok (.pop, 1) := by decide +kernel
theorem dl_613 : decode code 613 = .ok (.aload_n 2, 1) := by decide +kernel
theorem dl_614 : decode code 614 = .ok (.aload_n 0, 1) := by decide +kernel
theorem dl_615 : decode code 615 = .ok (.iload_n 3, 1) := by decide +kernel
theorem dl_616 : decode code 616 = .ok (.iconst 1, 1) := by decide +kernel
theorem dl_617 : decode code 617 = .ok (.iadd, 1) := by decide +kernel
theorem dl_618 : decode code 618 = .ok (.iaload, 1) := by decide +kernel
theorem dl_619 : decode code 619 = .ok (.aload_n 0, 1) := by decide +kernel
theorem dl_620 : decode code 620 = .ok (.iload_n 3, 1) := by decide +kernel
theorem dl_621 : decode code 621 = .ok (.iconst 2, 1) := by decide +kernel
theorem dl_622 : decode code 622 = .ok (.iadd, 1) := by decide +kernel
theorem dl_623 : decode code 623 = .ok (.iaload, 1) := by decide +kernel
theorem dl_624 : decode code 624 = .ok (.aload_n 0, 1) := by decide +kernel
theorem dl_625 : decode code 625 = .ok (.iload_n 3, 1) := by decide +kernel
theorem dl_626 : decode code 626 = .ok (.iconst 3, 1) := by decide +kernel
theorem dl_627 : decode code 627 = .ok (.iadd, 1) := by decide +kernel
theorem dl_628 : decode code 628 = .ok (.iaload, 1) := by decide +kernel
theorem dl_629 : decode code 629 = .ok (.invokevirtual 88, 3) := by decide +kernel
theorem dl_632 : decode code 632 = .ok (.pop, 1) := by decide +kernel
theorem dl_633 : decode code 633 = .ok (.goto 689, 3) := by decide +kernel
theorem dl_636 : decode code 636 = .ok (.aload_n 1, 1) := by decide +kernel
theorem dl_637 : decode code 637 = .ok (.invokevirtual 89, 3) := by decide +kernel
theorem dl_640 : decode code 640 = .ok (.pop, 1) := by decide +kernel
theorem dl_641 : decode code 641 = .ok (.aload_n 2, 1) := by decide +kernel
theorem dl_642 : decode code 642 = .ok (.invokevirtual 92, 3) := by decide +kernel
theorem dl_645 : decode code 645 = .ok (.pop, 1) := by decide +kernel
theorem dl_646 : decode code 646 = .ok (.goto 676, 3) := by decide +kernel
theorem dl_649 : decode code 649 = .ok (.aload_n 1, 1) := by decide +kernel
theorem dl_650 : decode code 650 = .ok (.aload_n 0, 1) := by decide +kernel
theorem dl_651 : decode code 651 = .ok (.iload_n 3, 1) := by decide +kernel
theorem dl_652 : decode code 652 = .ok (.iconst 1, 1) := by decide +kernel
theorem dl_653 : decode code 653 = .ok (.iadd, 1) := by decide +kernel
theorem dl_654 : decode code 654 = .ok (.iaload, 1) := by decide +kernel
theorem dl_655 : decode code 655 = .ok (.invokevirtual 93, 3) := by decide +kernel
theorem dl_658 : decode code 658 = .ok (.pop, 1) := by decide +kernel
theorem dl_659 : decode code 659 = .ok (.aload_n 2, 1) := by decide +kernel
theorem dl_660 : decode code 660 = .ok (.aload_n 0, 1) := by decide +kernel
theorem dl_661 : decode code 661 = .ok (.iload_n 3, 1) := by decide +kernel
theorem dl_662 : decode code 662 = .ok (.iconst 1, 1) := by decide +kernel
theorem dl_663 : decode code 663 = .ok (.iadd, 1) := by decide +kernel
theorem dl_664 : decode code 664 = .ok (.iaload, 1) := by decide +kernel
theorem dl_665 : decode code 665 = .ok (.invokevirtual 96, 3) := by decide +kernel
theorem dl_668 : decode code 668 = .ok (.pop, 1) := by decide +kernel
theorem dl_669 : decode code 669 = .ok (.goto 653, 3) := by decide +kernel
theorem dl_672 : decode code 672 = .ok (.aload_n 1, 1) := by decide +kernel
theorem dl_673 : decode code 673 = .ok (.aload_n 0, 1) := by decide +kernel
theorem dl_674 : decode code 674 = .ok (.iload_n 3, 1) := by decide +kernel
theorem dl_675 : decode code 675 = .ok (.iconst 1, 1) := by decide +kernel
theorem dl_676 : decode code 676 = .ok (.iadd, 1) := by decide +kernel
theorem dl_677 : decode code 677 = .ok (.iaload, 1) := by decide +kernel
theorem dl_678 : decode code 678 = .ok (.aload_n 0, 1) := by decide +kernel
theorem dl_679 : decode code 679 = .ok (.iload_n 3, 1) := by decide +kernel
theorem dl_680 : decode code 680 = .ok (.iconst 2, 1) := by decide +kernel
theorem dl_681 : decode code 681 = .ok (.iadd, 1) := by decide +kernel
theorem dl_682 : decode code 682 = .ok (.iaload, 1) := by decide +kernel
theorem dl_683 : decode code 683 = .ok (.invokevirtual 97, 3) := by decide +kernel
theorem dl_686 : decode code 686 = .ok (.pop, 1) := by decide +kernel
theorem dl_687 : decode code 687 = .ok (.aload_n 2, 1) := by decide +kernel
theorem dl_688 : decode code 688 = .ok (.aload_n 0, 1) := by decide +kernel
theorem dl_689 : decode code 689 = .ok (.iload_n 3, 1) := by decide +kernel
theorem dl_690 : decode code 690 = .ok (.iconst 1, 1) := by decide +kernel
theorem dl_691 : decode code 691 = .ok (.iadd, 1) := by decide +kernel
theorem dl_692 : decode code 692 = .ok (.iaload, 1) := by decide +kernel
theorem dl_693 : decode code 693 = .ok (.aload_n 0, 1) := by decide +kernel
theorem dl_694 : decode code 694 = .ok (.iload_n 3, 1) := by decide +kernel
theorem dl_695 : decode code 695 = .ok (.iconst 2, 1) := by decide +kernel
theorem dl_696 : decode code 696 = .ok (.iadd, 1) := by decide +kernel
theorem dl_697 : decode code 697 = .ok (.iaload, 1) := by decide +kernel
theorem dl_698 : decode code 698 = .ok (.invokevirtual 100, 3) := by decide +kernel
theorem dl_701 : decode code 701 = .ok (.pop, 1) := by decide +kernel
theorem dl_702 : decode code 702 = .ok (.goto 620, 3) := by decide +kernel
theorem dl_705 : decode code 705 = .ok (.aload_n 1, 1) := by decide +kernel
theorem dl_706 : decode code 706 = .ok (.aload_n 0, 1) := by decide +kernel
theorem dl_707 : decode code 707 = .ok (.iload_n 3, 1) := by decide +kernel
theorem dl_708 : decode code 708 = .ok (.iconst 1, 1) := by decide +kernel
theorem dl_709 : decode code 709 = .ok (.iadd, 1) := by decide +kernel
theorem dl_710 : decode code 710 = .ok (.iaload, 1) := by decide +kernel
theorem dl_711 : decode code 711 = .ok (.aload_n 0, 1) := by decide +kernel
theorem dl_712 : decode code 712 = .ok (.iload_n 3, 1) := by decide +kernel
theorem dl_713 : decode code 713 = .ok (.iconst 2, 1) := by decide +kernel
theorem dl_714 : decode code 714 = .ok (.iadd, 1) := by decide +kernel
theorem dl_715 : decode code 715 = .ok (.iaload, 1) := by decide +kernel
theorem dl_716 : decode code 716 = .ok (.invokevirtual 101, 3) := by decide +kernel
theorem dl_719 : decode code 719 = .ok (.pop, 1) := by decide +kernel
theorem dl_720 : decode code 720 = .ok (.aload_n 2, 1) := by decide +kernel
theorem dl_721 : decode code 721 = .ok (.aload_n 0, 1) := by decide +kernel
theorem dl_722 : decode code 722 = .ok (.iload_n 3, 1) := by decide +kernel
theorem dl_723 : decode code 723 = .ok (.iconst 1, 1) := by decide +kernel
theorem dl_724 : decode code 724 = .ok (.iadd, 1) := by decide +kernel
theorem dl_725 : decode code 725 = .ok (.iaload, 1) := by decide +kernel
theorem dl_726 : decode code 726 = .ok (.aload_n 0, 1) := by decide +kernel
theorem dl_727 : decode code 727 = .ok (.iload_n 3, 1) := by decide +kernel
theorem dl_728 : decode code 728 = .ok (.iconst 2, 1) := by decide +kernel
theorem dl_729 : decode code 729 = .ok (.iadd, 1) := by decide +kernel
theorem dl_730 : decode code 730 = .ok (.iaload, 1) := by decide +kernel
theorem dl_731 : decode code 731 = .ok (.invokevirtual 104, 3) := by decide +kernel
theorem dl_734 : decode code 734 = .ok (.pop, 1) := by decide +kernel
theorem dl_735 : decode code 735 = .ok (.goto 587, 3) := by decide +kernel
theorem dl_738 : decode code 738 = .ok (.aload_n 1, 1) := by decide +kernel
theorem dl_739 : decode code 739 = .ok (.aload_n 0, 1) := by decide +kernel
theorem dl_740 : decode code 740 = .ok (.iload_n 3, 1) := by decide +kernel
theorem dl_741 : decode code 741 = .ok (.iconst 1, 1) := by decide +kernel
theorem dl_742 : decode code 742 = .ok (.iadd, 1) := by decide +kernel
theorem dl_743 : decode code 743 = .ok (.iaload, 1) := by decide +kernel
theorem dl_744 : decode code 744 = .ok (.aload_n 0, 1) := by decide +kernel
theorem dl_745 : decode code 745 = .ok (.iload_n 3, 1) := by decide +kernel
theorem dl_746 : decode code 746 = .ok (.iconst 2, 1) := by decide +kernel
theorem dl_747 : decode code 747 = .ok (.iadd, 1) := by decide +kernel
theorem dl_748 : decode code 748 = .ok (.iaload, 1) := by decide +kernel
theorem dl_749 : decode code 749 = .ok (.invokevirtual 105, 3) := by decide +kernel
theorem dl_752 : decode code 752 = .ok (.pop, 1) := by decide +kernel
theorem dl_753 : decode code 753 = .ok (.aload_n 2, 1) := by decide +kernel
theorem dl_754 : decode code 754 = .ok (.aload_n 0, 1) := by decide +kernel
theorem dl_755 : decode code 755 = .ok (.iload_n 3, 1) := by decide +kernel
theorem dl_756 : decode code 756 = .ok (.iconst 1, 1) := by decide +kernel
theorem dl_757 : decode code 757 = .ok (.iadd, 1) := by decide +kernel
theorem dl_758 : decode code 758 = .ok (.iaload, 1) := by decide +kernel
theorem dl_759 : decode code 759 = .ok (.aload_n 0, 1) := by decide +kernel
theorem dl_760 : decode code 760 = .ok (.iload_n 3, 1) := by decide +kernel
theorem dl_761 : decode code 761 = .ok (.iconst 2, 1) := by decide +kernel
theorem dl_762 : decode code 762 = .ok (.iadd, 1) := by decide +kernel
theorem dl_763 : decode code 763 = .ok (.iaload, 1) := by decide +kernel
theorem dl_764 : decode code 764 = .ok (.invokevirtual 108, 3) := by decide +kernel
theorem dl_767 : decode code 767 = .ok (.pop, 1) := by decide +kernel
theorem dl_768 : decode code 768 = .ok (.goto 554, 3) := by decide +kernel
theorem dl_771 : decode code 771 = .ok (.aload_n 1, 1) := by decide +kernel
theorem dl_772 : decode code 772 = .ok (.aload_n 0, 1) := by decide +kernel
theorem dl_773 : decode code 773 = .ok (.iload_n 3, 1) := by decide +kernel
theorem dl_774 : decode code 774 = .ok (.iconst 1, 1) := by decide +kernel
theorem dl_775 : decode code 775 = .ok (.iadd, 1) := by decide +kernel
theorem dl_776 : decode code 776 = .ok (.iaload, 1) := by decide +kernel
theorem dl_777 : decode code 777 = .ok (.invokevirtual 109, 3) := by decide +kernel
theorem dl_780 : decode code 780 = .ok (.pop, 1) := by decide +kernel
theorem dl_781 : decode code 781 = .ok (.aload_n 2, 1) := by decide +kernel
theorem dl_782 : decode code 782 = .ok (.aload_n 0, 1) := by decide +kernel
theorem dl_783 : decode code 783 = .ok (.iload_n 3, 1) := by decide +kernel
theorem dl_784 : decode code 784 = .ok (.iconst 1, 1) := by decide +kernel
theorem dl_785 : decode code 785 = .ok (.iadd, 1) := by decide +kernel
theorem dl_786 : decode code 786 = .ok (.iaload, 1) := by decide +kernel
theorem dl_787 : decode code 787 = .ok (.invokevirtual 112, 3) := by decide +kernel
theorem dl_790 : decode code 790 = .ok (.pop, 1) := by decide +kernel
theorem dl_791 : decode code 791 = .ok (.goto 531, 3) := by decide +kernel
