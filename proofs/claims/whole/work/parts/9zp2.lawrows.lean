/-! the law: decode rows (written by wip/whole/gen_law1.py) -/
theorem zd_L_586 : decode code 586 = .ok (.iaload, 1) := by decide +kernel
theorem zd_L_587 : decode code 587 = .ok (.invokevirtual 77, 3) := by decide +kernel
theorem zd_L_590 : decode code 590 = .ok (.aload_n 2, 1) := by decide +kernel
theorem zd_L_591 : decode code 591 = .ok (.aload_n 0, 1) := by decide +kernel
theorem zd_L_592 : decode code 592 = .ok (.iload_n 3, 1) := by decide +kernel
theorem zd_L_593 : decode code 593 = .ok (.iconst 1, 1) := by decide +kernel
theorem zd_L_594 : decode code 594 = .ok (.iadd, 1) := by decide +kernel
theorem zd_L_595 : decode code 595 = .ok (.iaload, 1) := by decide +kernel
theorem zd_L_596 : decode code 596 = .ok (.invokevirtual 80, 3) := by decide +kernel
theorem zd_L_599 : decode code 599 = .ok (.if_icmp .eq 424, 3) := by decide +kernel
theorem zd_L_602 : decode code 602 = .ok (.iconst 0, 1) := by decide +kernel
theorem zd_L_603 : decode code 603 = .ok (.ireturn, 1) := by decide +kernel
theorem zd_L_604 : decode code 604 = .ok (.aload_n 1, 1) := by decide +kernel
theorem zd_L_605 : decode code 605 = .ok (.aload_n 0, 1) := by decide +kernel
theorem zd_L_606 : decode code 606 = .ok (.iload_n 3, 1) := by decide +kernel
theorem zd_L_607 : decode code 607 = .ok (.iconst 1, 1) := by decide +kernel
theorem zd_L_608 : decode code 608 = .ok (.iadd, 1) := by decide +kernel
theorem zd_L_609 : decode code 609 = .ok (.iaload, 1) := by decide +kernel
theorem zd_L_610 : decode code 610 = .ok (.invokevirtual 81, 3) := by decide +kernel
theorem zd_L_613 : decode code 613 = .ok (.aload_n 2, 1) := by decide +kernel
theorem zd_L_614 : decode code 614 = .ok (.aload_n 0, 1) := by decide +kernel
theorem zd_L_615 : decode code 615 = .ok (.iload_n 3, 1) := by decide +kernel
theorem zd_L_616 : decode code 616 = .ok (.iconst 1, 1) := by decide +kernel
theorem zd_L_617 : decode code 617 = .ok (.iadd, 1) := by decide +kernel
theorem zd_L_618 : decode code 618 = .ok (.iaload, 1) := by decide +kernel
theorem zd_L_619 : decode code 619 = .ok (.invokevirtual 84, 3) := by decide +kernel
theorem zd_L_622 : decode code 622 = .ok (.if_icmp .eq 401, 3) := by decide +kernel
theorem zd_L_625 : decode code 625 = .ok (.iconst 0, 1) := by decide +kernel
theorem zd_L_626 : decode code 626 = .ok (.ireturn, 1) := by decide +kernel
theorem zd_L_627 : decode code 627 = .ok (.aload_n 1, 1) := by decide +kernel
theorem zd_L_628 : decode code 628 = .ok (.aload_n 0, 1) := by decide +kernel
theorem zd_L_629 : decode code 629 = .ok (.iload_n 3, 1) := by decide +kernel
theorem zd_L_630 : decode code 630 = .ok (.iconst 1, 1) := by decide +kernel
theorem zd_L_631 : decode code 631 = .ok (.iadd, 1) := by decide +kernel
theorem zd_L_632 : decode code 632 = .ok (.iaload, 1) := by decide +kernel
theorem zd_L_633 : decode code 633 = .ok (.aload_n 0, 1) := by decide +kernel
theorem zd_L_634 : decode code 634 = .ok (.iload_n 3, 1) := by decide +kernel
theorem zd_L_635 : decode code 635 = .ok (.iconst 2, 1) := by decide +kernel
theorem zd_L_636 : decode code 636 = .ok (.iadd, 1) := by decide +kernel
theorem zd_L_637 : decode code 637 = .ok (.iaload, 1) := by decide +kernel
theorem zd_L_638 : decode code 638 = .ok (.invokevirtual 85, 3) := by decide +kernel
theorem zd_L_641 : decode code 641 = .ok (.aload_n 2, 1) := by decide +kernel
theorem zd_L_642 : decode code 642 = .ok (.aload_n 0, 1) := by decide +kernel
theorem zd_L_643 : decode code 643 = .ok (.iload_n 3, 1) := by decide +kernel
theorem zd_L_644 : decode code 644 = .ok (.iconst 1, 1) := by decide +kernel
theorem zd_L_645 : decode code 645 = .ok (.iadd, 1) := by decide +kernel
theorem zd_L_646 : decode code 646 = .ok (.iaload, 1) := by decide +kernel
theorem zd_L_647 : decode code 647 = .ok (.aload_n 0, 1) := by decide +kernel
theorem zd_L_648 : decode code 648 = .ok (.iload_n 3, 1) := by decide +kernel
theorem zd_L_649 : decode code 649 = .ok (.iconst 2, 1) := by decide +kernel
theorem zd_L_650 : decode code 650 = .ok (.iadd, 1) := by decide +kernel
theorem zd_L_651 : decode code 651 = .ok (.iaload, 1) := by decide +kernel
theorem zd_L_652 : decode code 652 = .ok (.invokevirtual 88, 3) := by decide +kernel
theorem zd_L_655 : decode code 655 = .ok (.if_icmp .eq 368, 3) := by decide +kernel
theorem zd_L_658 : decode code 658 = .ok (.iconst 0, 1) := by decide +kernel
theorem zd_L_659 : decode code 659 = .ok (.ireturn, 1) := by decide +kernel
theorem zd_L_660 : decode code 660 = .ok (.aload_n 1, 1) := by decide +kernel
theorem zd_L_661 : decode code 661 = .ok (.aload_n 0, 1) := by decide +kernel
theorem zd_L_662 : decode code 662 = .ok (.iload_n 3, 1) := by decide +kernel
theorem zd_L_663 : decode code 663 = .ok (.iconst 1, 1) := by decide +kernel
theorem zd_L_664 : decode code 664 = .ok (.iadd, 1) := by decide +kernel
theorem zd_L_665 : decode code 665 = .ok (.iaload, 1) := by decide +kernel
theorem zd_L_666 : decode code 666 = .ok (.invokevirtual 89, 3) := by decide +kernel
theorem zd_L_669 : decode code 669 = .ok (.aload_n 2, 1) := by decide +kernel
theorem zd_L_670 : decode code 670 = .ok (.aload_n 0, 1) := by decide +kernel
theorem zd_L_671 : decode code 671 = .ok (.iload_n 3, 1) := by decide +kernel
theorem zd_L_672 : decode code 672 = .ok (.iconst 1, 1) := by decide +kernel
theorem zd_L_673 : decode code 673 = .ok (.iadd, 1) := by decide +kernel
theorem zd_L_674 : decode code 674 = .ok (.iaload, 1) := by decide +kernel
theorem zd_L_675 : decode code 675 = .ok (.invokevirtual 92, 3) := by decide +kernel
theorem zd_L_678 : decode code 678 = .ok (.if_icmp .eq 345, 3) := by decide +kernel
theorem zd_L_681 : decode code 681 = .ok (.iconst 0, 1) := by decide +kernel
theorem zd_L_682 : decode code 682 = .ok (.ireturn, 1) := by decide +kernel
theorem zd_L_683 : decode code 683 = .ok (.aload_n 1, 1) := by decide +kernel
theorem zd_L_684 : decode code 684 = .ok (.aload_n 0, 1) := by decide +kernel
theorem zd_L_685 : decode code 685 = .ok (.iload_n 3, 1) := by decide +kernel
theorem zd_L_686 : decode code 686 = .ok (.iconst 1, 1) := by decide +kernel
theorem zd_L_687 : decode code 687 = .ok (.iadd, 1) := by decide +kernel
theorem zd_L_688 : decode code 688 = .ok (.iaload, 1) := by decide +kernel
theorem zd_L_689 : decode code 689 = .ok (.invokevirtual 93, 3) := by decide +kernel
theorem zd_L_692 : decode code 692 = .ok (.aload_n 2, 1) := by decide +kernel
theorem zd_L_693 : decode code 693 = .ok (.aload_n 0, 1) := by decide +kernel
theorem zd_L_694 : decode code 694 = .ok (.iload_n 3, 1) := by decide +kernel
theorem zd_L_695 : decode code 695 = .ok (.iconst 1, 1) := by decide +kernel
theorem zd_L_696 : decode code 696 = .ok (.iadd, 1) := by decide +kernel
theorem zd_L_697 : decode code 697 = .ok (.iaload, 1) := by decide +kernel
theorem zd_L_698 : decode code 698 = .ok (.invokevirtual 96, 3) := by decide +kernel
theorem zd_L_701 : decode code 701 = .ok (.if_icmp .eq 322, 3) := by decide +kernel
theorem zd_L_704 : decode code 704 = .ok (.iconst 0, 1) := by decide +kernel
theorem zd_L_705 : decode code 705 = .ok (.ireturn, 1) := by decide +kernel
theorem zd_L_706 : decode code 706 = .ok (.aload_n 1, 1) := by decide +kernel
theorem zd_L_707 : decode code 707 = .ok (.aload_n 0, 1) := by decide +kernel
theorem zd_L_708 : decode code 708 = .ok (.iload_n 3, 1) := by decide +kernel
theorem zd_L_709 : decode code 709 = .ok (.iconst 1, 1) := by decide +kernel
theorem zd_L_710 : decode code 710 = .ok (.iadd, 1) := by decide +kernel
theorem zd_L_711 : decode code 711 = .ok (.iaload, 1) := by decide +kernel
theorem zd_L_712 : decode code 712 = .ok (.invokevirtual 97, 3) := by decide +kernel
theorem zd_L_715 : decode code 715 = .ok (.aload_n 2, 1) := by decide +kernel
theorem zd_L_716 : decode code 716 = .ok (.aload_n 0, 1) := by decide +kernel
theorem zd_L_717 : decode code 717 = .ok (.iload_n 3, 1) := by decide +kernel
theorem zd_L_718 : decode code 718 = .ok (.iconst 1, 1) := by decide +kernel
theorem zd_L_719 : decode code 719 = .ok (.iadd, 1) := by decide +kernel
theorem zd_L_720 : decode code 720 = .ok (.iaload, 1) := by decide +kernel
theorem zd_L_721 : decode code 721 = .ok (.invokevirtual 100, 3) := by decide +kernel
theorem zd_L_724 : decode code 724 = .ok (.if_icmp .eq 299, 3) := by decide +kernel
theorem zd_L_727 : decode code 727 = .ok (.iconst 0, 1) := by decide +kernel
theorem zd_L_728 : decode code 728 = .ok (.ireturn, 1) := by decide +kernel
theorem zd_L_729 : decode code 729 = .ok (.aload_n 1, 1) := by decide +kernel
theorem zd_L_730 : decode code 730 = .ok (.aload_n 0, 1) := by decide +kernel
theorem zd_L_731 : decode code 731 = .ok (.iload_n 3, 1) := by decide +kernel
theorem zd_L_732 : decode code 732 = .ok (.iconst 1, 1) := by decide +kernel
theorem zd_L_733 : decode code 733 = .ok (.iadd, 1) := by decide +kernel
theorem zd_L_734 : decode code 734 = .ok (.iaload, 1) := by decide +kernel
theorem zd_L_735 : decode code 735 = .ok (.aload_n 0, 1) := by decide +kernel
theorem zd_L_736 : decode code 736 = .ok (.iload_n 3, 1) := by decide +kernel
theorem zd_L_737 : decode code 737 = .ok (.iconst 2, 1) := by decide +kernel
theorem zd_L_738 : decode code 738 = .ok (.iadd, 1) := by decide +kernel
theorem zd_L_739 : decode code 739 = .ok (.iaload, 1) := by decide +kernel
theorem zd_L_740 : decode code 740 = .ok (.aload_n 0, 1) := by decide +kernel
theorem zd_L_741 : decode code 741 = .ok (.iload_n 3, 1) := by decide +kernel
theorem zd_L_742 : decode code 742 = .ok (.iconst 3, 1) := by decide +kernel
theorem zd_L_743 : decode code 743 = .ok (.iadd, 1) := by decide +kernel
theorem zd_L_744 : decode code 744 = .ok (.iaload, 1) := by decide +kernel
theorem zd_L_745 : decode code 745 = .ok (.invokevirtual 101, 3) := by decide +kernel
theorem zd_L_748 : decode code 748 = .ok (.aload_n 2, 1) := by decide +kernel
theorem zd_L_749 : decode code 749 = .ok (.aload_n 0, 1) := by decide +kernel
theorem zd_L_750 : decode code 750 = .ok (.iload_n 3, 1) := by decide +kernel
theorem zd_L_751 : decode code 751 = .ok (.iconst 1, 1) := by decide +kernel
theorem zd_L_752 : decode code 752 = .ok (.iadd, 1) := by decide +kernel
theorem zd_L_753 : decode code 753 = .ok (.iaload, 1) := by decide +kernel
theorem zd_L_754 : decode code 754 = .ok (.aload_n 0, 1) := by decide +kernel
theorem zd_L_755 : decode code 755 = .ok (.iload_n 3, 1) := by decide +kernel
theorem zd_L_756 : decode code 756 = .ok (.iconst 2, 1) := by decide +kernel
theorem zd_L_757 : decode code 757 = .ok (.iadd, 1) := by decide +kernel
theorem zd_L_758 : decode code 758 = .ok (.iaload, 1) := by decide +kernel
theorem zd_L_759 : decode code 759 = .ok (.aload_n 0, 1) := by decide +kernel
theorem zd_L_760 : decode code 760 = .ok (.iload_n 3, 1) := by decide +kernel
theorem zd_L_761 : decode code 761 = .ok (.iconst 3, 1) := by decide +kernel
theorem zd_L_762 : decode code 762 = .ok (.iadd, 1) := by decide +kernel
theorem zd_L_763 : decode code 763 = .ok (.iaload, 1) := by decide +kernel
theorem zd_L_764 : decode code 764 = .ok (.invokevirtual 104, 3) := by decide +kernel
theorem zd_L_767 : decode code 767 = .ok (.if_icmp .eq 256, 3) := by decide +kernel
theorem zd_L_770 : decode code 770 = .ok (.iconst 0, 1) := by decide +kernel
theorem zd_L_771 : decode code 771 = .ok (.ireturn, 1) := by decide +kernel
theorem zd_L_772 : decode code 772 = .ok (.aload_n 1, 1) := by decide +kernel
theorem zd_L_773 : decode code 773 = .ok (.aload_n 0, 1) := by decide +kernel
theorem zd_L_774 : decode code 774 = .ok (.iload_n 3, 1) := by decide +kernel
theorem zd_L_775 : decode code 775 = .ok (.iconst 1, 1) := by decide +kernel
theorem zd_L_776 : decode code 776 = .ok (.iadd, 1) := by decide +kernel
theorem zd_L_777 : decode code 777 = .ok (.iaload, 1) := by decide +kernel
theorem zd_L_778 : decode code 778 = .ok (.aload_n 0, 1) := by decide +kernel
theorem zd_L_779 : decode code 779 = .ok (.iload_n 3, 1) := by decide +kernel
theorem zd_L_780 : decode code 780 = .ok (.iconst 2, 1) := by decide +kernel
theorem zd_L_781 : decode code 781 = .ok (.iadd, 1) := by decide +kernel
theorem zd_L_782 : decode code 782 = .ok (.iaload, 1) := by decide +kernel
theorem zd_L_783 : decode code 783 = .ok (.invokevirtual 105, 3) := by decide +kernel
theorem zd_L_786 : decode code 786 = .ok (.aload_n 2, 1) := by decide +kernel
theorem zd_L_787 : decode code 787 = .ok (.aload_n 0, 1) := by decide +kernel
theorem zd_L_788 : decode code 788 = .ok (.iload_n 3, 1) := by decide +kernel
theorem zd_L_789 : decode code 789 = .ok (.iconst 1, 1) := by decide +kernel
theorem zd_L_790 : decode code 790 = .ok (.iadd, 1) := by decide +kernel
theorem zd_L_791 : decode code 791 = .ok (.iaload, 1) := by decide +kernel
theorem zd_L_792 : decode code 792 = .ok (.aload_n 0, 1) := by decide +kernel
theorem zd_L_793 : decode code 793 = .ok (.iload_n 3, 1) := by decide +kernel
theorem zd_L_794 : decode code 794 = .ok (.iconst 2, 1) := by decide +kernel
theorem zd_L_795 : decode code 795 = .ok (.iadd, 1) := by decide +kernel
theorem zd_L_796 : decode code 796 = .ok (.iaload, 1) := by decide +kernel
theorem zd_L_797 : decode code 797 = .ok (.invokevirtual 108, 3) := by decide +kernel
theorem zd_L_800 : decode code 800 = .ok (.if_icmp .eq 223, 3) := by decide +kernel
theorem zd_L_803 : decode code 803 = .ok (.iconst 0, 1) := by decide +kernel
theorem zd_L_804 : decode code 804 = .ok (.ireturn, 1) := by decide +kernel
