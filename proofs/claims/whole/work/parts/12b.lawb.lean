/-! the law: decode rows, by program (wip/whole/genlaw.py) -/
theorem dL_law_582 : decode mL_law.2.1 582 = .ok (.iload_n 3, 1) := by decide +kernel
theorem dL_law_583 : decode mL_law.2.1 583 = .ok (.iconst 3, 1) := by decide +kernel
theorem dL_law_584 : decode mL_law.2.1 584 = .ok (.iadd, 1) := by decide +kernel
theorem dL_law_585 : decode mL_law.2.1 585 = .ok (.iaload, 1) := by decide +kernel
theorem dL_law_586 : decode mL_law.2.1 586 = .ok (.invokevirtual 67, 3) := by decide +kernel
theorem dL_law_589 : decode mL_law.2.1 589 = .ok (.aload_n 2, 1) := by decide +kernel
theorem dL_law_590 : decode mL_law.2.1 590 = .ok (.aload_n 0, 1) := by decide +kernel
theorem dL_law_591 : decode mL_law.2.1 591 = .ok (.iload_n 3, 1) := by decide +kernel
theorem dL_law_592 : decode mL_law.2.1 592 = .ok (.iconst 1, 1) := by decide +kernel
theorem dL_law_593 : decode mL_law.2.1 593 = .ok (.iadd, 1) := by decide +kernel
theorem dL_law_594 : decode mL_law.2.1 594 = .ok (.iaload, 1) := by decide +kernel
theorem dL_law_595 : decode mL_law.2.1 595 = .ok (.aload_n 0, 1) := by decide +kernel
theorem dL_law_596 : decode mL_law.2.1 596 = .ok (.iload_n 3, 1) := by decide +kernel
theorem dL_law_597 : decode mL_law.2.1 597 = .ok (.iconst 2, 1) := by decide +kernel
theorem dL_law_598 : decode mL_law.2.1 598 = .ok (.iadd, 1) := by decide +kernel
theorem dL_law_599 : decode mL_law.2.1 599 = .ok (.iaload, 1) := by decide +kernel
theorem dL_law_600 : decode mL_law.2.1 600 = .ok (.ifCond .eq 7, 3) := by decide +kernel
theorem dL_law_603 : decode mL_law.2.1 603 = .ok (.iconst 1, 1) := by decide +kernel
theorem dL_law_604 : decode mL_law.2.1 604 = .ok (.goto 4, 3) := by decide +kernel
theorem dL_law_607 : decode mL_law.2.1 607 = .ok (.iconst 0, 1) := by decide +kernel
theorem dL_law_608 : decode mL_law.2.1 608 = .ok (.aload_n 0, 1) := by decide +kernel
theorem dL_law_609 : decode mL_law.2.1 609 = .ok (.iload_n 3, 1) := by decide +kernel
theorem dL_law_610 : decode mL_law.2.1 610 = .ok (.iconst 3, 1) := by decide +kernel
theorem dL_law_611 : decode mL_law.2.1 611 = .ok (.iadd, 1) := by decide +kernel
theorem dL_law_612 : decode mL_law.2.1 612 = .ok (.iaload, 1) := by decide +kernel
theorem dL_law_613 : decode mL_law.2.1 613 = .ok (.invokevirtual 71, 3) := by decide +kernel
theorem dL_law_616 : decode mL_law.2.1 616 = .ok (.if_icmp .eq 1116, 3) := by decide +kernel
theorem dL_law_619 : decode mL_law.2.1 619 = .ok (.iconst 0, 1) := by decide +kernel
theorem dL_law_620 : decode mL_law.2.1 620 = .ok (.ireturn, 1) := by decide +kernel
theorem dL_law_621 : decode mL_law.2.1 621 = .ok (.aload_n 1, 1) := by decide +kernel
theorem dL_law_622 : decode mL_law.2.1 622 = .ok (.aload_n 0, 1) := by decide +kernel
theorem dL_law_623 : decode mL_law.2.1 623 = .ok (.iload_n 3, 1) := by decide +kernel
theorem dL_law_624 : decode mL_law.2.1 624 = .ok (.iconst 1, 1) := by decide +kernel
theorem dL_law_625 : decode mL_law.2.1 625 = .ok (.iadd, 1) := by decide +kernel
theorem dL_law_626 : decode mL_law.2.1 626 = .ok (.iaload, 1) := by decide +kernel
theorem dL_law_627 : decode mL_law.2.1 627 = .ok (.aload_n 0, 1) := by decide +kernel
theorem dL_law_628 : decode mL_law.2.1 628 = .ok (.iload_n 3, 1) := by decide +kernel
theorem dL_law_629 : decode mL_law.2.1 629 = .ok (.iconst 2, 1) := by decide +kernel
theorem dL_law_630 : decode mL_law.2.1 630 = .ok (.iadd, 1) := by decide +kernel
theorem dL_law_631 : decode mL_law.2.1 631 = .ok (.iaload, 1) := by decide +kernel
theorem dL_law_632 : decode mL_law.2.1 632 = .ok (.ifCond .eq 7, 3) := by decide +kernel
theorem dL_law_635 : decode mL_law.2.1 635 = .ok (.iconst 1, 1) := by decide +kernel
theorem dL_law_636 : decode mL_law.2.1 636 = .ok (.goto 4, 3) := by decide +kernel
theorem dL_law_639 : decode mL_law.2.1 639 = .ok (.iconst 0, 1) := by decide +kernel
theorem dL_law_640 : decode mL_law.2.1 640 = .ok (.aload_n 0, 1) := by decide +kernel
theorem dL_law_641 : decode mL_law.2.1 641 = .ok (.iload_n 3, 1) := by decide +kernel
theorem dL_law_642 : decode mL_law.2.1 642 = .ok (.iconst 3, 1) := by decide +kernel
theorem dL_law_643 : decode mL_law.2.1 643 = .ok (.iadd, 1) := by decide +kernel
theorem dL_law_644 : decode mL_law.2.1 644 = .ok (.iaload, 1) := by decide +kernel
theorem dL_law_645 : decode mL_law.2.1 645 = .ok (.invokevirtual 72, 3) := by decide +kernel
theorem dL_law_648 : decode mL_law.2.1 648 = .ok (.aload_n 2, 1) := by decide +kernel
theorem dL_law_649 : decode mL_law.2.1 649 = .ok (.aload_n 0, 1) := by decide +kernel
theorem dL_law_650 : decode mL_law.2.1 650 = .ok (.iload_n 3, 1) := by decide +kernel
theorem dL_law_651 : decode mL_law.2.1 651 = .ok (.iconst 1, 1) := by decide +kernel
theorem dL_law_652 : decode mL_law.2.1 652 = .ok (.iadd, 1) := by decide +kernel
theorem dL_law_653 : decode mL_law.2.1 653 = .ok (.iaload, 1) := by decide +kernel
theorem dL_law_654 : decode mL_law.2.1 654 = .ok (.aload_n 0, 1) := by decide +kernel
theorem dL_law_655 : decode mL_law.2.1 655 = .ok (.iload_n 3, 1) := by decide +kernel
theorem dL_law_656 : decode mL_law.2.1 656 = .ok (.iconst 2, 1) := by decide +kernel
theorem dL_law_657 : decode mL_law.2.1 657 = .ok (.iadd, 1) := by decide +kernel
theorem dL_law_658 : decode mL_law.2.1 658 = .ok (.iaload, 1) := by decide +kernel
theorem dL_law_659 : decode mL_law.2.1 659 = .ok (.ifCond .eq 7, 3) := by decide +kernel
theorem dL_law_662 : decode mL_law.2.1 662 = .ok (.iconst 1, 1) := by decide +kernel
theorem dL_law_663 : decode mL_law.2.1 663 = .ok (.goto 4, 3) := by decide +kernel
theorem dL_law_666 : decode mL_law.2.1 666 = .ok (.iconst 0, 1) := by decide +kernel
theorem dL_law_667 : decode mL_law.2.1 667 = .ok (.aload_n 0, 1) := by decide +kernel
theorem dL_law_668 : decode mL_law.2.1 668 = .ok (.iload_n 3, 1) := by decide +kernel
theorem dL_law_669 : decode mL_law.2.1 669 = .ok (.iconst 3, 1) := by decide +kernel
theorem dL_law_670 : decode mL_law.2.1 670 = .ok (.iadd, 1) := by decide +kernel
theorem dL_law_671 : decode mL_law.2.1 671 = .ok (.iaload, 1) := by decide +kernel
theorem dL_law_672 : decode mL_law.2.1 672 = .ok (.invokevirtual 75, 3) := by decide +kernel
theorem dL_law_675 : decode mL_law.2.1 675 = .ok (.if_icmp .eq 1057, 3) := by decide +kernel
theorem dL_law_678 : decode mL_law.2.1 678 = .ok (.iconst 0, 1) := by decide +kernel
theorem dL_law_679 : decode mL_law.2.1 679 = .ok (.ireturn, 1) := by decide +kernel
theorem dL_law_680 : decode mL_law.2.1 680 = .ok (.aload_n 1, 1) := by decide +kernel
theorem dL_law_681 : decode mL_law.2.1 681 = .ok (.aload_n 0, 1) := by decide +kernel
theorem dL_law_682 : decode mL_law.2.1 682 = .ok (.iload_n 3, 1) := by decide +kernel
theorem dL_law_683 : decode mL_law.2.1 683 = .ok (.iconst 1, 1) := by decide +kernel
theorem dL_law_684 : decode mL_law.2.1 684 = .ok (.iadd, 1) := by decide +kernel
theorem dL_law_685 : decode mL_law.2.1 685 = .ok (.iaload, 1) := by decide +kernel
theorem dL_law_686 : decode mL_law.2.1 686 = .ok (.aload_n 0, 1) := by decide +kernel
theorem dL_law_687 : decode mL_law.2.1 687 = .ok (.iload_n 3, 1) := by decide +kernel
theorem dL_law_688 : decode mL_law.2.1 688 = .ok (.iconst 2, 1) := by decide +kernel
theorem dL_law_689 : decode mL_law.2.1 689 = .ok (.iadd, 1) := by decide +kernel
theorem dL_law_690 : decode mL_law.2.1 690 = .ok (.iaload, 1) := by decide +kernel
theorem dL_law_691 : decode mL_law.2.1 691 = .ok (.aload_n 0, 1) := by decide +kernel
theorem dL_law_692 : decode mL_law.2.1 692 = .ok (.iload_n 3, 1) := by decide +kernel
theorem dL_law_693 : decode mL_law.2.1 693 = .ok (.iconst 3, 1) := by decide +kernel
theorem dL_law_694 : decode mL_law.2.1 694 = .ok (.iadd, 1) := by decide +kernel
theorem dL_law_695 : decode mL_law.2.1 695 = .ok (.iaload, 1) := by decide +kernel
theorem dL_law_696 : decode mL_law.2.1 696 = .ok (.invokevirtual 76, 3) := by decide +kernel
theorem dL_law_699 : decode mL_law.2.1 699 = .ok (.aload_n 2, 1) := by decide +kernel
theorem dL_law_700 : decode mL_law.2.1 700 = .ok (.aload_n 0, 1) := by decide +kernel
theorem dL_law_701 : decode mL_law.2.1 701 = .ok (.iload_n 3, 1) := by decide +kernel
theorem dL_law_702 : decode mL_law.2.1 702 = .ok (.iconst 1, 1) := by decide +kernel
theorem dL_law_703 : decode mL_law.2.1 703 = .ok (.iadd, 1) := by decide +kernel
theorem dL_law_704 : decode mL_law.2.1 704 = .ok (.iaload, 1) := by decide +kernel
theorem dL_law_705 : decode mL_law.2.1 705 = .ok (.aload_n 0, 1) := by decide +kernel
theorem dL_law_706 : decode mL_law.2.1 706 = .ok (.iload_n 3, 1) := by decide +kernel
theorem dL_law_707 : decode mL_law.2.1 707 = .ok (.iconst 2, 1) := by decide +kernel
theorem dL_law_708 : decode mL_law.2.1 708 = .ok (.iadd, 1) := by decide +kernel
theorem dL_law_709 : decode mL_law.2.1 709 = .ok (.iaload, 1) := by decide +kernel
theorem dL_law_710 : decode mL_law.2.1 710 = .ok (.aload_n 0, 1) := by decide +kernel
theorem dL_law_711 : decode mL_law.2.1 711 = .ok (.iload_n 3, 1) := by decide +kernel
theorem dL_law_712 : decode mL_law.2.1 712 = .ok (.iconst 3, 1) := by decide +kernel
theorem dL_law_713 : decode mL_law.2.1 713 = .ok (.iadd, 1) := by decide +kernel
theorem dL_law_714 : decode mL_law.2.1 714 = .ok (.iaload, 1) := by decide +kernel
theorem dL_law_715 : decode mL_law.2.1 715 = .ok (.invokevirtual 79, 3) := by decide +kernel
theorem dL_law_718 : decode mL_law.2.1 718 = .ok (.if_icmp .eq 1014, 3) := by decide +kernel
theorem dL_law_721 : decode mL_law.2.1 721 = .ok (.iconst 0, 1) := by decide +kernel
theorem dL_law_722 : decode mL_law.2.1 722 = .ok (.ireturn, 1) := by decide +kernel
theorem dL_law_723 : decode mL_law.2.1 723 = .ok (.aload_n 1, 1) := by decide +kernel
theorem dL_law_724 : decode mL_law.2.1 724 = .ok (.aload_n 0, 1) := by decide +kernel
theorem dL_law_725 : decode mL_law.2.1 725 = .ok (.iload_n 3, 1) := by decide +kernel
theorem dL_law_726 : decode mL_law.2.1 726 = .ok (.iconst 1, 1) := by decide +kernel
theorem dL_law_727 : decode mL_law.2.1 727 = .ok (.iadd, 1) := by decide +kernel
theorem dL_law_728 : decode mL_law.2.1 728 = .ok (.iaload, 1) := by decide +kernel
theorem dL_law_729 : decode mL_law.2.1 729 = .ok (.aload_n 0, 1) := by decide +kernel
theorem dL_law_730 : decode mL_law.2.1 730 = .ok (.iload_n 3, 1) := by decide +kernel
theorem dL_law_731 : decode mL_law.2.1 731 = .ok (.iconst 2, 1) := by decide +kernel
theorem dL_law_732 : decode mL_law.2.1 732 = .ok (.iadd, 1) := by decide +kernel
theorem dL_law_733 : decode mL_law.2.1 733 = .ok (.iaload, 1) := by decide +kernel
theorem dL_law_734 : decode mL_law.2.1 734 = .ok (.aload_n 0, 1) := by decide +kernel
theorem dL_law_735 : decode mL_law.2.1 735 = .ok (.iload_n 3, 1) := by decide +kernel
theorem dL_law_736 : decode mL_law.2.1 736 = .ok (.iconst 3, 1) := by decide +kernel
theorem dL_law_737 : decode mL_law.2.1 737 = .ok (.iadd, 1) := by decide +kernel
theorem dL_law_738 : decode mL_law.2.1 738 = .ok (.iaload, 1) := by decide +kernel
theorem dL_law_739 : decode mL_law.2.1 739 = .ok (.invokevirtual 80, 3) := by decide +kernel
theorem dL_law_742 : decode mL_law.2.1 742 = .ok (.aload_n 2, 1) := by decide +kernel
theorem dL_law_743 : decode mL_law.2.1 743 = .ok (.aload_n 0, 1) := by decide +kernel
theorem dL_law_744 : decode mL_law.2.1 744 = .ok (.iload_n 3, 1) := by decide +kernel
theorem dL_law_745 : decode mL_law.2.1 745 = .ok (.iconst 1, 1) := by decide +kernel
theorem dL_law_746 : decode mL_law.2.1 746 = .ok (.iadd, 1) := by decide +kernel
theorem dL_law_747 : decode mL_law.2.1 747 = .ok (.iaload, 1) := by decide +kernel
theorem dL_law_748 : decode mL_law.2.1 748 = .ok (.aload_n 0, 1) := by decide +kernel
theorem dL_law_749 : decode mL_law.2.1 749 = .ok (.iload_n 3, 1) := by decide +kernel
theorem dL_law_750 : decode mL_law.2.1 750 = .ok (.iconst 2, 1) := by decide +kernel
theorem dL_law_751 : decode mL_law.2.1 751 = .ok (.iadd, 1) := by decide +kernel
theorem dL_law_752 : decode mL_law.2.1 752 = .ok (.iaload, 1) := by decide +kernel
theorem dL_law_753 : decode mL_law.2.1 753 = .ok (.aload_n 0, 1) := by decide +kernel
theorem dL_law_754 : decode mL_law.2.1 754 = .ok (.iload_n 3, 1) := by decide +kernel
theorem dL_law_755 : decode mL_law.2.1 755 = .ok (.iconst 3, 1) := by decide +kernel
theorem dL_law_756 : decode mL_law.2.1 756 = .ok (.iadd, 1) := by decide +kernel
theorem dL_law_757 : decode mL_law.2.1 757 = .ok (.iaload, 1) := by decide +kernel
theorem dL_law_758 : decode mL_law.2.1 758 = .ok (.invokevirtual 83, 3) := by decide +kernel
theorem dL_law_761 : decode mL_law.2.1 761 = .ok (.if_icmp .eq 971, 3) := by decide +kernel
theorem dL_law_764 : decode mL_law.2.1 764 = .ok (.iconst 0, 1) := by decide +kernel
theorem dL_law_765 : decode mL_law.2.1 765 = .ok (.ireturn, 1) := by decide +kernel
theorem dL_law_766 : decode mL_law.2.1 766 = .ok (.aload_n 1, 1) := by decide +kernel
theorem dL_law_767 : decode mL_law.2.1 767 = .ok (.aload_n 0, 1) := by decide +kernel
theorem dL_law_768 : decode mL_law.2.1 768 = .ok (.iload_n 3, 1) := by decide +kernel
theorem dL_law_769 : decode mL_law.2.1 769 = .ok (.iconst 1, 1) := by decide +kernel
theorem dL_law_770 : decode mL_law.2.1 770 = .ok (.iadd, 1) := by decide +kernel
theorem dL_law_771 : decode mL_law.2.1 771 = .ok (.iaload, 1) := by decide +kernel
theorem dL_law_772 : decode mL_law.2.1 772 = .ok (.aload_n 0, 1) := by decide +kernel
theorem dL_law_773 : decode mL_law.2.1 773 = .ok (.iload_n 3, 1) := by decide +kernel
theorem dL_law_774 : decode mL_law.2.1 774 = .ok (.iconst 2, 1) := by decide +kernel
theorem dL_law_775 : decode mL_law.2.1 775 = .ok (.iadd, 1) := by decide +kernel
theorem dL_law_776 : decode mL_law.2.1 776 = .ok (.iaload, 1) := by decide +kernel
theorem dL_law_777 : decode mL_law.2.1 777 = .ok (.aload_n 0, 1) := by decide +kernel
theorem dL_law_778 : decode mL_law.2.1 778 = .ok (.iload_n 3, 1) := by decide +kernel
theorem dL_law_779 : decode mL_law.2.1 779 = .ok (.iconst 3, 1) := by decide +kernel
theorem dL_law_780 : decode mL_law.2.1 780 = .ok (.iadd, 1) := by decide +kernel
theorem dL_law_781 : decode mL_law.2.1 781 = .ok (.iaload, 1) := by decide +kernel
theorem dL_law_782 : decode mL_law.2.1 782 = .ok (.invokevirtual 84, 3) := by decide +kernel
theorem dL_law_785 : decode mL_law.2.1 785 = .ok (.aload_n 2, 1) := by decide +kernel
theorem dL_law_786 : decode mL_law.2.1 786 = .ok (.aload_n 0, 1) := by decide +kernel
theorem dL_law_787 : decode mL_law.2.1 787 = .ok (.iload_n 3, 1) := by decide +kernel
theorem dL_law_788 : decode mL_law.2.1 788 = .ok (.iconst 1, 1) := by decide +kernel
theorem dL_law_789 : decode mL_law.2.1 789 = .ok (.iadd, 1) := by decide +kernel
theorem dL_law_790 : decode mL_law.2.1 790 = .ok (.iaload, 1) := by decide +kernel
theorem dL_law_791 : decode mL_law.2.1 791 = .ok (.aload_n 0, 1) := by decide +kernel
theorem dL_law_792 : decode mL_law.2.1 792 = .ok (.iload_n 3, 1) := by decide +kernel
theorem dL_law_793 : decode mL_law.2.1 793 = .ok (.iconst 2, 1) := by decide +kernel
theorem dL_law_794 : decode mL_law.2.1 794 = .ok (.iadd, 1) := by decide +kernel
theorem dL_law_795 : decode mL_law.2.1 795 = .ok (.iaload, 1) := by decide +kernel
theorem dL_law_796 : decode mL_law.2.1 796 = .ok (.aload_n 0, 1) := by decide +kernel
theorem dL_law_797 : decode mL_law.2.1 797 = .ok (.iload_n 3, 1) := by decide +kernel
theorem dL_law_798 : decode mL_law.2.1 798 = .ok (.iconst 3, 1) := by decide +kernel
theorem dL_law_799 : decode mL_law.2.1 799 = .ok (.iadd, 1) := by decide +kernel
theorem dL_law_800 : decode mL_law.2.1 800 = .ok (.iaload, 1) := by decide +kernel
theorem dL_law_801 : decode mL_law.2.1 801 = .ok (.invokevirtual 87, 3) := by decide +kernel
theorem dL_law_804 : decode mL_law.2.1 804 = .ok (.if_icmp .eq 928, 3) := by decide +kernel
theorem dL_law_807 : decode mL_law.2.1 807 = .ok (.iconst 0, 1) := by decide +kernel
theorem dL_law_808 : decode mL_law.2.1 808 = .ok (.ireturn, 1) := by decide +kernel
theorem dL_law_809 : decode mL_law.2.1 809 = .ok (.aload_n 1, 1) := by decide +kernel
theorem dL_law_810 : decode mL_law.2.1 810 = .ok (.aload_n 0, 1) := by decide +kernel
theorem dL_law_811 : decode mL_law.2.1 811 = .ok (.iload_n 3, 1) := by decide +kernel
theorem dL_law_812 : decode mL_law.2.1 812 = .ok (.iconst 1, 1) := by decide +kernel
theorem dL_law_813 : decode mL_law.2.1 813 = .ok (.iadd, 1) := by decide +kernel
theorem dL_law_814 : decode mL_law.2.1 814 = .ok (.iaload, 1) := by decide +kernel
theorem dL_law_815 : decode mL_law.2.1 815 = .ok (.aload_n 0, 1) := by decide +kernel
theorem dL_law_816 : decode mL_law.2.1 816 = .ok (.iload_n 3, 1) := by decide +kernel
theorem dL_law_817 : decode mL_law.2.1 817 = .ok (.iconst 2, 1) := by decide +kernel
theorem dL_law_818 : decode mL_law.2.1 818 = .ok (.iadd, 1) := by decide +kernel
theorem dL_law_819 : decode mL_law.2.1 819 = .ok (.iaload, 1) := by decide +kernel
theorem dL_law_820 : decode mL_law.2.1 820 = .ok (.aload_n 0, 1) := by decide +kernel
theorem dL_law_821 : decode mL_law.2.1 821 = .ok (.iload_n 3, 1) := by decide +kernel
theorem dL_law_822 : decode mL_law.2.1 822 = .ok (.iconst 3, 1) := by decide +kernel
theorem dL_law_823 : decode mL_law.2.1 823 = .ok (.iadd, 1) := by decide +kernel
theorem dL_law_824 : decode mL_law.2.1 824 = .ok (.iaload, 1) := by decide +kernel
theorem dL_law_825 : decode mL_law.2.1 825 = .ok (.aload_n 0, 1) := by decide +kernel
theorem dL_law_826 : decode mL_law.2.1 826 = .ok (.iload_n 3, 1) := by decide +kernel
theorem dL_law_827 : decode mL_law.2.1 827 = .ok (.iconst 4, 1) := by decide +kernel
theorem dL_law_828 : decode mL_law.2.1 828 = .ok (.iadd, 1) := by decide +kernel
theorem dL_law_829 : decode mL_law.2.1 829 = .ok (.iaload, 1) := by decide +kernel
theorem dL_law_830 : decode mL_law.2.1 830 = .ok (.invokevirtual 88, 3) := by decide +kernel
theorem dL_law_833 : decode mL_law.2.1 833 = .ok (.aload_n 2, 1) := by decide +kernel
theorem dL_law_834 : decode mL_law.2.1 834 = .ok (.aload_n 0, 1) := by decide +kernel
theorem dL_law_835 : decode mL_law.2.1 835 = .ok (.iload_n 3, 1) := by decide +kernel
theorem dL_law_836 : decode mL_law.2.1 836 = .ok (.iconst 1, 1) := by decide +kernel
theorem dL_law_837 : decode mL_law.2.1 837 = .ok (.iadd, 1) := by decide +kernel
theorem dL_law_838 : decode mL_law.2.1 838 = .ok (.iaload, 1) := by decide +kernel
theorem dL_law_839 : decode mL_law.2.1 839 = .ok (.aload_n 0, 1) := by decide +kernel
theorem dL_law_840 : decode mL_law.2.1 840 = .ok (.iload_n 3, 1) := by decide +kernel
theorem dL_law_841 : decode mL_law.2.1 841 = .ok (.iconst 2, 1) := by decide +kernel
theorem dL_law_842 : decode mL_law.2.1 842 = .ok (.iadd, 1) := by decide +kernel
theorem dL_law_843 : decode mL_law.2.1 843 = .ok (.iaload, 1) := by decide +kernel
theorem dL_law_844 : decode mL_law.2.1 844 = .ok (.aload_n 0, 1) := by decide +kernel
theorem dL_law_845 : decode mL_law.2.1 845 = .ok (.iload_n 3, 1) := by decide +kernel
theorem dL_law_846 : decode mL_law.2.1 846 = .ok (.iconst 3, 1) := by decide +kernel
theorem dL_law_847 : decode mL_law.2.1 847 = .ok (.iadd, 1) := by decide +kernel
theorem dL_law_848 : decode mL_law.2.1 848 = .ok (.iaload, 1) := by decide +kernel
theorem dL_law_849 : decode mL_law.2.1 849 = .ok (.aload_n 0, 1) := by decide +kernel
theorem dL_law_850 : decode mL_law.2.1 850 = .ok (.iload_n 3, 1) := by decide +kernel
theorem dL_law_851 : decode mL_law.2.1 851 = .ok (.iconst 4, 1) := by decide +kernel
theorem dL_law_852 : decode mL_law.2.1 852 = .ok (.iadd, 1) := by decide +kernel
theorem dL_law_853 : decode mL_law.2.1 853 = .ok (.iaload, 1) := by decide +kernel
theorem dL_law_854 : decode mL_law.2.1 854 = .ok (.invokevirtual 92, 3) := by decide +kernel
theorem dL_law_857 : decode mL_law.2.1 857 = .ok (.if_icmp .eq 875, 3) := by decide +kernel
theorem dL_law_860 : decode mL_law.2.1 860 = .ok (.iconst 0, 1) := by decide +kernel
theorem dL_law_861 : decode mL_law.2.1 861 = .ok (.ireturn, 1) := by decide +kernel
theorem dL_law_862 : decode mL_law.2.1 862 = .ok (.aload_n 1, 1) := by decide +kernel
theorem dL_law_863 : decode mL_law.2.1 863 = .ok (.aload_n 0, 1) := by decide +kernel
theorem dL_law_864 : decode mL_law.2.1 864 = .ok (.iload_n 3, 1) := by decide +kernel
theorem dL_law_865 : decode mL_law.2.1 865 = .ok (.iconst 1, 1) := by decide +kernel
theorem dL_law_866 : decode mL_law.2.1 866 = .ok (.iadd, 1) := by decide +kernel
theorem dL_law_867 : decode mL_law.2.1 867 = .ok (.iaload, 1) := by decide +kernel
theorem dL_law_868 : decode mL_law.2.1 868 = .ok (.aload_n 0, 1) := by decide +kernel
theorem dL_law_869 : decode mL_law.2.1 869 = .ok (.iload_n 3, 1) := by decide +kernel
theorem dL_law_870 : decode mL_law.2.1 870 = .ok (.iconst 2, 1) := by decide +kernel
theorem dL_law_871 : decode mL_law.2.1 871 = .ok (.iadd, 1) := by decide +kernel
theorem dL_law_872 : decode mL_law.2.1 872 = .ok (.iaload, 1) := by decide +kernel
theorem dL_law_873 : decode mL_law.2.1 873 = .ok (.aload_n 0, 1) := by decide +kernel
theorem dL_law_874 : decode mL_law.2.1 874 = .ok (.iload_n 3, 1) := by decide +kernel
theorem dL_law_875 : decode mL_law.2.1 875 = .ok (.iconst 3, 1) := by decide +kernel
theorem dL_law_876 : decode mL_law.2.1 876 = .ok (.iadd, 1) := by decide +kernel
theorem dL_law_877 : decode mL_law.2.1 877 = .ok (.iaload, 1) := by decide +kernel
theorem dL_law_878 : decode mL_law.2.1 878 = .ok (.invokevirtual 93, 3) := by decide +kernel
theorem dL_law_881 : decode mL_law.2.1 881 = .ok (.aload_n 2, 1) := by decide +kernel
theorem dL_law_882 : decode mL_law.2.1 882 = .ok (.aload_n 0, 1) := by decide +kernel
theorem dL_law_883 : decode mL_law.2.1 883 = .ok (.iload_n 3, 1) := by decide +kernel
theorem dL_law_884 : decode mL_law.2.1 884 = .ok (.iconst 1, 1) := by decide +kernel
theorem dL_law_885 : decode mL_law.2.1 885 = .ok (.iadd, 1) := by decide +kernel
theorem dL_law_886 : decode mL_law.2.1 886 = .ok (.iaload, 1) := by decide +kernel
theorem dL_law_887 : decode mL_law.2.1 887 = .ok (.aload_n 0, 1) := by decide +kernel
theorem dL_law_888 : decode mL_law.2.1 888 = .ok (.iload_n 3, 1) := by decide +kernel
theorem dL_law_889 : decode mL_law.2.1 889 = .ok (.iconst 2, 1) := by decide +kernel
theorem dL_law_890 : decode mL_law.2.1 890 = .ok (.iadd, 1) := by decide +kernel
theorem dL_law_891 : decode mL_law.2.1 891 = .ok (.iaload, 1) := by decide +kernel
theorem dL_law_892 : decode mL_law.2.1 892 = .ok (.aload_n 0, 1) := by decide +kernel
theorem dL_law_893 : decode mL_law.2.1 893 = .ok (.iload_n 3, 1) := by decide +kernel
theorem dL_law_894 : decode mL_law.2.1 894 = .ok (.iconst 3, 1) := by decide +kernel
theorem dL_law_895 : decode mL_law.2.1 895 = .ok (.iadd, 1) := by decide +kernel
theorem dL_law_896 : decode mL_law.2.1 896 = .ok (.iaload, 1) := by decide +kernel
theorem dL_law_897 : decode mL_law.2.1 897 = .ok (.invokevirtual 96, 3) := by decide +kernel
theorem dL_law_900 : decode mL_law.2.1 900 = .ok (.if_icmp .eq 832, 3) := by decide +kernel
theorem dL_law_903 : decode mL_law.2.1 903 = .ok (.iconst 0, 1) := by decide +kernel
theorem dL_law_904 : decode mL_law.2.1 904 = .ok (.ireturn, 1) := by decide +kernel
theorem dL_law_905 : decode mL_law.2.1 905 = .ok (.aload_n 1, 1) := by decide +kernel
theorem dL_law_906 : decode mL_law.2.1 906 = .ok (.aload_n 0, 1) := by decide +kernel
theorem dL_law_907 : decode mL_law.2.1 907 = .ok (.iload_n 3, 1) := by decide +kernel
theorem dL_law_908 : decode mL_law.2.1 908 = .ok (.iconst 1, 1) := by decide +kernel
theorem dL_law_909 : decode mL_law.2.1 909 = .ok (.iadd, 1) := by decide +kernel
theorem dL_law_910 : decode mL_law.2.1 910 = .ok (.iaload, 1) := by decide +kernel
theorem dL_law_911 : decode mL_law.2.1 911 = .ok (.aload_n 0, 1) := by decide +kernel
theorem dL_law_912 : decode mL_law.2.1 912 = .ok (.iload_n 3, 1) := by decide +kernel
theorem dL_law_913 : decode mL_law.2.1 913 = .ok (.iconst 2, 1) := by decide +kernel
theorem dL_law_914 : decode mL_law.2.1 914 = .ok (.iadd, 1) := by decide +kernel
theorem dL_law_915 : decode mL_law.2.1 915 = .ok (.iaload, 1) := by decide +kernel
theorem dL_law_916 : decode mL_law.2.1 916 = .ok (.aload_n 0, 1) := by decide +kernel
theorem dL_law_917 : decode mL_law.2.1 917 = .ok (.iload_n 3, 1) := by decide +kernel
theorem dL_law_918 : decode mL_law.2.1 918 = .ok (.iconst 3, 1) := by decide +kernel
theorem dL_law_919 : decode mL_law.2.1 919 = .ok (.iadd, 1) := by decide +kernel
theorem dL_law_920 : decode mL_law.2.1 920 = .ok (.iaload, 1) := by decide +kernel
theorem dL_law_921 : decode mL_law.2.1 921 = .ok (.aload_n 0, 1) := by decide +kernel
theorem dL_law_922 : decode mL_law.2.1 922 = .ok (.iload_n 3, 1) := by decide +kernel
theorem dL_law_923 : decode mL_law.2.1 923 = .ok (.iconst 4, 1) := by decide +kernel
theorem dL_law_924 : decode mL_law.2.1 924 = .ok (.iadd, 1) := by decide +kernel
theorem dL_law_925 : decode mL_law.2.1 925 = .ok (.iaload, 1) := by decide +kernel
theorem dL_law_926 : decode mL_law.2.1 926 = .ok (.invokevirtual 97, 3) := by decide +kernel
theorem dL_law_929 : decode mL_law.2.1 929 = .ok (.aload_n 2, 1) := by decide +kernel
theorem dL_law_930 : decode mL_law.2.1 930 = .ok (.aload_n 0, 1) := by decide +kernel
theorem dL_law_931 : decode mL_law.2.1 931 = .ok (.iload_n 3, 1) := by decide +kernel
theorem dL_law_932 : decode mL_law.2.1 932 = .ok (.iconst 1, 1) := by decide +kernel
theorem dL_law_933 : decode mL_law.2.1 933 = .ok (.iadd, 1) := by decide +kernel
theorem dL_law_934 : decode mL_law.2.1 934 = .ok (.iaload, 1) := by decide +kernel
theorem dL_law_935 : decode mL_law.2.1 935 = .ok (.aload_n 0, 1) := by decide +kernel
theorem dL_law_936 : decode mL_law.2.1 936 = .ok (.iload_n 3, 1) := by decide +kernel
theorem dL_law_937 : decode mL_law.2.1 937 = .ok (.iconst 2, 1) := by decide +kernel
theorem dL_law_938 : decode mL_law.2.1 938 = .ok (.iadd, 1) := by decide +kernel
theorem dL_law_939 : decode mL_law.2.1 939 = .ok (.iaload, 1) := by decide +kernel
theorem dL_law_940 : decode mL_law.2.1 940 = .ok (.aload_n 0, 1) := by decide +kernel
theorem dL_law_941 : decode mL_law.2.1 941 = .ok (.iload_n 3, 1) := by decide +kernel
theorem dL_law_942 : decode mL_law.2.1 942 = .ok (.iconst 3, 1) := by decide +kernel
theorem dL_law_943 : decode mL_law.2.1 943 = .ok (.iadd, 1) := by decide +kernel
theorem dL_law_944 : decode mL_law.2.1 944 = .ok (.iaload, 1) := by decide +kernel
theorem dL_law_945 : decode mL_law.2.1 945 = .ok (.aload_n 0, 1) := by decide +kernel
theorem dL_law_946 : decode mL_law.2.1 946 = .ok (.iload_n 3, 1) := by decide +kernel
theorem dL_law_947 : decode mL_law.2.1 947 = .ok (.iconst 4, 1) := by decide +kernel
theorem dL_law_948 : decode mL_law.2.1 948 = .ok (.iadd, 1) := by decide +kernel
theorem dL_law_949 : decode mL_law.2.1 949 = .ok (.iaload, 1) := by decide +kernel
theorem dL_law_950 : decode mL_law.2.1 950 = .ok (.invokevirtual 100, 3) := by decide +kernel
