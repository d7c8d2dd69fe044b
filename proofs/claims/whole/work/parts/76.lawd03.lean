/-! the law, decoded -/
theorem dL_664 : decode code 664 = .ok (.iload_n 3, 1) := by decide +kernel
theorem dL_665 : decode code 665 = .ok (.iconst 2, 1) := by decide +kernel
theorem dL_666 : decode code 666 = .ok (.iadd, 1) := by decide +kernel
theorem dL_667 : decode code 667 = .ok (.iaload, 1) := by decide +kernel
theorem dL_668 : decode code 668 = .ok (.invokevirtual 69, 3) := by decide +kernel
theorem dL_671 : decode code 671 = .ok (.aload_n 2, 1) := by decide +kernel
theorem dL_672 : decode code 672 = .ok (.aload_n 0, 1) := by decide +kernel
theorem dL_673 : decode code 673 = .ok (.iload_n 3, 1) := by decide +kernel
theorem dL_674 : decode code 674 = .ok (.iconst 1, 1) := by decide +kernel
theorem dL_675 : decode code 675 = .ok (.iadd, 1) := by decide +kernel
theorem dL_676 : decode code 676 = .ok (.iaload, 1) := by decide +kernel
theorem dL_677 : decode code 677 = .ok (.aload_n 0, 1) := by decide +kernel
theorem dL_678 : decode code 678 = .ok (.iload_n 3, 1) := by decide +kernel
theorem dL_679 : decode code 679 = .ok (.iconst 2, 1) := by decide +kernel
theorem dL_680 : decode code 680 = .ok (.iadd, 1) := by decide +kernel
theorem dL_681 : decode code 681 = .ok (.iaload, 1) := by decide +kernel
theorem dL_682 : decode code 682 = .ok (.invokevirtual 72, 3) := by decide +kernel
theorem dL_685 : decode code 685 = .ok (.if_icmp .eq 1003, 3) := by decide +kernel
theorem dL_688 : decode code 688 = .ok (.iconst 0, 1) := by decide +kernel
theorem dL_689 : decode code 689 = .ok (.ireturn, 1) := by decide +kernel
theorem dL_690 : decode code 690 = .ok (.aload_n 1, 1) := by decide +kernel
theorem dL_691 : decode code 691 = .ok (.aload_n 0, 1) := by decide +kernel
theorem dL_692 : decode code 692 = .ok (.iload_n 3, 1) := by decide +kernel
theorem dL_693 : decode code 693 = .ok (.iconst 1, 1) := by decide +kernel
theorem dL_694 : decode code 694 = .ok (.iadd, 1) := by decide +kernel
theorem dL_695 : decode code 695 = .ok (.iaload, 1) := by decide +kernel
theorem dL_696 : decode code 696 = .ok (.aload_n 0, 1) := by decide +kernel
theorem dL_697 : decode code 697 = .ok (.iload_n 3, 1) := by decide +kernel
theorem dL_698 : decode code 698 = .ok (.iconst 2, 1) := by decide +kernel
theorem dL_699 : decode code 699 = .ok (.iadd, 1) := by decide +kernel
theorem dL_700 : decode code 700 = .ok (.iaload, 1) := by decide +kernel
theorem dL_701 : decode code 701 = .ok (.invokevirtual 73, 3) := by decide +kernel
theorem dL_704 : decode code 704 = .ok (.aload_n 2, 1) := by decide +kernel
theorem dL_705 : decode code 705 = .ok (.aload_n 0, 1) := by decide +kernel
theorem dL_706 : decode code 706 = .ok (.iload_n 3, 1) := by decide +kernel
theorem dL_707 : decode code 707 = .ok (.iconst 1, 1) := by decide +kernel
theorem dL_708 : decode code 708 = .ok (.iadd, 1) := by decide +kernel
theorem dL_709 : decode code 709 = .ok (.iaload, 1) := by decide +kernel
theorem dL_710 : decode code 710 = .ok (.aload_n 0, 1) := by decide +kernel
theorem dL_711 : decode code 711 = .ok (.iload_n 3, 1) := by decide +kernel
theorem dL_712 : decode code 712 = .ok (.iconst 2, 1) := by decide +kernel
theorem dL_713 : decode code 713 = .ok (.iadd, 1) := by decide +kernel
theorem dL_714 : decode code 714 = .ok (.iaload, 1) := by decide +kernel
theorem dL_715 : decode code 715 = .ok (.invokevirtual 76, 3) := by decide +kernel
theorem dL_718 : decode code 718 = .ok (.if_icmp .eq 970, 3) := by decide +kernel
theorem dL_721 : decode code 721 = .ok (.iconst 0, 1) := by decide +kernel
theorem dL_722 : decode code 722 = .ok (.ireturn, 1) := by decide +kernel
theorem dL_723 : decode code 723 = .ok (.aload_n 1, 1) := by decide +kernel
theorem dL_724 : decode code 724 = .ok (.aload_n 0, 1) := by decide +kernel
theorem dL_725 : decode code 725 = .ok (.iload_n 3, 1) := by decide +kernel
theorem dL_726 : decode code 726 = .ok (.iconst 1, 1) := by decide +kernel
theorem dL_727 : decode code 727 = .ok (.iadd, 1) := by decide +kernel
theorem dL_728 : decode code 728 = .ok (.iaload, 1) := by decide +kernel
theorem dL_729 : decode code 729 = .ok (.invokevirtual 77, 3) := by decide +kernel
theorem dL_732 : decode code 732 = .ok (.aload_n 2, 1) := by decide +kernel
theorem dL_733 : decode code 733 = .ok (.aload_n 0, 1) := by decide +kernel
theorem dL_734 : decode code 734 = .ok (.iload_n 3, 1) := by decide +kernel
theorem dL_735 : decode code 735 = .ok (.iconst 1, 1) := by decide +kernel
theorem dL_736 : decode code 736 = .ok (.iadd, 1) := by decide +kernel
theorem dL_737 : decode code 737 = .ok (.iaload, 1) := by decide +kernel
theorem dL_738 : decode code 738 = .ok (.invokevirtual 80, 3) := by decide +kernel
theorem dL_741 : decode code 741 = .ok (.if_icmp .eq 947, 3) := by decide +kernel
theorem dL_744 : decode code 744 = .ok (.iconst 0, 1) := by decide +kernel
theorem dL_745 : decode code 745 = .ok (.ireturn, 1) := by decide +kernel
theorem dL_746 : decode code 746 = .ok (.aload_n 1, 1) := by decide +kernel
theorem dL_747 : decode code 747 = .ok (.aload_n 0, 1) := by decide +kernel
theorem dL_748 : decode code 748 = .ok (.iload_n 3, 1) := by decide +kernel
theorem dL_749 : decode code 749 = .ok (.iconst 1, 1) := by decide +kernel
theorem dL_750 : decode code 750 = .ok (.iadd, 1) := by decide +kernel
theorem dL_751 : decode code 751 = .ok (.iaload, 1) := by decide +kernel
theorem dL_752 : decode code 752 = .ok (.invokevirtual 81, 3) := by decide +kernel
theorem dL_755 : decode code 755 = .ok (.aload_n 2, 1) := by decide +kernel
theorem dL_756 : decode code 756 = .ok (.aload_n 0, 1) := by decide +kernel
theorem dL_757 : decode code 757 = .ok (.iload_n 3, 1) := by decide +kernel
theorem dL_758 : decode code 758 = .ok (.iconst 1, 1) := by decide +kernel
theorem dL_759 : decode code 759 = .ok (.iadd, 1) := by decide +kernel
theorem dL_760 : decode code 760 = .ok (.iaload, 1) := by decide +kernel
theorem dL_761 : decode code 761 = .ok (.invokevirtual 84, 3) := by decide +kernel
theorem dL_764 : decode code 764 = .ok (.if_icmp .eq 924, 3) := by decide +kernel
theorem dL_767 : decode code 767 = .ok (.iconst 0, 1) := by decide +kernel
theorem dL_768 : decode code 768 = .ok (.ireturn, 1) := by decide +kernel
theorem dL_769 : decode code 769 = .ok (.aload_n 1, 1) := by decide +kernel
theorem dL_770 : decode code 770 = .ok (.aload_n 0, 1) := by decide +kernel
theorem dL_771 : decode code 771 = .ok (.iload_n 3, 1) := by decide +kernel
theorem dL_772 : decode code 772 = .ok (.iconst 1, 1) := by decide +kernel
theorem dL_773 : decode code 773 = .ok (.iadd, 1) := by decide +kernel
theorem dL_774 : decode code 774 = .ok (.iaload, 1) := by decide +kernel
theorem dL_775 : decode code 775 = .ok (.invokevirtual 85, 3) := by decide +kernel
theorem dL_778 : decode code 778 = .ok (.aload_n 2, 1) := by decide +kernel
theorem dL_779 : decode code 779 = .ok (.aload_n 0, 1) := by decide +kernel
theorem dL_780 : decode code 780 = .ok (.iload_n 3, 1) := by decide +kernel
theorem dL_781 : decode code 781 = .ok (.iconst 1, 1) := by decide +kernel
theorem dL_782 : decode code 782 = .ok (.iadd, 1) := by decide +kernel
theorem dL_783 : decode code 783 = .ok (.iaload, 1) := by decide +kernel
theorem dL_784 : decode code 784 = .ok (.invokevirtual 88, 3) := by decide +kernel
theorem dL_787 : decode code 787 = .ok (.if_icmp .eq 901, 3) := by decide +kernel
theorem dL_790 : decode code 790 = .ok (.iconst 0, 1) := by decide +kernel
theorem dL_791 : decode code 791 = .ok (.ireturn, 1) := by decide +kernel
theorem dL_792 : decode code 792 = .ok (.aload_n 1, 1) := by decide +kernel
theorem dL_793 : decode code 793 = .ok (.aload_n 0, 1) := by decide +kernel
theorem dL_794 : decode code 794 = .ok (.iload_n 3, 1) := by decide +kernel
theorem dL_795 : decode code 795 = .ok (.iconst 1, 1) := by decide +kernel
theorem dL_796 : decode code 796 = .ok (.iadd, 1) := by decide +kernel
theorem dL_797 : decode code 797 = .ok (.iaload, 1) := by decide +kernel
theorem dL_798 : decode code 798 = .ok (.invokevirtual 89, 3) := by decide +kernel
theorem dL_801 : decode code 801 = .ok (.aload_n 2, 1) := by decide +kernel
theorem dL_802 : decode code 802 = .ok (.aload_n 0, 1) := by decide +kernel
theorem dL_803 : decode code 803 = .ok (.iload_n 3, 1) := by decide +kernel
theorem dL_804 : decode code 804 = .ok (.iconst 1, 1) := by decide +kernel
theorem dL_805 : decode code 805 = .ok (.iadd, 1) := by decide +kernel
theorem dL_806 : decode code 806 = .ok (.iaload, 1) := by decide +kernel
theorem dL_807 : decode code 807 = .ok (.invokevirtual 92, 3) := by decide +kernel
theorem dL_810 : decode code 810 = .ok (.if_icmp .eq 878, 3) := by decide +kernel
theorem dL_813 : decode code 813 = .ok (.iconst 0, 1) := by decide +kernel
theorem dL_814 : decode code 814 = .ok (.ireturn, 1) := by decide +kernel
theorem dL_815 : decode code 815 = .ok (.aload_n 1, 1) := by decide +kernel
theorem dL_816 : decode code 816 = .ok (.aload_n 0, 1) := by decide +kernel
theorem dL_817 : decode code 817 = .ok (.iload_n 3, 1) := by decide +kernel
theorem dL_818 : decode code 818 = .ok (.iconst 1, 1) := by decide +kernel
theorem dL_819 : decode code 819 = .ok (.iadd, 1) := by decide +kernel
