theorem d_La_law_675 : decode code 675 = .ok (.iaload, 1) := by decide +kernel
theorem d_La_law_676 : decode code 676 = .ok (.aload_n 0, 1) := by decide +kernel
theorem d_La_law_677 : decode code 677 = .ok (.iload_n 3, 1) := by decide +kernel
theorem d_La_law_678 : decode code 678 = .ok (.iconst 2, 1) := by decide +kernel
theorem d_La_law_679 : decode code 679 = .ok (.iadd, 1) := by decide +kernel
theorem d_La_law_680 : decode code 680 = .ok (.iaload, 1) := by decide +kernel
theorem d_La_law_681 : decode code 681 = .ok (.aload_n 0, 1) := by decide +kernel
theorem d_La_law_682 : decode code 682 = .ok (.iload_n 3, 1) := by decide +kernel
theorem d_La_law_683 : decode code 683 = .ok (.iconst 3, 1) := by decide +kernel
theorem d_La_law_684 : decode code 684 = .ok (.iadd, 1) := by decide +kernel
theorem d_La_law_685 : decode code 685 = .ok (.iaload, 1) := by decide +kernel
theorem d_La_law_686 : decode code 686 = .ok (.invokevirtual 70, 3) := by decide +kernel
theorem d_La_law_689 : decode code 689 = .ok (.aload_n 2, 1) := by decide +kernel
theorem d_La_law_690 : decode code 690 = .ok (.aload_n 0, 1) := by decide +kernel
theorem d_La_law_691 : decode code 691 = .ok (.iload_n 3, 1) := by decide +kernel
theorem d_La_law_692 : decode code 692 = .ok (.iconst 1, 1) := by decide +kernel
theorem d_La_law_693 : decode code 693 = .ok (.iadd, 1) := by decide +kernel
theorem d_La_law_694 : decode code 694 = .ok (.iaload, 1) := by decide +kernel
theorem d_La_law_695 : decode code 695 = .ok (.aload_n 0, 1) := by decide +kernel
theorem d_La_law_696 : decode code 696 = .ok (.iload_n 3, 1) := by decide +kernel
theorem d_La_law_697 : decode code 697 = .ok (.iconst 2, 1) := by decide +kernel
theorem d_La_law_698 : decode code 698 = .ok (.iadd, 1) := by decide +kernel
theorem d_La_law_699 : decode code 699 = .ok (.iaload, 1) := by decide +kernel
theorem d_La_law_700 : decode code 700 = .ok (.aload_n 0, 1) := by decide +kernel
theorem d_La_law_701 : decode code 701 = .ok (.iload_n 3, 1) := by decide +kernel
theorem d_La_law_702 : decode code 702 = .ok (.iconst 3, 1) := by decide +kernel
theorem d_La_law_703 : decode code 703 = .ok (.iadd, 1) := by decide +kernel
theorem d_La_law_704 : decode code 704 = .ok (.iaload, 1) := by decide +kernel
theorem d_La_law_705 : decode code 705 = .ok (.invokevirtual 73, 3) := by decide +kernel
theorem d_La_law_708 : decode code 708 = .ok (.if_icmp .eq 813, 3) := by decide +kernel
theorem d_La_law_711 : decode code 711 = .ok (.iconst 0, 1) := by decide +kernel
theorem d_La_law_712 : decode code 712 = .ok (.ireturn, 1) := by decide +kernel
theorem d_La_law_713 : decode code 713 = .ok (.aload_n 1, 1) := by decide +kernel
theorem d_La_law_714 : decode code 714 = .ok (.aload_n 0, 1) := by decide +kernel
theorem d_La_law_715 : decode code 715 = .ok (.iload_n 3, 1) := by decide +kernel
theorem d_La_law_716 : decode code 716 = .ok (.iconst 1, 1) := by decide +kernel
theorem d_La_law_717 : decode code 717 = .ok (.iadd, 1) := by decide +kernel
theorem d_La_law_718 : decode code 718 = .ok (.iaload, 1) := by decide +kernel
theorem d_La_law_719 : decode code 719 = .ok (.invokevirtual 74, 3) := by decide +kernel
theorem d_La_law_722 : decode code 722 = .ok (.aload_n 2, 1) := by decide +kernel
theorem d_La_law_723 : decode code 723 = .ok (.aload_n 0, 1) := by decide +kernel
theorem d_La_law_724 : decode code 724 = .ok (.iload_n 3, 1) := by decide +kernel
theorem d_La_law_725 : decode code 725 = .ok (.iconst 1, 1) := by decide +kernel
theorem d_La_law_726 : decode code 726 = .ok (.iadd, 1) := by decide +kernel
theorem d_La_law_727 : decode code 727 = .ok (.iaload, 1) := by decide +kernel
theorem d_La_law_728 : decode code 728 = .ok (.invokevirtual 77, 3) := by decide +kernel
theorem d_La_law_731 : decode code 731 = .ok (.if_icmp .eq 790, 3) := by decide +kernel
theorem d_La_law_734 : decode code 734 = .ok (.iconst 0, 1) := by decide +kernel
theorem d_La_law_735 : decode code 735 = .ok (.ireturn, 1) := by decide +kernel
theorem d_La_law_736 : decode code 736 = .ok (.aload_n 1, 1) := by decide +kernel
theorem d_La_law_737 : decode code 737 = .ok (.aload_n 0, 1) := by decide +kernel
theorem d_La_law_738 : decode code 738 = .ok (.iload_n 3, 1) := by decide +kernel
theorem d_La_law_739 : decode code 739 = .ok (.iconst 1, 1) := by decide +kernel
theorem d_La_law_740 : decode code 740 = .ok (.iadd, 1) := by decide +kernel
theorem d_La_law_741 : decode code 741 = .ok (.iaload, 1) := by decide +kernel
theorem d_La_law_742 : decode code 742 = .ok (.invokevirtual 78, 3) := by decide +kernel
theorem d_La_law_745 : decode code 745 = .ok (.aload_n 2, 1) := by decide +kernel
theorem d_La_law_746 : decode code 746 = .ok (.aload_n 0, 1) := by decide +kernel
theorem d_La_law_747 : decode code 747 = .ok (.iload_n 3, 1) := by decide +kernel
theorem d_La_law_748 : decode code 748 = .ok (.iconst 1, 1) := by decide +kernel
theorem d_La_law_749 : decode code 749 = .ok (.iadd, 1) := by decide +kernel
theorem d_La_law_750 : decode code 750 = .ok (.iaload, 1) := by decide +kernel
theorem d_La_law_751 : decode code 751 = .ok (.invokevirtual 81, 3) := by decide +kernel
theorem d_La_law_754 : decode code 754 = .ok (.if_icmp .eq 767, 3) := by decide +kernel
theorem d_La_law_757 : decode code 757 = .ok (.iconst 0, 1) := by decide +kernel
theorem d_La_law_758 : decode code 758 = .ok (.ireturn, 1) := by decide +kernel
theorem d_La_law_759 : decode code 759 = .ok (.aload_n 1, 1) := by decide +kernel
theorem d_La_law_760 : decode code 760 = .ok (.aload_n 0, 1) := by decide +kernel
theorem d_La_law_761 : decode code 761 = .ok (.iload_n 3, 1) := by decide +kernel
theorem d_La_law_762 : decode code 762 = .ok (.iconst 1, 1) := by decide +kernel
theorem d_La_law_763 : decode code 763 = .ok (.iadd, 1) := by decide +kernel
theorem d_La_law_764 : decode code 764 = .ok (.iaload, 1) := by decide +kernel
theorem d_La_law_765 : decode code 765 = .ok (.aload_n 0, 1) := by decide +kernel
theorem d_La_law_766 : decode code 766 = .ok (.iload_n 3, 1) := by decide +kernel
theorem d_La_law_767 : decode code 767 = .ok (.iconst 2, 1) := by decide +kernel
theorem d_La_law_768 : decode code 768 = .ok (.iadd, 1) := by decide +kernel
theorem d_La_law_769 : decode code 769 = .ok (.iaload, 1) := by decide +kernel
theorem d_La_law_770 : decode code 770 = .ok (.invokevirtual 82, 3) := by decide +kernel
theorem d_La_law_773 : decode code 773 = .ok (.aload_n 2, 1) := by decide +kernel
theorem d_La_law_774 : decode code 774 = .ok (.aload_n 0, 1) := by decide +kernel
theorem d_La_law_775 : decode code 775 = .ok (.iload_n 3, 1) := by decide +kernel
theorem d_La_law_776 : decode code 776 = .ok (.iconst 1, 1) := by decide +kernel
theorem d_La_law_777 : decode code 777 = .ok (.iadd, 1) := by decide +kernel
theorem d_La_law_778 : decode code 778 = .ok (.iaload, 1) := by decide +kernel
theorem d_La_law_779 : decode code 779 = .ok (.aload_n 0, 1) := by decide +kernel
theorem d_La_law_780 : decode code 780 = .ok (.iload_n 3, 1) := by decide +kernel
theorem d_La_law_781 : decode code 781 = .ok (.iconst 2, 1) := by decide +kernel
theorem d_La_law_782 : decode code 782 = .ok (.iadd, 1) := by decide +kernel
theorem d_La_law_783 : decode code 783 = .ok (.iaload, 1) := by decide +kernel
theorem d_La_law_784 : decode code 784 = .ok (.invokevirtual 85, 3) := by decide +kernel
theorem d_La_law_787 : decode code 787 = .ok (.if_icmp .eq 734, 3) := by decide +kernel
theorem d_La_law_790 : decode code 790 = .ok (.iconst 0, 1) := by decide +kernel
theorem d_La_law_791 : decode code 791 = .ok (.ireturn, 1) := by decide +kernel
theorem d_La_law_792 : decode code 792 = .ok (.aload_n 1, 1) := by decide +kernel
theorem d_La_law_793 : decode code 793 = .ok (.aload_n 0, 1) := by decide +kernel
theorem d_La_law_794 : decode code 794 = .ok (.iload_n 3, 1) := by decide +kernel
theorem d_La_law_795 : decode code 795 = .ok (.iconst 1, 1) := by decide +kernel
theorem d_La_law_796 : decode code 796 = .ok (.iadd, 1) := by decide +kernel
theorem d_La_law_797 : decode code 797 = .ok (.iaload, 1) := by decide +kernel
theorem d_La_law_798 : decode code 798 = .ok (.invokevirtual 86, 3) := by decide +kernel
theorem d_La_law_801 : decode code 801 = .ok (.aload_n 2, 1) := by decide +kernel
theorem d_La_law_802 : decode code 802 = .ok (.aload_n 0, 1) := by decide +kernel
theorem d_La_law_803 : decode code 803 = .ok (.iload_n 3, 1) := by decide +kernel
theorem d_La_law_804 : decode code 804 = .ok (.iconst 1, 1) := by decide +kernel
theorem d_La_law_805 : decode code 805 = .ok (.iadd, 1) := by decide +kernel
theorem d_La_law_806 : decode code 806 = .ok (.iaload, 1) := by decide +kernel
theorem d_La_law_807 : decode code 807 = .ok (.invokevirtual 89, 3) := by decide +kernel
theorem d_La_law_810 : decode code 810 = .ok (.if_icmp .eq 711, 3) := by decide +kernel
theorem d_La_law_813 : decode code 813 = .ok (.iconst 0, 1) := by decide +kernel
theorem d_La_law_814 : decode code 814 = .ok (.ireturn, 1) := by decide +kernel
theorem d_La_law_815 : decode code 815 = .ok (.aload_n 1, 1) := by decide +kernel
theorem d_La_law_816 : decode code 816 = .ok (.aload_n 0, 1) := by decide +kernel
theorem d_La_law_817 : decode code 817 = .ok (.iload_n 3, 1) := by decide +kernel
theorem d_La_law_818 : decode code 818 = .ok (.iconst 1, 1) := by decide +kernel
theorem d_La_law_819 : decode code 819 = .ok (.iadd, 1) := by decide +kernel
theorem d_La_law_820 : decode code 820 = .ok (.iaload, 1) := by decide +kernel
theorem d_La_law_821 : decode code 821 = .ok (.aload_n 0, 1) := by decide +kernel
theorem d_La_law_822 : decode code 822 = .ok (.iload_n 3, 1) := by decide +kernel
theorem d_La_law_823 : decode code 823 = .ok (.iconst 2, 1) := by decide +kernel
theorem d_La_law_824 : decode code 824 = .ok (.iadd, 1) := by decide +kernel
theorem d_La_law_825 : decode code 825 = .ok (.iaload, 1) := by decide +kernel
theorem d_La_law_826 : decode code 826 = .ok (.invokevirtual 90, 3) := by decide +kernel
theorem d_La_law_829 : decode code 829 = .ok (.aload_n 2, 1) := by decide +kernel
theorem d_La_law_830 : decode code 830 = .ok (.aload_n 0, 1) := by decide +kernel
theorem d_La_law_831 : decode code 831 = .ok (.iload_n 3, 1) := by decide +kernel
theorem d_La_law_832 : decode code 832 = .ok (.iconst 1, 1) := by decide +kernel
theorem d_La_law_833 : decode code 833 = .ok (.iadd, 1) := by decide +kernel
theorem d_La_law_834 : decode code 834 = .ok (.iaload, 1) := by decide +kernel
theorem d_La_law_835 : decode code 835 = .ok (.aload_n 0, 1) := by decide +kernel
theorem d_La_law_836 : decode code 836 = .ok (.iload_n 3, 1) := by decide +kernel
theorem d_La_law_837 : decode code 837 = .ok (.iconst 2, 1) := by decide +kernel
theorem d_La_law_838 : decode code 838 = .ok (.iadd, 1) := by decide +kernel
theorem d_La_law_839 : decode code 839 = .ok (.iaload, 1) := by decide +kernel
