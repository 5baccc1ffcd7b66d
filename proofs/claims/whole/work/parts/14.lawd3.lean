theorem d_LW_law_681 : decode b_LW_law 681 = .ok (.iconst 3, 1) := by decide +kernel
theorem d_LW_law_682 : decode b_LW_law 682 = .ok (.iadd, 1) := by decide +kernel
theorem d_LW_law_683 : decode b_LW_law 683 = .ok (.iaload, 1) := by decide +kernel
theorem d_LW_law_684 : decode b_LW_law 684 = .ok (.invokevirtual 76, 3) := by decide +kernel
theorem d_LW_law_687 : decode b_LW_law 687 = .ok (.if_icmp .eq 163, 3) := by decide +kernel
theorem d_LW_law_690 : decode b_LW_law 690 = .ok (.iconst 0, 1) := by decide +kernel
theorem d_LW_law_691 : decode b_LW_law 691 = .ok (.ireturn, 1) := by decide +kernel
theorem d_LW_law_692 : decode b_LW_law 692 = .ok (.aload_n 1, 1) := by decide +kernel
theorem d_LW_law_693 : decode b_LW_law 693 = .ok (.aload_n 0, 1) := by decide +kernel
theorem d_LW_law_694 : decode b_LW_law 694 = .ok (.iload_n 3, 1) := by decide +kernel
theorem d_LW_law_695 : decode b_LW_law 695 = .ok (.iconst 1, 1) := by decide +kernel
theorem d_LW_law_696 : decode b_LW_law 696 = .ok (.iadd, 1) := by decide +kernel
theorem d_LW_law_697 : decode b_LW_law 697 = .ok (.iaload, 1) := by decide +kernel
theorem d_LW_law_698 : decode b_LW_law 698 = .ok (.aload_n 0, 1) := by decide +kernel
theorem d_LW_law_699 : decode b_LW_law 699 = .ok (.iload_n 3, 1) := by decide +kernel
theorem d_LW_law_700 : decode b_LW_law 700 = .ok (.iconst 2, 1) := by decide +kernel
theorem d_LW_law_701 : decode b_LW_law 701 = .ok (.iadd, 1) := by decide +kernel
theorem d_LW_law_702 : decode b_LW_law 702 = .ok (.iaload, 1) := by decide +kernel
theorem d_LW_law_703 : decode b_LW_law 703 = .ok (.invokevirtual 77, 3) := by decide +kernel
theorem d_LW_law_706 : decode b_LW_law 706 = .ok (.aload_n 2, 1) := by decide +kernel
theorem d_LW_law_707 : decode b_LW_law 707 = .ok (.aload_n 0, 1) := by decide +kernel
theorem d_LW_law_708 : decode b_LW_law 708 = .ok (.iload_n 3, 1) := by decide +kernel
theorem d_LW_law_709 : decode b_LW_law 709 = .ok (.iconst 1, 1) := by decide +kernel
theorem d_LW_law_710 : decode b_LW_law 710 = .ok (.iadd, 1) := by decide +kernel
theorem d_LW_law_711 : decode b_LW_law 711 = .ok (.iaload, 1) := by decide +kernel
theorem d_LW_law_712 : decode b_LW_law 712 = .ok (.aload_n 0, 1) := by decide +kernel
theorem d_LW_law_713 : decode b_LW_law 713 = .ok (.iload_n 3, 1) := by decide +kernel
theorem d_LW_law_714 : decode b_LW_law 714 = .ok (.iconst 2, 1) := by decide +kernel
theorem d_LW_law_715 : decode b_LW_law 715 = .ok (.iadd, 1) := by decide +kernel
theorem d_LW_law_716 : decode b_LW_law 716 = .ok (.iaload, 1) := by decide +kernel
theorem d_LW_law_717 : decode b_LW_law 717 = .ok (.invokevirtual 80, 3) := by decide +kernel
theorem d_LW_law_720 : decode b_LW_law 720 = .ok (.if_icmp .eq 130, 3) := by decide +kernel
theorem d_LW_law_723 : decode b_LW_law 723 = .ok (.iconst 0, 1) := by decide +kernel
theorem d_LW_law_724 : decode b_LW_law 724 = .ok (.ireturn, 1) := by decide +kernel
theorem d_LW_law_725 : decode b_LW_law 725 = .ok (.aload_n 1, 1) := by decide +kernel
theorem d_LW_law_726 : decode b_LW_law 726 = .ok (.aload_n 0, 1) := by decide +kernel
theorem d_LW_law_727 : decode b_LW_law 727 = .ok (.iload_n 3, 1) := by decide +kernel
theorem d_LW_law_728 : decode b_LW_law 728 = .ok (.iconst 1, 1) := by decide +kernel
theorem d_LW_law_729 : decode b_LW_law 729 = .ok (.iadd, 1) := by decide +kernel
theorem d_LW_law_730 : decode b_LW_law 730 = .ok (.iaload, 1) := by decide +kernel
theorem d_LW_law_731 : decode b_LW_law 731 = .ok (.aload_n 0, 1) := by decide +kernel
theorem d_LW_law_732 : decode b_LW_law 732 = .ok (.iload_n 3, 1) := by decide +kernel
theorem d_LW_law_733 : decode b_LW_law 733 = .ok (.iconst 2, 1) := by decide +kernel
theorem d_LW_law_734 : decode b_LW_law 734 = .ok (.iadd, 1) := by decide +kernel
theorem d_LW_law_735 : decode b_LW_law 735 = .ok (.iaload, 1) := by decide +kernel
theorem d_LW_law_736 : decode b_LW_law 736 = .ok (.aload_n 0, 1) := by decide +kernel
theorem d_LW_law_737 : decode b_LW_law 737 = .ok (.iload_n 3, 1) := by decide +kernel
theorem d_LW_law_738 : decode b_LW_law 738 = .ok (.iconst 3, 1) := by decide +kernel
theorem d_LW_law_739 : decode b_LW_law 739 = .ok (.iadd, 1) := by decide +kernel
theorem d_LW_law_740 : decode b_LW_law 740 = .ok (.iaload, 1) := by decide +kernel
theorem d_LW_law_741 : decode b_LW_law 741 = .ok (.invokevirtual 81, 3) := by decide +kernel
theorem d_LW_law_744 : decode b_LW_law 744 = .ok (.aload_n 2, 1) := by decide +kernel
theorem d_LW_law_745 : decode b_LW_law 745 = .ok (.aload_n 0, 1) := by decide +kernel
theorem d_LW_law_746 : decode b_LW_law 746 = .ok (.iload_n 3, 1) := by decide +kernel
theorem d_LW_law_747 : decode b_LW_law 747 = .ok (.iconst 1, 1) := by decide +kernel
theorem d_LW_law_748 : decode b_LW_law 748 = .ok (.iadd, 1) := by decide +kernel
theorem d_LW_law_749 : decode b_LW_law 749 = .ok (.iaload, 1) := by decide +kernel
theorem d_LW_law_750 : decode b_LW_law 750 = .ok (.aload_n 0, 1) := by decide +kernel
theorem d_LW_law_751 : decode b_LW_law 751 = .ok (.iload_n 3, 1) := by decide +kernel
theorem d_LW_law_752 : decode b_LW_law 752 = .ok (.iconst 2, 1) := by decide +kernel
theorem d_LW_law_753 : decode b_LW_law 753 = .ok (.iadd, 1) := by decide +kernel
theorem d_LW_law_754 : decode b_LW_law 754 = .ok (.iaload, 1) := by decide +kernel
theorem d_LW_law_755 : decode b_LW_law 755 = .ok (.aload_n 0, 1) := by decide +kernel
theorem d_LW_law_756 : decode b_LW_law 756 = .ok (.iload_n 3, 1) := by decide +kernel
theorem d_LW_law_757 : decode b_LW_law 757 = .ok (.iconst 3, 1) := by decide +kernel
theorem d_LW_law_758 : decode b_LW_law 758 = .ok (.iadd, 1) := by decide +kernel
theorem d_LW_law_759 : decode b_LW_law 759 = .ok (.iaload, 1) := by decide +kernel
theorem d_LW_law_760 : decode b_LW_law 760 = .ok (.invokevirtual 84, 3) := by decide +kernel
theorem d_LW_law_763 : decode b_LW_law 763 = .ok (.if_icmp .eq 87, 3) := by decide +kernel
theorem d_LW_law_766 : decode b_LW_law 766 = .ok (.iconst 0, 1) := by decide +kernel
theorem d_LW_law_767 : decode b_LW_law 767 = .ok (.ireturn, 1) := by decide +kernel
theorem d_LW_law_768 : decode b_LW_law 768 = .ok (.aload_n 1, 1) := by decide +kernel
theorem d_LW_law_769 : decode b_LW_law 769 = .ok (.aload_n 0, 1) := by decide +kernel
theorem d_LW_law_770 : decode b_LW_law 770 = .ok (.iload_n 3, 1) := by decide +kernel
theorem d_LW_law_771 : decode b_LW_law 771 = .ok (.iconst 1, 1) := by decide +kernel
theorem d_LW_law_772 : decode b_LW_law 772 = .ok (.iadd, 1) := by decide +kernel
theorem d_LW_law_773 : decode b_LW_law 773 = .ok (.iaload, 1) := by decide +kernel
theorem d_LW_law_774 : decode b_LW_law 774 = .ok (.aload_n 0, 1) := by decide +kernel
theorem d_LW_law_775 : decode b_LW_law 775 = .ok (.iload_n 3, 1) := by decide +kernel
theorem d_LW_law_776 : decode b_LW_law 776 = .ok (.iconst 2, 1) := by decide +kernel
theorem d_LW_law_777 : decode b_LW_law 777 = .ok (.iadd, 1) := by decide +kernel
theorem d_LW_law_778 : decode b_LW_law 778 = .ok (.iaload, 1) := by decide +kernel
theorem d_LW_law_779 : decode b_LW_law 779 = .ok (.invokevirtual 85, 3) := by decide +kernel
theorem d_LW_law_782 : decode b_LW_law 782 = .ok (.aload_n 2, 1) := by decide +kernel
theorem d_LW_law_783 : decode b_LW_law 783 = .ok (.aload_n 0, 1) := by decide +kernel
theorem d_LW_law_784 : decode b_LW_law 784 = .ok (.iload_n 3, 1) := by decide +kernel
theorem d_LW_law_785 : decode b_LW_law 785 = .ok (.iconst 1, 1) := by decide +kernel
theorem d_LW_law_786 : decode b_LW_law 786 = .ok (.iadd, 1) := by decide +kernel
theorem d_LW_law_787 : decode b_LW_law 787 = .ok (.iaload, 1) := by decide +kernel
theorem d_LW_law_788 : decode b_LW_law 788 = .ok (.aload_n 0, 1) := by decide +kernel
theorem d_LW_law_789 : decode b_LW_law 789 = .ok (.iload_n 3, 1) := by decide +kernel
theorem d_LW_law_790 : decode b_LW_law 790 = .ok (.iconst 2, 1) := by decide +kernel
theorem d_LW_law_791 : decode b_LW_law 791 = .ok (.iadd, 1) := by decide +kernel
theorem d_LW_law_792 : decode b_LW_law 792 = .ok (.iaload, 1) := by decide +kernel
theorem d_LW_law_793 : decode b_LW_law 793 = .ok (.invokevirtual 88, 3) := by decide +kernel
theorem d_LW_law_796 : decode b_LW_law 796 = .ok (.if_icmp .eq 54, 3) := by decide +kernel
theorem d_LW_law_799 : decode b_LW_law 799 = .ok (.iconst 0, 1) := by decide +kernel
theorem d_LW_law_800 : decode b_LW_law 800 = .ok (.ireturn, 1) := by decide +kernel
theorem d_LW_law_801 : decode b_LW_law 801 = .ok (.aload_n 1, 1) := by decide +kernel
theorem d_LW_law_802 : decode b_LW_law 802 = .ok (.aload_n 0, 1) := by decide +kernel
theorem d_LW_law_803 : decode b_LW_law 803 = .ok (.iload_n 3, 1) := by decide +kernel
theorem d_LW_law_804 : decode b_LW_law 804 = .ok (.iconst 1, 1) := by decide +kernel
theorem d_LW_law_805 : decode b_LW_law 805 = .ok (.iadd, 1) := by decide +kernel
theorem d_LW_law_806 : decode b_LW_law 806 = .ok (.iaload, 1) := by decide +kernel
theorem d_LW_law_807 : decode b_LW_law 807 = .ok (.invokevirtual 89, 3) := by decide +kernel
theorem d_LW_law_810 : decode b_LW_law 810 = .ok (.aload_n 2, 1) := by decide +kernel
theorem d_LW_law_811 : decode b_LW_law 811 = .ok (.aload_n 0, 1) := by decide +kernel
theorem d_LW_law_812 : decode b_LW_law 812 = .ok (.iload_n 3, 1) := by decide +kernel
theorem d_LW_law_813 : decode b_LW_law 813 = .ok (.iconst 1, 1) := by decide +kernel
theorem d_LW_law_814 : decode b_LW_law 814 = .ok (.iadd, 1) := by decide +kernel
theorem d_LW_law_815 : decode b_LW_law 815 = .ok (.iaload, 1) := by decide +kernel
theorem d_LW_law_816 : decode b_LW_law 816 = .ok (.invokevirtual 92, 3) := by decide +kernel
theorem d_LW_law_819 : decode b_LW_law 819 = .ok (.if_icmp .eq 31, 3) := by decide +kernel
theorem d_LW_law_822 : decode b_LW_law 822 = .ok (.iconst 0, 1) := by decide +kernel
theorem d_LW_law_823 : decode b_LW_law 823 = .ok (.ireturn, 1) := by decide +kernel
theorem d_LW_law_824 : decode b_LW_law 824 = .ok (.aload_n 1, 1) := by decide +kernel
theorem d_LW_law_825 : decode b_LW_law 825 = .ok (.invokevirtual 93, 3) := by decide +kernel
theorem d_LW_law_828 : decode b_LW_law 828 = .ok (.aload_n 2, 1) := by decide +kernel
theorem d_LW_law_829 : decode b_LW_law 829 = .ok (.invokevirtual 97, 3) := by decide +kernel
theorem d_LW_law_832 : decode b_LW_law 832 = .ok (.if_icmp .eq 18, 3) := by decide +kernel
theorem d_LW_law_835 : decode b_LW_law 835 = .ok (.iconst 0, 1) := by decide +kernel
theorem d_LW_law_836 : decode b_LW_law 836 = .ok (.ireturn, 1) := by decide +kernel
theorem d_LW_law_837 : decode b_LW_law 837 = .ok (.aload_n 1, 1) := by decide +kernel
theorem d_LW_law_838 : decode b_LW_law 838 = .ok (.invokevirtual 98, 3) := by decide +kernel
theorem d_LW_law_841 : decode b_LW_law 841 = .ok (.aload_n 2, 1) := by decide +kernel
theorem d_LW_law_842 : decode b_LW_law 842 = .ok (.invokevirtual 101, 3) := by decide +kernel
theorem d_LW_law_845 : decode b_LW_law 845 = .ok (.if_icmp .eq 5, 3) := by decide +kernel
theorem d_LW_law_848 : decode b_LW_law 848 = .ok (.iconst 0, 1) := by decide +kernel
theorem d_LW_law_849 : decode b_LW_law 849 = .ok (.ireturn, 1) := by decide +kernel
theorem d_LW_law_850 : decode b_LW_law 850 = .ok (.iinc 3 6, 3) := by decide +kernel
theorem d_LW_law_853 : decode b_LW_law 853 = .ok (.goto (-835), 3) := by decide +kernel
theorem d_LW_law_856 : decode b_LW_law 856 = .ok (.iconst 1, 1) := by decide +kernel
theorem d_LW_law_857 : decode b_LW_law 857 = .ok (.ireturn, 1) := by decide +kernel
