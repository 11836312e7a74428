theorem d_W_715 : decode code 715 = .ok (.aload_n 2, 1) := by decide +kernel
theorem d_W_716 : decode code 716 = .ok (.aload_n 0, 1) := by decide +kernel
theorem d_W_717 : decode code 717 = .ok (.iload 4, 2) := by decide +kernel
theorem d_W_719 : decode code 719 = .ok (.iconst 1, 1) := by decide +kernel
theorem d_W_720 : decode code 720 = .ok (.iadd, 1) := by decide +kernel
theorem d_W_721 : decode code 721 = .ok (.iaload, 1) := by decide +kernel
theorem d_W_722 : decode code 722 = .ok (.aload_n 0, 1) := by decide +kernel
theorem d_W_723 : decode code 723 = .ok (.iload 4, 2) := by decide +kernel
theorem d_W_725 : decode code 725 = .ok (.iconst 2, 1) := by decide +kernel
theorem d_W_726 : decode code 726 = .ok (.iadd, 1) := by decide +kernel
theorem d_W_727 : decode code 727 = .ok (.iaload, 1) := by decide +kernel
theorem d_W_728 : decode code 728 = .ok (.invokevirtual 102, 3) := by decide +kernel
theorem d_W_731 : decode code 731 = .ok (.istore 6, 2) := by decide +kernel
theorem d_W_733 : decode code 733 = .ok (.aload_n 2, 1) := by decide +kernel
theorem d_W_734 : decode code 734 = .ok (.invokevirtual 70, 3) := by decide +kernel
theorem d_W_737 : decode code 737 = .ok (.iload 5, 2) := by decide +kernel
theorem d_W_739 : decode code 739 = .ok (.if_icmp .eq 5, 3) := by decide +kernel
theorem d_W_742 : decode code 742 = .ok (.iconst 0, 1) := by decide +kernel
theorem d_W_743 : decode code 743 = .ok (.ireturn, 1) := by decide +kernel
theorem d_W_744 : decode code 744 = .ok (.iload 5, 2) := by decide +kernel
theorem d_W_746 : decode code 746 = .ok (.ifCond .ne 15, 3) := by decide +kernel
theorem d_W_749 : decode code 749 = .ok (.aload_n 3, 1) := by decide +kernel
theorem d_W_750 : decode code 750 = .ok (.iconst 0, 1) := by decide +kernel
theorem d_W_751 : decode code 751 = .ok (.laload, 1) := by decide +kernel
theorem d_W_752 : decode code 752 = .ok (.iload 6, 2) := by decide +kernel
theorem d_W_754 : decode code 754 = .ok (.i2l, 1) := by decide +kernel
theorem d_W_755 : decode code 755 = .ok (.lcmp, 1) := by decide +kernel
theorem d_W_756 : decode code 756 = .ok (.ifCond .eq 5, 3) := by decide +kernel
theorem d_W_759 : decode code 759 = .ok (.iconst 0, 1) := by decide +kernel
theorem d_W_760 : decode code 760 = .ok (.ireturn, 1) := by decide +kernel
theorem d_W_761 : decode code 761 = .ok (.goto 110, 3) := by decide +kernel
theorem d_W_764 : decode code 764 = .ok (.aload_n 1, 1) := by decide +kernel
theorem d_W_765 : decode code 765 = .ok (.invokevirtual 103, 3) := by decide +kernel
theorem d_W_768 : decode code 768 = .ok (.aload_n 2, 1) := by decide +kernel
theorem d_W_769 : decode code 769 = .ok (.invokevirtual 106, 3) := by decide +kernel
theorem d_W_772 : decode code 772 = .ok (.if_icmp .eq 99, 3) := by decide +kernel
theorem d_W_775 : decode code 775 = .ok (.iconst 0, 1) := by decide +kernel
theorem d_W_776 : decode code 776 = .ok (.ireturn, 1) := by decide +kernel
theorem d_W_777 : decode code 777 = .ok (.aload_n 1, 1) := by decide +kernel
theorem d_W_778 : decode code 778 = .ok (.aload_n 0, 1) := by decide +kernel
theorem d_W_779 : decode code 779 = .ok (.iload 4, 2) := by decide +kernel
theorem d_W_781 : decode code 781 = .ok (.iconst 1, 1) := by decide +kernel
theorem d_W_782 : decode code 782 = .ok (.iadd, 1) := by decide +kernel
theorem d_W_783 : decode code 783 = .ok (.iaload, 1) := by decide +kernel
theorem d_W_784 : decode code 784 = .ok (.aload_n 3, 1) := by decide +kernel
theorem d_W_785 : decode code 785 = .ok (.invokestatic 107, 3) := by decide +kernel
theorem d_W_788 : decode code 788 = .ok (.istore 5, 2) := by decide +kernel
theorem d_W_790 : decode code 790 = .ok (.aload_n 2, 1) := by decide +kernel
theorem d_W_791 : decode code 791 = .ok (.aload_n 0, 1) := by decide +kernel
theorem d_W_792 : decode code 792 = .ok (.iload 4, 2) := by decide +kernel
theorem d_W_794 : decode code 794 = .ok (.iconst 1, 1) := by decide +kernel
theorem d_W_795 : decode code 795 = .ok (.iadd, 1) := by decide +kernel
theorem d_W_796 : decode code 796 = .ok (.iaload, 1) := by decide +kernel
theorem d_W_797 : decode code 797 = .ok (.invokevirtual 109, 3) := by decide +kernel
theorem d_W_800 : decode code 800 = .ok (.istore 6, 2) := by decide +kernel
theorem d_W_802 : decode code 802 = .ok (.aload_n 2, 1) := by decide +kernel
theorem d_W_803 : decode code 803 = .ok (.invokevirtual 70, 3) := by decide +kernel
theorem d_W_806 : decode code 806 = .ok (.iload 5, 2) := by decide +kernel
theorem d_W_808 : decode code 808 = .ok (.if_icmp .eq 5, 3) := by decide +kernel
theorem d_W_811 : decode code 811 = .ok (.iconst 0, 1) := by decide +kernel
theorem d_W_812 : decode code 812 = .ok (.ireturn, 1) := by decide +kernel
theorem d_W_813 : decode code 813 = .ok (.iload 5, 2) := by decide +kernel
theorem d_W_815 : decode code 815 = .ok (.ifCond .ne 15, 3) := by decide +kernel
theorem d_W_818 : decode code 818 = .ok (.aload_n 3, 1) := by decide +kernel
theorem d_W_819 : decode code 819 = .ok (.iconst 0, 1) := by decide +kernel
theorem d_W_820 : decode code 820 = .ok (.laload, 1) := by decide +kernel
theorem d_W_821 : decode code 821 = .ok (.iload 6, 2) := by decide +kernel
theorem d_W_823 : decode code 823 = .ok (.i2l, 1) := by decide +kernel
theorem d_W_824 : decode code 824 = .ok (.lcmp, 1) := by decide +kernel
theorem d_W_825 : decode code 825 = .ok (.ifCond .eq 5, 3) := by decide +kernel
theorem d_W_828 : decode code 828 = .ok (.iconst 0, 1) := by decide +kernel
theorem d_W_829 : decode code 829 = .ok (.ireturn, 1) := by decide +kernel
theorem d_W_830 : decode code 830 = .ok (.goto 41, 3) := by decide +kernel
theorem d_W_833 : decode code 833 = .ok (.aload_n 1, 1) := by decide +kernel
theorem d_W_834 : decode code 834 = .ok (.invokevirtual 110, 3) := by decide +kernel
theorem d_W_837 : decode code 837 = .ok (.aload_n 2, 1) := by decide +kernel
theorem d_W_838 : decode code 838 = .ok (.invokevirtual 114, 3) := by decide +kernel
theorem d_W_841 : decode code 841 = .ok (.if_icmp .eq 30, 3) := by decide +kernel
theorem d_W_844 : decode code 844 = .ok (.iconst 0, 1) := by decide +kernel
theorem d_W_845 : decode code 845 = .ok (.ireturn, 1) := by decide +kernel
theorem d_W_846 : decode code 846 = .ok (.aload_n 1, 1) := by decide +kernel
theorem d_W_847 : decode code 847 = .ok (.aload_n 0, 1) := by decide +kernel
theorem d_W_848 : decode code 848 = .ok (.iload 4, 2) := by decide +kernel
theorem d_W_850 : decode code 850 = .ok (.iconst 1, 1) := by decide +kernel
theorem d_W_851 : decode code 851 = .ok (.iadd, 1) := by decide +kernel
theorem d_W_852 : decode code 852 = .ok (.iaload, 1) := by decide +kernel
theorem d_W_853 : decode code 853 = .ok (.invokevirtual 115, 3) := by decide +kernel
theorem d_W_856 : decode code 856 = .ok (.aload_n 2, 1) := by decide +kernel
theorem d_W_857 : decode code 857 = .ok (.aload_n 0, 1) := by decide +kernel
theorem d_W_858 : decode code 858 = .ok (.iload 4, 2) := by decide +kernel
theorem d_W_860 : decode code 860 = .ok (.iconst 1, 1) := by decide +kernel
theorem d_W_861 : decode code 861 = .ok (.iadd, 1) := by decide +kernel
theorem d_W_862 : decode code 862 = .ok (.iaload, 1) := by decide +kernel
theorem d_W_863 : decode code 863 = .ok (.invokevirtual 118, 3) := by decide +kernel
theorem d_W_866 : decode code 866 = .ok (.if_icmp .eq 5, 3) := by decide +kernel
theorem d_W_869 : decode code 869 = .ok (.iconst 0, 1) := by decide +kernel
theorem d_W_870 : decode code 870 = .ok (.ireturn, 1) := by decide +kernel
theorem d_W_871 : decode code 871 = .ok (.iinc 4 4, 3) := by decide +kernel
theorem d_W_874 : decode code 874 = .ok (.goto (-841), 3) := by decide +kernel
theorem d_W_877 : decode code 877 = .ok (.iconst 1, 1) := by decide +kernel
theorem d_W_878 : decode code 878 = .ok (.ireturn, 1) := by decide +kernel
