/-! decode rows -/
theorem d_La_law_721 : decode b_La_law 721 = .ok (.iload 5, 2) := by decide +kernel
theorem d_La_law_723 : decode b_La_law 723 = .ok (.iconst 1, 1) := by decide +kernel
theorem d_La_law_724 : decode b_La_law 724 = .ok (.iadd, 1) := by decide +kernel
theorem d_La_law_725 : decode b_La_law 725 = .ok (.iaload, 1) := by decide +kernel
theorem d_La_law_726 : decode b_La_law 726 = .ok (.aload_n 0, 1) := by decide +kernel
theorem d_La_law_727 : decode b_La_law 727 = .ok (.iload 5, 2) := by decide +kernel
theorem d_La_law_729 : decode b_La_law 729 = .ok (.iconst 2, 1) := by decide +kernel
theorem d_La_law_730 : decode b_La_law 730 = .ok (.iadd, 1) := by decide +kernel
theorem d_La_law_731 : decode b_La_law 731 = .ok (.iaload, 1) := by decide +kernel
theorem d_La_law_732 : decode b_La_law 732 = .ok (.aload_n 0, 1) := by decide +kernel
theorem d_La_law_733 : decode b_La_law 733 = .ok (.iload 5, 2) := by decide +kernel
theorem d_La_law_735 : decode b_La_law 735 = .ok (.iconst 3, 1) := by decide +kernel
theorem d_La_law_736 : decode b_La_law 736 = .ok (.iadd, 1) := by decide +kernel
theorem d_La_law_737 : decode b_La_law 737 = .ok (.iaload, 1) := by decide +kernel
theorem d_La_law_738 : decode b_La_law 738 = .ok (.aload_n 0, 1) := by decide +kernel
theorem d_La_law_739 : decode b_La_law 739 = .ok (.iload 5, 2) := by decide +kernel
theorem d_La_law_741 : decode b_La_law 741 = .ok (.iconst 4, 1) := by decide +kernel
theorem d_La_law_742 : decode b_La_law 742 = .ok (.iadd, 1) := by decide +kernel
theorem d_La_law_743 : decode b_La_law 743 = .ok (.iaload, 1) := by decide +kernel
theorem d_La_law_744 : decode b_La_law 744 = .ok (.aload_n 3, 1) := by decide +kernel
theorem d_La_law_745 : decode b_La_law 745 = .ok (.invokestatic 99, 3) := by decide +kernel
theorem d_La_law_748 : decode b_La_law 748 = .ok (.istore 6, 2) := by decide +kernel
theorem d_La_law_750 : decode b_La_law 750 = .ok (.aload_n 2, 1) := by decide +kernel
theorem d_La_law_751 : decode b_La_law 751 = .ok (.aload_n 0, 1) := by decide +kernel
theorem d_La_law_752 : decode b_La_law 752 = .ok (.iload 5, 2) := by decide +kernel
theorem d_La_law_754 : decode b_La_law 754 = .ok (.iconst 1, 1) := by decide +kernel
theorem d_La_law_755 : decode b_La_law 755 = .ok (.iadd, 1) := by decide +kernel
theorem d_La_law_756 : decode b_La_law 756 = .ok (.iaload, 1) := by decide +kernel
theorem d_La_law_757 : decode b_La_law 757 = .ok (.aload_n 0, 1) := by decide +kernel
theorem d_La_law_758 : decode b_La_law 758 = .ok (.iload 5, 2) := by decide +kernel
theorem d_La_law_760 : decode b_La_law 760 = .ok (.iconst 2, 1) := by decide +kernel
theorem d_La_law_761 : decode b_La_law 761 = .ok (.iadd, 1) := by decide +kernel
theorem d_La_law_762 : decode b_La_law 762 = .ok (.iaload, 1) := by decide +kernel
theorem d_La_law_763 : decode b_La_law 763 = .ok (.aload_n 0, 1) := by decide +kernel
theorem d_La_law_764 : decode b_La_law 764 = .ok (.iload 5, 2) := by decide +kernel
theorem d_La_law_766 : decode b_La_law 766 = .ok (.iconst 3, 1) := by decide +kernel
theorem d_La_law_767 : decode b_La_law 767 = .ok (.iadd, 1) := by decide +kernel
theorem d_La_law_768 : decode b_La_law 768 = .ok (.iaload, 1) := by decide +kernel
theorem d_La_law_769 : decode b_La_law 769 = .ok (.aload_n 0, 1) := by decide +kernel
theorem d_La_law_770 : decode b_La_law 770 = .ok (.iload 5, 2) := by decide +kernel
theorem d_La_law_772 : decode b_La_law 772 = .ok (.iconst 4, 1) := by decide +kernel
theorem d_La_law_773 : decode b_La_law 773 = .ok (.iadd, 1) := by decide +kernel
theorem d_La_law_774 : decode b_La_law 774 = .ok (.iaload, 1) := by decide +kernel
theorem d_La_law_775 : decode b_La_law 775 = .ok (.invokevirtual 101, 3) := by decide +kernel
theorem d_La_law_778 : decode b_La_law 778 = .ok (.istore 7, 2) := by decide +kernel
theorem d_La_law_780 : decode b_La_law 780 = .ok (.aload_n 2, 1) := by decide +kernel
theorem d_La_law_781 : decode b_La_law 781 = .ok (.invokevirtual 66, 3) := by decide +kernel
theorem d_La_law_784 : decode b_La_law 784 = .ok (.iload 6, 2) := by decide +kernel
theorem d_La_law_786 : decode b_La_law 786 = .ok (.if_icmp .eq 5, 3) := by decide +kernel
theorem d_La_law_789 : decode b_La_law 789 = .ok (.iconst 0, 1) := by decide +kernel
theorem d_La_law_790 : decode b_La_law 790 = .ok (.ireturn, 1) := by decide +kernel
theorem d_La_law_791 : decode b_La_law 791 = .ok (.iload 6, 2) := by decide +kernel
theorem d_La_law_793 : decode b_La_law 793 = .ok (.ifCond .ne 22, 3) := by decide +kernel
theorem d_La_law_796 : decode b_La_law 796 = .ok (.aload_n 3, 1) := by decide +kernel
theorem d_La_law_797 : decode b_La_law 797 = .ok (.iconst 0, 1) := by decide +kernel
theorem d_La_law_798 : decode b_La_law 798 = .ok (.laload, 1) := by decide +kernel
theorem d_La_law_799 : decode b_La_law 799 = .ok (.iload 7, 2) := by decide +kernel
theorem d_La_law_801 : decode b_La_law 801 = .ok (.ifCond .eq 7, 3) := by decide +kernel
theorem d_La_law_804 : decode b_La_law 804 = .ok (.lconst 1, 1) := by decide +kernel
theorem d_La_law_805 : decode b_La_law 805 = .ok (.goto 4, 3) := by decide +kernel
theorem d_La_law_808 : decode b_La_law 808 = .ok (.lconst 0, 1) := by decide +kernel
theorem d_La_law_809 : decode b_La_law 809 = .ok (.lcmp, 1) := by decide +kernel
theorem d_La_law_810 : decode b_La_law 810 = .ok (.ifCond .eq 5, 3) := by decide +kernel
theorem d_La_law_813 : decode b_La_law 813 = .ok (.iconst 0, 1) := by decide +kernel
theorem d_La_law_814 : decode b_La_law 814 = .ok (.ireturn, 1) := by decide +kernel
theorem d_La_law_815 : decode b_La_law 815 = .ok (.goto 115, 3) := by decide +kernel
theorem d_La_law_818 : decode b_La_law 818 = .ok (.aload_n 1, 1) := by decide +kernel
theorem d_La_law_819 : decode b_La_law 819 = .ok (.aload_n 0, 1) := by decide +kernel
theorem d_La_law_820 : decode b_La_law 820 = .ok (.iload 5, 2) := by decide +kernel
theorem d_La_law_822 : decode b_La_law 822 = .ok (.iconst 1, 1) := by decide +kernel
theorem d_La_law_823 : decode b_La_law 823 = .ok (.iadd, 1) := by decide +kernel
theorem d_La_law_824 : decode b_La_law 824 = .ok (.iaload, 1) := by decide +kernel
theorem d_La_law_825 : decode b_La_law 825 = .ok (.aload_n 3, 1) := by decide +kernel
theorem d_La_law_826 : decode b_La_law 826 = .ok (.invokestatic 102, 3) := by decide +kernel
theorem d_La_law_829 : decode b_La_law 829 = .ok (.istore 6, 2) := by decide +kernel
theorem d_La_law_831 : decode b_La_law 831 = .ok (.aload_n 2, 1) := by decide +kernel
theorem d_La_law_832 : decode b_La_law 832 = .ok (.aload_n 0, 1) := by decide +kernel
theorem d_La_law_833 : decode b_La_law 833 = .ok (.iload 5, 2) := by decide +kernel
theorem d_La_law_835 : decode b_La_law 835 = .ok (.iconst 1, 1) := by decide +kernel
theorem d_La_law_836 : decode b_La_law 836 = .ok (.iadd, 1) := by decide +kernel
theorem d_La_law_837 : decode b_La_law 837 = .ok (.iaload, 1) := by decide +kernel
theorem d_La_law_838 : decode b_La_law 838 = .ok (.invokevirtual 104, 3) := by decide +kernel
theorem d_La_law_841 : decode b_La_law 841 = .ok (.istore 7, 2) := by decide +kernel
theorem d_La_law_843 : decode b_La_law 843 = .ok (.aload_n 2, 1) := by decide +kernel
theorem d_La_law_844 : decode b_La_law 844 = .ok (.invokevirtual 66, 3) := by decide +kernel
theorem d_La_law_847 : decode b_La_law 847 = .ok (.iload 6, 2) := by decide +kernel
theorem d_La_law_849 : decode b_La_law 849 = .ok (.if_icmp .eq 5, 3) := by decide +kernel
theorem d_La_law_852 : decode b_La_law 852 = .ok (.iconst 0, 1) := by decide +kernel
theorem d_La_law_853 : decode b_La_law 853 = .ok (.ireturn, 1) := by decide +kernel
theorem d_La_law_854 : decode b_La_law 854 = .ok (.iload 6, 2) := by decide +kernel
theorem d_La_law_856 : decode b_La_law 856 = .ok (.ifCond .ne 15, 3) := by decide +kernel
theorem d_La_law_859 : decode b_La_law 859 = .ok (.aload_n 3, 1) := by decide +kernel
theorem d_La_law_860 : decode b_La_law 860 = .ok (.iconst 0, 1) := by decide +kernel
theorem d_La_law_861 : decode b_La_law 861 = .ok (.laload, 1) := by decide +kernel
theorem d_La_law_862 : decode b_La_law 862 = .ok (.iload 7, 2) := by decide +kernel
theorem d_La_law_864 : decode b_La_law 864 = .ok (.i2l, 1) := by decide +kernel
theorem d_La_law_865 : decode b_La_law 865 = .ok (.lcmp, 1) := by decide +kernel
theorem d_La_law_866 : decode b_La_law 866 = .ok (.ifCond .eq 5, 3) := by decide +kernel
theorem d_La_law_869 : decode b_La_law 869 = .ok (.iconst 0, 1) := by decide +kernel
theorem d_La_law_870 : decode b_La_law 870 = .ok (.ireturn, 1) := by decide +kernel
theorem d_La_law_871 : decode b_La_law 871 = .ok (.goto 59, 3) := by decide +kernel
theorem d_La_law_874 : decode b_La_law 874 = .ok (.aload_n 1, 1) := by decide +kernel
theorem d_La_law_875 : decode b_La_law 875 = .ok (.aload_n 0, 1) := by decide +kernel
theorem d_La_law_876 : decode b_La_law 876 = .ok (.iload 5, 2) := by decide +kernel
theorem d_La_law_878 : decode b_La_law 878 = .ok (.iconst 1, 1) := by decide +kernel
theorem d_La_law_879 : decode b_La_law 879 = .ok (.iadd, 1) := by decide +kernel
theorem d_La_law_880 : decode b_La_law 880 = .ok (.iaload, 1) := by decide +kernel
theorem d_La_law_881 : decode b_La_law 881 = .ok (.aload_n 3, 1) := by decide +kernel
theorem d_La_law_882 : decode b_La_law 882 = .ok (.invokestatic 105, 3) := by decide +kernel
theorem d_La_law_885 : decode b_La_law 885 = .ok (.istore 6, 2) := by decide +kernel
theorem d_La_law_887 : decode b_La_law 887 = .ok (.aload_n 2, 1) := by decide +kernel
theorem d_La_law_888 : decode b_La_law 888 = .ok (.aload_n 0, 1) := by decide +kernel
theorem d_La_law_889 : decode b_La_law 889 = .ok (.iload 5, 2) := by decide +kernel
theorem d_La_law_891 : decode b_La_law 891 = .ok (.iconst 1, 1) := by decide +kernel
theorem d_La_law_892 : decode b_La_law 892 = .ok (.iadd, 1) := by decide +kernel
theorem d_La_law_893 : decode b_La_law 893 = .ok (.iaload, 1) := by decide +kernel
theorem d_La_law_894 : decode b_La_law 894 = .ok (.invokevirtual 107, 3) := by decide +kernel
theorem d_La_law_897 : decode b_La_law 897 = .ok (.istore 7, 2) := by decide +kernel
theorem d_La_law_899 : decode b_La_law 899 = .ok (.aload_n 2, 1) := by decide +kernel
theorem d_La_law_900 : decode b_La_law 900 = .ok (.invokevirtual 66, 3) := by decide +kernel
theorem d_La_law_903 : decode b_La_law 903 = .ok (.iload 6, 2) := by decide +kernel
theorem d_La_law_905 : decode b_La_law 905 = .ok (.if_icmp .eq 5, 3) := by decide +kernel
theorem d_La_law_908 : decode b_La_law 908 = .ok (.iconst 0, 1) := by decide +kernel
theorem d_La_law_909 : decode b_La_law 909 = .ok (.ireturn, 1) := by decide +kernel
theorem d_La_law_910 : decode b_La_law 910 = .ok (.iload 6, 2) := by decide +kernel
theorem d_La_law_912 : decode b_La_law 912 = .ok (.ifCond .ne 15, 3) := by decide +kernel
theorem d_La_law_915 : decode b_La_law 915 = .ok (.aload_n 3, 1) := by decide +kernel
theorem d_La_law_916 : decode b_La_law 916 = .ok (.iconst 0, 1) := by decide +kernel
theorem d_La_law_917 : decode b_La_law 917 = .ok (.laload, 1) := by decide +kernel
theorem d_La_law_918 : decode b_La_law 918 = .ok (.iload 7, 2) := by decide +kernel
theorem d_La_law_920 : decode b_La_law 920 = .ok (.i2l, 1) := by decide +kernel
theorem d_La_law_921 : decode b_La_law 921 = .ok (.lcmp, 1) := by decide +kernel
theorem d_La_law_922 : decode b_La_law 922 = .ok (.ifCond .eq 5, 3) := by decide +kernel
theorem d_La_law_925 : decode b_La_law 925 = .ok (.iconst 0, 1) := by decide +kernel
theorem d_La_law_926 : decode b_La_law 926 = .ok (.ireturn, 1) := by decide +kernel
theorem d_La_law_927 : decode b_La_law 927 = .ok (.goto 3, 3) := by decide +kernel
theorem d_La_law_930 : decode b_La_law 930 = .ok (.iinc 5 5, 3) := by decide +kernel
theorem d_La_law_933 : decode b_La_law 933 = .ok (.goto (-905), 3) := by decide +kernel
theorem d_La_law_936 : decode b_La_law 936 = .ok (.iconst 1, 1) := by decide +kernel
theorem d_La_law_937 : decode b_La_law 937 = .ok (.ireturn, 1) := by decide +kernel

