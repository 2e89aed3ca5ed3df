theorem d_Lw_law_799 : decode b_Lw_law 799 = .ok (.iaload, 1) := by decide +kernel
theorem d_Lw_law_800 : decode b_Lw_law 800 = .ok (.aload_n 0, 1) := by decide +kernel
theorem d_Lw_law_801 : decode b_Lw_law 801 = .ok (.iload_n 3, 1) := by decide +kernel
theorem d_Lw_law_802 : decode b_Lw_law 802 = .ok (.iconst 5, 1) := by decide +kernel
theorem d_Lw_law_803 : decode b_Lw_law 803 = .ok (.iadd, 1) := by decide +kernel
theorem d_Lw_law_804 : decode b_Lw_law 804 = .ok (.iaload, 1) := by decide +kernel
theorem d_Lw_law_805 : decode b_Lw_law 805 = .ok (.aload_n 0, 1) := by decide +kernel
theorem d_Lw_law_806 : decode b_Lw_law 806 = .ok (.iload_n 3, 1) := by decide +kernel
theorem d_Lw_law_807 : decode b_Lw_law 807 = .ok (.bipush 6, 2) := by decide +kernel
theorem d_Lw_law_809 : decode b_Lw_law 809 = .ok (.iadd, 1) := by decide +kernel
theorem d_Lw_law_810 : decode b_Lw_law 810 = .ok (.iaload, 1) := by decide +kernel
theorem d_Lw_law_811 : decode b_Lw_law 811 = .ok (.invokevirtual 101, 3) := by decide +kernel
theorem d_Lw_law_814 : decode b_Lw_law 814 = .ok (.if_icmp .eq 368, 3) := by decide +kernel
theorem d_Lw_law_817 : decode b_Lw_law 817 = .ok (.iconst 0, 1) := by decide +kernel
theorem d_Lw_law_818 : decode b_Lw_law 818 = .ok (.ireturn, 1) := by decide +kernel
theorem d_Lw_law_819 : decode b_Lw_law 819 = .ok (.aload_n 1, 1) := by decide +kernel
theorem d_Lw_law_820 : decode b_Lw_law 820 = .ok (.aload_n 0, 1) := by decide +kernel
theorem d_Lw_law_821 : decode b_Lw_law 821 = .ok (.iload_n 3, 1) := by decide +kernel
theorem d_Lw_law_822 : decode b_Lw_law 822 = .ok (.iconst 1, 1) := by decide +kernel
theorem d_Lw_law_823 : decode b_Lw_law 823 = .ok (.iadd, 1) := by decide +kernel
theorem d_Lw_law_824 : decode b_Lw_law 824 = .ok (.iaload, 1) := by decide +kernel
theorem d_Lw_law_825 : decode b_Lw_law 825 = .ok (.aload_n 0, 1) := by decide +kernel
theorem d_Lw_law_826 : decode b_Lw_law 826 = .ok (.iload_n 3, 1) := by decide +kernel
theorem d_Lw_law_827 : decode b_Lw_law 827 = .ok (.iconst 2, 1) := by decide +kernel
theorem d_Lw_law_828 : decode b_Lw_law 828 = .ok (.iadd, 1) := by decide +kernel
theorem d_Lw_law_829 : decode b_Lw_law 829 = .ok (.iaload, 1) := by decide +kernel
theorem d_Lw_law_830 : decode b_Lw_law 830 = .ok (.aload_n 0, 1) := by decide +kernel
theorem d_Lw_law_831 : decode b_Lw_law 831 = .ok (.iload_n 3, 1) := by decide +kernel
theorem d_Lw_law_832 : decode b_Lw_law 832 = .ok (.iconst 3, 1) := by decide +kernel
theorem d_Lw_law_833 : decode b_Lw_law 833 = .ok (.iadd, 1) := by decide +kernel
theorem d_Lw_law_834 : decode b_Lw_law 834 = .ok (.iaload, 1) := by decide +kernel
theorem d_Lw_law_835 : decode b_Lw_law 835 = .ok (.aload_n 0, 1) := by decide +kernel
theorem d_Lw_law_836 : decode b_Lw_law 836 = .ok (.iload_n 3, 1) := by decide +kernel
theorem d_Lw_law_837 : decode b_Lw_law 837 = .ok (.iconst 4, 1) := by decide +kernel
theorem d_Lw_law_838 : decode b_Lw_law 838 = .ok (.iadd, 1) := by decide +kernel
theorem d_Lw_law_839 : decode b_Lw_law 839 = .ok (.iaload, 1) := by decide +kernel
theorem d_Lw_law_840 : decode b_Lw_law 840 = .ok (.aload_n 0, 1) := by decide +kernel
theorem d_Lw_law_841 : decode b_Lw_law 841 = .ok (.iload_n 3, 1) := by decide +kernel
theorem d_Lw_law_842 : decode b_Lw_law 842 = .ok (.iconst 5, 1) := by decide +kernel
theorem d_Lw_law_843 : decode b_Lw_law 843 = .ok (.iadd, 1) := by decide +kernel
theorem d_Lw_law_844 : decode b_Lw_law 844 = .ok (.iaload, 1) := by decide +kernel
theorem d_Lw_law_845 : decode b_Lw_law 845 = .ok (.invokevirtual 102, 3) := by decide +kernel
theorem d_Lw_law_848 : decode b_Lw_law 848 = .ok (.aload_n 2, 1) := by decide +kernel
theorem d_Lw_law_849 : decode b_Lw_law 849 = .ok (.aload_n 0, 1) := by decide +kernel
theorem d_Lw_law_850 : decode b_Lw_law 850 = .ok (.iload_n 3, 1) := by decide +kernel
theorem d_Lw_law_851 : decode b_Lw_law 851 = .ok (.iconst 1, 1) := by decide +kernel
theorem d_Lw_law_852 : decode b_Lw_law 852 = .ok (.iadd, 1) := by decide +kernel
theorem d_Lw_law_853 : decode b_Lw_law 853 = .ok (.iaload, 1) := by decide +kernel
theorem d_Lw_law_854 : decode b_Lw_law 854 = .ok (.aload_n 0, 1) := by decide +kernel
theorem d_Lw_law_855 : decode b_Lw_law 855 = .ok (.iload_n 3, 1) := by decide +kernel
theorem d_Lw_law_856 : decode b_Lw_law 856 = .ok (.iconst 2, 1) := by decide +kernel
theorem d_Lw_law_857 : decode b_Lw_law 857 = .ok (.iadd, 1) := by decide +kernel
theorem d_Lw_law_858 : decode b_Lw_law 858 = .ok (.iaload, 1) := by decide +kernel
theorem d_Lw_law_859 : decode b_Lw_law 859 = .ok (.aload_n 0, 1) := by decide +kernel
theorem d_Lw_law_860 : decode b_Lw_law 860 = .ok (.iload_n 3, 1) := by decide +kernel
theorem d_Lw_law_861 : decode b_Lw_law 861 = .ok (.iconst 3, 1) := by decide +kernel
theorem d_Lw_law_862 : decode b_Lw_law 862 = .ok (.iadd, 1) := by decide +kernel
theorem d_Lw_law_863 : decode b_Lw_law 863 = .ok (.iaload, 1) := by decide +kernel
theorem d_Lw_law_864 : decode b_Lw_law 864 = .ok (.aload_n 0, 1) := by decide +kernel
theorem d_Lw_law_865 : decode b_Lw_law 865 = .ok (.iload_n 3, 1) := by decide +kernel
theorem d_Lw_law_866 : decode b_Lw_law 866 = .ok (.iconst 4, 1) := by decide +kernel
theorem d_Lw_law_867 : decode b_Lw_law 867 = .ok (.iadd, 1) := by decide +kernel
theorem d_Lw_law_868 : decode b_Lw_law 868 = .ok (.iaload, 1) := by decide +kernel
theorem d_Lw_law_869 : decode b_Lw_law 869 = .ok (.aload_n 0, 1) := by decide +kernel
theorem d_Lw_law_870 : decode b_Lw_law 870 = .ok (.iload_n 3, 1) := by decide +kernel
theorem d_Lw_law_871 : decode b_Lw_law 871 = .ok (.iconst 5, 1) := by decide +kernel
theorem d_Lw_law_872 : decode b_Lw_law 872 = .ok (.iadd, 1) := by decide +kernel
theorem d_Lw_law_873 : decode b_Lw_law 873 = .ok (.iaload, 1) := by decide +kernel
theorem d_Lw_law_874 : decode b_Lw_law 874 = .ok (.invokevirtual 105, 3) := by decide +kernel
theorem d_Lw_law_877 : decode b_Lw_law 877 = .ok (.if_icmp .eq 305, 3) := by decide +kernel
theorem d_Lw_law_880 : decode b_Lw_law 880 = .ok (.iconst 0, 1) := by decide +kernel
theorem d_Lw_law_881 : decode b_Lw_law 881 = .ok (.ireturn, 1) := by decide +kernel
theorem d_Lw_law_882 : decode b_Lw_law 882 = .ok (.aload_n 1, 1) := by decide +kernel
theorem d_Lw_law_883 : decode b_Lw_law 883 = .ok (.aload_n 0, 1) := by decide +kernel
theorem d_Lw_law_884 : decode b_Lw_law 884 = .ok (.iload_n 3, 1) := by decide +kernel
theorem d_Lw_law_885 : decode b_Lw_law 885 = .ok (.iconst 1, 1) := by decide +kernel
theorem d_Lw_law_886 : decode b_Lw_law 886 = .ok (.iadd, 1) := by decide +kernel
theorem d_Lw_law_887 : decode b_Lw_law 887 = .ok (.iaload, 1) := by decide +kernel
theorem d_Lw_law_888 : decode b_Lw_law 888 = .ok (.aload_n 0, 1) := by decide +kernel
theorem d_Lw_law_889 : decode b_Lw_law 889 = .ok (.iload_n 3, 1) := by decide +kernel
theorem d_Lw_law_890 : decode b_Lw_law 890 = .ok (.iconst 2, 1) := by decide +kernel
theorem d_Lw_law_891 : decode b_Lw_law 891 = .ok (.iadd, 1) := by decide +kernel
theorem d_Lw_law_892 : decode b_Lw_law 892 = .ok (.iaload, 1) := by decide +kernel
theorem d_Lw_law_893 : decode b_Lw_law 893 = .ok (.invokevirtual 106, 3) := by decide +kernel
theorem d_Lw_law_896 : decode b_Lw_law 896 = .ok (.aload_n 2, 1) := by decide +kernel
theorem d_Lw_law_897 : decode b_Lw_law 897 = .ok (.aload_n 0, 1) := by decide +kernel
theorem d_Lw_law_898 : decode b_Lw_law 898 = .ok (.iload_n 3, 1) := by decide +kernel
theorem d_Lw_law_899 : decode b_Lw_law 899 = .ok (.iconst 1, 1) := by decide +kernel
theorem d_Lw_law_900 : decode b_Lw_law 900 = .ok (.iadd, 1) := by decide +kernel
theorem d_Lw_law_901 : decode b_Lw_law 901 = .ok (.iaload, 1) := by decide +kernel
theorem d_Lw_law_902 : decode b_Lw_law 902 = .ok (.aload_n 0, 1) := by decide +kernel
theorem d_Lw_law_903 : decode b_Lw_law 903 = .ok (.iload_n 3, 1) := by decide +kernel
theorem d_Lw_law_904 : decode b_Lw_law 904 = .ok (.iconst 2, 1) := by decide +kernel
theorem d_Lw_law_905 : decode b_Lw_law 905 = .ok (.iadd, 1) := by decide +kernel
theorem d_Lw_law_906 : decode b_Lw_law 906 = .ok (.iaload, 1) := by decide +kernel
theorem d_Lw_law_907 : decode b_Lw_law 907 = .ok (.invokevirtual 109, 3) := by decide +kernel
theorem d_Lw_law_910 : decode b_Lw_law 910 = .ok (.if_icmp .eq 272, 3) := by decide +kernel
theorem d_Lw_law_913 : decode b_Lw_law 913 = .ok (.iconst 0, 1) := by decide +kernel
theorem d_Lw_law_914 : decode b_Lw_law 914 = .ok (.ireturn, 1) := by decide +kernel
theorem d_Lw_law_915 : decode b_Lw_law 915 = .ok (.aload_n 1, 1) := by decide +kernel
theorem d_Lw_law_916 : decode b_Lw_law 916 = .ok (.aload_n 0, 1) := by decide +kernel
theorem d_Lw_law_917 : decode b_Lw_law 917 = .ok (.iload_n 3, 1) := by decide +kernel
theorem d_Lw_law_918 : decode b_Lw_law 918 = .ok (.iconst 1, 1) := by decide +kernel
theorem d_Lw_law_919 : decode b_Lw_law 919 = .ok (.iadd, 1) := by decide +kernel
theorem d_Lw_law_920 : decode b_Lw_law 920 = .ok (.iaload, 1) := by decide +kernel
theorem d_Lw_law_921 : decode b_Lw_law 921 = .ok (.aload_n 0, 1) := by decide +kernel
theorem d_Lw_law_922 : decode b_Lw_law 922 = .ok (.iload_n 3, 1) := by decide +kernel
theorem d_Lw_law_923 : decode b_Lw_law 923 = .ok (.iconst 2, 1) := by decide +kernel
