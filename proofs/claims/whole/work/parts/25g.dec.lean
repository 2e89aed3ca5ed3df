theorem d_Lw_law_924 : decode b_Lw_law 924 = .ok (.iadd, 1) := by decide +kernel
theorem d_Lw_law_925 : decode b_Lw_law 925 = .ok (.iaload, 1) := by decide +kernel
theorem d_Lw_law_926 : decode b_Lw_law 926 = .ok (.aload_n 0, 1) := by decide +kernel
theorem d_Lw_law_927 : decode b_Lw_law 927 = .ok (.iload_n 3, 1) := by decide +kernel
theorem d_Lw_law_928 : decode b_Lw_law 928 = .ok (.iconst 3, 1) := by decide +kernel
theorem d_Lw_law_929 : decode b_Lw_law 929 = .ok (.iadd, 1) := by decide +kernel
theorem d_Lw_law_930 : decode b_Lw_law 930 = .ok (.iaload, 1) := by decide +kernel
theorem d_Lw_law_931 : decode b_Lw_law 931 = .ok (.aload_n 0, 1) := by decide +kernel
theorem d_Lw_law_932 : decode b_Lw_law 932 = .ok (.iload_n 3, 1) := by decide +kernel
theorem d_Lw_law_933 : decode b_Lw_law 933 = .ok (.iconst 4, 1) := by decide +kernel
theorem d_Lw_law_934 : decode b_Lw_law 934 = .ok (.iadd, 1) := by decide +kernel
theorem d_Lw_law_935 : decode b_Lw_law 935 = .ok (.iaload, 1) := by decide +kernel
theorem d_Lw_law_936 : decode b_Lw_law 936 = .ok (.invokevirtual 110, 3) := by decide +kernel
theorem d_Lw_law_939 : decode b_Lw_law 939 = .ok (.aload_n 2, 1) := by decide +kernel
theorem d_Lw_law_940 : decode b_Lw_law 940 = .ok (.aload_n 0, 1) := by decide +kernel
theorem d_Lw_law_941 : decode b_Lw_law 941 = .ok (.iload_n 3, 1) := by decide +kernel
theorem d_Lw_law_942 : decode b_Lw_law 942 = .ok (.iconst 1, 1) := by decide +kernel
theorem d_Lw_law_943 : decode b_Lw_law 943 = .ok (.iadd, 1) := by decide +kernel
theorem d_Lw_law_944 : decode b_Lw_law 944 = .ok (.iaload, 1) := by decide +kernel
theorem d_Lw_law_945 : decode b_Lw_law 945 = .ok (.aload_n 0, 1) := by decide +kernel
theorem d_Lw_law_946 : decode b_Lw_law 946 = .ok (.iload_n 3, 1) := by decide +kernel
theorem d_Lw_law_947 : decode b_Lw_law 947 = .ok (.iconst 2, 1) := by decide +kernel
theorem d_Lw_law_948 : decode b_Lw_law 948 = .ok (.iadd, 1) := by decide +kernel
theorem d_Lw_law_949 : decode b_Lw_law 949 = .ok (.iaload, 1) := by decide +kernel
theorem d_Lw_law_950 : decode b_Lw_law 950 = .ok (.aload_n 0, 1) := by decide +kernel
theorem d_Lw_law_951 : decode b_Lw_law 951 = .ok (.iload_n 3, 1) := by decide +kernel
theorem d_Lw_law_952 : decode b_Lw_law 952 = .ok (.iconst 3, 1) := by decide +kernel
theorem d_Lw_law_953 : decode b_Lw_law 953 = .ok (.iadd, 1) := by decide +kernel
theorem d_Lw_law_954 : decode b_Lw_law 954 = .ok (.iaload, 1) := by decide +kernel
theorem d_Lw_law_955 : decode b_Lw_law 955 = .ok (.aload_n 0, 1) := by decide +kernel
theorem d_Lw_law_956 : decode b_Lw_law 956 = .ok (.iload_n 3, 1) := by decide +kernel
theorem d_Lw_law_957 : decode b_Lw_law 957 = .ok (.iconst 4, 1) := by decide +kernel
theorem d_Lw_law_958 : decode b_Lw_law 958 = .ok (.iadd, 1) := by decide +kernel
theorem d_Lw_law_959 : decode b_Lw_law 959 = .ok (.iaload, 1) := by decide +kernel
theorem d_Lw_law_960 : decode b_Lw_law 960 = .ok (.invokevirtual 114, 3) := by decide +kernel
theorem d_Lw_law_963 : decode b_Lw_law 963 = .ok (.if_icmp .eq 219, 3) := by decide +kernel
theorem d_Lw_law_966 : decode b_Lw_law 966 = .ok (.iconst 0, 1) := by decide +kernel
theorem d_Lw_law_967 : decode b_Lw_law 967 = .ok (.ireturn, 1) := by decide +kernel
theorem d_Lw_law_968 : decode b_Lw_law 968 = .ok (.aload_n 1, 1) := by decide +kernel
theorem d_Lw_law_969 : decode b_Lw_law 969 = .ok (.aload_n 0, 1) := by decide +kernel
theorem d_Lw_law_970 : decode b_Lw_law 970 = .ok (.iload_n 3, 1) := by decide +kernel
theorem d_Lw_law_971 : decode b_Lw_law 971 = .ok (.iconst 1, 1) := by decide +kernel
theorem d_Lw_law_972 : decode b_Lw_law 972 = .ok (.iadd, 1) := by decide +kernel
theorem d_Lw_law_973 : decode b_Lw_law 973 = .ok (.iaload, 1) := by decide +kernel
theorem d_Lw_law_974 : decode b_Lw_law 974 = .ok (.invokevirtual 115, 3) := by decide +kernel
theorem d_Lw_law_977 : decode b_Lw_law 977 = .ok (.aload_n 2, 1) := by decide +kernel
theorem d_Lw_law_978 : decode b_Lw_law 978 = .ok (.aload_n 0, 1) := by decide +kernel
theorem d_Lw_law_979 : decode b_Lw_law 979 = .ok (.iload_n 3, 1) := by decide +kernel
theorem d_Lw_law_980 : decode b_Lw_law 980 = .ok (.iconst 1, 1) := by decide +kernel
theorem d_Lw_law_981 : decode b_Lw_law 981 = .ok (.iadd, 1) := by decide +kernel
theorem d_Lw_law_982 : decode b_Lw_law 982 = .ok (.iaload, 1) := by decide +kernel
theorem d_Lw_law_983 : decode b_Lw_law 983 = .ok (.invokevirtual 119, 3) := by decide +kernel
theorem d_Lw_law_986 : decode b_Lw_law 986 = .ok (.if_icmp .eq 196, 3) := by decide +kernel
theorem d_Lw_law_989 : decode b_Lw_law 989 = .ok (.iconst 0, 1) := by decide +kernel
theorem d_Lw_law_990 : decode b_Lw_law 990 = .ok (.ireturn, 1) := by decide +kernel
theorem d_Lw_law_991 : decode b_Lw_law 991 = .ok (.aload_n 1, 1) := by decide +kernel
theorem d_Lw_law_992 : decode b_Lw_law 992 = .ok (.aload_n 0, 1) := by decide +kernel
theorem d_Lw_law_993 : decode b_Lw_law 993 = .ok (.iload_n 3, 1) := by decide +kernel
theorem d_Lw_law_994 : decode b_Lw_law 994 = .ok (.iconst 1, 1) := by decide +kernel
theorem d_Lw_law_995 : decode b_Lw_law 995 = .ok (.iadd, 1) := by decide +kernel
theorem d_Lw_law_996 : decode b_Lw_law 996 = .ok (.iaload, 1) := by decide +kernel
theorem d_Lw_law_997 : decode b_Lw_law 997 = .ok (.invokevirtual 120, 3) := by decide +kernel
theorem d_Lw_law_1000 : decode b_Lw_law 1000 = .ok (.aload_n 2, 1) := by decide +kernel
theorem d_Lw_law_1001 : decode b_Lw_law 1001 = .ok (.aload_n 0, 1) := by decide +kernel
theorem d_Lw_law_1002 : decode b_Lw_law 1002 = .ok (.iload_n 3, 1) := by decide +kernel
theorem d_Lw_law_1003 : decode b_Lw_law 1003 = .ok (.iconst 1, 1) := by decide +kernel
theorem d_Lw_law_1004 : decode b_Lw_law 1004 = .ok (.iadd, 1) := by decide +kernel
theorem d_Lw_law_1005 : decode b_Lw_law 1005 = .ok (.iaload, 1) := by decide +kernel
theorem d_Lw_law_1006 : decode b_Lw_law 1006 = .ok (.invokevirtual 123, 3) := by decide +kernel
theorem d_Lw_law_1009 : decode b_Lw_law 1009 = .ok (.if_icmp .eq 173, 3) := by decide +kernel
theorem d_Lw_law_1012 : decode b_Lw_law 1012 = .ok (.iconst 0, 1) := by decide +kernel
theorem d_Lw_law_1013 : decode b_Lw_law 1013 = .ok (.ireturn, 1) := by decide +kernel
theorem d_Lw_law_1014 : decode b_Lw_law 1014 = .ok (.aload_n 1, 1) := by decide +kernel
theorem d_Lw_law_1015 : decode b_Lw_law 1015 = .ok (.aload_n 0, 1) := by decide +kernel
theorem d_Lw_law_1016 : decode b_Lw_law 1016 = .ok (.iload_n 3, 1) := by decide +kernel
theorem d_Lw_law_1017 : decode b_Lw_law 1017 = .ok (.iconst 1, 1) := by decide +kernel
theorem d_Lw_law_1018 : decode b_Lw_law 1018 = .ok (.iadd, 1) := by decide +kernel
theorem d_Lw_law_1019 : decode b_Lw_law 1019 = .ok (.iaload, 1) := by decide +kernel
theorem d_Lw_law_1020 : decode b_Lw_law 1020 = .ok (.aload_n 0, 1) := by decide +kernel
theorem d_Lw_law_1021 : decode b_Lw_law 1021 = .ok (.iload_n 3, 1) := by decide +kernel
theorem d_Lw_law_1022 : decode b_Lw_law 1022 = .ok (.iconst 2, 1) := by decide +kernel
theorem d_Lw_law_1023 : decode b_Lw_law 1023 = .ok (.iadd, 1) := by decide +kernel
theorem d_Lw_law_1024 : decode b_Lw_law 1024 = .ok (.iaload, 1) := by decide +kernel
theorem d_Lw_law_1025 : decode b_Lw_law 1025 = .ok (.aload_n 0, 1) := by decide +kernel
theorem d_Lw_law_1026 : decode b_Lw_law 1026 = .ok (.iload_n 3, 1) := by decide +kernel
theorem d_Lw_law_1027 : decode b_Lw_law 1027 = .ok (.iconst 3, 1) := by decide +kernel
theorem d_Lw_law_1028 : decode b_Lw_law 1028 = .ok (.iadd, 1) := by decide +kernel
theorem d_Lw_law_1029 : decode b_Lw_law 1029 = .ok (.iaload, 1) := by decide +kernel
theorem d_Lw_law_1030 : decode b_Lw_law 1030 = .ok (.invokevirtual 124, 3) := by decide +kernel
theorem d_Lw_law_1033 : decode b_Lw_law 1033 = .ok (.aload_n 2, 1) := by decide +kernel
theorem d_Lw_law_1034 : decode b_Lw_law 1034 = .ok (.aload_n 0, 1) := by decide +kernel
theorem d_Lw_law_1035 : decode b_Lw_law 1035 = .ok (.iload_n 3, 1) := by decide +kernel
theorem d_Lw_law_1036 : decode b_Lw_law 1036 = .ok (.iconst 1, 1) := by decide +kernel
theorem d_Lw_law_1037 : decode b_Lw_law 1037 = .ok (.iadd, 1) := by decide +kernel
theorem d_Lw_law_1038 : decode b_Lw_law 1038 = .ok (.iaload, 1) := by decide +kernel
theorem d_Lw_law_1039 : decode b_Lw_law 1039 = .ok (.aload_n 0, 1) := by decide +kernel
theorem d_Lw_law_1040 : decode b_Lw_law 1040 = .ok (.iload_n 3, 1) := by decide +kernel
theorem d_Lw_law_1041 : decode b_Lw_law 1041 = .ok (.iconst 2, 1) := by decide +kernel
theorem d_Lw_law_1042 : decode b_Lw_law 1042 = .ok (.iadd, 1) := by decide +kernel
theorem d_Lw_law_1043 : decode b_Lw_law 1043 = .ok (.iaload, 1) := by decide +kernel
theorem d_Lw_law_1044 : decode b_Lw_law 1044 = .ok (.aload_n 0, 1) := by decide +kernel
theorem d_Lw_law_1045 : decode b_Lw_law 1045 = .ok (.iload_n 3, 1) := by decide +kernel
theorem d_Lw_law_1046 : decode b_Lw_law 1046 = .ok (.iconst 3, 1) := by decide +kernel
theorem d_Lw_law_1047 : decode b_Lw_law 1047 = .ok (.iadd, 1) := by decide +kernel
theorem d_Lw_law_1048 : decode b_Lw_law 1048 = .ok (.iaload, 1) := by decide +kernel
theorem d_Lw_law_1049 : decode b_Lw_law 1049 = .ok (.invokevirtual 127, 3) := by decide +kernel
theorem d_Lw_law_1052 : decode b_Lw_law 1052 = .ok (.if_icmp .eq 130, 3) := by decide +kernel
theorem d_Lw_law_1055 : decode b_Lw_law 1055 = .ok (.iconst 0, 1) := by decide +kernel
