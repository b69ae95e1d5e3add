theorem dL_law_816 : decode code 816 = .ok (.iload_n 3, 1) := by decide +kernel
theorem dL_law_817 : decode code 817 = .ok (.iconst 1, 1) := by decide +kernel
theorem dL_law_818 : decode code 818 = .ok (.iadd, 1) := by decide +kernel
theorem dL_law_819 : decode code 819 = .ok (.iaload, 1) := by decide +kernel
theorem dL_law_820 : decode code 820 = .ok (.invokevirtual 91, 3) := by decide +kernel
theorem dL_law_823 : decode code 823 = .ok (.if_icmp .eq 1156, 3) := by decide +kernel
theorem dL_law_826 : decode code 826 = .ok (.iconst 0, 1) := by decide +kernel
theorem dL_law_827 : decode code 827 = .ok (.ireturn, 1) := by decide +kernel
theorem dL_law_828 : decode code 828 = .ok (.aload_n 1, 1) := by decide +kernel
theorem dL_law_829 : decode code 829 = .ok (.aload_n 0, 1) := by decide +kernel
theorem dL_law_830 : decode code 830 = .ok (.iload_n 3, 1) := by decide +kernel
theorem dL_law_831 : decode code 831 = .ok (.iconst 1, 1) := by decide +kernel
theorem dL_law_832 : decode code 832 = .ok (.iadd, 1) := by decide +kernel
theorem dL_law_833 : decode code 833 = .ok (.iaload, 1) := by decide +kernel
theorem dL_law_834 : decode code 834 = .ok (.invokevirtual 92, 3) := by decide +kernel
theorem dL_law_837 : decode code 837 = .ok (.aload_n 2, 1) := by decide +kernel
theorem dL_law_838 : decode code 838 = .ok (.aload_n 0, 1) := by decide +kernel
theorem dL_law_839 : decode code 839 = .ok (.iload_n 3, 1) := by decide +kernel
theorem dL_law_840 : decode code 840 = .ok (.iconst 1, 1) := by decide +kernel
theorem dL_law_841 : decode code 841 = .ok (.iadd, 1) := by decide +kernel
theorem dL_law_842 : decode code 842 = .ok (.iaload, 1) := by decide +kernel
theorem dL_law_843 : decode code 843 = .ok (.invokevirtual 95, 3) := by decide +kernel
theorem dL_law_846 : decode code 846 = .ok (.if_icmp .eq 1133, 3) := by decide +kernel
theorem dL_law_849 : decode code 849 = .ok (.iconst 0, 1) := by decide +kernel
theorem dL_law_850 : decode code 850 = .ok (.ireturn, 1) := by decide +kernel
theorem dL_law_851 : decode code 851 = .ok (.aload_n 1, 1) := by decide +kernel
theorem dL_law_852 : decode code 852 = .ok (.aload_n 0, 1) := by decide +kernel
theorem dL_law_853 : decode code 853 = .ok (.iload_n 3, 1) := by decide +kernel
theorem dL_law_854 : decode code 854 = .ok (.iconst 1, 1) := by decide +kernel
theorem dL_law_855 : decode code 855 = .ok (.iadd, 1) := by decide +kernel
theorem dL_law_856 : decode code 856 = .ok (.iaload, 1) := by decide +kernel
theorem dL_law_857 : decode code 857 = .ok (.aload_n 0, 1) := by decide +kernel
theorem dL_law_858 : decode code 858 = .ok (.iload_n 3, 1) := by decide +kernel
theorem dL_law_859 : decode code 859 = .ok (.iconst 2, 1) := by decide +kernel
theorem dL_law_860 : decode code 860 = .ok (.iadd, 1) := by decide +kernel
theorem dL_law_861 : decode code 861 = .ok (.iaload, 1) := by decide +kernel
theorem dL_law_862 : decode code 862 = .ok (.invokevirtual 96, 3) := by decide +kernel
theorem dL_law_865 : decode code 865 = .ok (.aload_n 2, 1) := by decide +kernel
theorem dL_law_866 : decode code 866 = .ok (.aload_n 0, 1) := by decide +kernel
theorem dL_law_867 : decode code 867 = .ok (.iload_n 3, 1) := by decide +kernel
theorem dL_law_868 : decode code 868 = .ok (.iconst 1, 1) := by decide +kernel
theorem dL_law_869 : decode code 869 = .ok (.iadd, 1) := by decide +kernel
theorem dL_law_870 : decode code 870 = .ok (.iaload, 1) := by decide +kernel
theorem dL_law_871 : decode code 871 = .ok (.aload_n 0, 1) := by decide +kernel
theorem dL_law_872 : decode code 872 = .ok (.iload_n 3, 1) := by decide +kernel
theorem dL_law_873 : decode code 873 = .ok (.iconst 2, 1) := by decide +kernel
theorem dL_law_874 : decode code 874 = .ok (.iadd, 1) := by decide +kernel
theorem dL_law_875 : decode code 875 = .ok (.iaload, 1) := by decide +kernel
theorem dL_law_876 : decode code 876 = .ok (.invokevirtual 99, 3) := by decide +kernel
theorem dL_law_879 : decode code 879 = .ok (.if_icmp .eq 1100, 3) := by decide +kernel
theorem dL_law_882 : decode code 882 = .ok (.iconst 0, 1) := by decide +kernel
theorem dL_law_883 : decode code 883 = .ok (.ireturn, 1) := by decide +kernel
theorem dL_law_884 : decode code 884 = .ok (.aload_n 1, 1) := by decide +kernel
theorem dL_law_885 : decode code 885 = .ok (.aload_n 0, 1) := by decide +kernel
theorem dL_law_886 : decode code 886 = .ok (.iload_n 3, 1) := by decide +kernel
theorem dL_law_887 : decode code 887 = .ok (.iconst 1, 1) := by decide +kernel
theorem dL_law_888 : decode code 888 = .ok (.iadd, 1) := by decide +kernel
theorem dL_law_889 : decode code 889 = .ok (.iaload, 1) := by decide +kernel
theorem dL_law_890 : decode code 890 = .ok (.aload_n 0, 1) := by decide +kernel
theorem dL_law_891 : decode code 891 = .ok (.iload_n 3, 1) := by decide +kernel
theorem dL_law_892 : decode code 892 = .ok (.iconst 2, 1) := by decide +kernel
theorem dL_law_893 : decode code 893 = .ok (.iadd, 1) := by decide +kernel
theorem dL_law_894 : decode code 894 = .ok (.iaload, 1) := by decide +kernel
theorem dL_law_895 : decode code 895 = .ok (.invokevirtual 100, 3) := by decide +kernel
theorem dL_law_898 : decode code 898 = .ok (.aload_n 2, 1) := by decide +kernel
theorem dL_law_899 : decode code 899 = .ok (.aload_n 0, 1) := by decide +kernel
theorem dL_law_900 : decode code 900 = .ok (.iload_n 3, 1) := by decide +kernel
theorem dL_law_901 : decode code 901 = .ok (.iconst 1, 1) := by decide +kernel
theorem dL_law_902 : decode code 902 = .ok (.iadd, 1) := by decide +kernel
theorem dL_law_903 : decode code 903 = .ok (.iaload, 1) := by decide +kernel
theorem dL_law_904 : decode code 904 = .ok (.aload_n 0, 1) := by decide +kernel
theorem dL_law_905 : decode code 905 = .ok (.iload_n 3, 1) := by decide +kernel
theorem dL_law_906 : decode code 906 = .ok (.iconst 2, 1) := by decide +kernel
theorem dL_law_907 : decode code 907 = .ok (.iadd, 1) := by decide +kernel
theorem dL_law_908 : decode code 908 = .ok (.iaload, 1) := by decide +kernel
theorem dL_law_909 : decode code 909 = .ok (.invokevirtual 104, 3) := by decide +kernel
theorem dL_law_912 : decode code 912 = .ok (.if_icmp .eq 1067, 3) := by decide +kernel
theorem dL_law_915 : decode code 915 = .ok (.iconst 0, 1) := by decide +kernel
theorem dL_law_916 : decode code 916 = .ok (.ireturn, 1) := by decide +kernel
theorem dL_law_917 : decode code 917 = .ok (.aload_n 1, 1) := by decide +kernel
theorem dL_law_918 : decode code 918 = .ok (.aload_n 0, 1) := by decide +kernel
theorem dL_law_919 : decode code 919 = .ok (.iload_n 3, 1) := by decide +kernel
theorem dL_law_920 : decode code 920 = .ok (.iconst 1, 1) := by decide +kernel
theorem dL_law_921 : decode code 921 = .ok (.iadd, 1) := by decide +kernel
theorem dL_law_922 : decode code 922 = .ok (.iaload, 1) := by decide +kernel
theorem dL_law_923 : decode code 923 = .ok (.aload_n 0, 1) := by decide +kernel
theorem dL_law_924 : decode code 924 = .ok (.iload_n 3, 1) := by decide +kernel
theorem dL_law_925 : decode code 925 = .ok (.iconst 2, 1) := by decide +kernel
theorem dL_law_926 : decode code 926 = .ok (.iadd, 1) := by decide +kernel
theorem dL_law_927 : decode code 927 = .ok (.iaload, 1) := by decide +kernel
theorem dL_law_928 : decode code 928 = .ok (.invokevirtual 105, 3) := by decide +kernel
theorem dL_law_931 : decode code 931 = .ok (.aload_n 2, 1) := by decide +kernel
theorem dL_law_932 : decode code 932 = .ok (.aload_n 0, 1) := by decide +kernel
theorem dL_law_933 : decode code 933 = .ok (.iload_n 3, 1) := by decide +kernel
theorem dL_law_934 : decode code 934 = .ok (.iconst 1, 1) := by decide +kernel
theorem dL_law_935 : decode code 935 = .ok (.iadd, 1) := by decide +kernel
theorem dL_law_936 : decode code 936 = .ok (.iaload, 1) := by decide +kernel
theorem dL_law_937 : decode code 937 = .ok (.aload_n 0, 1) := by decide +kernel
theorem dL_law_938 : decode code 938 = .ok (.iload_n 3, 1) := by decide +kernel
theorem dL_law_939 : decode code 939 = .ok (.iconst 2, 1) := by decide +kernel
theorem dL_law_940 : decode code 940 = .ok (.iadd, 1) := by decide +kernel
theorem dL_law_941 : decode code 941 = .ok (.iaload, 1) := by decide +kernel
theorem dL_law_942 : decode code 942 = .ok (.invokevirtual 108, 3) := by decide +kernel
theorem dL_law_945 : decode code 945 = .ok (.if_icmp .eq 1034, 3) := by decide +kernel
theorem dL_law_948 : decode code 948 = .ok (.iconst 0, 1) := by decide +kernel
theorem dL_law_949 : decode code 949 = .ok (.ireturn, 1) := by decide +kernel
theorem dL_law_950 : decode code 950 = .ok (.aload_n 1, 1) := by decide +kernel
theorem dL_law_951 : decode code 951 = .ok (.aload_n 0, 1) := by decide +kernel
theorem dL_law_952 : decode code 952 = .ok (.iload_n 3, 1) := by decide +kernel
theorem dL_law_953 : decode code 953 = .ok (.iconst 1, 1) := by decide +kernel
theorem dL_law_954 : decode code 954 = .ok (.iadd, 1) := by decide +kernel
theorem dL_law_955 : decode code 955 = .ok (.iaload, 1) := by decide +kernel
theorem dL_law_956 : decode code 956 = .ok (.aload_n 0, 1) := by decide +kernel
theorem dL_law_957 : decode code 957 = .ok (.iload_n 3, 1) := by decide +kernel
theorem dL_law_958 : decode code 958 = .ok (.iconst 2, 1) := by decide +kernel
theorem dL_law_959 : decode code 959 = .ok (.iadd, 1) := by decide +kernel
theorem dL_law_960 : decode code 960 = .ok (.iaload, 1) := by decide +kernel
theorem dL_law_961 : decode code 961 = .ok (.aload_n 0, 1) := by decide +kernel
theorem dL_law_962 : decode code 962 = .ok (.iload_n 3, 1) := by decide +kernel
theorem dL_law_963 : decode code 963 = .ok (.iconst 3, 1) := by decide +kernel
theorem dL_law_964 : decode code 964 = .ok (.iadd, 1) := by decide +kernel
theorem dL_law_965 : decode code 965 = .ok (.iaload, 1) := by decide +kernel
theorem dL_law_966 : decode code 966 = .ok (.invokevirtual 109, 3) := by decide +kernel
theorem dL_law_969 : decode code 969 = .ok (.aload_n 2, 1) := by decide +kernel
theorem dL_law_970 : decode code 970 = .ok (.aload_n 0, 1) := by decide +kernel
theorem dL_law_971 : decode code 971 = .ok (.iload_n 3, 1) := by decide +kernel
theorem dL_law_972 : decode code 972 = .ok (.iconst 1, 1) := by decide +kernel
theorem dL_law_973 : decode code 973 = .ok (.iadd, 1) := by decide +kernel
theorem dL_law_974 : decode code 974 = .ok (.iaload, 1) := by decide +kernel
theorem dL_law_975 : decode code 975 = .ok (.aload_n 0, 1) := by decide +kernel
theorem dL_law_976 : decode code 976 = .ok (.iload_n 3, 1) := by decide +kernel
theorem dL_law_977 : decode code 977 = .ok (.iconst 2, 1) := by decide +kernel
theorem dL_law_978 : decode code 978 = .ok (.iadd, 1) := by decide +kernel
theorem dL_law_979 : decode code 979 = .ok (.iaload, 1) := by decide +kernel
theorem dL_law_980 : decode code 980 = .ok (.aload_n 0, 1) := by decide +kernel
theorem dL_law_981 : decode code 981 = .ok (.iload_n 3, 1) := by decide +kernel
theorem dL_law_982 : decode code 982 = .ok (.iconst 3, 1) := by decide +kernel
theorem dL_law_983 : decode code 983 = .ok (.iadd, 1) := by decide +kernel
theorem dL_law_984 : decode code 984 = .ok (.iaload, 1) := by decide +kernel
theorem dL_law_985 : decode code 985 = .ok (.invokevirtual 112, 3) := by decide +kernel
theorem dL_law_988 : decode code 988 = .ok (.if_icmp .eq 991, 3) := by decide +kernel
theorem dL_law_991 : decode code 991 = .ok (.iconst 0, 1) := by decide +kernel
theorem dL_law_992 : decode code 992 = .ok (.ireturn, 1) := by decide +kernel
theorem dL_law_993 : decode code 993 = .ok (.aload_n 1, 1) := by decide +kernel
theorem dL_law_994 : decode code 994 = .ok (.aload_n 0, 1) := by decide +kernel
theorem dL_law_995 : decode code 995 = .ok (.iload_n 3, 1) := by decide +kernel
theorem dL_law_996 : decode code 996 = .ok (.iconst 1, 1) := by decide +kernel
theorem dL_law_997 : decode code 997 = .ok (.iadd, 1) := by decide +kernel
theorem dL_law_998 : decode code 998 = .ok (.iaload, 1) := by decide +kernel
theorem dL_law_999 : decode code 999 = .ok (.aload_n 0, 1) := by decide +kernel
theorem dL_law_1000 : decode code 1000 = .ok (.iload_n 3, 1) := by decide +kernel
theorem dL_law_1001 : decode code 1001 = .ok (.iconst 2, 1) := by decide +kernel
theorem dL_law_1002 : decode code 1002 = .ok (.iadd, 1) := by decide +kernel
theorem dL_law_1003 : decode code 1003 = .ok (.iaload, 1) := by decide +kernel
theorem dL_law_1004 : decode code 1004 = .ok (.invokevirtual 113, 3) := by decide +kernel
theorem dL_law_1007 : decode code 1007 = .ok (.aload_n 2, 1) := by decide +kernel
theorem dL_law_1008 : decode code 1008 = .ok (.aload_n 0, 1) := by decide +kernel
theorem dL_law_1009 : decode code 1009 = .ok (.iload_n 3, 1) := by decide +kernel
theorem dL_law_1010 : decode code 1010 = .ok (.iconst 1, 1) := by decide +kernel
theorem dL_law_1011 : decode code 1011 = .ok (.iadd, 1) := by decide +kernel
theorem dL_law_1012 : decode code 1012 = .ok (.iaload, 1) := by decide +kernel
theorem dL_law_1013 : decode code 1013 = .ok (.aload_n 0, 1) := by decide +kernel
theorem dL_law_1014 : decode code 1014 = .ok (.iload_n 3, 1) := by decide +kernel
theorem dL_law_1015 : decode code 1015 = .ok (.iconst 2, 1) := by decide +kernel
theorem dL_law_1016 : decode code 1016 = .ok (.iadd, 1) := by decide +kernel
theorem dL_law_1017 : decode code 1017 = .ok (.iaload, 1) := by decide +kernel
theorem dL_law_1018 : decode code 1018 = .ok (.invokevirtual 116, 3) := by decide +kernel
theorem dL_law_1021 : decode code 1021 = .ok (.if_icmp .eq 958, 3) := by decide +kernel
theorem dL_law_1024 : decode code 1024 = .ok (.iconst 0, 1) := by decide +kernel
theorem dL_law_1025 : decode code 1025 = .ok (.ireturn, 1) := by decide +kernel
theorem dL_law_1026 : decode code 1026 = .ok (.aload_n 1, 1) := by decide +kernel
theorem dL_law_1027 : decode code 1027 = .ok (.aload_n 0, 1) := by decide +kernel
theorem dL_law_1028 : decode code 1028 = .ok (.iload_n 3, 1) := by decide +kernel
theorem dL_law_1029 : decode code 1029 = .ok (.iconst 1, 1) := by decide +kernel
theorem dL_law_1030 : decode code 1030 = .ok (.iadd, 1) := by decide +kernel
theorem dL_law_1031 : decode code 1031 = .ok (.iaload, 1) := by decide +kernel
theorem dL_law_1032 : decode code 1032 = .ok (.invokevirtual 117, 3) := by decide +kernel
theorem dL_law_1035 : decode code 1035 = .ok (.aload_n 2, 1) := by decide +kernel
theorem dL_law_1036 : decode code 1036 = .ok (.aload_n 0, 1) := by decide +kernel
theorem dL_law_1037 : decode code 1037 = .ok (.iload_n 3, 1) := by decide +kernel
theorem dL_law_1038 : decode code 1038 = .ok (.iconst 1, 1) := by decide +kernel
theorem dL_law_1039 : decode code 1039 = .ok (.iadd, 1) := by decide +kernel
theorem dL_law_1040 : decode code 1040 = .ok (.iaload, 1) := by decide +kernel
theorem dL_law_1041 : decode code 1041 = .ok (.invokevirtual 120, 3) := by decide +kernel
theorem dL_law_1044 : decode code 1044 = .ok (.if_icmp .eq 935, 3) := by decide +kernel
theorem dL_law_1047 : decode code 1047 = .ok (.iconst 0, 1) := by decide +kernel
theorem dL_law_1048 : decode code 1048 = .ok (.ireturn, 1) := by decide +kernel
theorem dL_law_1049 : decode code 1049 = .ok (.aload_n 1, 1) := by decide +kernel
theorem dL_law_1050 : decode code 1050 = .ok (.aload_n 0, 1) := by decide +kernel
theorem dL_law_1051 : decode code 1051 = .ok (.iload_n 3, 1) := by decide +kernel
theorem dL_law_1052 : decode code 1052 = .ok (.iconst 1, 1) := by decide +kernel
theorem dL_law_1053 : decode code 1053 = .ok (.iadd, 1) := by decide +kernel
theorem dL_law_1054 : decode code 1054 = .ok (.iaload, 1) := by decide +kernel
theorem dL_law_1055 : decode code 1055 = .ok (.invokevirtual 121, 3) := by decide +kernel
theorem dL_law_1058 : decode code 1058 = .ok (.aload_n 2, 1) := by decide +kernel
theorem dL_law_1059 : decode code 1059 = .ok (.aload_n 0, 1) := by decide +kernel
theorem dL_law_1060 : decode code 1060 = .ok (.iload_n 3, 1) := by decide +kernel
theorem dL_law_1061 : decode code 1061 = .ok (.iconst 1, 1) := by decide +kernel
theorem dL_law_1062 : decode code 1062 = .ok (.iadd, 1) := by decide +kernel
theorem dL_law_1063 : decode code 1063 = .ok (.iaload, 1) := by decide +kernel
theorem dL_law_1064 : decode code 1064 = .ok (.invokevirtual 124, 3) := by decide +kernel
theorem dL_law_1067 : decode code 1067 = .ok (.if_icmp .eq 912, 3) := by decide +kernel
theorem dL_law_1070 : decode code 1070 = .ok (.iconst 0, 1) := by decide +kernel
theorem dL_law_1071 : decode code 1071 = .ok (.ireturn, 1) := by decide +kernel
theorem dL_law_1072 : decode code 1072 = .ok (.aload_n 1, 1) := by decide +kernel
theorem dL_law_1073 : decode code 1073 = .ok (.aload_n 0, 1) := by decide +kernel
theorem dL_law_1074 : decode code 1074 = .ok (.iload_n 3, 1) := by decide +kernel
theorem dL_law_1075 : decode code 1075 = .ok (.iconst 1, 1) := by decide +kernel
theorem dL_law_1076 : decode code 1076 = .ok (.iadd, 1) := by decide +kernel
theorem dL_law_1077 : decode code 1077 = .ok (.iaload, 1) := by decide +kernel
theorem dL_law_1078 : decode code 1078 = .ok (.aload_n 0, 1) := by decide +kernel
theorem dL_law_1079 : decode code 1079 = .ok (.iload_n 3, 1) := by decide +kernel
theorem dL_law_1080 : decode code 1080 = .ok (.iconst 2, 1) := by decide +kernel
theorem dL_law_1081 : decode code 1081 = .ok (.iadd, 1) := by decide +kernel
theorem dL_law_1082 : decode code 1082 = .ok (.iaload, 1) := by decide +kernel
theorem dL_law_1083 : decode code 1083 = .ok (.invokevirtual 125, 3) := by decide +kernel
theorem dL_law_1086 : decode code 1086 = .ok (.aload_n 2, 1) := by decide +kernel
theorem dL_law_1087 : decode code 1087 = .ok (.aload_n 0, 1) := by decide +kernel
theorem dL_law_1088 : decode code 1088 = .ok (.iload_n 3, 1) := by decide +kernel
theorem dL_law_1089 : decode code 1089 = .ok (.iconst 1, 1) := by decide +kernel
theorem dL_law_1090 : decode code 1090 = .ok (.iadd, 1) := by decide +kernel
theorem dL_law_1091 : decode code 1091 = .ok (.iaload, 1) := by decide +kernel
theorem dL_law_1092 : decode code 1092 = .ok (.aload_n 0, 1) := by decide +kernel
theorem dL_law_1093 : decode code 1093 = .ok (.iload_n 3, 1) := by decide +kernel
theorem dL_law_1094 : decode code 1094 = .ok (.iconst 2, 1) := by decide +kernel
theorem dL_law_1095 : decode code 1095 = .ok (.iadd, 1) := by decide +kernel
theorem dL_law_1096 : decode code 1096 = .ok (.iaload, 1) := by decide +kernel
theorem dL_law_1097 : decode code 1097 = .ok (.invokevirtual 128, 3) := by decide +kernel
theorem dL_law_1100 : decode code 1100 = .ok (.if_icmp .eq 879, 3) := by decide +kernel
theorem dL_law_1103 : decode code 1103 = .ok (.iconst 0, 1) := by decide +kernel
theorem dL_law_1104 : decode code 1104 = .ok (.ireturn, 1) := by decide +kernel
theorem dL_law_1105 : decode code 1105 = .ok (.aload_n 1, 1) := by decide +kernel
theorem dL_law_1106 : decode code 1106 = .ok (.aload_n 0, 1) := by decide +kernel
theorem dL_law_1107 : decode code 1107 = .ok (.iload_n 3, 1) := by decide +kernel
theorem dL_law_1108 : decode code 1108 = .ok (.iconst 1, 1) := by decide +kernel
theorem dL_law_1109 : decode code 1109 = .ok (.iadd, 1) := by decide +kernel
theorem dL_law_1110 : decode code 1110 = .ok (.iaload, 1) := by decide +kernel
theorem dL_law_1111 : decode code 1111 = .ok (.aload_n 0, 1) := by decide +kernel
theorem dL_law_1112 : decode code 1112 = .ok (.iload_n 3, 1) := by decide +kernel
theorem dL_law_1113 : decode code 1113 = .ok (.iconst 2, 1) := by decide +kernel
theorem dL_law_1114 : decode code 1114 = .ok (.iadd, 1) := by decide +kernel
theorem dL_law_1115 : decode code 1115 = .ok (.iaload, 1) := by decide +kernel
theorem dL_law_1116 : decode code 1116 = .ok (.aload_n 0, 1) := by decide +kernel
theorem dL_law_1117 : decode code 1117 = .ok (.iload_n 3, 1) := by decide +kernel
theorem dL_law_1118 : decode code 1118 = .ok (.iconst 3, 1) := by decide +kernel
theorem dL_law_1119 : decode code 1119 = .ok (.iadd, 1) := by decide +kernel
theorem dL_law_1120 : decode code 1120 = .ok (.iaload, 1) := by decide +kernel
theorem dL_law_1121 : decode code 1121 = .ok (.invokevirtual 129, 3) := by decide +kernel
theorem dL_law_1124 : decode code 1124 = .ok (.aload_n 2, 1) := by decide +kernel
theorem dL_law_1125 : decode code 1125 = .ok (.aload_n 0, 1) := by decide +kernel
theorem dL_law_1126 : decode code 1126 = .ok (.iload_n 3, 1) := by decide +kernel
theorem dL_law_1127 : decode code 1127 = .ok (.iconst 1, 1) := by decide +kernel
theorem dL_law_1128 : decode code 1128 = .ok (.iadd, 1) := by decide +kernel
theorem dL_law_1129 : decode code 1129 = .ok (.iaload, 1) := by decide +kernel
theorem dL_law_1130 : decode code 1130 = .ok (.aload_n 0, 1) := by decide +kernel
theorem dL_law_1131 : decode code 1131 = .ok (.iload_n 3, 1) := by decide +kernel
theorem dL_law_1132 : decode code 1132 = .ok (.iconst 2, 1) := by decide +kernel
theorem dL_law_1133 : decode code 1133 = .ok (.iadd, 1) := by decide +kernel
theorem dL_law_1134 : decode code 1134 = .ok (.iaload, 1) := by decide +kernel
theorem dL_law_1135 : decode code 1135 = .ok (.aload_n 0, 1) := by decide +kernel
theorem dL_law_1136 : decode code 1136 = .ok (.iload_n 3, 1) := by decide +kernel
theorem dL_law_1137 : decode code 1137 = .ok (.iconst 3, 1) := by decide +kernel
theorem dL_law_1138 : decode code 1138 = .ok (.iadd, 1) := by decide +kernel
theorem dL_law_1139 : decode code 1139 = .ok (.iaload, 1) := by decide +kernel
theorem dL_law_1140 : decode code 1140 = .ok (.invokevirtual 133, 3) := by decide +kernel
theorem dL_law_1143 : decode code 1143 = .ok (.if_icmp .eq 836, 3) := by decide +kernel
theorem dL_law_1146 : decode code 1146 = .ok (.iconst 0, 1) := by decide +kernel
theorem dL_law_1147 : decode code 1147 = .ok (.ireturn, 1) := by decide +kernel
theorem dL_law_1148 : decode code 1148 = .ok (.aload_n 1, 1) := by decide +kernel
theorem dL_law_1149 : decode code 1149 = .ok (.aload_n 0, 1) := by decide +kernel
theorem dL_law_1150 : decode code 1150 = .ok (.iload_n 3, 1) := by decide +kernel
theorem dL_law_1151 : decode code 1151 = .ok (.iconst 1, 1) := by decide +kernel
theorem dL_law_1152 : decode code 1152 = .ok (.iadd, 1) := by decide +kernel
theorem dL_law_1153 : decode code 1153 = .ok (.iaload, 1) := by decide +kernel
theorem dL_law_1154 : decode code 1154 = .ok (.aload_n 0, 1) := by decide +kernel
theorem dL_law_1155 : decode code 1155 = .ok (.iload_n 3, 1) := by decide +kernel
theorem dL_law_1156 : decode code 1156 = .ok (.iconst 2, 1) := by decide +kernel
theorem dL_law_1157 : decode code 1157 = .ok (.iadd, 1) := by decide +kernel
theorem dL_law_1158 : decode code 1158 = .ok (.iaload, 1) := by decide +kernel
theorem dL_law_1159 : decode code 1159 = .ok (.aload_n 0, 1) := by decide +kernel
theorem dL_law_1160 : decode code 1160 = .ok (.iload_n 3, 1) := by decide +kernel
theorem dL_law_1161 : decode code 1161 = .ok (.iconst 3, 1) := by decide +kernel
theorem dL_law_1162 : decode code 1162 = .ok (.iadd, 1) := by decide +kernel
theorem dL_law_1163 : decode code 1163 = .ok (.iaload, 1) := by decide +kernel
theorem dL_law_1164 : decode code 1164 = .ok (.invokevirtual 134, 3) := by decide +kernel
theorem dL_law_1167 : decode code 1167 = .ok (.aload_n 2, 1) := by decide +kernel
theorem dL_law_1168 : decode code 1168 = .ok (.aload_n 0, 1) := by decide +kernel
theorem dL_law_1169 : decode code 1169 = .ok (.iload_n 3, 1) := by decide +kernel
theorem dL_law_1170 : decode code 1170 = .ok (.iconst 1, 1) := by decide +kernel
theorem dL_law_1171 : decode code 1171 = .ok (.iadd, 1) := by decide +kernel
theorem dL_law_1172 : decode code 1172 = .ok (.iaload, 1) := by decide +kernel
theorem dL_law_1173 : decode code 1173 = .ok (.aload_n 0, 1) := by decide +kernel
theorem dL_law_1174 : decode code 1174 = .ok (.iload_n 3, 1) := by decide +kernel
theorem dL_law_1175 : decode code 1175 = .ok (.iconst 2, 1) := by decide +kernel
theorem dL_law_1176 : decode code 1176 = .ok (.iadd, 1) := by decide +kernel
theorem dL_law_1177 : decode code 1177 = .ok (.iaload, 1) := by decide +kernel
theorem dL_law_1178 : decode code 1178 = .ok (.aload_n 0, 1) := by decide +kernel
theorem dL_law_1179 : decode code 1179 = .ok (.iload_n 3, 1) := by decide +kernel
theorem dL_law_1180 : decode code 1180 = .ok (.iconst 3, 1) := by decide +kernel
theorem dL_law_1181 : decode code 1181 = .ok (.iadd, 1) := by decide +kernel
theorem dL_law_1182 : decode code 1182 = .ok (.iaload, 1) := by decide +kernel
theorem dL_law_1183 : decode code 1183 = .ok (.invokevirtual 137, 3) := by decide +kernel
theorem dL_law_1186 : decode code 1186 = .ok (.if_icmp .eq 793, 3) := by decide +kernel
theorem dL_law_1189 : decode code 1189 = .ok (.iconst 0, 1) := by decide +kernel
theorem dL_law_1190 : decode code 1190 = .ok (.ireturn, 1) := by decide +kernel
theorem dL_law_1191 : decode code 1191 = .ok (.aload_n 1, 1) := by decide +kernel
theorem dL_law_1192 : decode code 1192 = .ok (.aload_n 0, 1) := by decide +kernel
theorem dL_law_1193 : decode code 1193 = .ok (.iload_n 3, 1) := by decide +kernel
theorem dL_law_1194 : decode code 1194 = .ok (.iconst 1, 1) := by decide +kernel
theorem dL_law_1195 : decode code 1195 = .ok (.iadd, 1) := by decide +kernel
theorem dL_law_1196 : decode code 1196 = .ok (.iaload, 1) := by decide +kernel
theorem dL_law_1197 : decode code 1197 = .ok (.aload_n 0, 1) := by decide +kernel
theorem dL_law_1198 : decode code 1198 = .ok (.iload_n 3, 1) := by decide +kernel
theorem dL_law_1199 : decode code 1199 = .ok (.iconst 2, 1) := by decide +kernel
theorem dL_law_1200 : decode code 1200 = .ok (.iadd, 1) := by decide +kernel
theorem dL_law_1201 : decode code 1201 = .ok (.iaload, 1) := by decide +kernel
theorem dL_law_1202 : decode code 1202 = .ok (.invokevirtual 138, 3) := by decide +kernel
theorem dL_law_1205 : decode code 1205 = .ok (.aload_n 2, 1) := by decide +kernel
theorem dL_law_1206 : decode code 1206 = .ok (.aload_n 0, 1) := by decide +kernel
theorem dL_law_1207 : decode code 1207 = .ok (.iload_n 3, 1) := by decide +kernel
theorem dL_law_1208 : decode code 1208 = .ok (.iconst 1, 1) := by decide +kernel
theorem dL_law_1209 : decode code 1209 = .ok (.iadd, 1) := by decide +kernel
theorem dL_law_1210 : decode code 1210 = .ok (.iaload, 1) := by decide +kernel
theorem dL_law_1211 : decode code 1211 = .ok (.aload_n 0, 1) := by decide +kernel
theorem dL_law_1212 : decode code 1212 = .ok (.iload_n 3, 1) := by decide +kernel
theorem dL_law_1213 : decode code 1213 = .ok (.iconst 2, 1) := by decide +kernel
theorem dL_law_1214 : decode code 1214 = .ok (.iadd, 1) := by decide +kernel
theorem dL_law_1215 : decode code 1215 = .ok (.iaload, 1) := by decide +kernel
theorem dL_law_1216 : decode code 1216 = .ok (.invokevirtual 141, 3) := by decide +kernel
theorem dL_law_1219 : decode code 1219 = .ok (.if_icmp .eq 760, 3) := by decide +kernel
theorem dL_law_1222 : decode code 1222 = .ok (.iconst 0, 1) := by decide +kernel
theorem dL_law_1223 : decode code 1223 = .ok (.ireturn, 1) := by decide +kernel
theorem dL_law_1224 : decode code 1224 = .ok (.aload_n 1, 1) := by decide +kernel
theorem dL_law_1225 : decode code 1225 = .ok (.aload_n 0, 1) := by decide +kernel
theorem dL_law_1226 : decode code 1226 = .ok (.iload_n 3, 1) := by decide +kernel
theorem dL_law_1227 : decode code 1227 = .ok (.iconst 1, 1) := by decide +kernel
theorem dL_law_1228 : decode code 1228 = .ok (.iadd, 1) := by decide +kernel
theorem dL_law_1229 : decode code 1229 = .ok (.iaload, 1) := by decide +kernel
theorem dL_law_1230 : decode code 1230 = .ok (.invokevirtual 142, 3) := by decide +kernel
theorem dL_law_1233 : decode code 1233 = .ok (.aload_n 2, 1) := by decide +kernel
theorem dL_law_1234 : decode code 1234 = .ok (.aload_n 0, 1) := by decide +kernel
theorem dL_law_1235 : decode code 1235 = .ok (.iload_n 3, 1) := by decide +kernel
theorem dL_law_1236 : decode code 1236 = .ok (.iconst 1, 1) := by decide +kernel
theorem dL_law_1237 : decode code 1237 = .ok (.iadd, 1) := by decide +kernel
theorem dL_law_1238 : decode code 1238 = .ok (.iaload, 1) := by decide +kernel
theorem dL_law_1239 : decode code 1239 = .ok (.invokevirtual 145, 3) := by decide +kernel
theorem dL_law_1242 : decode code 1242 = .ok (.if_icmp .eq 737, 3) := by decide +kernel
theorem dL_law_1245 : decode code 1245 = .ok (.iconst 0, 1) := by decide +kernel
theorem dL_law_1246 : decode code 1246 = .ok (.ireturn, 1) := by decide +kernel
theorem dL_law_1247 : decode code 1247 = .ok (.aload_n 1, 1) := by decide +kernel
theorem dL_law_1248 : decode code 1248 = .ok (.invokevirtual 146, 3) := by decide +kernel
theorem dL_law_1251 : decode code 1251 = .ok (.aload_n 2, 1) := by decide +kernel
theorem dL_law_1252 : decode code 1252 = .ok (.invokevirtual 149, 3) := by decide +kernel
theorem dL_law_1255 : decode code 1255 = .ok (.if_icmp .eq 724, 3) := by decide +kernel
theorem dL_law_1258 : decode code 1258 = .ok (.iconst 0, 1) := by decide +kernel
theorem dL_law_1259 : decode code 1259 = .ok (.ireturn, 1) := by decide +kernel
theorem dL_law_1260 : decode code 1260 = .ok (.aload_n 1, 1) := by decide +kernel
theorem dL_law_1261 : decode code 1261 = .ok (.invokevirtual 150, 3) := by decide +kernel
theorem dL_law_1264 : decode code 1264 = .ok (.aload_n 2, 1) := by decide +kernel
theorem dL_law_1265 : decode code 1265 = .ok (.invokevirtual 153, 3) := by decide +kernel
theorem dL_law_1268 : decode code 1268 = .ok (.if_icmp .eq 711, 3) := by decide +kernel
theorem dL_law_1271 : decode code 1271 = .ok (.iconst 0, 1) := by decide +kernel
theorem dL_law_1272 : decode code 1272 = .ok (.ireturn, 1) := by decide +kernel
theorem dL_law_1273 : decode code 1273 = .ok (.aload_n 1, 1) := by decide +kernel
theorem dL_law_1274 : decode code 1274 = .ok (.aload_n 0, 1) := by decide +kernel
theorem dL_law_1275 : decode code 1275 = .ok (.iload_n 3, 1) := by decide +kernel
theorem dL_law_1276 : decode code 1276 = .ok (.iconst 1, 1) := by decide +kernel
theorem dL_law_1277 : decode code 1277 = .ok (.iadd, 1) := by decide +kernel
theorem dL_law_1278 : decode code 1278 = .ok (.iaload, 1) := by decide +kernel
theorem dL_law_1279 : decode code 1279 = .ok (.invokevirtual 154, 3) := by decide +kernel
theorem dL_law_1282 : decode code 1282 = .ok (.aload_n 2, 1) := by decide +kernel
theorem dL_law_1283 : decode code 1283 = .ok (.aload_n 0, 1) := by decide +kernel
theorem dL_law_1284 : decode code 1284 = .ok (.iload_n 3, 1) := by decide +kernel
theorem dL_law_1285 : decode code 1285 = .ok (.iconst 1, 1) := by decide +kernel
theorem dL_law_1286 : decode code 1286 = .ok (.iadd, 1) := by decide +kernel
theorem dL_law_1287 : decode code 1287 = .ok (.iaload, 1) := by decide +kernel
theorem dL_law_1288 : decode code 1288 = .ok (.invokevirtual 158, 3) := by decide +kernel
theorem dL_law_1291 : decode code 1291 = .ok (.if_icmp .eq 688, 3) := by decide +kernel
theorem dL_law_1294 : decode code 1294 = .ok (.iconst 0, 1) := by decide +kernel
theorem dL_law_1295 : decode code 1295 = .ok (.ireturn, 1) := by decide +kernel
theorem dL_law_1296 : decode code 1296 = .ok (.aload_n 1, 1) := by decide +kernel
theorem dL_law_1297 : decode code 1297 = .ok (.invokevirtual 159, 3) := by decide +kernel
theorem dL_law_1300 : decode code 1300 = .ok (.aload_n 2, 1) := by decide +kernel
theorem dL_law_1301 : decode code 1301 = .ok (.invokevirtual 162, 3) := by decide +kernel
theorem dL_law_1304 : decode code 1304 = .ok (.if_icmp .eq 675, 3) := by decide +kernel
theorem dL_law_1307 : decode code 1307 = .ok (.iconst 0, 1) := by decide +kernel
theorem dL_law_1308 : decode code 1308 = .ok (.ireturn, 1) := by decide +kernel
theorem dL_law_1309 : decode code 1309 = .ok (.aload_n 1, 1) := by decide +kernel
theorem dL_law_1310 : decode code 1310 = .ok (.aload_n 0, 1) := by decide +kernel
theorem dL_law_1311 : decode code 1311 = .ok (.iload_n 3, 1) := by decide +kernel
theorem dL_law_1312 : decode code 1312 = .ok (.iconst 1, 1) := by decide +kernel
theorem dL_law_1313 : decode code 1313 = .ok (.iadd, 1) := by decide +kernel
theorem dL_law_1314 : decode code 1314 = .ok (.iaload, 1) := by decide +kernel
theorem dL_law_1315 : decode code 1315 = .ok (.invokevirtual 163, 3) := by decide +kernel
theorem dL_law_1318 : decode code 1318 = .ok (.aload_n 2, 1) := by decide +kernel
theorem dL_law_1319 : decode code 1319 = .ok (.aload_n 0, 1) := by decide +kernel
theorem dL_law_1320 : decode code 1320 = .ok (.iload_n 3, 1) := by decide +kernel
theorem dL_law_1321 : decode code 1321 = .ok (.iconst 1, 1) := by decide +kernel
theorem dL_law_1322 : decode code 1322 = .ok (.iadd, 1) := by decide +kernel
theorem dL_law_1323 : decode code 1323 = .ok (.iaload, 1) := by decide +kernel
theorem dL_law_1324 : decode code 1324 = .ok (.invokevirtual 166, 3) := by decide +kernel
theorem dL_law_1327 : decode code 1327 = .ok (.if_icmp .eq 652, 3) := by decide +kernel
theorem dL_law_1330 : decode code 1330 = .ok (.iconst 0, 1) := by decide +kernel
theorem dL_law_1331 : decode code 1331 = .ok (.ireturn, 1) := by decide +kernel
theorem dL_law_1332 : decode code 1332 = .ok (.aload_n 1, 1) := by decide +kernel
theorem dL_law_1333 : decode code 1333 = .ok (.aload_n 0, 1) := by decide +kernel
theorem dL_law_1334 : decode code 1334 = .ok (.iload_n 3, 1) := by decide +kernel
theorem dL_law_1335 : decode code 1335 = .ok (.iconst 1, 1) := by decide +kernel
theorem dL_law_1336 : decode code 1336 = .ok (.iadd, 1) := by decide +kernel
theorem dL_law_1337 : decode code 1337 = .ok (.iaload, 1) := by decide +kernel
theorem dL_law_1338 : decode code 1338 = .ok (.aload_n 0, 1) := by decide +kernel
theorem dL_law_1339 : decode code 1339 = .ok (.iload_n 3, 1) := by decide +kernel
theorem dL_law_1340 : decode code 1340 = .ok (.iconst 2, 1) := by decide +kernel
theorem dL_law_1341 : decode code 1341 = .ok (.iadd, 1) := by decide +kernel
theorem dL_law_1342 : decode code 1342 = .ok (.iaload, 1) := by decide +kernel
theorem dL_law_1343 : decode code 1343 = .ok (.aload_n 0, 1) := by decide +kernel
theorem dL_law_1344 : decode code 1344 = .ok (.iload_n 3, 1) := by decide +kernel
theorem dL_law_1345 : decode code 1345 = .ok (.iconst 3, 1) := by decide +kernel
theorem dL_law_1346 : decode code 1346 = .ok (.iadd, 1) := by decide +kernel
theorem dL_law_1347 : decode code 1347 = .ok (.iaload, 1) := by decide +kernel
theorem dL_law_1348 : decode code 1348 = .ok (.invokevirtual 167, 3) := by decide +kernel
theorem dL_law_1351 : decode code 1351 = .ok (.aload_n 2, 1) := by decide +kernel
theorem dL_law_1352 : decode code 1352 = .ok (.aload_n 0, 1) := by decide +kernel
theorem dL_law_1353 : decode code 1353 = .ok (.iload_n 3, 1) := by decide +kernel
theorem dL_law_1354 : decode code 1354 = .ok (.iconst 1, 1) := by decide +kernel
theorem dL_law_1355 : decode code 1355 = .ok (.iadd, 1) := by decide +kernel
theorem dL_law_1356 : decode code 1356 = .ok (.iaload, 1) := by decide +kernel
theorem dL_law_1357 : decode code 1357 = .ok (.aload_n 0, 1) := by decide +kernel
theorem dL_law_1358 : decode code 1358 = .ok (.iload_n 3, 1) := by decide +kernel
theorem dL_law_1359 : decode code 1359 = .ok (.iconst 2, 1) := by decide +kernel
theorem dL_law_1360 : decode code 1360 = .ok (.iadd, 1) := by decide +kernel
theorem dL_law_1361 : decode code 1361 = .ok (.iaload, 1) := by decide +kernel
theorem dL_law_1362 : decode code 1362 = .ok (.aload_n 0, 1) := by decide +kernel
theorem dL_law_1363 : decode code 1363 = .ok (.iload_n 3, 1) := by decide +kernel
theorem dL_law_1364 : decode code 1364 = .ok (.iconst 3, 1) := by decide +kernel
theorem dL_law_1365 : decode code 1365 = .ok (.iadd, 1) := by decide +kernel
theorem dL_law_1366 : decode code 1366 = .ok (.iaload, 1) := by decide +kernel
theorem dL_law_1367 : decode code 1367 = .ok (.invokevirtual 170, 3) := by decide +kernel
theorem dL_law_1370 : decode code 1370 = .ok (.if_icmp .eq 609, 3) := by decide +kernel
theorem dL_law_1373 : decode code 1373 = .ok (.iconst 0, 1) := by decide +kernel
theorem dL_law_1374 : decode code 1374 = .ok (.ireturn, 1) := by decide +kernel
theorem dL_law_1375 : decode code 1375 = .ok (.aload_n 1, 1) := by decide +kernel
theorem dL_law_1376 : decode code 1376 = .ok (.aload_n 0, 1) := by decide +kernel
theorem dL_law_1377 : decode code 1377 = .ok (.iload_n 3, 1) := by decide +kernel
theorem dL_law_1378 : decode code 1378 = .ok (.iconst 1, 1) := by decide +kernel
theorem dL_law_1379 : decode code 1379 = .ok (.iadd, 1) := by decide +kernel
theorem dL_law_1380 : decode code 1380 = .ok (.iaload, 1) := by decide +kernel
theorem dL_law_1381 : decode code 1381 = .ok (.aload_n 0, 1) := by decide +kernel
theorem dL_law_1382 : decode code 1382 = .ok (.iload_n 3, 1) := by decide +kernel
theorem dL_law_1383 : decode code 1383 = .ok (.iconst 2, 1) := by decide +kernel
theorem dL_law_1384 : decode code 1384 = .ok (.iadd, 1) := by decide +kernel
theorem dL_law_1385 : decode code 1385 = .ok (.iaload, 1) := by decide +kernel
theorem dL_law_1386 : decode code 1386 = .ok (.aload_n 0, 1) := by decide +kernel
theorem dL_law_1387 : decode code 1387 = .ok (.iload_n 3, 1) := by decide +kernel
theorem dL_law_1388 : decode code 1388 = .ok (.iconst 3, 1) := by decide +kernel
theorem dL_law_1389 : decode code 1389 = .ok (.iadd, 1) := by decide +kernel
theorem dL_law_1390 : decode code 1390 = .ok (.iaload, 1) := by decide +kernel
theorem dL_law_1391 : decode code 1391 = .ok (.aload_n 0, 1) := by decide +kernel
theorem dL_law_1392 : decode code 1392 = .ok (.iload_n 3, 1) := by decide +kernel
theorem dL_law_1393 : decode code 1393 = .ok (.iconst 4, 1) := by decide +kernel
theorem dL_law_1394 : decode code 1394 = .ok (.iadd, 1) := by decide +kernel
theorem dL_law_1395 : decode code 1395 = .ok (.iaload, 1) := by decide +kernel
theorem dL_law_1396 : decode code 1396 = .ok (.invokevirtual 171, 3) := by decide +kernel
theorem dL_law_1399 : decode code 1399 = .ok (.aload_n 2, 1) := by decide +kernel
theorem dL_law_1400 : decode code 1400 = .ok (.aload_n 0, 1) := by decide +kernel
theorem dL_law_1401 : decode code 1401 = .ok (.iload_n 3, 1) := by decide +kernel
theorem dL_law_1402 : decode code 1402 = .ok (.iconst 1, 1) := by decide +kernel
theorem dL_law_1403 : decode code 1403 = .ok (.iadd, 1) := by decide +kernel
theorem dL_law_1404 : decode code 1404 = .ok (.iaload, 1) := by decide +kernel
theorem dL_law_1405 : decode code 1405 = .ok (.aload_n 0, 1) := by decide +kernel
