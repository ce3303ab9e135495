theorem dd_X12_init_878 : decode m_X12_init.2.1 878 = .ok (.dup, 1) := by decide +kernel
theorem dd_X12_init_879 : decode m_X12_init.2.1 879 = .ok (.bipush 9, 2) := by decide +kernel
theorem dd_X12_init_881 : decode m_X12_init.2.1 881 = .ok (.iconst (-1), 1) := by decide +kernel
theorem dd_X12_init_882 : decode m_X12_init.2.1 882 = .ok (.iastore, 1) := by decide +kernel
theorem dd_X12_init_883 : decode m_X12_init.2.1 883 = .ok (.putfield 112, 3) := by decide +kernel
theorem dd_X12_init_886 : decode m_X12_init.2.1 886 = .ok (.aload_n 0, 1) := by decide +kernel
theorem dd_X12_init_887 : decode m_X12_init.2.1 887 = .ok (.bipush 10, 2) := by decide +kernel
theorem dd_X12_init_889 : decode m_X12_init.2.1 889 = .ok (.newarray .int, 2) := by decide +kernel
theorem dd_X12_init_891 : decode m_X12_init.2.1 891 = .ok (.putfield 115, 3) := by decide +kernel
theorem dd_X12_init_894 : decode m_X12_init.2.1 894 = .ok (.aload_n 0, 1) := by decide +kernel
theorem dd_X12_init_895 : decode m_X12_init.2.1 895 = .ok (.sipush 3200, 3) := by decide +kernel
theorem dd_X12_init_898 : decode m_X12_init.2.1 898 = .ok (.newarray .int, 2) := by decide +kernel
theorem dd_X12_init_900 : decode m_X12_init.2.1 900 = .ok (.putfield 118, 3) := by decide +kernel
theorem dd_X12_init_903 : decode m_X12_init.2.1 903 = .ok (.aload_n 0, 1) := by decide +kernel
theorem dd_X12_init_904 : decode m_X12_init.2.1 904 = .ok (.sipush 150, 3) := by decide +kernel
theorem dd_X12_init_907 : decode m_X12_init.2.1 907 = .ok (.newarray .int, 2) := by decide +kernel
theorem dd_X12_init_909 : decode m_X12_init.2.1 909 = .ok (.putfield 121, 3) := by decide +kernel
theorem dd_X12_init_912 : decode m_X12_init.2.1 912 = .ok (.aload_n 0, 1) := by decide +kernel
theorem dd_X12_init_913 : decode m_X12_init.2.1 913 = .ok (.bipush 29, 2) := by decide +kernel
theorem dd_X12_init_915 : decode m_X12_init.2.1 915 = .ok (.newarray .int, 2) := by decide +kernel
theorem dd_X12_init_917 : decode m_X12_init.2.1 917 = .ok (.putfield 124, 3) := by decide +kernel
theorem dd_X12_init_920 : decode m_X12_init.2.1 920 = .ok (.aload_n 0, 1) := by decide +kernel
theorem dd_X12_init_921 : decode m_X12_init.2.1 921 = .ok (.bipush 16, 2) := by decide +kernel
theorem dd_X12_init_923 : decode m_X12_init.2.1 923 = .ok (.newarray .long, 2) := by decide +kernel
theorem dd_X12_init_925 : decode m_X12_init.2.1 925 = .ok (.putfield 127, 3) := by decide +kernel
theorem dd_X12_init_928 : decode m_X12_init.2.1 928 = .ok (.aload_n 0, 1) := by decide +kernel
theorem dd_X12_init_929 : decode m_X12_init.2.1 929 = .ok (.iconst 2, 1) := by decide +kernel
theorem dd_X12_init_930 : decode m_X12_init.2.1 930 = .ok (.newarray .int, 2) := by decide +kernel
theorem dd_X12_init_932 : decode m_X12_init.2.1 932 = .ok (.putfield 130, 3) := by decide +kernel
theorem dd_X12_init_935 : decode m_X12_init.2.1 935 = .ok (.aload_n 0, 1) := by decide +kernel
theorem dd_X12_init_936 : decode m_X12_init.2.1 936 = .ok (.sipush 128, 3) := by decide +kernel
theorem dd_X12_init_939 : decode m_X12_init.2.1 939 = .ok (.newarray .int, 2) := by decide +kernel
theorem dd_X12_init_941 : decode m_X12_init.2.1 941 = .ok (.putfield 133, 3) := by decide +kernel
theorem dd_X12_init_944 : decode m_X12_init.2.1 944 = .ok (.aload_n 0, 1) := by decide +kernel
theorem dd_X12_init_945 : decode m_X12_init.2.1 945 = .ok (.iconst 2, 1) := by decide +kernel
theorem dd_X12_init_946 : decode m_X12_init.2.1 946 = .ok (.newarray .int, 2) := by decide +kernel
theorem dd_X12_init_948 : decode m_X12_init.2.1 948 = .ok (.putfield 136, 3) := by decide +kernel
theorem dd_X12_init_951 : decode m_X12_init.2.1 951 = .ok (.aload_n 0, 1) := by decide +kernel
theorem dd_X12_init_952 : decode m_X12_init.2.1 952 = .ok (.bipush 27, 2) := by decide +kernel
theorem dd_X12_init_954 : decode m_X12_init.2.1 954 = .ok (.newarray .int, 2) := by decide +kernel
theorem dd_X12_init_956 : decode m_X12_init.2.1 956 = .ok (.putfield 139, 3) := by decide +kernel
theorem dd_X12_init_959 : decode m_X12_init.2.1 959 = .ok (.aload_n 0, 1) := by decide +kernel
theorem dd_X12_init_960 : decode m_X12_init.2.1 960 = .ok (.iconst 3, 1) := by decide +kernel
theorem dd_X12_init_961 : decode m_X12_init.2.1 961 = .ok (.newarray .int, 2) := by decide +kernel
theorem dd_X12_init_963 : decode m_X12_init.2.1 963 = .ok (.putfield 142, 3) := by decide +kernel
theorem dd_X12_init_966 : decode m_X12_init.2.1 966 = .ok (.aload_n 0, 1) := by decide +kernel
theorem dd_X12_init_967 : decode m_X12_init.2.1 967 = .ok (.bipush 48, 2) := by decide +kernel
theorem dd_X12_init_969 : decode m_X12_init.2.1 969 = .ok (.newarray .int, 2) := by decide +kernel
theorem dd_X12_init_971 : decode m_X12_init.2.1 971 = .ok (.putfield 145, 3) := by decide +kernel
theorem dd_X12_init_974 : decode m_X12_init.2.1 974 = .ok (.aload_n 0, 1) := by decide +kernel
theorem dd_X12_init_975 : decode m_X12_init.2.1 975 = .ok (.sipush 620, 3) := by decide +kernel
theorem dd_X12_init_978 : decode m_X12_init.2.1 978 = .ok (.newarray .int, 2) := by decide +kernel
theorem dd_X12_init_980 : decode m_X12_init.2.1 980 = .ok (.putfield 148, 3) := by decide +kernel
theorem dd_X12_init_983 : decode m_X12_init.2.1 983 = .ok (.aload_n 0, 1) := by decide +kernel
theorem dd_X12_init_984 : decode m_X12_init.2.1 984 = .ok (.bipush 10, 2) := by decide +kernel
theorem dd_X12_init_986 : decode m_X12_init.2.1 986 = .ok (.newarray .boolean, 2) := by decide +kernel
theorem dd_X12_init_988 : decode m_X12_init.2.1 988 = .ok (.putfield 151, 3) := by decide +kernel
theorem dd_X12_init_991 : decode m_X12_init.2.1 991 = .ok (.aload_n 0, 1) := by decide +kernel
theorem dd_X12_init_992 : decode m_X12_init.2.1 992 = .ok (.sipush 3000, 3) := by decide +kernel
theorem dd_X12_init_995 : decode m_X12_init.2.1 995 = .ok (.newarray .int, 2) := by decide +kernel
theorem dd_X12_init_997 : decode m_X12_init.2.1 997 = .ok (.putfield 155, 3) := by decide +kernel
theorem dd_X12_init_1000 : decode m_X12_init.2.1 1000 = .ok (.aload_n 0, 1) := by decide +kernel
theorem dd_X12_init_1001 : decode m_X12_init.2.1 1001 = .ok (.lconst 1, 1) := by decide +kernel
theorem dd_X12_init_1002 : decode m_X12_init.2.1 1002 = .ok (.putfield 158, 3) := by decide +kernel
theorem dd_X12_init_1005 : decode m_X12_init.2.1 1005 = .ok (.aload_n 0, 1) := by decide +kernel
theorem dd_X12_init_1006 : decode m_X12_init.2.1 1006 = .ok (.iconst 5, 1) := by decide +kernel
theorem dd_X12_init_1007 : decode m_X12_init.2.1 1007 = .ok (.newarray .char, 2) := by decide +kernel
theorem dd_X12_init_1009 : decode m_X12_init.2.1 1009 = .ok (.dup, 1) := by decide +kernel
theorem dd_X12_init_1010 : decode m_X12_init.2.1 1010 = .ok (.iconst 0, 1) := by decide +kernel
theorem dd_X12_init_1011 : decode m_X12_init.2.1 1011 = .ok (.bipush 102, 2) := by decide +kernel
theorem dd_X12_init_1013 : decode m_X12_init.2.1 1013 = .ok (.castore, 1) := by decide +kernel
theorem dd_X12_init_1014 : decode m_X12_init.2.1 1014 = .ok (.dup, 1) := by decide +kernel
theorem dd_X12_init_1015 : decode m_X12_init.2.1 1015 = .ok (.iconst 1, 1) := by decide +kernel
theorem dd_X12_init_1016 : decode m_X12_init.2.1 1016 = .ok (.bipush 105, 2) := by decide +kernel
theorem dd_X12_init_1018 : decode m_X12_init.2.1 1018 = .ok (.castore, 1) := by decide +kernel
theorem dd_X12_init_1019 : decode m_X12_init.2.1 1019 = .ok (.dup, 1) := by decide +kernel
theorem dd_X12_init_1020 : decode m_X12_init.2.1 1020 = .ok (.iconst 2, 1) := by decide +kernel
theorem dd_X12_init_1021 : decode m_X12_init.2.1 1021 = .ok (.bipush 114, 2) := by decide +kernel
theorem dd_X12_init_1023 : decode m_X12_init.2.1 1023 = .ok (.castore, 1) := by decide +kernel
theorem dd_X12_init_1024 : decode m_X12_init.2.1 1024 = .ok (.dup, 1) := by decide +kernel
theorem dd_X12_init_1025 : decode m_X12_init.2.1 1025 = .ok (.iconst 3, 1) := by decide +kernel
theorem dd_X12_init_1026 : decode m_X12_init.2.1 1026 = .ok (.bipush 115, 2) := by decide +kernel
theorem dd_X12_init_1028 : decode m_X12_init.2.1 1028 = .ok (.castore, 1) := by decide +kernel
theorem dd_X12_init_1029 : decode m_X12_init.2.1 1029 = .ok (.dup, 1) := by decide +kernel
theorem dd_X12_init_1030 : decode m_X12_init.2.1 1030 = .ok (.iconst 4, 1) := by decide +kernel
theorem dd_X12_init_1031 : decode m_X12_init.2.1 1031 = .ok (.bipush 116, 2) := by decide +kernel
theorem dd_X12_init_1033 : decode m_X12_init.2.1 1033 = .ok (.castore, 1) := by decide +kernel
theorem dd_X12_init_1034 : decode m_X12_init.2.1 1034 = .ok (.putfield 162, 3) := by decide +kernel
theorem dd_X12_init_1037 : decode m_X12_init.2.1 1037 = .ok (.aload_n 0, 1) := by decide +kernel
theorem dd_X12_init_1038 : decode m_X12_init.2.1 1038 = .ok (.iconst 4, 1) := by decide +kernel
theorem dd_X12_init_1039 : decode m_X12_init.2.1 1039 = .ok (.newarray .char, 2) := by decide +kernel
theorem dd_X12_init_1041 : decode m_X12_init.2.1 1041 = .ok (.dup, 1) := by decide +kernel
theorem dd_X12_init_1042 : decode m_X12_init.2.1 1042 = .ok (.iconst 0, 1) := by decide +kernel
theorem dd_X12_init_1043 : decode m_X12_init.2.1 1043 = .ok (.bipush 108, 2) := by decide +kernel
theorem dd_X12_init_1045 : decode m_X12_init.2.1 1045 = .ok (.castore, 1) := by decide +kernel
theorem dd_X12_init_1046 : decode m_X12_init.2.1 1046 = .ok (.dup, 1) := by decide +kernel
theorem dd_X12_init_1047 : decode m_X12_init.2.1 1047 = .ok (.iconst 1, 1) := by decide +kernel
theorem dd_X12_init_1048 : decode m_X12_init.2.1 1048 = .ok (.bipush 97, 2) := by decide +kernel
theorem dd_X12_init_1050 : decode m_X12_init.2.1 1050 = .ok (.castore, 1) := by decide +kernel
theorem dd_X12_init_1051 : decode m_X12_init.2.1 1051 = .ok (.dup, 1) := by decide +kernel
theorem dd_X12_init_1052 : decode m_X12_init.2.1 1052 = .ok (.iconst 2, 1) := by decide +kernel
theorem dd_X12_init_1053 : decode m_X12_init.2.1 1053 = .ok (.bipush 115, 2) := by decide +kernel
theorem dd_X12_init_1055 : decode m_X12_init.2.1 1055 = .ok (.castore, 1) := by decide +kernel
theorem dd_X12_init_1056 : decode m_X12_init.2.1 1056 = .ok (.dup, 1) := by decide +kernel
theorem dd_X12_init_1057 : decode m_X12_init.2.1 1057 = .ok (.iconst 3, 1) := by decide +kernel
theorem dd_X12_init_1058 : decode m_X12_init.2.1 1058 = .ok (.bipush 116, 2) := by decide +kernel
theorem dd_X12_init_1060 : decode m_X12_init.2.1 1060 = .ok (.castore, 1) := by decide +kernel
theorem dd_X12_init_1061 : decode m_X12_init.2.1 1061 = .ok (.putfield 165, 3) := by decide +kernel
theorem dd_X12_init_1064 : decode m_X12_init.2.1 1064 = .ok (.aload_n 0, 1) := by decide +kernel
theorem dd_X12_init_1065 : decode m_X12_init.2.1 1065 = .ok (.iconst 5, 1) := by decide +kernel
theorem dd_X12_init_1066 : decode m_X12_init.2.1 1066 = .ok (.newarray .char, 2) := by decide +kernel
theorem dd_X12_init_1068 : decode m_X12_init.2.1 1068 = .ok (.dup, 1) := by decide +kernel
theorem dd_X12_init_1069 : decode m_X12_init.2.1 1069 = .ok (.iconst 0, 1) := by decide +kernel
theorem dd_X12_init_1070 : decode m_X12_init.2.1 1070 = .ok (.bipush 111, 2) := by decide +kernel
theorem dd_X12_init_1072 : decode m_X12_init.2.1 1072 = .ok (.castore, 1) := by decide +kernel
theorem dd_X12_init_1073 : decode m_X12_init.2.1 1073 = .ok (.dup, 1) := by decide +kernel
theorem dd_X12_init_1074 : decode m_X12_init.2.1 1074 = .ok (.iconst 1, 1) := by decide +kernel
theorem dd_X12_init_1075 : decode m_X12_init.2.1 1075 = .ok (.bipush 102, 2) := by decide +kernel
theorem dd_X12_init_1077 : decode m_X12_init.2.1 1077 = .ok (.castore, 1) := by decide +kernel
theorem dd_X12_init_1078 : decode m_X12_init.2.1 1078 = .ok (.dup, 1) := by decide +kernel
theorem dd_X12_init_1079 : decode m_X12_init.2.1 1079 = .ok (.iconst 2, 1) := by decide +kernel
theorem dd_X12_init_1080 : decode m_X12_init.2.1 1080 = .ok (.bipush 116, 2) := by decide +kernel
theorem dd_X12_init_1082 : decode m_X12_init.2.1 1082 = .ok (.castore, 1) := by decide +kernel
theorem dd_X12_init_1083 : decode m_X12_init.2.1 1083 = .ok (.dup, 1) := by decide +kernel
theorem dd_X12_init_1084 : decode m_X12_init.2.1 1084 = .ok (.iconst 3, 1) := by decide +kernel
theorem dd_X12_init_1085 : decode m_X12_init.2.1 1085 = .ok (.bipush 101, 2) := by decide +kernel
theorem dd_X12_init_1087 : decode m_X12_init.2.1 1087 = .ok (.castore, 1) := by decide +kernel
theorem dd_X12_init_1088 : decode m_X12_init.2.1 1088 = .ok (.dup, 1) := by decide +kernel
theorem dd_X12_init_1089 : decode m_X12_init.2.1 1089 = .ok (.iconst 4, 1) := by decide +kernel
theorem dd_X12_init_1090 : decode m_X12_init.2.1 1090 = .ok (.bipush 110, 2) := by decide +kernel
theorem dd_X12_init_1092 : decode m_X12_init.2.1 1092 = .ok (.castore, 1) := by decide +kernel
theorem dd_X12_init_1093 : decode m_X12_init.2.1 1093 = .ok (.putfield 168, 3) := by decide +kernel
theorem dd_X12_init_1096 : decode m_X12_init.2.1 1096 = .ok (.aload_n 0, 1) := by decide +kernel
theorem dd_X12_init_1097 : decode m_X12_init.2.1 1097 = .ok (.iconst 5, 1) := by decide +kernel
theorem dd_X12_init_1098 : decode m_X12_init.2.1 1098 = .ok (.newarray .char, 2) := by decide +kernel
theorem dd_X12_init_1100 : decode m_X12_init.2.1 1100 = .ok (.dup, 1) := by decide +kernel
theorem dd_X12_init_1101 : decode m_X12_init.2.1 1101 = .ok (.iconst 0, 1) := by decide +kernel
theorem dd_X12_init_1102 : decode m_X12_init.2.1 1102 = .ok (.bipush 116, 2) := by decide +kernel
theorem dd_X12_init_1104 : decode m_X12_init.2.1 1104 = .ok (.castore, 1) := by decide +kernel
theorem dd_X12_init_1105 : decode m_X12_init.2.1 1105 = .ok (.dup, 1) := by decide +kernel
theorem dd_X12_init_1106 : decode m_X12_init.2.1 1106 = .ok (.iconst 1, 1) := by decide +kernel
theorem dd_X12_init_1107 : decode m_X12_init.2.1 1107 = .ok (.bipush 111, 2) := by decide +kernel
theorem dd_X12_init_1109 : decode m_X12_init.2.1 1109 = .ok (.castore, 1) := by decide +kernel
theorem dd_X12_init_1110 : decode m_X12_init.2.1 1110 = .ok (.dup, 1) := by decide +kernel
theorem dd_X12_init_1111 : decode m_X12_init.2.1 1111 = .ok (.iconst 2, 1) := by decide +kernel
theorem dd_X12_init_1112 : decode m_X12_init.2.1 1112 = .ok (.bipush 116, 2) := by decide +kernel
theorem dd_X12_init_1114 : decode m_X12_init.2.1 1114 = .ok (.castore, 1) := by decide +kernel
theorem dd_X12_init_1115 : decode m_X12_init.2.1 1115 = .ok (.dup, 1) := by decide +kernel
theorem dd_X12_init_1116 : decode m_X12_init.2.1 1116 = .ok (.iconst 3, 1) := by decide +kernel
theorem dd_X12_init_1117 : decode m_X12_init.2.1 1117 = .ok (.bipush 97, 2) := by decide +kernel
theorem dd_X12_init_1119 : decode m_X12_init.2.1 1119 = .ok (.castore, 1) := by decide +kernel
theorem dd_X12_init_1120 : decode m_X12_init.2.1 1120 = .ok (.dup, 1) := by decide +kernel
theorem dd_X12_init_1121 : decode m_X12_init.2.1 1121 = .ok (.iconst 4, 1) := by decide +kernel
theorem dd_X12_init_1122 : decode m_X12_init.2.1 1122 = .ok (.bipush 108, 2) := by decide +kernel
theorem dd_X12_init_1124 : decode m_X12_init.2.1 1124 = .ok (.castore, 1) := by decide +kernel
theorem dd_X12_init_1125 : decode m_X12_init.2.1 1125 = .ok (.putfield 171, 3) := by decide +kernel
theorem dd_X12_init_1128 : decode m_X12_init.2.1 1128 = .ok (.aload_n 0, 1) := by decide +kernel
theorem dd_X12_init_1129 : decode m_X12_init.2.1 1129 = .ok (.iconst 4, 1) := by decide +kernel
theorem dd_X12_init_1130 : decode m_X12_init.2.1 1130 = .ok (.newarray .char, 2) := by decide +kernel
theorem dd_X12_init_1132 : decode m_X12_init.2.1 1132 = .ok (.dup, 1) := by decide +kernel
theorem dd_X12_init_1133 : decode m_X12_init.2.1 1133 = .ok (.iconst 0, 1) := by decide +kernel
theorem dd_X12_init_1134 : decode m_X12_init.2.1 1134 = .ok (.bipush 109, 2) := by decide +kernel
theorem dd_X12_init_1136 : decode m_X12_init.2.1 1136 = .ok (.castore, 1) := by decide +kernel
theorem dd_X12_init_1137 : decode m_X12_init.2.1 1137 = .ok (.dup, 1) := by decide +kernel
theorem dd_X12_init_1138 : decode m_X12_init.2.1 1138 = .ok (.iconst 1, 1) := by decide +kernel
theorem dd_X12_init_1139 : decode m_X12_init.2.1 1139 = .ok (.bipush 111, 2) := by decide +kernel
theorem dd_X12_init_1141 : decode m_X12_init.2.1 1141 = .ok (.castore, 1) := by decide +kernel
theorem dd_X12_init_1142 : decode m_X12_init.2.1 1142 = .ok (.dup, 1) := by decide +kernel
theorem dd_X12_init_1143 : decode m_X12_init.2.1 1143 = .ok (.iconst 2, 1) := by decide +kernel
theorem dd_X12_init_1144 : decode m_X12_init.2.1 1144 = .ok (.bipush 115, 2) := by decide +kernel
theorem dd_X12_init_1146 : decode m_X12_init.2.1 1146 = .ok (.castore, 1) := by decide +kernel
theorem dd_X12_init_1147 : decode m_X12_init.2.1 1147 = .ok (.dup, 1) := by decide +kernel
theorem dd_X12_init_1148 : decode m_X12_init.2.1 1148 = .ok (.iconst 3, 1) := by decide +kernel
theorem dd_X12_init_1149 : decode m_X12_init.2.1 1149 = .ok (.bipush 116, 2) := by decide +kernel
theorem dd_X12_init_1151 : decode m_X12_init.2.1 1151 = .ok (.castore, 1) := by decide +kernel
theorem dd_X12_init_1152 : decode m_X12_init.2.1 1152 = .ok (.putfield 174, 3) := by decide +kernel
theorem dd_X12_init_1155 : decode m_X12_init.2.1 1155 = .ok (.aload_n 0, 1) := by decide +kernel
theorem dd_X12_init_1156 : decode m_X12_init.2.1 1156 = .ok (.iconst 5, 1) := by decide +kernel
theorem dd_X12_init_1157 : decode m_X12_init.2.1 1157 = .ok (.newarray .char, 2) := by decide +kernel
theorem dd_X12_init_1159 : decode m_X12_init.2.1 1159 = .ok (.dup, 1) := by decide +kernel
theorem dd_X12_init_1160 : decode m_X12_init.2.1 1160 = .ok (.iconst 0, 1) := by decide +kernel
theorem dd_X12_init_1161 : decode m_X12_init.2.1 1161 = .ok (.bipush 108, 2) := by decide +kernel
theorem dd_X12_init_1163 : decode m_X12_init.2.1 1163 = .ok (.castore, 1) := by decide +kernel
theorem dd_X12_init_1164 : decode m_X12_init.2.1 1164 = .ok (.dup, 1) := by decide +kernel
theorem dd_X12_init_1165 : decode m_X12_init.2.1 1165 = .ok (.iconst 1, 1) := by decide +kernel
theorem dd_X12_init_1166 : decode m_X12_init.2.1 1166 = .ok (.bipush 101, 2) := by decide +kernel
theorem dd_X12_init_1168 : decode m_X12_init.2.1 1168 = .ok (.castore, 1) := by decide +kernel
theorem dd_X12_init_1169 : decode m_X12_init.2.1 1169 = .ok (.dup, 1) := by decide +kernel
theorem dd_X12_init_1170 : decode m_X12_init.2.1 1170 = .ok (.iconst 2, 1) := by decide +kernel
theorem dd_X12_init_1171 : decode m_X12_init.2.1 1171 = .ok (.bipush 97, 2) := by decide +kernel
theorem dd_X12_init_1173 : decode m_X12_init.2.1 1173 = .ok (.castore, 1) := by decide +kernel
theorem dd_X12_init_1174 : decode m_X12_init.2.1 1174 = .ok (.dup, 1) := by decide +kernel
theorem dd_X12_init_1175 : decode m_X12_init.2.1 1175 = .ok (.iconst 3, 1) := by decide +kernel
theorem dd_X12_init_1176 : decode m_X12_init.2.1 1176 = .ok (.bipush 115, 2) := by decide +kernel
theorem dd_X12_init_1178 : decode m_X12_init.2.1 1178 = .ok (.castore, 1) := by decide +kernel
theorem dd_X12_init_1179 : decode m_X12_init.2.1 1179 = .ok (.dup, 1) := by decide +kernel
theorem dd_X12_init_1180 : decode m_X12_init.2.1 1180 = .ok (.iconst 4, 1) := by decide +kernel
theorem dd_X12_init_1181 : decode m_X12_init.2.1 1181 = .ok (.bipush 116, 2) := by decide +kernel
theorem dd_X12_init_1183 : decode m_X12_init.2.1 1183 = .ok (.castore, 1) := by decide +kernel
theorem dd_X12_init_1184 : decode m_X12_init.2.1 1184 = .ok (.putfield 177, 3) := by decide +kernel
theorem dd_X12_init_1187 : decode m_X12_init.2.1 1187 = .ok (.aload_n 0, 1) := by decide +kernel
theorem dd_X12_init_1188 : decode m_X12_init.2.1 1188 = .ok (.iconst 3, 1) := by decide +kernel
theorem dd_X12_init_1189 : decode m_X12_init.2.1 1189 = .ok (.newarray .char, 2) := by decide +kernel
theorem dd_X12_init_1191 : decode m_X12_init.2.1 1191 = .ok (.dup, 1) := by decide +kernel
theorem dd_X12_init_1192 : decode m_X12_init.2.1 1192 = .ok (.iconst 0, 1) := by decide +kernel
theorem dd_X12_init_1193 : decode m_X12_init.2.1 1193 = .ok (.bipush 110, 2) := by decide +kernel
theorem dd_X12_init_1195 : decode m_X12_init.2.1 1195 = .ok (.castore, 1) := by decide +kernel
theorem dd_X12_init_1196 : decode m_X12_init.2.1 1196 = .ok (.dup, 1) := by decide +kernel
theorem dd_X12_init_1197 : decode m_X12_init.2.1 1197 = .ok (.iconst 1, 1) := by decide +kernel
theorem dd_X12_init_1198 : decode m_X12_init.2.1 1198 = .ok (.bipush 111, 2) := by decide +kernel
theorem dd_X12_init_1200 : decode m_X12_init.2.1 1200 = .ok (.castore, 1) := by decide +kernel
theorem dd_X12_init_1201 : decode m_X12_init.2.1 1201 = .ok (.dup, 1) := by decide +kernel
theorem dd_X12_init_1202 : decode m_X12_init.2.1 1202 = .ok (.iconst 2, 1) := by decide +kernel
theorem dd_X12_init_1203 : decode m_X12_init.2.1 1203 = .ok (.bipush 116, 2) := by decide +kernel
theorem dd_X12_init_1205 : decode m_X12_init.2.1 1205 = .ok (.castore, 1) := by decide +kernel
theorem dd_X12_init_1206 : decode m_X12_init.2.1 1206 = .ok (.putfield 180, 3) := by decide +kernel
theorem dd_X12_init_1209 : decode m_X12_init.2.1 1209 = .ok (.aload_n 0, 1) := by decide +kernel
theorem dd_X12_init_1210 : decode m_X12_init.2.1 1210 = .ok (.iconst 3, 1) := by decide +kernel
theorem dd_X12_init_1211 : decode m_X12_init.2.1 1211 = .ok (.newarray .char, 2) := by decide +kernel
theorem dd_X12_init_1213 : decode m_X12_init.2.1 1213 = .ok (.dup, 1) := by decide +kernel
theorem dd_X12_init_1214 : decode m_X12_init.2.1 1214 = .ok (.iconst 0, 1) := by decide +kernel
theorem dd_X12_init_1215 : decode m_X12_init.2.1 1215 = .ok (.bipush 97, 2) := by decide +kernel
theorem dd_X12_init_1217 : decode m_X12_init.2.1 1217 = .ok (.castore, 1) := by decide +kernel
theorem dd_X12_init_1218 : decode m_X12_init.2.1 1218 = .ok (.dup, 1) := by decide +kernel
theorem dd_X12_init_1219 : decode m_X12_init.2.1 1219 = .ok (.iconst 1, 1) := by decide +kernel
theorem dd_X12_init_1220 : decode m_X12_init.2.1 1220 = .ok (.bipush 110, 2) := by decide +kernel
theorem dd_X12_init_1222 : decode m_X12_init.2.1 1222 = .ok (.castore, 1) := by decide +kernel
theorem dd_X12_init_1223 : decode m_X12_init.2.1 1223 = .ok (.dup, 1) := by decide +kernel
theorem dd_X12_init_1224 : decode m_X12_init.2.1 1224 = .ok (.iconst 2, 1) := by decide +kernel
theorem dd_X12_init_1225 : decode m_X12_init.2.1 1225 = .ok (.bipush 100, 2) := by decide +kernel
theorem dd_X12_init_1227 : decode m_X12_init.2.1 1227 = .ok (.castore, 1) := by decide +kernel
theorem dd_X12_init_1228 : decode m_X12_init.2.1 1228 = .ok (.putfield 183, 3) := by decide +kernel
theorem dd_X12_init_1231 : decode m_X12_init.2.1 1231 = .ok (.aload_n 0, 1) := by decide +kernel
theorem dd_X12_init_1232 : decode m_X12_init.2.1 1232 = .ok (.iconst 2, 1) := by decide +kernel
theorem dd_X12_init_1233 : decode m_X12_init.2.1 1233 = .ok (.newarray .char, 2) := by decide +kernel
theorem dd_X12_init_1235 : decode m_X12_init.2.1 1235 = .ok (.dup, 1) := by decide +kernel
theorem dd_X12_init_1236 : decode m_X12_init.2.1 1236 = .ok (.iconst 0, 1) := by decide +kernel
theorem dd_X12_init_1237 : decode m_X12_init.2.1 1237 = .ok (.bipush 111, 2) := by decide +kernel
theorem dd_X12_init_1239 : decode m_X12_init.2.1 1239 = .ok (.castore, 1) := by decide +kernel
theorem dd_X12_init_1240 : decode m_X12_init.2.1 1240 = .ok (.dup, 1) := by decide +kernel
theorem dd_X12_init_1241 : decode m_X12_init.2.1 1241 = .ok (.iconst 1, 1) := by decide +kernel
theorem dd_X12_init_1242 : decode m_X12_init.2.1 1242 = .ok (.bipush 114, 2) := by decide +kernel
theorem dd_X12_init_1244 : decode m_X12_init.2.1 1244 = .ok (.castore, 1) := by decide +kernel
theorem dd_X12_init_1245 : decode m_X12_init.2.1 1245 = .ok (.putfield 186, 3) := by decide +kernel
theorem dd_X12_init_1248 : decode m_X12_init.2.1 1248 = .ok (.aload_n 0, 1) := by decide +kernel
theorem dd_X12_init_1249 : decode m_X12_init.2.1 1249 = .ok (.iconst 3, 1) := by decide +kernel
theorem dd_X12_init_1250 : decode m_X12_init.2.1 1250 = .ok (.newarray .char, 2) := by decide +kernel
theorem dd_X12_init_1252 : decode m_X12_init.2.1 1252 = .ok (.dup, 1) := by decide +kernel
theorem dd_X12_init_1253 : decode m_X12_init.2.1 1253 = .ok (.iconst 0, 1) := by decide +kernel
theorem dd_X12_init_1254 : decode m_X12_init.2.1 1254 = .ok (.bipush 97, 2) := by decide +kernel
theorem dd_X12_init_1256 : decode m_X12_init.2.1 1256 = .ok (.castore, 1) := by decide +kernel
theorem dd_X12_init_1257 : decode m_X12_init.2.1 1257 = .ok (.dup, 1) := by decide +kernel
theorem dd_X12_init_1258 : decode m_X12_init.2.1 1258 = .ok (.iconst 1, 1) := by decide +kernel
theorem dd_X12_init_1259 : decode m_X12_init.2.1 1259 = .ok (.bipush 108, 2) := by decide +kernel
theorem dd_X12_init_1261 : decode m_X12_init.2.1 1261 = .ok (.castore, 1) := by decide +kernel
theorem dd_X12_init_1262 : decode m_X12_init.2.1 1262 = .ok (.dup, 1) := by decide +kernel
theorem dd_X12_init_1263 : decode m_X12_init.2.1 1263 = .ok (.iconst 2, 1) := by decide +kernel
theorem dd_X12_init_1264 : decode m_X12_init.2.1 1264 = .ok (.bipush 108, 2) := by decide +kernel
theorem dd_X12_init_1266 : decode m_X12_init.2.1 1266 = .ok (.castore, 1) := by decide +kernel
theorem dd_X12_init_1267 : decode m_X12_init.2.1 1267 = .ok (.putfield 189, 3) := by decide +kernel
theorem dd_X12_init_1270 : decode m_X12_init.2.1 1270 = .ok (.aload_n 0, 1) := by decide +kernel
theorem dd_X12_init_1271 : decode m_X12_init.2.1 1271 = .ok (.iconst 3, 1) := by decide +kernel
theorem dd_X12_init_1272 : decode m_X12_init.2.1 1272 = .ok (.newarray .char, 2) := by decide +kernel
theorem dd_X12_init_1274 : decode m_X12_init.2.1 1274 = .ok (.dup, 1) := by decide +kernel
theorem dd_X12_init_1275 : decode m_X12_init.2.1 1275 = .ok (.iconst 0, 1) := by decide +kernel
theorem dd_X12_init_1276 : decode m_X12_init.2.1 1276 = .ok (.bipush 109, 2) := by decide +kernel
theorem dd_X12_init_1278 : decode m_X12_init.2.1 1278 = .ok (.castore, 1) := by decide +kernel
theorem dd_X12_init_1279 : decode m_X12_init.2.1 1279 = .ok (.dup, 1) := by decide +kernel
theorem dd_X12_init_1280 : decode m_X12_init.2.1 1280 = .ok (.iconst 1, 1) := by decide +kernel
theorem dd_X12_init_1281 : decode m_X12_init.2.1 1281 = .ok (.bipush 105, 2) := by decide +kernel
theorem dd_X12_init_1283 : decode m_X12_init.2.1 1283 = .ok (.castore, 1) := by decide +kernel
theorem dd_X12_init_1284 : decode m_X12_init.2.1 1284 = .ok (.dup, 1) := by decide +kernel
theorem dd_X12_init_1285 : decode m_X12_init.2.1 1285 = .ok (.iconst 2, 1) := by decide +kernel
theorem dd_X12_init_1286 : decode m_X12_init.2.1 1286 = .ok (.bipush 110, 2) := by decide +kernel
theorem dd_X12_init_1288 : decode m_X12_init.2.1 1288 = .ok (.castore, 1) := by decide +kernel
theorem dd_X12_init_1289 : decode m_X12_init.2.1 1289 = .ok (.putfield 192, 3) := by decide +kernel
theorem dd_X12_init_1292 : decode m_X12_init.2.1 1292 = .ok (.aload_n 0, 1) := by decide +kernel
theorem dd_X12_init_1293 : decode m_X12_init.2.1 1293 = .ok (.iconst 3, 1) := by decide +kernel
theorem dd_X12_init_1294 : decode m_X12_init.2.1 1294 = .ok (.newarray .char, 2) := by decide +kernel
theorem dd_X12_init_1296 : decode m_X12_init.2.1 1296 = .ok (.dup, 1) := by decide +kernel
theorem dd_X12_init_1297 : decode m_X12_init.2.1 1297 = .ok (.iconst 0, 1) := by decide +kernel
theorem dd_X12_init_1298 : decode m_X12_init.2.1 1298 = .ok (.bipush 109, 2) := by decide +kernel
theorem dd_X12_init_1300 : decode m_X12_init.2.1 1300 = .ok (.castore, 1) := by decide +kernel
theorem dd_X12_init_1301 : decode m_X12_init.2.1 1301 = .ok (.dup, 1) := by decide +kernel
theorem dd_X12_init_1302 : decode m_X12_init.2.1 1302 = .ok (.iconst 1, 1) := by decide +kernel
theorem dd_X12_init_1303 : decode m_X12_init.2.1 1303 = .ok (.bipush 97, 2) := by decide +kernel
theorem dd_X12_init_1305 : decode m_X12_init.2.1 1305 = .ok (.castore, 1) := by decide +kernel
theorem dd_X12_init_1306 : decode m_X12_init.2.1 1306 = .ok (.dup, 1) := by decide +kernel
theorem dd_X12_init_1307 : decode m_X12_init.2.1 1307 = .ok (.iconst 2, 1) := by decide +kernel
theorem dd_X12_init_1308 : decode m_X12_init.2.1 1308 = .ok (.bipush 120, 2) := by decide +kernel
theorem dd_X12_init_1310 : decode m_X12_init.2.1 1310 = .ok (.castore, 1) := by decide +kernel
theorem dd_X12_init_1311 : decode m_X12_init.2.1 1311 = .ok (.putfield 195, 3) := by decide +kernel
theorem dd_X12_init_1314 : decode m_X12_init.2.1 1314 = .ok (.aload_n 0, 1) := by decide +kernel
theorem dd_X12_init_1315 : decode m_X12_init.2.1 1315 = .ok (.bipush 7, 2) := by decide +kernel
theorem dd_X12_init_1317 : decode m_X12_init.2.1 1317 = .ok (.newarray .char, 2) := by decide +kernel
theorem dd_X12_init_1319 : decode m_X12_init.2.1 1319 = .ok (.dup, 1) := by decide +kernel
theorem dd_X12_init_1320 : decode m_X12_init.2.1 1320 = .ok (.iconst 0, 1) := by decide +kernel
theorem dd_X12_init_1321 : decode m_X12_init.2.1 1321 = .ok (.bipush 104, 2) := by decide +kernel
theorem dd_X12_init_1323 : decode m_X12_init.2.1 1323 = .ok (.castore, 1) := by decide +kernel
theorem dd_X12_init_1324 : decode m_X12_init.2.1 1324 = .ok (.dup, 1) := by decide +kernel
theorem dd_X12_init_1325 : decode m_X12_init.2.1 1325 = .ok (.iconst 1, 1) := by decide +kernel
theorem dd_X12_init_1326 : decode m_X12_init.2.1 1326 = .ok (.bipush 97, 2) := by decide +kernel
theorem dd_X12_init_1328 : decode m_X12_init.2.1 1328 = .ok (.castore, 1) := by decide +kernel
theorem dd_X12_init_1329 : decode m_X12_init.2.1 1329 = .ok (.dup, 1) := by decide +kernel
theorem dd_X12_init_1330 : decode m_X12_init.2.1 1330 = .ok (.iconst 2, 1) := by decide +kernel
theorem dd_X12_init_1331 : decode m_X12_init.2.1 1331 = .ok (.bipush 114, 2) := by decide +kernel
theorem dd_X12_init_1333 : decode m_X12_init.2.1 1333 = .ok (.castore, 1) := by decide +kernel
theorem dd_X12_init_1334 : decode m_X12_init.2.1 1334 = .ok (.dup, 1) := by decide +kernel
theorem dd_X12_init_1335 : decode m_X12_init.2.1 1335 = .ok (.iconst 3, 1) := by decide +kernel
theorem dd_X12_init_1336 : decode m_X12_init.2.1 1336 = .ok (.bipush 118, 2) := by decide +kernel
theorem dd_X12_init_1338 : decode m_X12_init.2.1 1338 = .ok (.castore, 1) := by decide +kernel
theorem dd_X12_init_1339 : decode m_X12_init.2.1 1339 = .ok (.dup, 1) := by decide +kernel
theorem dd_X12_init_1340 : decode m_X12_init.2.1 1340 = .ok (.iconst 4, 1) := by decide +kernel
theorem dd_X12_init_1341 : decode m_X12_init.2.1 1341 = .ok (.bipush 101, 2) := by decide +kernel
theorem dd_X12_init_1343 : decode m_X12_init.2.1 1343 = .ok (.castore, 1) := by decide +kernel
theorem dd_X12_init_1344 : decode m_X12_init.2.1 1344 = .ok (.dup, 1) := by decide +kernel
theorem dd_X12_init_1345 : decode m_X12_init.2.1 1345 = .ok (.iconst 5, 1) := by decide +kernel
theorem dd_X12_init_1346 : decode m_X12_init.2.1 1346 = .ok (.bipush 115, 2) := by decide +kernel
theorem dd_X12_init_1348 : decode m_X12_init.2.1 1348 = .ok (.castore, 1) := by decide +kernel
theorem dd_X12_init_1349 : decode m_X12_init.2.1 1349 = .ok (.dup, 1) := by decide +kernel
