/-! the law's entry, decoded -/
theorem dL_982 : decode code 982 = .ok (.iaload, 1) := by decide +kernel
theorem dL_983 : decode code 983 = .ok (.invokevirtual 122, 3) := by decide +kernel
theorem dL_986 : decode code 986 = .ok (.aload_n 2, 1) := by decide +kernel
theorem dL_987 : decode code 987 = .ok (.aload_n 0, 1) := by decide +kernel
theorem dL_988 : decode code 988 = .ok (.iload_n 3, 1) := by decide +kernel
theorem dL_989 : decode code 989 = .ok (.iconst 1, 1) := by decide +kernel
theorem dL_990 : decode code 990 = .ok (.iadd, 1) := by decide +kernel
theorem dL_991 : decode code 991 = .ok (.iaload, 1) := by decide +kernel
theorem dL_992 : decode code 992 = .ok (.invokevirtual 126, 3) := by decide +kernel
theorem dL_995 : decode code 995 = .ok (.lcmp, 1) := by decide +kernel
theorem dL_996 : decode code 996 = .ok (.ifCond .eq 605, 3) := by decide +kernel
theorem dL_999 : decode code 999 = .ok (.iconst 0, 1) := by decide +kernel
theorem dL_1000 : decode code 1000 = .ok (.ireturn, 1) := by decide +kernel
theorem dL_1001 : decode code 1001 = .ok (.aload_n 1, 1) := by decide +kernel
theorem dL_1002 : decode code 1002 = .ok (.aload_n 0, 1) := by decide +kernel
theorem dL_1003 : decode code 1003 = .ok (.iload_n 3, 1) := by decide +kernel
theorem dL_1004 : decode code 1004 = .ok (.iconst 1, 1) := by decide +kernel
theorem dL_1005 : decode code 1005 = .ok (.iadd, 1) := by decide +kernel
theorem dL_1006 : decode code 1006 = .ok (.iaload, 1) := by decide +kernel
theorem dL_1007 : decode code 1007 = .ok (.aload_n 0, 1) := by decide +kernel
theorem dL_1008 : decode code 1008 = .ok (.iload_n 3, 1) := by decide +kernel
theorem dL_1009 : decode code 1009 = .ok (.iconst 2, 1) := by decide +kernel
theorem dL_1010 : decode code 1010 = .ok (.iadd, 1) := by decide +kernel
theorem dL_1011 : decode code 1011 = .ok (.iaload, 1) := by decide +kernel
theorem dL_1012 : decode code 1012 = .ok (.invokevirtual 127, 3) := by decide +kernel
theorem dL_1015 : decode code 1015 = .ok (.aload_n 2, 1) := by decide +kernel
theorem dL_1016 : decode code 1016 = .ok (.aload_n 0, 1) := by decide +kernel
theorem dL_1017 : decode code 1017 = .ok (.iload_n 3, 1) := by decide +kernel
theorem dL_1018 : decode code 1018 = .ok (.iconst 1, 1) := by decide +kernel
theorem dL_1019 : decode code 1019 = .ok (.iadd, 1) := by decide +kernel
theorem dL_1020 : decode code 1020 = .ok (.iaload, 1) := by decide +kernel
theorem dL_1021 : decode code 1021 = .ok (.aload_n 0, 1) := by decide +kernel
theorem dL_1022 : decode code 1022 = .ok (.iload_n 3, 1) := by decide +kernel
theorem dL_1023 : decode code 1023 = .ok (.iconst 2, 1) := by decide +kernel
theorem dL_1024 : decode code 1024 = .ok (.iadd, 1) := by decide +kernel
theorem dL_1025 : decode code 1025 = .ok (.iaload, 1) := by decide +kernel
theorem dL_1026 : decode code 1026 = .ok (.invokevirtual 130, 3) := by decide +kernel
theorem dL_1029 : decode code 1029 = .ok (.lcmp, 1) := by decide +kernel
theorem dL_1030 : decode code 1030 = .ok (.ifCond .eq 571, 3) := by decide +kernel
theorem dL_1033 : decode code 1033 = .ok (.iconst 0, 1) := by decide +kernel
theorem dL_1034 : decode code 1034 = .ok (.ireturn, 1) := by decide +kernel
theorem dL_1035 : decode code 1035 = .ok (.aload_n 1, 1) := by decide +kernel
theorem dL_1036 : decode code 1036 = .ok (.aload_n 0, 1) := by decide +kernel
theorem dL_1037 : decode code 1037 = .ok (.iload_n 3, 1) := by decide +kernel
theorem dL_1038 : decode code 1038 = .ok (.iconst 1, 1) := by decide +kernel
theorem dL_1039 : decode code 1039 = .ok (.iadd, 1) := by decide +kernel
theorem dL_1040 : decode code 1040 = .ok (.iaload, 1) := by decide +kernel
theorem dL_1041 : decode code 1041 = .ok (.invokevirtual 131, 3) := by decide +kernel
theorem dL_1044 : decode code 1044 = .ok (.aload_n 2, 1) := by decide +kernel
theorem dL_1045 : decode code 1045 = .ok (.aload_n 0, 1) := by decide +kernel
theorem dL_1046 : decode code 1046 = .ok (.iload_n 3, 1) := by decide +kernel
theorem dL_1047 : decode code 1047 = .ok (.iconst 1, 1) := by decide +kernel
theorem dL_1048 : decode code 1048 = .ok (.iadd, 1) := by decide +kernel
theorem dL_1049 : decode code 1049 = .ok (.iaload, 1) := by decide +kernel
theorem dL_1050 : decode code 1050 = .ok (.invokevirtual 134, 3) := by decide +kernel
theorem dL_1053 : decode code 1053 = .ok (.if_icmp .eq 548, 3) := by decide +kernel
theorem dL_1056 : decode code 1056 = .ok (.iconst 0, 1) := by decide +kernel
theorem dL_1057 : decode code 1057 = .ok (.ireturn, 1) := by decide +kernel
theorem dL_1058 : decode code 1058 = .ok (.aload_n 1, 1) := by decide +kernel
theorem dL_1059 : decode code 1059 = .ok (.invokevirtual 135, 3) := by decide +kernel
theorem dL_1062 : decode code 1062 = .ok (.aload_n 2, 1) := by decide +kernel
theorem dL_1063 : decode code 1063 = .ok (.invokevirtual 138, 3) := by decide +kernel
theorem dL_1066 : decode code 1066 = .ok (.if_icmp .eq 535, 3) := by decide +kernel
theorem dL_1069 : decode code 1069 = .ok (.iconst 0, 1) := by decide +kernel
theorem dL_1070 : decode code 1070 = .ok (.ireturn, 1) := by decide +kernel
theorem dL_1071 : decode code 1071 = .ok (.aload_n 1, 1) := by decide +kernel
theorem dL_1072 : decode code 1072 = .ok (.invokevirtual 139, 3) := by decide +kernel
theorem dL_1075 : decode code 1075 = .ok (.aload_n 2, 1) := by decide +kernel
theorem dL_1076 : decode code 1076 = .ok (.invokevirtual 142, 3) := by decide +kernel
theorem dL_1079 : decode code 1079 = .ok (.if_icmp .eq 522, 3) := by decide +kernel
theorem dL_1082 : decode code 1082 = .ok (.iconst 0, 1) := by decide +kernel
theorem dL_1083 : decode code 1083 = .ok (.ireturn, 1) := by decide +kernel
theorem dL_1084 : decode code 1084 = .ok (.aload_n 1, 1) := by decide +kernel
theorem dL_1085 : decode code 1085 = .ok (.aload_n 0, 1) := by decide +kernel
theorem dL_1086 : decode code 1086 = .ok (.iload_n 3, 1) := by decide +kernel
theorem dL_1087 : decode code 1087 = .ok (.iconst 1, 1) := by decide +kernel
theorem dL_1088 : decode code 1088 = .ok (.iadd, 1) := by decide +kernel
theorem dL_1089 : decode code 1089 = .ok (.iaload, 1) := by decide +kernel
theorem dL_1090 : decode code 1090 = .ok (.invokevirtual 143, 3) := by decide +kernel
theorem dL_1093 : decode code 1093 = .ok (.aload_n 2, 1) := by decide +kernel
theorem dL_1094 : decode code 1094 = .ok (.aload_n 0, 1) := by decide +kernel
theorem dL_1095 : decode code 1095 = .ok (.iload_n 3, 1) := by decide +kernel
theorem dL_1096 : decode code 1096 = .ok (.iconst 1, 1) := by decide +kernel
theorem dL_1097 : decode code 1097 = .ok (.iadd, 1) := by decide +kernel
theorem dL_1098 : decode code 1098 = .ok (.iaload, 1) := by decide +kernel
theorem dL_1099 : decode code 1099 = .ok (.invokevirtual 146, 3) := by decide +kernel
theorem dL_1102 : decode code 1102 = .ok (.if_icmp .eq 499, 3) := by decide +kernel
theorem dL_1105 : decode code 1105 = .ok (.iconst 0, 1) := by decide +kernel
theorem dL_1106 : decode code 1106 = .ok (.ireturn, 1) := by decide +kernel
theorem dL_1107 : decode code 1107 = .ok (.aload_n 1, 1) := by decide +kernel
theorem dL_1108 : decode code 1108 = .ok (.aload_n 0, 1) := by decide +kernel
theorem dL_1109 : decode code 1109 = .ok (.iload_n 3, 1) := by decide +kernel
theorem dL_1110 : decode code 1110 = .ok (.iconst 1, 1) := by decide +kernel
theorem dL_1111 : decode code 1111 = .ok (.iadd, 1) := by decide +kernel
theorem dL_1112 : decode code 1112 = .ok (.iaload, 1) := by decide +kernel
theorem dL_1113 : decode code 1113 = .ok (.aload_n 0, 1) := by decide +kernel
theorem dL_1114 : decode code 1114 = .ok (.iload_n 3, 1) := by decide +kernel
theorem dL_1115 : decode code 1115 = .ok (.iconst 2, 1) := by decide +kernel
theorem dL_1116 : decode code 1116 = .ok (.iadd, 1) := by decide +kernel
theorem dL_1117 : decode code 1117 = .ok (.iaload, 1) := by decide +kernel
theorem dL_1118 : decode code 1118 = .ok (.invokevirtual 147, 3) := by decide +kernel
theorem dL_1121 : decode code 1121 = .ok (.aload_n 2, 1) := by decide +kernel
theorem dL_1122 : decode code 1122 = .ok (.aload_n 0, 1) := by decide +kernel
theorem dL_1123 : decode code 1123 = .ok (.iload_n 3, 1) := by decide +kernel
theorem dL_1124 : decode code 1124 = .ok (.iconst 1, 1) := by decide +kernel
theorem dL_1125 : decode code 1125 = .ok (.iadd, 1) := by decide +kernel
theorem dL_1126 : decode code 1126 = .ok (.iaload, 1) := by decide +kernel
theorem dL_1127 : decode code 1127 = .ok (.aload_n 0, 1) := by decide +kernel
theorem dL_1128 : decode code 1128 = .ok (.iload_n 3, 1) := by decide +kernel
theorem dL_1129 : decode code 1129 = .ok (.iconst 2, 1) := by decide +kernel
theorem dL_1130 : decode code 1130 = .ok (.iadd, 1) := by decide +kernel
theorem dL_1131 : decode code 1131 = .ok (.iaload, 1) := by decide +kernel
theorem dL_1132 : decode code 1132 = .ok (.invokevirtual 150, 3) := by decide +kernel
theorem dL_1135 : decode code 1135 = .ok (.if_icmp .eq 466, 3) := by decide +kernel
theorem dL_1138 : decode code 1138 = .ok (.iconst 0, 1) := by decide +kernel
theorem dL_1139 : decode code 1139 = .ok (.ireturn, 1) := by decide +kernel
theorem dL_1140 : decode code 1140 = .ok (.aload_n 1, 1) := by decide +kernel
theorem dL_1141 : decode code 1141 = .ok (.aload_n 0, 1) := by decide +kernel
theorem dL_1142 : decode code 1142 = .ok (.iload_n 3, 1) := by decide +kernel
theorem dL_1143 : decode code 1143 = .ok (.iconst 1, 1) := by decide +kernel
theorem dL_1144 : decode code 1144 = .ok (.iadd, 1) := by decide +kernel
theorem dL_1145 : decode code 1145 = .ok (.iaload, 1) := by decide +kernel
theorem dL_1146 : decode code 1146 = .ok (.aload_n 0, 1) := by decide +kernel
theorem dL_1147 : decode code 1147 = .ok (.iload_n 3, 1) := by decide +kernel
theorem dL_1148 : decode code 1148 = .ok (.iconst 2, 1) := by decide +kernel
theorem dL_1149 : decode code 1149 = .ok (.iadd, 1) := by decide +kernel
theorem dL_1150 : decode code 1150 = .ok (.iaload, 1) := by decide +kernel
theorem dL_1151 : decode code 1151 = .ok (.invokevirtual 151, 3) := by decide +kernel
theorem dL_1154 : decode code 1154 = .ok (.aload_n 2, 1) := by decide +kernel
theorem dL_1155 : decode code 1155 = .ok (.aload_n 0, 1) := by decide +kernel
theorem dL_1156 : decode code 1156 = .ok (.iload_n 3, 1) := by decide +kernel
theorem dL_1157 : decode code 1157 = .ok (.iconst 1, 1) := by decide +kernel
theorem dL_1158 : decode code 1158 = .ok (.iadd, 1) := by decide +kernel
theorem dL_1159 : decode code 1159 = .ok (.iaload, 1) := by decide +kernel
theorem dL_1160 : decode code 1160 = .ok (.aload_n 0, 1) := by decide +kernel
theorem dL_1161 : decode code 1161 = .ok (.iload_n 3, 1) := by decide +kernel
theorem dL_1162 : decode code 1162 = .ok (.iconst 2, 1) := by decide +kernel
theorem dL_1163 : decode code 1163 = .ok (.iadd, 1) := by decide +kernel
theorem dL_1164 : decode code 1164 = .ok (.iaload, 1) := by decide +kernel
theorem dL_1165 : decode code 1165 = .ok (.invokevirtual 154, 3) := by decide +kernel
theorem dL_1168 : decode code 1168 = .ok (.if_icmp .eq 433, 3) := by decide +kernel
theorem dL_1171 : decode code 1171 = .ok (.iconst 0, 1) := by decide +kernel
theorem dL_1172 : decode code 1172 = .ok (.ireturn, 1) := by decide +kernel
theorem dL_1173 : decode code 1173 = .ok (.aload_n 1, 1) := by decide +kernel
theorem dL_1174 : decode code 1174 = .ok (.aload_n 0, 1) := by decide +kernel
theorem dL_1175 : decode code 1175 = .ok (.iload_n 3, 1) := by decide +kernel
theorem dL_1176 : decode code 1176 = .ok (.iconst 1, 1) := by decide +kernel
theorem dL_1177 : decode code 1177 = .ok (.iadd, 1) := by decide +kernel
theorem dL_1178 : decode code 1178 = .ok (.iaload, 1) := by decide +kernel
theorem dL_1179 : decode code 1179 = .ok (.invokevirtual 155, 3) := by decide +kernel
