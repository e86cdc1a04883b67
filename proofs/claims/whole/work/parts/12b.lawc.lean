/-! the law: decode rows, by program (wip/whole/genlaw.py) -/
theorem dL_law_953 : decode mL_law.2.1 953 = .ok (.if_icmp .eq 779, 3) := by decide +kernel
theorem dL_law_956 : decode mL_law.2.1 956 = .ok (.iconst 0, 1) := by decide +kernel
theorem dL_law_957 : decode mL_law.2.1 957 = .ok (.ireturn, 1) := by decide +kernel
theorem dL_law_958 : decode mL_law.2.1 958 = .ok (.aload_n 1, 1) := by decide +kernel
theorem dL_law_959 : decode mL_law.2.1 959 = .ok (.aload_n 0, 1) := by decide +kernel
theorem dL_law_960 : decode mL_law.2.1 960 = .ok (.iload_n 3, 1) := by decide +kernel
theorem dL_law_961 : decode mL_law.2.1 961 = .ok (.iconst 1, 1) := by decide +kernel
theorem dL_law_962 : decode mL_law.2.1 962 = .ok (.iadd, 1) := by decide +kernel
theorem dL_law_963 : decode mL_law.2.1 963 = .ok (.iaload, 1) := by decide +kernel
theorem dL_law_964 : decode mL_law.2.1 964 = .ok (.aload_n 0, 1) := by decide +kernel
theorem dL_law_965 : decode mL_law.2.1 965 = .ok (.iload_n 3, 1) := by decide +kernel
theorem dL_law_966 : decode mL_law.2.1 966 = .ok (.iconst 2, 1) := by decide +kernel
theorem dL_law_967 : decode mL_law.2.1 967 = .ok (.iadd, 1) := by decide +kernel
theorem dL_law_968 : decode mL_law.2.1 968 = .ok (.iaload, 1) := by decide +kernel
theorem dL_law_969 : decode mL_law.2.1 969 = .ok (.aload_n 0, 1) := by decide +kernel
theorem dL_law_970 : decode mL_law.2.1 970 = .ok (.iload_n 3, 1) := by decide +kernel
theorem dL_law_971 : decode mL_law.2.1 971 = .ok (.iconst 3, 1) := by decide +kernel
theorem dL_law_972 : decode mL_law.2.1 972 = .ok (.iadd, 1) := by decide +kernel
theorem dL_law_973 : decode mL_law.2.1 973 = .ok (.iaload, 1) := by decide +kernel
theorem dL_law_974 : decode mL_law.2.1 974 = .ok (.aload_n 0, 1) := by decide +kernel
theorem dL_law_975 : decode mL_law.2.1 975 = .ok (.iload_n 3, 1) := by decide +kernel
theorem dL_law_976 : decode mL_law.2.1 976 = .ok (.iconst 4, 1) := by decide +kernel
theorem dL_law_977 : decode mL_law.2.1 977 = .ok (.iadd, 1) := by decide +kernel
theorem dL_law_978 : decode mL_law.2.1 978 = .ok (.iaload, 1) := by decide +kernel
theorem dL_law_979 : decode mL_law.2.1 979 = .ok (.aload_n 0, 1) := by decide +kernel
theorem dL_law_980 : decode mL_law.2.1 980 = .ok (.iload_n 3, 1) := by decide +kernel
theorem dL_law_981 : decode mL_law.2.1 981 = .ok (.iconst 5, 1) := by decide +kernel
theorem dL_law_982 : decode mL_law.2.1 982 = .ok (.iadd, 1) := by decide +kernel
theorem dL_law_983 : decode mL_law.2.1 983 = .ok (.iaload, 1) := by decide +kernel
theorem dL_law_984 : decode mL_law.2.1 984 = .ok (.invokevirtual 101, 3) := by decide +kernel
theorem dL_law_987 : decode mL_law.2.1 987 = .ok (.aload_n 2, 1) := by decide +kernel
theorem dL_law_988 : decode mL_law.2.1 988 = .ok (.aload_n 0, 1) := by decide +kernel
theorem dL_law_989 : decode mL_law.2.1 989 = .ok (.iload_n 3, 1) := by decide +kernel
theorem dL_law_990 : decode mL_law.2.1 990 = .ok (.iconst 1, 1) := by decide +kernel
theorem dL_law_991 : decode mL_law.2.1 991 = .ok (.iadd, 1) := by decide +kernel
theorem dL_law_992 : decode mL_law.2.1 992 = .ok (.iaload, 1) := by decide +kernel
theorem dL_law_993 : decode mL_law.2.1 993 = .ok (.aload_n 0, 1) := by decide +kernel
theorem dL_law_994 : decode mL_law.2.1 994 = .ok (.iload_n 3, 1) := by decide +kernel
theorem dL_law_995 : decode mL_law.2.1 995 = .ok (.iconst 2, 1) := by decide +kernel
theorem dL_law_996 : decode mL_law.2.1 996 = .ok (.iadd, 1) := by decide +kernel
theorem dL_law_997 : decode mL_law.2.1 997 = .ok (.iaload, 1) := by decide +kernel
theorem dL_law_998 : decode mL_law.2.1 998 = .ok (.aload_n 0, 1) := by decide +kernel
theorem dL_law_999 : decode mL_law.2.1 999 = .ok (.iload_n 3, 1) := by decide +kernel
theorem dL_law_1000 : decode mL_law.2.1 1000 = .ok (.iconst 3, 1) := by decide +kernel
theorem dL_law_1001 : decode mL_law.2.1 1001 = .ok (.iadd, 1) := by decide +kernel
theorem dL_law_1002 : decode mL_law.2.1 1002 = .ok (.iaload, 1) := by decide +kernel
theorem dL_law_1003 : decode mL_law.2.1 1003 = .ok (.aload_n 0, 1) := by decide +kernel
theorem dL_law_1004 : decode mL_law.2.1 1004 = .ok (.iload_n 3, 1) := by decide +kernel
theorem dL_law_1005 : decode mL_law.2.1 1005 = .ok (.iconst 4, 1) := by decide +kernel
theorem dL_law_1006 : decode mL_law.2.1 1006 = .ok (.iadd, 1) := by decide +kernel
theorem dL_law_1007 : decode mL_law.2.1 1007 = .ok (.iaload, 1) := by decide +kernel
theorem dL_law_1008 : decode mL_law.2.1 1008 = .ok (.aload_n 0, 1) := by decide +kernel
theorem dL_law_1009 : decode mL_law.2.1 1009 = .ok (.iload_n 3, 1) := by decide +kernel
theorem dL_law_1010 : decode mL_law.2.1 1010 = .ok (.iconst 5, 1) := by decide +kernel
theorem dL_law_1011 : decode mL_law.2.1 1011 = .ok (.iadd, 1) := by decide +kernel
theorem dL_law_1012 : decode mL_law.2.1 1012 = .ok (.iaload, 1) := by decide +kernel
theorem dL_law_1013 : decode mL_law.2.1 1013 = .ok (.invokevirtual 104, 3) := by decide +kernel
theorem dL_law_1016 : decode mL_law.2.1 1016 = .ok (.if_icmp .eq 716, 3) := by decide +kernel
theorem dL_law_1019 : decode mL_law.2.1 1019 = .ok (.iconst 0, 1) := by decide +kernel
theorem dL_law_1020 : decode mL_law.2.1 1020 = .ok (.ireturn, 1) := by decide +kernel
theorem dL_law_1021 : decode mL_law.2.1 1021 = .ok (.aload_n 1, 1) := by decide +kernel
theorem dL_law_1022 : decode mL_law.2.1 1022 = .ok (.aload_n 0, 1) := by decide +kernel
theorem dL_law_1023 : decode mL_law.2.1 1023 = .ok (.iload_n 3, 1) := by decide +kernel
theorem dL_law_1024 : decode mL_law.2.1 1024 = .ok (.iconst 1, 1) := by decide +kernel
theorem dL_law_1025 : decode mL_law.2.1 1025 = .ok (.iadd, 1) := by decide +kernel
theorem dL_law_1026 : decode mL_law.2.1 1026 = .ok (.iaload, 1) := by decide +kernel
theorem dL_law_1027 : decode mL_law.2.1 1027 = .ok (.aload_n 0, 1) := by decide +kernel
theorem dL_law_1028 : decode mL_law.2.1 1028 = .ok (.iload_n 3, 1) := by decide +kernel
theorem dL_law_1029 : decode mL_law.2.1 1029 = .ok (.iconst 2, 1) := by decide +kernel
theorem dL_law_1030 : decode mL_law.2.1 1030 = .ok (.iadd, 1) := by decide +kernel
theorem dL_law_1031 : decode mL_law.2.1 1031 = .ok (.iaload, 1) := by decide +kernel
theorem dL_law_1032 : decode mL_law.2.1 1032 = .ok (.aload_n 0, 1) := by decide +kernel
theorem dL_law_1033 : decode mL_law.2.1 1033 = .ok (.iload_n 3, 1) := by decide +kernel
theorem dL_law_1034 : decode mL_law.2.1 1034 = .ok (.iconst 3, 1) := by decide +kernel
theorem dL_law_1035 : decode mL_law.2.1 1035 = .ok (.iadd, 1) := by decide +kernel
theorem dL_law_1036 : decode mL_law.2.1 1036 = .ok (.iaload, 1) := by decide +kernel
theorem dL_law_1037 : decode mL_law.2.1 1037 = .ok (.invokevirtual 105, 3) := by decide +kernel
theorem dL_law_1040 : decode mL_law.2.1 1040 = .ok (.aload_n 2, 1) := by decide +kernel
theorem dL_law_1041 : decode mL_law.2.1 1041 = .ok (.aload_n 0, 1) := by decide +kernel
theorem dL_law_1042 : decode mL_law.2.1 1042 = .ok (.iload_n 3, 1) := by decide +kernel
theorem dL_law_1043 : decode mL_law.2.1 1043 = .ok (.iconst 1, 1) := by decide +kernel
theorem dL_law_1044 : decode mL_law.2.1 1044 = .ok (.iadd, 1) := by decide +kernel
theorem dL_law_1045 : decode mL_law.2.1 1045 = .ok (.iaload, 1) := by decide +kernel
theorem dL_law_1046 : decode mL_law.2.1 1046 = .ok (.aload_n 0, 1) := by decide +kernel
theorem dL_law_1047 : decode mL_law.2.1 1047 = .ok (.iload_n 3, 1) := by decide +kernel
theorem dL_law_1048 : decode mL_law.2.1 1048 = .ok (.iconst 2, 1) := by decide +kernel
theorem dL_law_1049 : decode mL_law.2.1 1049 = .ok (.iadd, 1) := by decide +kernel
theorem dL_law_1050 : decode mL_law.2.1 1050 = .ok (.iaload, 1) := by decide +kernel
theorem dL_law_1051 : decode mL_law.2.1 1051 = .ok (.aload_n 0, 1) := by decide +kernel
theorem dL_law_1052 : decode mL_law.2.1 1052 = .ok (.iload_n 3, 1) := by decide +kernel
theorem dL_law_1053 : decode mL_law.2.1 1053 = .ok (.iconst 3, 1) := by decide +kernel
theorem dL_law_1054 : decode mL_law.2.1 1054 = .ok (.iadd, 1) := by decide +kernel
theorem dL_law_1055 : decode mL_law.2.1 1055 = .ok (.iaload, 1) := by decide +kernel
theorem dL_law_1056 : decode mL_law.2.1 1056 = .ok (.invokevirtual 108, 3) := by decide +kernel
theorem dL_law_1059 : decode mL_law.2.1 1059 = .ok (.if_icmp .eq 673, 3) := by decide +kernel
theorem dL_law_1062 : decode mL_law.2.1 1062 = .ok (.iconst 0, 1) := by decide +kernel
theorem dL_law_1063 : decode mL_law.2.1 1063 = .ok (.ireturn, 1) := by decide +kernel
theorem dL_law_1064 : decode mL_law.2.1 1064 = .ok (.aload_n 1, 1) := by decide +kernel
theorem dL_law_1065 : decode mL_law.2.1 1065 = .ok (.aload_n 0, 1) := by decide +kernel
theorem dL_law_1066 : decode mL_law.2.1 1066 = .ok (.iload_n 3, 1) := by decide +kernel
theorem dL_law_1067 : decode mL_law.2.1 1067 = .ok (.iconst 1, 1) := by decide +kernel
theorem dL_law_1068 : decode mL_law.2.1 1068 = .ok (.iadd, 1) := by decide +kernel
theorem dL_law_1069 : decode mL_law.2.1 1069 = .ok (.iaload, 1) := by decide +kernel
theorem dL_law_1070 : decode mL_law.2.1 1070 = .ok (.aload_n 0, 1) := by decide +kernel
theorem dL_law_1071 : decode mL_law.2.1 1071 = .ok (.iload_n 3, 1) := by decide +kernel
theorem dL_law_1072 : decode mL_law.2.1 1072 = .ok (.iconst 2, 1) := by decide +kernel
theorem dL_law_1073 : decode mL_law.2.1 1073 = .ok (.iadd, 1) := by decide +kernel
theorem dL_law_1074 : decode mL_law.2.1 1074 = .ok (.iaload, 1) := by decide +kernel
theorem dL_law_1075 : decode mL_law.2.1 1075 = .ok (.aload_n 0, 1) := by decide +kernel
theorem dL_law_1076 : decode mL_law.2.1 1076 = .ok (.iload_n 3, 1) := by decide +kernel
theorem dL_law_1077 : decode mL_law.2.1 1077 = .ok (.iconst 3, 1) := by decide +kernel
theorem dL_law_1078 : decode mL_law.2.1 1078 = .ok (.iadd, 1) := by decide +kernel
theorem dL_law_1079 : decode mL_law.2.1 1079 = .ok (.iaload, 1) := by decide +kernel
theorem dL_law_1080 : decode mL_law.2.1 1080 = .ok (.aload_n 0, 1) := by decide +kernel
theorem dL_law_1081 : decode mL_law.2.1 1081 = .ok (.iload_n 3, 1) := by decide +kernel
theorem dL_law_1082 : decode mL_law.2.1 1082 = .ok (.iconst 4, 1) := by decide +kernel
theorem dL_law_1083 : decode mL_law.2.1 1083 = .ok (.iadd, 1) := by decide +kernel
theorem dL_law_1084 : decode mL_law.2.1 1084 = .ok (.iaload, 1) := by decide +kernel
theorem dL_law_1085 : decode mL_law.2.1 1085 = .ok (.invokevirtual 109, 3) := by decide +kernel
theorem dL_law_1088 : decode mL_law.2.1 1088 = .ok (.aload_n 2, 1) := by decide +kernel
theorem dL_law_1089 : decode mL_law.2.1 1089 = .ok (.aload_n 0, 1) := by decide +kernel
theorem dL_law_1090 : decode mL_law.2.1 1090 = .ok (.iload_n 3, 1) := by decide +kernel
theorem dL_law_1091 : decode mL_law.2.1 1091 = .ok (.iconst 1, 1) := by decide +kernel
theorem dL_law_1092 : decode mL_law.2.1 1092 = .ok (.iadd, 1) := by decide +kernel
theorem dL_law_1093 : decode mL_law.2.1 1093 = .ok (.iaload, 1) := by decide +kernel
theorem dL_law_1094 : decode mL_law.2.1 1094 = .ok (.aload_n 0, 1) := by decide +kernel
theorem dL_law_1095 : decode mL_law.2.1 1095 = .ok (.iload_n 3, 1) := by decide +kernel
theorem dL_law_1096 : decode mL_law.2.1 1096 = .ok (.iconst 2, 1) := by decide +kernel
theorem dL_law_1097 : decode mL_law.2.1 1097 = .ok (.iadd, 1) := by decide +kernel
theorem dL_law_1098 : decode mL_law.2.1 1098 = .ok (.iaload, 1) := by decide +kernel
theorem dL_law_1099 : decode mL_law.2.1 1099 = .ok (.aload_n 0, 1) := by decide +kernel
theorem dL_law_1100 : decode mL_law.2.1 1100 = .ok (.iload_n 3, 1) := by decide +kernel
theorem dL_law_1101 : decode mL_law.2.1 1101 = .ok (.iconst 3, 1) := by decide +kernel
theorem dL_law_1102 : decode mL_law.2.1 1102 = .ok (.iadd, 1) := by decide +kernel
theorem dL_law_1103 : decode mL_law.2.1 1103 = .ok (.iaload, 1) := by decide +kernel
theorem dL_law_1104 : decode mL_law.2.1 1104 = .ok (.aload_n 0, 1) := by decide +kernel
theorem dL_law_1105 : decode mL_law.2.1 1105 = .ok (.iload_n 3, 1) := by decide +kernel
theorem dL_law_1106 : decode mL_law.2.1 1106 = .ok (.iconst 4, 1) := by decide +kernel
theorem dL_law_1107 : decode mL_law.2.1 1107 = .ok (.iadd, 1) := by decide +kernel
theorem dL_law_1108 : decode mL_law.2.1 1108 = .ok (.iaload, 1) := by decide +kernel
theorem dL_law_1109 : decode mL_law.2.1 1109 = .ok (.invokevirtual 112, 3) := by decide +kernel
theorem dL_law_1112 : decode mL_law.2.1 1112 = .ok (.if_icmp .eq 620, 3) := by decide +kernel
theorem dL_law_1115 : decode mL_law.2.1 1115 = .ok (.iconst 0, 1) := by decide +kernel
theorem dL_law_1116 : decode mL_law.2.1 1116 = .ok (.ireturn, 1) := by decide +kernel
theorem dL_law_1117 : decode mL_law.2.1 1117 = .ok (.aload_n 1, 1) := by decide +kernel
theorem dL_law_1118 : decode mL_law.2.1 1118 = .ok (.aload_n 0, 1) := by decide +kernel
theorem dL_law_1119 : decode mL_law.2.1 1119 = .ok (.iload_n 3, 1) := by decide +kernel
theorem dL_law_1120 : decode mL_law.2.1 1120 = .ok (.iconst 1, 1) := by decide +kernel
theorem dL_law_1121 : decode mL_law.2.1 1121 = .ok (.iadd, 1) := by decide +kernel
theorem dL_law_1122 : decode mL_law.2.1 1122 = .ok (.iaload, 1) := by decide +kernel
theorem dL_law_1123 : decode mL_law.2.1 1123 = .ok (.invokevirtual 113, 3) := by decide +kernel
theorem dL_law_1126 : decode mL_law.2.1 1126 = .ok (.aload_n 2, 1) := by decide +kernel
theorem dL_law_1127 : decode mL_law.2.1 1127 = .ok (.aload_n 0, 1) := by decide +kernel
theorem dL_law_1128 : decode mL_law.2.1 1128 = .ok (.iload_n 3, 1) := by decide +kernel
theorem dL_law_1129 : decode mL_law.2.1 1129 = .ok (.iconst 1, 1) := by decide +kernel
theorem dL_law_1130 : decode mL_law.2.1 1130 = .ok (.iadd, 1) := by decide +kernel
theorem dL_law_1131 : decode mL_law.2.1 1131 = .ok (.iaload, 1) := by decide +kernel
theorem dL_law_1132 : decode mL_law.2.1 1132 = .ok (.invokevirtual 116, 3) := by decide +kernel
theorem dL_law_1135 : decode mL_law.2.1 1135 = .ok (.if_icmp .eq 597, 3) := by decide +kernel
theorem dL_law_1138 : decode mL_law.2.1 1138 = .ok (.iconst 0, 1) := by decide +kernel
theorem dL_law_1139 : decode mL_law.2.1 1139 = .ok (.ireturn, 1) := by decide +kernel
theorem dL_law_1140 : decode mL_law.2.1 1140 = .ok (.aload_n 1, 1) := by decide +kernel
theorem dL_law_1141 : decode mL_law.2.1 1141 = .ok (.aload_n 0, 1) := by decide +kernel
theorem dL_law_1142 : decode mL_law.2.1 1142 = .ok (.iload_n 3, 1) := by decide +kernel
theorem dL_law_1143 : decode mL_law.2.1 1143 = .ok (.iconst 1, 1) := by decide +kernel
theorem dL_law_1144 : decode mL_law.2.1 1144 = .ok (.iadd, 1) := by decide +kernel
theorem dL_law_1145 : decode mL_law.2.1 1145 = .ok (.iaload, 1) := by decide +kernel
theorem dL_law_1146 : decode mL_law.2.1 1146 = .ok (.invokevirtual 117, 3) := by decide +kernel
theorem dL_law_1149 : decode mL_law.2.1 1149 = .ok (.aload_n 2, 1) := by decide +kernel
theorem dL_law_1150 : decode mL_law.2.1 1150 = .ok (.aload_n 0, 1) := by decide +kernel
theorem dL_law_1151 : decode mL_law.2.1 1151 = .ok (.iload_n 3, 1) := by decide +kernel
theorem dL_law_1152 : decode mL_law.2.1 1152 = .ok (.iconst 1, 1) := by decide +kernel
theorem dL_law_1153 : decode mL_law.2.1 1153 = .ok (.iadd, 1) := by decide +kernel
theorem dL_law_1154 : decode mL_law.2.1 1154 = .ok (.iaload, 1) := by decide +kernel
theorem dL_law_1155 : decode mL_law.2.1 1155 = .ok (.invokevirtual 120, 3) := by decide +kernel
theorem dL_law_1158 : decode mL_law.2.1 1158 = .ok (.if_icmp .eq 574, 3) := by decide +kernel
theorem dL_law_1161 : decode mL_law.2.1 1161 = .ok (.iconst 0, 1) := by decide +kernel
theorem dL_law_1162 : decode mL_law.2.1 1162 = .ok (.ireturn, 1) := by decide +kernel
theorem dL_law_1163 : decode mL_law.2.1 1163 = .ok (.aload_n 1, 1) := by decide +kernel
theorem dL_law_1164 : decode mL_law.2.1 1164 = .ok (.aload_n 0, 1) := by decide +kernel
theorem dL_law_1165 : decode mL_law.2.1 1165 = .ok (.iload_n 3, 1) := by decide +kernel
theorem dL_law_1166 : decode mL_law.2.1 1166 = .ok (.iconst 1, 1) := by decide +kernel
theorem dL_law_1167 : decode mL_law.2.1 1167 = .ok (.iadd, 1) := by decide +kernel
theorem dL_law_1168 : decode mL_law.2.1 1168 = .ok (.iaload, 1) := by decide +kernel
theorem dL_law_1169 : decode mL_law.2.1 1169 = .ok (.aload_n 0, 1) := by decide +kernel
theorem dL_law_1170 : decode mL_law.2.1 1170 = .ok (.iload_n 3, 1) := by decide +kernel
theorem dL_law_1171 : decode mL_law.2.1 1171 = .ok (.iconst 2, 1) := by decide +kernel
theorem dL_law_1172 : decode mL_law.2.1 1172 = .ok (.iadd, 1) := by decide +kernel
theorem dL_law_1173 : decode mL_law.2.1 1173 = .ok (.iaload, 1) := by decide +kernel
theorem dL_law_1174 : decode mL_law.2.1 1174 = .ok (.aload_n 0, 1) := by decide +kernel
theorem dL_law_1175 : decode mL_law.2.1 1175 = .ok (.iload_n 3, 1) := by decide +kernel
theorem dL_law_1176 : decode mL_law.2.1 1176 = .ok (.iconst 3, 1) := by decide +kernel
theorem dL_law_1177 : decode mL_law.2.1 1177 = .ok (.iadd, 1) := by decide +kernel
theorem dL_law_1178 : decode mL_law.2.1 1178 = .ok (.iaload, 1) := by decide +kernel
theorem dL_law_1179 : decode mL_law.2.1 1179 = .ok (.invokevirtual 121, 3) := by decide +kernel
theorem dL_law_1182 : decode mL_law.2.1 1182 = .ok (.aload_n 2, 1) := by decide +kernel
theorem dL_law_1183 : decode mL_law.2.1 1183 = .ok (.aload_n 0, 1) := by decide +kernel
theorem dL_law_1184 : decode mL_law.2.1 1184 = .ok (.iload_n 3, 1) := by decide +kernel
theorem dL_law_1185 : decode mL_law.2.1 1185 = .ok (.iconst 1, 1) := by decide +kernel
theorem dL_law_1186 : decode mL_law.2.1 1186 = .ok (.iadd, 1) := by decide +kernel
theorem dL_law_1187 : decode mL_law.2.1 1187 = .ok (.iaload, 1) := by decide +kernel
theorem dL_law_1188 : decode mL_law.2.1 1188 = .ok (.aload_n 0, 1) := by decide +kernel
theorem dL_law_1189 : decode mL_law.2.1 1189 = .ok (.iload_n 3, 1) := by decide +kernel
theorem dL_law_1190 : decode mL_law.2.1 1190 = .ok (.iconst 2, 1) := by decide +kernel
theorem dL_law_1191 : decode mL_law.2.1 1191 = .ok (.iadd, 1) := by decide +kernel
theorem dL_law_1192 : decode mL_law.2.1 1192 = .ok (.iaload, 1) := by decide +kernel
theorem dL_law_1193 : decode mL_law.2.1 1193 = .ok (.aload_n 0, 1) := by decide +kernel
theorem dL_law_1194 : decode mL_law.2.1 1194 = .ok (.iload_n 3, 1) := by decide +kernel
theorem dL_law_1195 : decode mL_law.2.1 1195 = .ok (.iconst 3, 1) := by decide +kernel
theorem dL_law_1196 : decode mL_law.2.1 1196 = .ok (.iadd, 1) := by decide +kernel
theorem dL_law_1197 : decode mL_law.2.1 1197 = .ok (.iaload, 1) := by decide +kernel
theorem dL_law_1198 : decode mL_law.2.1 1198 = .ok (.invokevirtual 124, 3) := by decide +kernel
theorem dL_law_1201 : decode mL_law.2.1 1201 = .ok (.if_icmp .eq 531, 3) := by decide +kernel
theorem dL_law_1204 : decode mL_law.2.1 1204 = .ok (.iconst 0, 1) := by decide +kernel
theorem dL_law_1205 : decode mL_law.2.1 1205 = .ok (.ireturn, 1) := by decide +kernel
theorem dL_law_1206 : decode mL_law.2.1 1206 = .ok (.aload_n 1, 1) := by decide +kernel
theorem dL_law_1207 : decode mL_law.2.1 1207 = .ok (.aload_n 0, 1) := by decide +kernel
theorem dL_law_1208 : decode mL_law.2.1 1208 = .ok (.iload_n 3, 1) := by decide +kernel
theorem dL_law_1209 : decode mL_law.2.1 1209 = .ok (.iconst 1, 1) := by decide +kernel
theorem dL_law_1210 : decode mL_law.2.1 1210 = .ok (.iadd, 1) := by decide +kernel
theorem dL_law_1211 : decode mL_law.2.1 1211 = .ok (.iaload, 1) := by decide +kernel
theorem dL_law_1212 : decode mL_law.2.1 1212 = .ok (.aload_n 0, 1) := by decide +kernel
theorem dL_law_1213 : decode mL_law.2.1 1213 = .ok (.iload_n 3, 1) := by decide +kernel
theorem dL_law_1214 : decode mL_law.2.1 1214 = .ok (.iconst 2, 1) := by decide +kernel
theorem dL_law_1215 : decode mL_law.2.1 1215 = .ok (.iadd, 1) := by decide +kernel
theorem dL_law_1216 : decode mL_law.2.1 1216 = .ok (.iaload, 1) := by decide +kernel
theorem dL_law_1217 : decode mL_law.2.1 1217 = .ok (.aload_n 0, 1) := by decide +kernel
theorem dL_law_1218 : decode mL_law.2.1 1218 = .ok (.iload_n 3, 1) := by decide +kernel
theorem dL_law_1219 : decode mL_law.2.1 1219 = .ok (.iconst 3, 1) := by decide +kernel
theorem dL_law_1220 : decode mL_law.2.1 1220 = .ok (.iadd, 1) := by decide +kernel
theorem dL_law_1221 : decode mL_law.2.1 1221 = .ok (.iaload, 1) := by decide +kernel
theorem dL_law_1222 : decode mL_law.2.1 1222 = .ok (.invokevirtual 125, 3) := by decide +kernel
theorem dL_law_1225 : decode mL_law.2.1 1225 = .ok (.aload_n 2, 1) := by decide +kernel
theorem dL_law_1226 : decode mL_law.2.1 1226 = .ok (.aload_n 0, 1) := by decide +kernel
theorem dL_law_1227 : decode mL_law.2.1 1227 = .ok (.iload_n 3, 1) := by decide +kernel
theorem dL_law_1228 : decode mL_law.2.1 1228 = .ok (.iconst 1, 1) := by decide +kernel
theorem dL_law_1229 : decode mL_law.2.1 1229 = .ok (.iadd, 1) := by decide +kernel
theorem dL_law_1230 : decode mL_law.2.1 1230 = .ok (.iaload, 1) := by decide +kernel
theorem dL_law_1231 : decode mL_law.2.1 1231 = .ok (.aload_n 0, 1) := by decide +kernel
theorem dL_law_1232 : decode mL_law.2.1 1232 = .ok (.iload_n 3, 1) := by decide +kernel
theorem dL_law_1233 : decode mL_law.2.1 1233 = .ok (.iconst 2, 1) := by decide +kernel
theorem dL_law_1234 : decode mL_law.2.1 1234 = .ok (.iadd, 1) := by decide +kernel
theorem dL_law_1235 : decode mL_law.2.1 1235 = .ok (.iaload, 1) := by decide +kernel
theorem dL_law_1236 : decode mL_law.2.1 1236 = .ok (.aload_n 0, 1) := by decide +kernel
theorem dL_law_1237 : decode mL_law.2.1 1237 = .ok (.iload_n 3, 1) := by decide +kernel
theorem dL_law_1238 : decode mL_law.2.1 1238 = .ok (.iconst 3, 1) := by decide +kernel
theorem dL_law_1239 : decode mL_law.2.1 1239 = .ok (.iadd, 1) := by decide +kernel
theorem dL_law_1240 : decode mL_law.2.1 1240 = .ok (.iaload, 1) := by decide +kernel
theorem dL_law_1241 : decode mL_law.2.1 1241 = .ok (.invokevirtual 128, 3) := by decide +kernel
theorem dL_law_1244 : decode mL_law.2.1 1244 = .ok (.if_icmp .eq 488, 3) := by decide +kernel
theorem dL_law_1247 : decode mL_law.2.1 1247 = .ok (.iconst 0, 1) := by decide +kernel
theorem dL_law_1248 : decode mL_law.2.1 1248 = .ok (.ireturn, 1) := by decide +kernel
theorem dL_law_1249 : decode mL_law.2.1 1249 = .ok (.aload_n 1, 1) := by decide +kernel
theorem dL_law_1250 : decode mL_law.2.1 1250 = .ok (.aload_n 0, 1) := by decide +kernel
theorem dL_law_1251 : decode mL_law.2.1 1251 = .ok (.iload_n 3, 1) := by decide +kernel
theorem dL_law_1252 : decode mL_law.2.1 1252 = .ok (.iconst 1, 1) := by decide +kernel
theorem dL_law_1253 : decode mL_law.2.1 1253 = .ok (.iadd, 1) := by decide +kernel
theorem dL_law_1254 : decode mL_law.2.1 1254 = .ok (.iaload, 1) := by decide +kernel
theorem dL_law_1255 : decode mL_law.2.1 1255 = .ok (.invokevirtual 129, 3) := by decide +kernel
theorem dL_law_1258 : decode mL_law.2.1 1258 = .ok (.aload_n 2, 1) := by decide +kernel
theorem dL_law_1259 : decode mL_law.2.1 1259 = .ok (.aload_n 0, 1) := by decide +kernel
theorem dL_law_1260 : decode mL_law.2.1 1260 = .ok (.iload_n 3, 1) := by decide +kernel
theorem dL_law_1261 : decode mL_law.2.1 1261 = .ok (.iconst 1, 1) := by decide +kernel
theorem dL_law_1262 : decode mL_law.2.1 1262 = .ok (.iadd, 1) := by decide +kernel
theorem dL_law_1263 : decode mL_law.2.1 1263 = .ok (.iaload, 1) := by decide +kernel
theorem dL_law_1264 : decode mL_law.2.1 1264 = .ok (.invokevirtual 132, 3) := by decide +kernel
theorem dL_law_1267 : decode mL_law.2.1 1267 = .ok (.if_icmp .eq 465, 3) := by decide +kernel
theorem dL_law_1270 : decode mL_law.2.1 1270 = .ok (.iconst 0, 1) := by decide +kernel
theorem dL_law_1271 : decode mL_law.2.1 1271 = .ok (.ireturn, 1) := by decide +kernel
theorem dL_law_1272 : decode mL_law.2.1 1272 = .ok (.aload_n 1, 1) := by decide +kernel
theorem dL_law_1273 : decode mL_law.2.1 1273 = .ok (.aload_n 0, 1) := by decide +kernel
theorem dL_law_1274 : decode mL_law.2.1 1274 = .ok (.iload_n 3, 1) := by decide +kernel
theorem dL_law_1275 : decode mL_law.2.1 1275 = .ok (.iconst 1, 1) := by decide +kernel
theorem dL_law_1276 : decode mL_law.2.1 1276 = .ok (.iadd, 1) := by decide +kernel
theorem dL_law_1277 : decode mL_law.2.1 1277 = .ok (.iaload, 1) := by decide +kernel
theorem dL_law_1278 : decode mL_law.2.1 1278 = .ok (.aload_n 0, 1) := by decide +kernel
theorem dL_law_1279 : decode mL_law.2.1 1279 = .ok (.iload_n 3, 1) := by decide +kernel
theorem dL_law_1280 : decode mL_law.2.1 1280 = .ok (.iconst 2, 1) := by decide +kernel
theorem dL_law_1281 : decode mL_law.2.1 1281 = .ok (.iadd, 1) := by decide +kernel
theorem dL_law_1282 : decode mL_law.2.1 1282 = .ok (.iaload, 1) := by decide +kernel
theorem dL_law_1283 : decode mL_law.2.1 1283 = .ok (.invokevirtual 133, 3) := by decide +kernel
theorem dL_law_1286 : decode mL_law.2.1 1286 = .ok (.aload_n 2, 1) := by decide +kernel
theorem dL_law_1287 : decode mL_law.2.1 1287 = .ok (.aload_n 0, 1) := by decide +kernel
theorem dL_law_1288 : decode mL_law.2.1 1288 = .ok (.iload_n 3, 1) := by decide +kernel
theorem dL_law_1289 : decode mL_law.2.1 1289 = .ok (.iconst 1, 1) := by decide +kernel
theorem dL_law_1290 : decode mL_law.2.1 1290 = .ok (.iadd, 1) := by decide +kernel
theorem dL_law_1291 : decode mL_law.2.1 1291 = .ok (.iaload, 1) := by decide +kernel
theorem dL_law_1292 : decode mL_law.2.1 1292 = .ok (.aload_n 0, 1) := by decide +kernel
theorem dL_law_1293 : decode mL_law.2.1 1293 = .ok (.iload_n 3, 1) := by decide +kernel
theorem dL_law_1294 : decode mL_law.2.1 1294 = .ok (.iconst 2, 1) := by decide +kernel
theorem dL_law_1295 : decode mL_law.2.1 1295 = .ok (.iadd, 1) := by decide +kernel
theorem dL_law_1296 : decode mL_law.2.1 1296 = .ok (.iaload, 1) := by decide +kernel
theorem dL_law_1297 : decode mL_law.2.1 1297 = .ok (.invokevirtual 136, 3) := by decide +kernel
theorem dL_law_1300 : decode mL_law.2.1 1300 = .ok (.if_icmp .eq 432, 3) := by decide +kernel
theorem dL_law_1303 : decode mL_law.2.1 1303 = .ok (.iconst 0, 1) := by decide +kernel
theorem dL_law_1304 : decode mL_law.2.1 1304 = .ok (.ireturn, 1) := by decide +kernel
theorem dL_law_1305 : decode mL_law.2.1 1305 = .ok (.aload_n 1, 1) := by decide +kernel
theorem dL_law_1306 : decode mL_law.2.1 1306 = .ok (.aload_n 0, 1) := by decide +kernel
theorem dL_law_1307 : decode mL_law.2.1 1307 = .ok (.iload_n 3, 1) := by decide +kernel
theorem dL_law_1308 : decode mL_law.2.1 1308 = .ok (.iconst 1, 1) := by decide +kernel
theorem dL_law_1309 : decode mL_law.2.1 1309 = .ok (.iadd, 1) := by decide +kernel
theorem dL_law_1310 : decode mL_law.2.1 1310 = .ok (.iaload, 1) := by decide +kernel
theorem dL_law_1311 : decode mL_law.2.1 1311 = .ok (.ifCond .eq 7, 3) := by decide +kernel
theorem dL_law_1314 : decode mL_law.2.1 1314 = .ok (.iconst 1, 1) := by decide +kernel
theorem dL_law_1315 : decode mL_law.2.1 1315 = .ok (.goto 4, 3) := by decide +kernel
theorem dL_law_1318 : decode mL_law.2.1 1318 = .ok (.iconst 0, 1) := by decide +kernel
theorem dL_law_1319 : decode mL_law.2.1 1319 = .ok (.aload_n 0, 1) := by decide +kernel
theorem dL_law_1320 : decode mL_law.2.1 1320 = .ok (.iload_n 3, 1) := by decide +kernel
theorem dL_law_1321 : decode mL_law.2.1 1321 = .ok (.iconst 2, 1) := by decide +kernel
theorem dL_law_1322 : decode mL_law.2.1 1322 = .ok (.iadd, 1) := by decide +kernel
theorem dL_law_1323 : decode mL_law.2.1 1323 = .ok (.iaload, 1) := by decide +kernel
theorem dL_law_1324 : decode mL_law.2.1 1324 = .ok (.invokevirtual 137, 3) := by decide +kernel
