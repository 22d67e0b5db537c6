/-! behind the law's loop -/
section LAW8
variable {l : Launch} {G : Gt} {p : Program} {e : Env} {R : Room} {s : State} {m : MethodId} {args : Array Value} {below : List Frame} {meth : Method} {c : Code} {Q : State → Prop} {b z q0 n : Nat} {xs : Nat → Int32} {A A' : Sx} {μ : Mm} {c1 s1 : Nat}
theorem dL_law_938 : decode cL_law 938 = .ok (.aload_n 1, 1) := by decide +kernel
theorem dL_law_939 : decode cL_law 939 = .ok (.invokestatic 220, 3) := by decide +kernel
theorem dL_law_942 : decode cL_law 942 = .ok (.lstore 6, 2) := by decide +kernel
theorem dL_law_944 : decode cL_law 944 = .ok (.aload_n 1, 1) := by decide +kernel
theorem dL_law_945 : decode cL_law 945 = .ok (.invokevirtual 145, 3) := by decide +kernel
theorem dL_law_948 : decode cL_law 948 = .ok (.istore 8, 2) := by decide +kernel
theorem dL_law_950 : decode cL_law 950 = .ok (.aload_n 1, 1) := by decide +kernel
theorem dL_law_951 : decode cL_law 951 = .ok (.iconst 5, 1) := by decide +kernel
theorem dL_law_952 : decode cL_law 952 = .ok (.newarray .int, 2) := by decide +kernel
theorem dL_law_954 : decode cL_law 954 = .ok (.dup, 1) := by decide +kernel
theorem dL_law_955 : decode cL_law 955 = .ok (.iconst 0, 1) := by decide +kernel
theorem dL_law_956 : decode cL_law 956 = .ok (.bipush 22, 2) := by decide +kernel
theorem dL_law_958 : decode cL_law 958 = .ok (.iastore, 1) := by decide +kernel
theorem dL_law_959 : decode cL_law 959 = .ok (.dup, 1) := by decide +kernel
theorem dL_law_960 : decode cL_law 960 = .ok (.iconst 1, 1) := by decide +kernel
theorem dL_law_961 : decode cL_law 961 = .ok (.iconst 0, 1) := by decide +kernel
theorem dL_law_962 : decode cL_law 962 = .ok (.iastore, 1) := by decide +kernel
theorem dL_law_963 : decode cL_law 963 = .ok (.dup, 1) := by decide +kernel
theorem dL_law_964 : decode cL_law 964 = .ok (.iconst 2, 1) := by decide +kernel
theorem dL_law_965 : decode cL_law 965 = .ok (.iconst 0, 1) := by decide +kernel
theorem dL_law_966 : decode cL_law 966 = .ok (.iastore, 1) := by decide +kernel
theorem dL_law_967 : decode cL_law 967 = .ok (.dup, 1) := by decide +kernel
theorem dL_law_968 : decode cL_law 968 = .ok (.iconst 3, 1) := by decide +kernel
theorem dL_law_969 : decode cL_law 969 = .ok (.iconst 0, 1) := by decide +kernel
theorem dL_law_970 : decode cL_law 970 = .ok (.iastore, 1) := by decide +kernel
theorem dL_law_971 : decode cL_law 971 = .ok (.dup, 1) := by decide +kernel
theorem dL_law_972 : decode cL_law 972 = .ok (.iconst 4, 1) := by decide +kernel
theorem dL_law_973 : decode cL_law 973 = .ok (.iconst 0, 1) := by decide +kernel
theorem dL_law_974 : decode cL_law 974 = .ok (.iastore, 1) := by decide +kernel
theorem dL_law_975 : decode cL_law 975 = .ok (.invokestatic 228, 3) := by decide +kernel
theorem dL_law_978 : decode cL_law 978 = .ok (.ldc 15, 2) := by decide +kernel
theorem dL_law_980 : decode cL_law 980 = .ok (.if_icmp .ne 432, 3) := by decide +kernel
theorem dL_law_983 : decode cL_law 983 = .ok (.aload_n 1, 1) := by decide +kernel
theorem dL_law_984 : decode cL_law 984 = .ok (.iconst 5, 1) := by decide +kernel
theorem dL_law_985 : decode cL_law 985 = .ok (.newarray .int, 2) := by decide +kernel
theorem dL_law_987 : decode cL_law 987 = .ok (.dup, 1) := by decide +kernel
theorem dL_law_988 : decode cL_law 988 = .ok (.iconst 0, 1) := by decide +kernel
theorem dL_law_989 : decode cL_law 989 = .ok (.iconst (-1), 1) := by decide +kernel
theorem dL_law_990 : decode cL_law 990 = .ok (.iastore, 1) := by decide +kernel
theorem dL_law_991 : decode cL_law 991 = .ok (.dup, 1) := by decide +kernel
theorem dL_law_992 : decode cL_law 992 = .ok (.iconst 1, 1) := by decide +kernel
theorem dL_law_993 : decode cL_law 993 = .ok (.iconst 0, 1) := by decide +kernel
theorem dL_law_994 : decode cL_law 994 = .ok (.iastore, 1) := by decide +kernel
theorem dL_law_995 : decode cL_law 995 = .ok (.dup, 1) := by decide +kernel
theorem dL_law_996 : decode cL_law 996 = .ok (.iconst 2, 1) := by decide +kernel
theorem dL_law_997 : decode cL_law 997 = .ok (.iconst 0, 1) := by decide +kernel
theorem dL_law_998 : decode cL_law 998 = .ok (.iastore, 1) := by decide +kernel
theorem dL_law_999 : decode cL_law 999 = .ok (.dup, 1) := by decide +kernel
theorem dL_law_1000 : decode cL_law 1000 = .ok (.iconst 3, 1) := by decide +kernel
theorem dL_law_1001 : decode cL_law 1001 = .ok (.iconst 0, 1) := by decide +kernel
theorem dL_law_1002 : decode cL_law 1002 = .ok (.iastore, 1) := by decide +kernel
theorem dL_law_1003 : decode cL_law 1003 = .ok (.dup, 1) := by decide +kernel
theorem dL_law_1004 : decode cL_law 1004 = .ok (.iconst 4, 1) := by decide +kernel
theorem dL_law_1005 : decode cL_law 1005 = .ok (.iconst 0, 1) := by decide +kernel
theorem dL_law_1006 : decode cL_law 1006 = .ok (.iastore, 1) := by decide +kernel
theorem dL_law_1007 : decode cL_law 1007 = .ok (.invokestatic 228, 3) := by decide +kernel
theorem dL_law_1010 : decode cL_law 1010 = .ok (.ldc 15, 2) := by decide +kernel
theorem dL_law_1012 : decode cL_law 1012 = .ok (.if_icmp .ne 400, 3) := by decide +kernel
theorem dL_law_1015 : decode cL_law 1015 = .ok (.aload_n 1, 1) := by decide +kernel
theorem dL_law_1016 : decode cL_law 1016 = .ok (.iconst 5, 1) := by decide +kernel
theorem dL_law_1017 : decode cL_law 1017 = .ok (.newarray .int, 2) := by decide +kernel
theorem dL_law_1019 : decode cL_law 1019 = .ok (.dup, 1) := by decide +kernel
theorem dL_law_1020 : decode cL_law 1020 = .ok (.iconst 0, 1) := by decide +kernel
theorem dL_law_1021 : decode cL_law 1021 = .ok (.iconst 1, 1) := by decide +kernel
theorem dL_law_1022 : decode cL_law 1022 = .ok (.iastore, 1) := by decide +kernel
theorem dL_law_1023 : decode cL_law 1023 = .ok (.dup, 1) := by decide +kernel
theorem dL_law_1024 : decode cL_law 1024 = .ok (.iconst 1, 1) := by decide +kernel
theorem dL_law_1025 : decode cL_law 1025 = .ok (.bipush 8, 2) := by decide +kernel
theorem dL_law_1027 : decode cL_law 1027 = .ok (.iastore, 1) := by decide +kernel
theorem dL_law_1028 : decode cL_law 1028 = .ok (.dup, 1) := by decide +kernel
theorem dL_law_1029 : decode cL_law 1029 = .ok (.iconst 2, 1) := by decide +kernel
theorem dL_law_1030 : decode cL_law 1030 = .ok (.iconst 0, 1) := by decide +kernel
theorem dL_law_1031 : decode cL_law 1031 = .ok (.iastore, 1) := by decide +kernel
theorem dL_law_1032 : decode cL_law 1032 = .ok (.dup, 1) := by decide +kernel
theorem dL_law_1033 : decode cL_law 1033 = .ok (.iconst 3, 1) := by decide +kernel
theorem dL_law_1034 : decode cL_law 1034 = .ok (.iconst 0, 1) := by decide +kernel
theorem dL_law_1035 : decode cL_law 1035 = .ok (.iastore, 1) := by decide +kernel
theorem dL_law_1036 : decode cL_law 1036 = .ok (.dup, 1) := by decide +kernel
theorem dL_law_1037 : decode cL_law 1037 = .ok (.iconst 4, 1) := by decide +kernel
theorem dL_law_1038 : decode cL_law 1038 = .ok (.iconst 0, 1) := by decide +kernel
theorem dL_law_1039 : decode cL_law 1039 = .ok (.iastore, 1) := by decide +kernel
theorem dL_law_1040 : decode cL_law 1040 = .ok (.invokestatic 228, 3) := by decide +kernel
theorem dL_law_1043 : decode cL_law 1043 = .ok (.ldc 15, 2) := by decide +kernel
theorem dL_law_1045 : decode cL_law 1045 = .ok (.if_icmp .ne 367, 3) := by decide +kernel
theorem dL_law_1048 : decode cL_law 1048 = .ok (.aload_n 1, 1) := by decide +kernel
theorem dL_law_1049 : decode cL_law 1049 = .ok (.iconst 5, 1) := by decide +kernel
theorem dL_law_1050 : decode cL_law 1050 = .ok (.newarray .int, 2) := by decide +kernel
theorem dL_law_1052 : decode cL_law 1052 = .ok (.dup, 1) := by decide +kernel
theorem dL_law_1053 : decode cL_law 1053 = .ok (.iconst 0, 1) := by decide +kernel
theorem dL_law_1054 : decode cL_law 1054 = .ok (.iconst 1, 1) := by decide +kernel
theorem dL_law_1055 : decode cL_law 1055 = .ok (.iastore, 1) := by decide +kernel
theorem dL_law_1056 : decode cL_law 1056 = .ok (.dup, 1) := by decide +kernel
theorem dL_law_1057 : decode cL_law 1057 = .ok (.iconst 1, 1) := by decide +kernel
theorem dL_law_1058 : decode cL_law 1058 = .ok (.iconst 0, 1) := by decide +kernel
theorem dL_law_1059 : decode cL_law 1059 = .ok (.iastore, 1) := by decide +kernel
theorem dL_law_1060 : decode cL_law 1060 = .ok (.dup, 1) := by decide +kernel
theorem dL_law_1061 : decode cL_law 1061 = .ok (.iconst 2, 1) := by decide +kernel
theorem dL_law_1062 : decode cL_law 1062 = .ok (.iconst (-1), 1) := by decide +kernel
theorem dL_law_1063 : decode cL_law 1063 = .ok (.iastore, 1) := by decide +kernel
theorem dL_law_1064 : decode cL_law 1064 = .ok (.dup, 1) := by decide +kernel
theorem dL_law_1065 : decode cL_law 1065 = .ok (.iconst 3, 1) := by decide +kernel
theorem dL_law_1066 : decode cL_law 1066 = .ok (.iconst 0, 1) := by decide +kernel
theorem dL_law_1067 : decode cL_law 1067 = .ok (.iastore, 1) := by decide +kernel
theorem dL_law_1068 : decode cL_law 1068 = .ok (.dup, 1) := by decide +kernel
theorem dL_law_1069 : decode cL_law 1069 = .ok (.iconst 4, 1) := by decide +kernel
theorem dL_law_1070 : decode cL_law 1070 = .ok (.iconst 0, 1) := by decide +kernel
theorem dL_law_1071 : decode cL_law 1071 = .ok (.iastore, 1) := by decide +kernel
theorem dL_law_1072 : decode cL_law 1072 = .ok (.invokestatic 228, 3) := by decide +kernel
theorem dL_law_1075 : decode cL_law 1075 = .ok (.ldc 15, 2) := by decide +kernel
theorem dL_law_1077 : decode cL_law 1077 = .ok (.if_icmp .ne 335, 3) := by decide +kernel
theorem dL_law_1080 : decode cL_law 1080 = .ok (.aload_n 1, 1) := by decide +kernel
theorem dL_law_1081 : decode cL_law 1081 = .ok (.iconst 5, 1) := by decide +kernel
theorem dL_law_1082 : decode cL_law 1082 = .ok (.newarray .int, 2) := by decide +kernel
theorem dL_law_1084 : decode cL_law 1084 = .ok (.dup, 1) := by decide +kernel
theorem dL_law_1085 : decode cL_law 1085 = .ok (.iconst 0, 1) := by decide +kernel
theorem dL_law_1086 : decode cL_law 1086 = .ok (.iconst 1, 1) := by decide +kernel
theorem dL_law_1087 : decode cL_law 1087 = .ok (.iastore, 1) := by decide +kernel
theorem dL_law_1088 : decode cL_law 1088 = .ok (.dup, 1) := by decide +kernel
theorem dL_law_1089 : decode cL_law 1089 = .ok (.iconst 1, 1) := by decide +kernel
theorem dL_law_1090 : decode cL_law 1090 = .ok (.iconst 0, 1) := by decide +kernel
theorem dL_law_1091 : decode cL_law 1091 = .ok (.iastore, 1) := by decide +kernel
theorem dL_law_1092 : decode cL_law 1092 = .ok (.dup, 1) := by decide +kernel
theorem dL_law_1093 : decode cL_law 1093 = .ok (.iconst 2, 1) := by decide +kernel
theorem dL_law_1094 : decode cL_law 1094 = .ok (.iconst 0, 1) := by decide +kernel
theorem dL_law_1095 : decode cL_law 1095 = .ok (.iastore, 1) := by decide +kernel
theorem dL_law_1096 : decode cL_law 1096 = .ok (.dup, 1) := by decide +kernel
theorem dL_law_1097 : decode cL_law 1097 = .ok (.iconst 3, 1) := by decide +kernel
theorem dL_law_1098 : decode cL_law 1098 = .ok (.bipush 8, 2) := by decide +kernel
theorem dL_law_1100 : decode cL_law 1100 = .ok (.iastore, 1) := by decide +kernel
theorem dL_law_1101 : decode cL_law 1101 = .ok (.dup, 1) := by decide +kernel
theorem dL_law_1102 : decode cL_law 1102 = .ok (.iconst 4, 1) := by decide +kernel
theorem dL_law_1103 : decode cL_law 1103 = .ok (.iconst 0, 1) := by decide +kernel
theorem dL_law_1104 : decode cL_law 1104 = .ok (.iastore, 1) := by decide +kernel
theorem dL_law_1105 : decode cL_law 1105 = .ok (.invokestatic 228, 3) := by decide +kernel
theorem dL_law_1108 : decode cL_law 1108 = .ok (.ldc 15, 2) := by decide +kernel
theorem dL_law_1110 : decode cL_law 1110 = .ok (.if_icmp .ne 302, 3) := by decide +kernel
theorem dL_law_1113 : decode cL_law 1113 = .ok (.aload_n 1, 1) := by decide +kernel
theorem dL_law_1114 : decode cL_law 1114 = .ok (.iconst 5, 1) := by decide +kernel
theorem dL_law_1115 : decode cL_law 1115 = .ok (.newarray .int, 2) := by decide +kernel
theorem dL_law_1117 : decode cL_law 1117 = .ok (.dup, 1) := by decide +kernel
theorem dL_law_1118 : decode cL_law 1118 = .ok (.iconst 0, 1) := by decide +kernel
theorem dL_law_1119 : decode cL_law 1119 = .ok (.bipush 12, 2) := by decide +kernel
theorem dL_law_1121 : decode cL_law 1121 = .ok (.iastore, 1) := by decide +kernel
theorem dL_law_1122 : decode cL_law 1122 = .ok (.dup, 1) := by decide +kernel
theorem dL_law_1123 : decode cL_law 1123 = .ok (.iconst 1, 1) := by decide +kernel
theorem dL_law_1124 : decode cL_law 1124 = .ok (.iconst 0, 1) := by decide +kernel
theorem dL_law_1125 : decode cL_law 1125 = .ok (.iastore, 1) := by decide +kernel
theorem dL_law_1126 : decode cL_law 1126 = .ok (.dup, 1) := by decide +kernel
theorem dL_law_1127 : decode cL_law 1127 = .ok (.iconst 2, 1) := by decide +kernel
theorem dL_law_1128 : decode cL_law 1128 = .ok (.iconst 0, 1) := by decide +kernel
theorem dL_law_1129 : decode cL_law 1129 = .ok (.iastore, 1) := by decide +kernel
theorem dL_law_1130 : decode cL_law 1130 = .ok (.dup, 1) := by decide +kernel
theorem dL_law_1131 : decode cL_law 1131 = .ok (.iconst 3, 1) := by decide +kernel
theorem dL_law_1132 : decode cL_law 1132 = .ok (.iconst 0, 1) := by decide +kernel
theorem dL_law_1133 : decode cL_law 1133 = .ok (.iastore, 1) := by decide +kernel
theorem dL_law_1134 : decode cL_law 1134 = .ok (.dup, 1) := by decide +kernel
theorem dL_law_1135 : decode cL_law 1135 = .ok (.iconst 4, 1) := by decide +kernel
theorem dL_law_1136 : decode cL_law 1136 = .ok (.bipush 64, 2) := by decide +kernel
theorem dL_law_1138 : decode cL_law 1138 = .ok (.iastore, 1) := by decide +kernel
theorem dL_law_1139 : decode cL_law 1139 = .ok (.invokestatic 228, 3) := by decide +kernel
theorem dL_law_1142 : decode cL_law 1142 = .ok (.ldc 15, 2) := by decide +kernel
theorem dL_law_1144 : decode cL_law 1144 = .ok (.if_icmp .ne 268, 3) := by decide +kernel
theorem dL_law_1147 : decode cL_law 1147 = .ok (.aload_n 1, 1) := by decide +kernel
theorem dL_law_1148 : decode cL_law 1148 = .ok (.iconst 5, 1) := by decide +kernel
theorem dL_law_1149 : decode cL_law 1149 = .ok (.newarray .int, 2) := by decide +kernel
theorem dL_law_1151 : decode cL_law 1151 = .ok (.dup, 1) := by decide +kernel
theorem dL_law_1152 : decode cL_law 1152 = .ok (.iconst 0, 1) := by decide +kernel
theorem dL_law_1153 : decode cL_law 1153 = .ok (.bipush 15, 2) := by decide +kernel
theorem dL_law_1155 : decode cL_law 1155 = .ok (.iastore, 1) := by decide +kernel
theorem dL_law_1156 : decode cL_law 1156 = .ok (.dup, 1) := by decide +kernel
theorem dL_law_1157 : decode cL_law 1157 = .ok (.iconst 1, 1) := by decide +kernel
theorem dL_law_1158 : decode cL_law 1158 = .ok (.iconst 0, 1) := by decide +kernel
theorem dL_law_1159 : decode cL_law 1159 = .ok (.iastore, 1) := by decide +kernel
theorem dL_law_1160 : decode cL_law 1160 = .ok (.dup, 1) := by decide +kernel
theorem dL_law_1161 : decode cL_law 1161 = .ok (.iconst 2, 1) := by decide +kernel
theorem dL_law_1162 : decode cL_law 1162 = .ok (.iconst 0, 1) := by decide +kernel
theorem dL_law_1163 : decode cL_law 1163 = .ok (.iastore, 1) := by decide +kernel
theorem dL_law_1164 : decode cL_law 1164 = .ok (.dup, 1) := by decide +kernel
theorem dL_law_1165 : decode cL_law 1165 = .ok (.iconst 3, 1) := by decide +kernel
theorem dL_law_1166 : decode cL_law 1166 = .ok (.iconst 0, 1) := by decide +kernel
theorem dL_law_1167 : decode cL_law 1167 = .ok (.iastore, 1) := by decide +kernel
theorem dL_law_1168 : decode cL_law 1168 = .ok (.dup, 1) := by decide +kernel
theorem dL_law_1169 : decode cL_law 1169 = .ok (.iconst 4, 1) := by decide +kernel
theorem dL_law_1170 : decode cL_law 1170 = .ok (.iconst (-1), 1) := by decide +kernel
theorem dL_law_1171 : decode cL_law 1171 = .ok (.iastore, 1) := by decide +kernel
theorem dL_law_1172 : decode cL_law 1172 = .ok (.invokestatic 228, 3) := by decide +kernel
theorem dL_law_1175 : decode cL_law 1175 = .ok (.ldc 15, 2) := by decide +kernel
theorem dL_law_1177 : decode cL_law 1177 = .ok (.if_icmp .ne 235, 3) := by decide +kernel
theorem dL_law_1180 : decode cL_law 1180 = .ok (.aload_n 1, 1) := by decide +kernel
theorem dL_law_1181 : decode cL_law 1181 = .ok (.bipush 114, 2) := by decide +kernel
theorem dL_law_1183 : decode cL_law 1183 = .ok (.bipush 8, 2) := by decide +kernel
theorem dL_law_1185 : decode cL_law 1185 = .ok (.iconst 0, 1) := by decide +kernel
theorem dL_law_1186 : decode cL_law 1186 = .ok (.invokestatic 231, 3) := by decide +kernel
theorem dL_law_1189 : decode cL_law 1189 = .ok (.ldc 15, 2) := by decide +kernel
theorem dL_law_1191 : decode cL_law 1191 = .ok (.if_icmp .ne 221, 3) := by decide +kernel
theorem dL_law_1194 : decode cL_law 1194 = .ok (.aload_n 1, 1) := by decide +kernel
theorem dL_law_1195 : decode cL_law 1195 = .ok (.bipush 119, 2) := by decide +kernel
theorem dL_law_1197 : decode cL_law 1197 = .ok (.bipush 64, 2) := by decide +kernel
theorem dL_law_1199 : decode cL_law 1199 = .ok (.iconst 0, 1) := by decide +kernel
theorem dL_law_1200 : decode cL_law 1200 = .ok (.invokestatic 231, 3) := by decide +kernel
theorem dL_law_1203 : decode cL_law 1203 = .ok (.ldc 15, 2) := by decide +kernel
theorem dL_law_1205 : decode cL_law 1205 = .ok (.if_icmp .ne 207, 3) := by decide +kernel
theorem dL_law_1208 : decode cL_law 1208 = .ok (.aload_n 1, 1) := by decide +kernel
theorem dL_law_1209 : decode cL_law 1209 = .ok (.bipush 100, 2) := by decide +kernel
theorem dL_law_1211 : decode cL_law 1211 = .ok (.iconst 0, 1) := by decide +kernel
theorem dL_law_1212 : decode cL_law 1212 = .ok (.iconst 0, 1) := by decide +kernel
theorem dL_law_1213 : decode cL_law 1213 = .ok (.invokestatic 231, 3) := by decide +kernel
theorem dL_law_1216 : decode cL_law 1216 = .ok (.ldc 15, 2) := by decide +kernel
theorem dL_law_1218 : decode cL_law 1218 = .ok (.if_icmp .ne 194, 3) := by decide +kernel
theorem dL_law_1221 : decode cL_law 1221 = .ok (.aload_n 1, 1) := by decide +kernel
theorem dL_law_1222 : decode cL_law 1222 = .ok (.bipush 100, 2) := by decide +kernel
theorem dL_law_1224 : decode cL_law 1224 = .ok (.iconst 5, 1) := by decide +kernel
theorem dL_law_1225 : decode cL_law 1225 = .ok (.iconst 0, 1) := by decide +kernel
theorem dL_law_1226 : decode cL_law 1226 = .ok (.invokestatic 231, 3) := by decide +kernel
theorem dL_law_1229 : decode cL_law 1229 = .ok (.ldc 15, 2) := by decide +kernel
theorem dL_law_1231 : decode cL_law 1231 = .ok (.if_icmp .ne 181, 3) := by decide +kernel
theorem dL_law_1234 : decode cL_law 1234 = .ok (.aload_n 1, 1) := by decide +kernel
theorem dL_law_1235 : decode cL_law 1235 = .ok (.bipush 98, 2) := by decide +kernel
theorem dL_law_1237 : decode cL_law 1237 = .ok (.iconst 3, 1) := by decide +kernel
theorem dL_law_1238 : decode cL_law 1238 = .ok (.iconst 0, 1) := by decide +kernel
theorem dL_law_1239 : decode cL_law 1239 = .ok (.invokestatic 231, 3) := by decide +kernel
theorem dL_law_1242 : decode cL_law 1242 = .ok (.ldc 15, 2) := by decide +kernel
theorem dL_law_1244 : decode cL_law 1244 = .ok (.if_icmp .ne 168, 3) := by decide +kernel
theorem dL_law_1247 : decode cL_law 1247 = .ok (.aload_n 1, 1) := by decide +kernel
theorem dL_law_1248 : decode cL_law 1248 = .ok (.bipush 98, 2) := by decide +kernel
theorem dL_law_1250 : decode cL_law 1250 = .ok (.bipush 17, 2) := by decide +kernel
theorem dL_law_1252 : decode cL_law 1252 = .ok (.iconst 0, 1) := by decide +kernel
theorem dL_law_1253 : decode cL_law 1253 = .ok (.invokestatic 231, 3) := by decide +kernel
theorem dL_law_1256 : decode cL_law 1256 = .ok (.ldc 15, 2) := by decide +kernel
theorem dL_law_1258 : decode cL_law 1258 = .ok (.if_icmp .ne 154, 3) := by decide +kernel
theorem dL_law_1261 : decode cL_law 1261 = .ok (.aload_n 1, 1) := by decide +kernel
theorem dL_law_1262 : decode cL_law 1262 = .ok (.bipush 113, 2) := by decide +kernel
theorem dL_law_1264 : decode cL_law 1264 = .ok (.iconst 1, 1) := by decide +kernel
theorem dL_law_1265 : decode cL_law 1265 = .ok (.iconst 0, 1) := by decide +kernel
theorem dL_law_1266 : decode cL_law 1266 = .ok (.invokestatic 231, 3) := by decide +kernel
theorem dL_law_1269 : decode cL_law 1269 = .ok (.ldc 15, 2) := by decide +kernel
theorem dL_law_1271 : decode cL_law 1271 = .ok (.if_icmp .ne 141, 3) := by decide +kernel
theorem dL_law_1274 : decode cL_law 1274 = .ok (.aload_n 1, 1) := by decide +kernel
theorem dL_law_1275 : decode cL_law 1275 = .ok (.bipush 113, 2) := by decide +kernel
theorem dL_law_1277 : decode cL_law 1277 = .ok (.bipush 9, 2) := by decide +kernel
theorem dL_law_1279 : decode cL_law 1279 = .ok (.iconst 0, 1) := by decide +kernel
theorem dL_law_1280 : decode cL_law 1280 = .ok (.invokestatic 231, 3) := by decide +kernel
theorem dL_law_1283 : decode cL_law 1283 = .ok (.ldc 15, 2) := by decide +kernel
theorem dL_law_1285 : decode cL_law 1285 = .ok (.if_icmp .ne 127, 3) := by decide +kernel
theorem dL_law_1288 : decode cL_law 1288 = .ok (.aload_n 1, 1) := by decide +kernel
theorem dL_law_1289 : decode cL_law 1289 = .ok (.bipush 105, 2) := by decide +kernel
theorem dL_law_1291 : decode cL_law 1291 = .ok (.bipush 9, 2) := by decide +kernel
theorem dL_law_1293 : decode cL_law 1293 = .ok (.iconst 0, 1) := by decide +kernel
theorem dL_law_1294 : decode cL_law 1294 = .ok (.invokestatic 231, 3) := by decide +kernel
theorem dL_law_1297 : decode cL_law 1297 = .ok (.ldc 15, 2) := by decide +kernel
theorem dL_law_1299 : decode cL_law 1299 = .ok (.if_icmp .ne 113, 3) := by decide +kernel
theorem dL_law_1302 : decode cL_law 1302 = .ok (.aload_n 1, 1) := by decide +kernel
theorem dL_law_1303 : decode cL_law 1303 = .ok (.bipush 105, 2) := by decide +kernel
theorem dL_law_1305 : decode cL_law 1305 = .ok (.bipush 25, 2) := by decide +kernel
theorem dL_law_1307 : decode cL_law 1307 = .ok (.iconst 0, 1) := by decide +kernel
theorem dL_law_1308 : decode cL_law 1308 = .ok (.invokestatic 231, 3) := by decide +kernel
theorem dL_law_1311 : decode cL_law 1311 = .ok (.ldc 15, 2) := by decide +kernel
theorem dL_law_1313 : decode cL_law 1313 = .ok (.if_icmp .ne 99, 3) := by decide +kernel
theorem dL_law_1316 : decode cL_law 1316 = .ok (.aload_n 1, 1) := by decide +kernel
theorem dL_law_1317 : decode cL_law 1317 = .ok (.bipush 104, 2) := by decide +kernel
theorem dL_law_1319 : decode cL_law 1319 = .ok (.bipush (-2), 2) := by decide +kernel
theorem dL_law_1321 : decode cL_law 1321 = .ok (.iconst 0, 1) := by decide +kernel
theorem dL_law_1322 : decode cL_law 1322 = .ok (.invokestatic 231, 3) := by decide +kernel
theorem dL_law_1325 : decode cL_law 1325 = .ok (.ldc 15, 2) := by decide +kernel
theorem dL_law_1327 : decode cL_law 1327 = .ok (.if_icmp .ne 85, 3) := by decide +kernel
theorem dL_law_1330 : decode cL_law 1330 = .ok (.aload_n 1, 1) := by decide +kernel
theorem dL_law_1331 : decode cL_law 1331 = .ok (.bipush 104, 2) := by decide +kernel
theorem dL_law_1333 : decode cL_law 1333 = .ok (.iconst 0, 1) := by decide +kernel
theorem dL_law_1334 : decode cL_law 1334 = .ok (.bipush 64, 2) := by decide +kernel
theorem dL_law_1336 : decode cL_law 1336 = .ok (.invokestatic 231, 3) := by decide +kernel
theorem dL_law_1339 : decode cL_law 1339 = .ok (.ldc 15, 2) := by decide +kernel
theorem dL_law_1341 : decode cL_law 1341 = .ok (.if_icmp .ne 71, 3) := by decide +kernel
theorem dL_law_1344 : decode cL_law 1344 = .ok (.aload_n 1, 1) := by decide +kernel
theorem dL_law_1345 : decode cL_law 1345 = .ok (.bipush 116, 2) := by decide +kernel
theorem dL_law_1347 : decode cL_law 1347 = .ok (.bipush 16, 2) := by decide +kernel
theorem dL_law_1349 : decode cL_law 1349 = .ok (.iconst 1, 1) := by decide +kernel
theorem dL_law_1350 : decode cL_law 1350 = .ok (.invokestatic 231, 3) := by decide +kernel
theorem dL_law_1353 : decode cL_law 1353 = .ok (.ldc 15, 2) := by decide +kernel
theorem dL_law_1355 : decode cL_law 1355 = .ok (.if_icmp .ne 57, 3) := by decide +kernel
theorem dL_law_1358 : decode cL_law 1358 = .ok (.aload_n 1, 1) := by decide +kernel
theorem dL_law_1359 : decode cL_law 1359 = .ok (.bipush 116, 2) := by decide +kernel
theorem dL_law_1361 : decode cL_law 1361 = .ok (.iconst 0, 1) := by decide +kernel
theorem dL_law_1362 : decode cL_law 1362 = .ok (.bipush 31, 2) := by decide +kernel
theorem dL_law_1364 : decode cL_law 1364 = .ok (.invokestatic 231, 3) := by decide +kernel
theorem dL_law_1367 : decode cL_law 1367 = .ok (.ldc 15, 2) := by decide +kernel
theorem dL_law_1369 : decode cL_law 1369 = .ok (.if_icmp .ne 43, 3) := by decide +kernel
theorem dL_law_1372 : decode cL_law 1372 = .ok (.aload_n 1, 1) := by decide +kernel
theorem dL_law_1373 : decode cL_law 1373 = .ok (.bipush 116, 2) := by decide +kernel
theorem dL_law_1375 : decode cL_law 1375 = .ok (.iconst 0, 1) := by decide +kernel
theorem dL_law_1376 : decode cL_law 1376 = .ok (.iconst 0, 1) := by decide +kernel
theorem dL_law_1377 : decode cL_law 1377 = .ok (.invokestatic 231, 3) := by decide +kernel
theorem dL_law_1380 : decode cL_law 1380 = .ok (.ldc 15, 2) := by decide +kernel
theorem dL_law_1382 : decode cL_law 1382 = .ok (.if_icmp .ne 30, 3) := by decide +kernel
theorem dL_law_1385 : decode cL_law 1385 = .ok (.aload_n 1, 1) := by decide +kernel
theorem dL_law_1386 : decode cL_law 1386 = .ok (.bipush 99, 2) := by decide +kernel
theorem dL_law_1388 : decode cL_law 1388 = .ok (.iconst 0, 1) := by decide +kernel
theorem dL_law_1389 : decode cL_law 1389 = .ok (.iconst 0, 1) := by decide +kernel
theorem dL_law_1390 : decode cL_law 1390 = .ok (.invokestatic 231, 3) := by decide +kernel
theorem dL_law_1393 : decode cL_law 1393 = .ok (.ldc 15, 2) := by decide +kernel
theorem dL_law_1395 : decode cL_law 1395 = .ok (.if_icmp .ne 17, 3) := by decide +kernel
theorem dL_law_1398 : decode cL_law 1398 = .ok (.aload_n 1, 1) := by decide +kernel
theorem dL_law_1399 : decode cL_law 1399 = .ok (.bipush 99, 2) := by decide +kernel
theorem dL_law_1401 : decode cL_law 1401 = .ok (.bipush 61, 2) := by decide +kernel
theorem dL_law_1403 : decode cL_law 1403 = .ok (.iconst 0, 1) := by decide +kernel
theorem dL_law_1404 : decode cL_law 1404 = .ok (.invokestatic 231, 3) := by decide +kernel
theorem dL_law_1407 : decode cL_law 1407 = .ok (.ldc 15, 2) := by decide +kernel
theorem dL_law_1409 : decode cL_law 1409 = .ok (.if_icmp .eq 5, 3) := by decide +kernel
theorem dL_law_1414 : decode cL_law 1414 = .ok (.iconst 0, 1) := by decide +kernel
theorem dL_law_1415 : decode cL_law 1415 = .ok (.istore 9, 2) := by decide +kernel
theorem dL_law_1417 : decode cL_law 1417 = .ok (.iload 9, 2) := by decide +kernel
theorem dL_law_1419 : decode cL_law 1419 = .ok (.iconst 4, 1) := by decide +kernel
theorem dL_law_1420 : decode cL_law 1420 = .ok (.if_icmp .ge 48, 3) := by decide +kernel
theorem dL_law_1423 : decode cL_law 1423 = .ok (.aload_n 1, 1) := by decide +kernel
theorem dL_law_1424 : decode cL_law 1424 = .ok (.ldc_w 258, 3) := by decide +kernel
theorem dL_law_1427 : decode cL_law 1427 = .ok (.iload 9, 2) := by decide +kernel
theorem dL_law_1429 : decode cL_law 1429 = .ok (.invokevirtual 237, 3) := by decide +kernel
theorem dL_law_1432 : decode cL_law 1432 = .ok (.iload 8, 2) := by decide +kernel
theorem dL_law_1434 : decode cL_law 1434 = .ok (.invokestatic 249, 3) := by decide +kernel
theorem dL_law_1437 : decode cL_law 1437 = .ok (.ldc 82, 2) := by decide +kernel
theorem dL_law_1439 : decode cL_law 1439 = .ok (.if_icmp .ne 21, 3) := by decide +kernel
theorem dL_law_1442 : decode cL_law 1442 = .ok (.aload_n 1, 1) := by decide +kernel
theorem dL_law_1443 : decode cL_law 1443 = .ok (.ldc_w 258, 3) := by decide +kernel
theorem dL_law_1446 : decode cL_law 1446 = .ok (.iload 9, 2) := by decide +kernel
theorem dL_law_1448 : decode cL_law 1448 = .ok (.invokevirtual 237, 3) := by decide +kernel
theorem dL_law_1451 : decode cL_law 1451 = .ok (.iconst (-1), 1) := by decide +kernel
theorem dL_law_1452 : decode cL_law 1452 = .ok (.invokestatic 249, 3) := by decide +kernel
theorem dL_law_1455 : decode cL_law 1455 = .ok (.ldc 82, 2) := by decide +kernel
theorem dL_law_1457 : decode cL_law 1457 = .ok (.if_icmp .eq 5, 3) := by decide +kernel
theorem dL_law_1462 : decode cL_law 1462 = .ok (.iinc 9 1, 3) := by decide +kernel
theorem dL_law_1465 : decode cL_law 1465 = .ok (.goto (-48), 3) := by decide +kernel
theorem dL_law_1468 : decode cL_law 1468 = .ok (.aload_n 1, 1) := by decide +kernel
theorem dL_law_1469 : decode cL_law 1469 = .ok (.iload 8, 2) := by decide +kernel
theorem dL_law_1471 : decode cL_law 1471 = .ok (.iconst 0, 1) := by decide +kernel
theorem dL_law_1472 : decode cL_law 1472 = .ok (.invokestatic 260, 3) := by decide +kernel
theorem dL_law_1475 : decode cL_law 1475 = .ok (.ldc 82, 2) := by decide +kernel
theorem dL_law_1477 : decode cL_law 1477 = .ok (.if_icmp .ne 294, 3) := by decide +kernel
theorem dL_law_1480 : decode cL_law 1480 = .ok (.aload_n 1, 1) := by decide +kernel
theorem dL_law_1481 : decode cL_law 1481 = .ok (.iconst (-1), 1) := by decide +kernel
theorem dL_law_1482 : decode cL_law 1482 = .ok (.bipush 9, 2) := by decide +kernel
theorem dL_law_1484 : decode cL_law 1484 = .ok (.invokestatic 260, 3) := by decide +kernel
theorem dL_law_1487 : decode cL_law 1487 = .ok (.ldc 82, 2) := by decide +kernel
theorem dL_law_1489 : decode cL_law 1489 = .ok (.if_icmp .ne 282, 3) := by decide +kernel
theorem dL_law_1492 : decode cL_law 1492 = .ok (.iload 8, 2) := by decide +kernel
theorem dL_law_1494 : decode cL_law 1494 = .ok (.ifCond .eq 25, 3) := by decide +kernel
theorem dL_law_1497 : decode cL_law 1497 = .ok (.aload_n 1, 1) := by decide +kernel
theorem dL_law_1498 : decode cL_law 1498 = .ok (.iconst 0, 1) := by decide +kernel
theorem dL_law_1499 : decode cL_law 1499 = .ok (.iconst 5, 1) := by decide +kernel
theorem dL_law_1500 : decode cL_law 1500 = .ok (.invokestatic 260, 3) := by decide +kernel
theorem dL_law_1503 : decode cL_law 1503 = .ok (.ldc 15, 2) := by decide +kernel
theorem dL_law_1505 : decode cL_law 1505 = .ok (.if_icmp .ne 266, 3) := by decide +kernel
theorem dL_law_1508 : decode cL_law 1508 = .ok (.aload_n 1, 1) := by decide +kernel
theorem dL_law_1509 : decode cL_law 1509 = .ok (.iconst 0, 1) := by decide +kernel
theorem dL_law_1510 : decode cL_law 1510 = .ok (.iconst (-1), 1) := by decide +kernel
theorem dL_law_1511 : decode cL_law 1511 = .ok (.invokestatic 260, 3) := by decide +kernel
theorem dL_law_1514 : decode cL_law 1514 = .ok (.ldc 15, 2) := by decide +kernel
theorem dL_law_1516 : decode cL_law 1516 = .ok (.if_icmp .ne 255, 3) := by decide +kernel
theorem dL_law_1519 : decode cL_law 1519 = .ok (.aload_n 1, 1) := by decide +kernel
theorem dL_law_1520 : decode cL_law 1520 = .ok (.bipush 114, 2) := by decide +kernel
theorem dL_law_1522 : decode cL_law 1522 = .ok (.bipush 8, 2) := by decide +kernel
theorem dL_law_1524 : decode cL_law 1524 = .ok (.invokestatic 191, 3) := by decide +kernel
theorem dL_law_1527 : decode cL_law 1527 = .ok (.ldc 15, 2) := by decide +kernel
theorem dL_law_1529 : decode cL_law 1529 = .ok (.if_icmp .ne 242, 3) := by decide +kernel
theorem dL_law_1532 : decode cL_law 1532 = .ok (.aload_n 1, 1) := by decide +kernel
theorem dL_law_1533 : decode cL_law 1533 = .ok (.bipush 113, 2) := by decide +kernel
theorem dL_law_1535 : decode cL_law 1535 = .ok (.iconst (-1), 1) := by decide +kernel
theorem dL_law_1536 : decode cL_law 1536 = .ok (.invokestatic 191, 3) := by decide +kernel
theorem dL_law_1539 : decode cL_law 1539 = .ok (.ldc 15, 2) := by decide +kernel
theorem dL_law_1541 : decode cL_law 1541 = .ok (.if_icmp .ne 230, 3) := by decide +kernel
theorem dL_law_1544 : decode cL_law 1544 = .ok (.aload_n 1, 1) := by decide +kernel
theorem dL_law_1545 : decode cL_law 1545 = .ok (.bipush 119, 2) := by decide +kernel
theorem dL_law_1547 : decode cL_law 1547 = .ok (.bipush 64, 2) := by decide +kernel
theorem dL_law_1549 : decode cL_law 1549 = .ok (.invokestatic 191, 3) := by decide +kernel
theorem dL_law_1552 : decode cL_law 1552 = .ok (.ldc 15, 2) := by decide +kernel
theorem dL_law_1554 : decode cL_law 1554 = .ok (.if_icmp .ne 217, 3) := by decide +kernel
theorem dL_law_1557 : decode cL_law 1557 = .ok (.aload_n 1, 1) := by decide +kernel
theorem dL_law_1558 : decode cL_law 1558 = .ok (.bipush 118, 2) := by decide +kernel
theorem dL_law_1560 : decode cL_law 1560 = .ok (.iconst (-1), 1) := by decide +kernel
theorem dL_law_1561 : decode cL_law 1561 = .ok (.invokestatic 191, 3) := by decide +kernel
theorem dL_law_1564 : decode cL_law 1564 = .ok (.ldc 15, 2) := by decide +kernel
theorem dL_law_1566 : decode cL_law 1566 = .ok (.if_icmp .ne 205, 3) := by decide +kernel
theorem dL_law_1569 : decode cL_law 1569 = .ok (.aload_n 1, 1) := by decide +kernel
theorem dL_law_1570 : decode cL_law 1570 = .ok (.bipush 105, 2) := by decide +kernel
theorem dL_law_1572 : decode cL_law 1572 = .ok (.bipush 8, 2) := by decide +kernel
theorem dL_law_1574 : decode cL_law 1574 = .ok (.invokestatic 191, 3) := by decide +kernel
theorem dL_law_1577 : decode cL_law 1577 = .ok (.ldc 15, 2) := by decide +kernel
theorem dL_law_1579 : decode cL_law 1579 = .ok (.if_icmp .ne 192, 3) := by decide +kernel
theorem dL_law_1582 : decode cL_law 1582 = .ok (.aload_n 1, 1) := by decide +kernel
theorem dL_law_1583 : decode cL_law 1583 = .ok (.bipush 106, 2) := by decide +kernel
theorem dL_law_1585 : decode cL_law 1585 = .ok (.iconst (-1), 1) := by decide +kernel
theorem dL_law_1586 : decode cL_law 1586 = .ok (.invokestatic 191, 3) := by decide +kernel
theorem dL_law_1589 : decode cL_law 1589 = .ok (.ldc 15, 2) := by decide +kernel
theorem dL_law_1591 : decode cL_law 1591 = .ok (.if_icmp .ne 180, 3) := by decide +kernel
theorem dL_law_1594 : decode cL_law 1594 = .ok (.aload_n 1, 1) := by decide +kernel
theorem dL_law_1595 : decode cL_law 1595 = .ok (.bipush 99, 2) := by decide +kernel
theorem dL_law_1597 : decode cL_law 1597 = .ok (.bipush 16, 2) := by decide +kernel
theorem dL_law_1599 : decode cL_law 1599 = .ok (.invokestatic 191, 3) := by decide +kernel
theorem dL_law_1602 : decode cL_law 1602 = .ok (.ldc 15, 2) := by decide +kernel
theorem dL_law_1604 : decode cL_law 1604 = .ok (.if_icmp .ne 167, 3) := by decide +kernel
theorem dL_law_1607 : decode cL_law 1607 = .ok (.aload_n 1, 1) := by decide +kernel
theorem dL_law_1608 : decode cL_law 1608 = .ok (.bipush 109, 2) := by decide +kernel
theorem dL_law_1610 : decode cL_law 1610 = .ok (.iconst (-1), 1) := by decide +kernel
theorem dL_law_1611 : decode cL_law 1611 = .ok (.invokestatic 191, 3) := by decide +kernel
theorem dL_law_1614 : decode cL_law 1614 = .ok (.ldc 15, 2) := by decide +kernel
theorem dL_law_1616 : decode cL_law 1616 = .ok (.if_icmp .ne 155, 3) := by decide +kernel
theorem dL_law_1619 : decode cL_law 1619 = .ok (.aload_n 1, 1) := by decide +kernel
theorem dL_law_1620 : decode cL_law 1620 = .ok (.bipush 108, 2) := by decide +kernel
theorem dL_law_1622 : decode cL_law 1622 = .ok (.iconst 4, 1) := by decide +kernel
theorem dL_law_1623 : decode cL_law 1623 = .ok (.invokestatic 191, 3) := by decide +kernel
theorem dL_law_1626 : decode cL_law 1626 = .ok (.ldc 15, 2) := by decide +kernel
theorem dL_law_1628 : decode cL_law 1628 = .ok (.if_icmp .ne 143, 3) := by decide +kernel
theorem dL_law_1631 : decode cL_law 1631 = .ok (.aload_n 1, 1) := by decide +kernel
theorem dL_law_1632 : decode cL_law 1632 = .ok (.bipush 111, 2) := by decide +kernel
theorem dL_law_1634 : decode cL_law 1634 = .ok (.bipush 122, 2) := by decide +kernel
theorem dL_law_1636 : decode cL_law 1636 = .ok (.invokestatic 191, 3) := by decide +kernel
theorem dL_law_1639 : decode cL_law 1639 = .ok (.ldc 15, 2) := by decide +kernel
theorem dL_law_1641 : decode cL_law 1641 = .ok (.if_icmp .ne 130, 3) := by decide +kernel
theorem dL_law_1644 : decode cL_law 1644 = .ok (.aload_n 1, 1) := by decide +kernel
theorem dL_law_1645 : decode cL_law 1645 = .ok (.bipush 116, 2) := by decide +kernel
theorem dL_law_1647 : decode cL_law 1647 = .ok (.iload 5, 2) := by decide +kernel
theorem dL_law_1649 : decode cL_law 1649 = .ok (.invokestatic 249, 3) := by decide +kernel
theorem dL_law_1652 : decode cL_law 1652 = .ok (.ldc 82, 2) := by decide +kernel
theorem dL_law_1654 : decode cL_law 1654 = .ok (.if_icmp .ne 117, 3) := by decide +kernel
theorem dL_law_1657 : decode cL_law 1657 = .ok (.aload_n 1, 1) := by decide +kernel
theorem dL_law_1658 : decode cL_law 1658 = .ok (.bipush 121, 2) := by decide +kernel
theorem dL_law_1660 : decode cL_law 1660 = .ok (.iload 5, 2) := by decide +kernel
theorem dL_law_1662 : decode cL_law 1662 = .ok (.invokestatic 249, 3) := by decide +kernel
theorem dL_law_1665 : decode cL_law 1665 = .ok (.ldc 82, 2) := by decide +kernel
theorem dL_law_1667 : decode cL_law 1667 = .ok (.if_icmp .ne 104, 3) := by decide +kernel
theorem dL_law_1670 : decode cL_law 1670 = .ok (.aload_n 1, 1) := by decide +kernel
theorem dL_law_1671 : decode cL_law 1671 = .ok (.bipush 102, 2) := by decide +kernel
theorem dL_law_1673 : decode cL_law 1673 = .ok (.aload_n 1, 1) := by decide +kernel
theorem dL_law_1674 : decode cL_law 1674 = .ok (.invokevirtual 201, 3) := by decide +kernel
theorem dL_law_1677 : decode cL_law 1677 = .ok (.invokestatic 249, 3) := by decide +kernel
theorem dL_law_1680 : decode cL_law 1680 = .ok (.ldc 82, 2) := by decide +kernel
theorem dL_law_1682 : decode cL_law 1682 = .ok (.if_icmp .ne 89, 3) := by decide +kernel
theorem dL_law_1685 : decode cL_law 1685 = .ok (.aload_n 1, 1) := by decide +kernel
theorem dL_law_1686 : decode cL_law 1686 = .ok (.bipush 98, 2) := by decide +kernel
theorem dL_law_1688 : decode cL_law 1688 = .ok (.aload_n 1, 1) := by decide +kernel
theorem dL_law_1689 : decode cL_law 1689 = .ok (.invokevirtual 150, 3) := by decide +kernel
theorem dL_law_1692 : decode cL_law 1692 = .ok (.invokestatic 249, 3) := by decide +kernel
theorem dL_law_1695 : decode cL_law 1695 = .ok (.ldc 82, 2) := by decide +kernel
theorem dL_law_1697 : decode cL_law 1697 = .ok (.if_icmp .ne 74, 3) := by decide +kernel
theorem dL_law_1700 : decode cL_law 1700 = .ok (.aload_n 1, 1) := by decide +kernel
theorem dL_law_1701 : decode cL_law 1701 = .ok (.bipush 115, 2) := by decide +kernel
theorem dL_law_1703 : decode cL_law 1703 = .ok (.iconst (-1), 1) := by decide +kernel
theorem dL_law_1704 : decode cL_law 1704 = .ok (.invokestatic 249, 3) := by decide +kernel
theorem dL_law_1707 : decode cL_law 1707 = .ok (.ldc 82, 2) := by decide +kernel
theorem dL_law_1709 : decode cL_law 1709 = .ok (.if_icmp .ne 62, 3) := by decide +kernel
theorem dL_law_1712 : decode cL_law 1712 = .ok (.aload_n 1, 1) := by decide +kernel
theorem dL_law_1713 : decode cL_law 1713 = .ok (.bipush 114, 2) := by decide +kernel
theorem dL_law_1715 : decode cL_law 1715 = .ok (.aload_n 1, 1) := by decide +kernel
theorem dL_law_1716 : decode cL_law 1716 = .ok (.invokevirtual 165, 3) := by decide +kernel
theorem dL_law_1719 : decode cL_law 1719 = .ok (.invokestatic 249, 3) := by decide +kernel
theorem dL_law_1722 : decode cL_law 1722 = .ok (.ldc 82, 2) := by decide +kernel
theorem dL_law_1724 : decode cL_law 1724 = .ok (.if_icmp .ne 47, 3) := by decide +kernel
theorem dL_law_1727 : decode cL_law 1727 = .ok (.aload_n 1, 1) := by decide +kernel
theorem dL_law_1728 : decode cL_law 1728 = .ok (.invokestatic 263, 3) := by decide +kernel
theorem dL_law_1731 : decode cL_law 1731 = .ok (.ldc 131, 2) := by decide +kernel
theorem dL_law_1733 : decode cL_law 1733 = .ok (.fcmp .l, 1) := by decide +kernel
theorem dL_law_1734 : decode cL_law 1734 = .ok (.ifCond .ne 7, 3) := by decide +kernel
theorem dL_law_1737 : decode cL_law 1737 = .ok (.iconst 1, 1) := by decide +kernel
theorem dL_law_1738 : decode cL_law 1738 = .ok (.goto 4, 3) := by decide +kernel
theorem dL_law_1741 : decode cL_law 1741 = .ok (.iconst 0, 1) := by decide +kernel
theorem dL_law_1742 : decode cL_law 1742 = .ok (.aload_n 1, 1) := by decide +kernel
theorem dL_law_1743 : decode cL_law 1743 = .ok (.invokevirtual 140, 3) := by decide +kernel
theorem dL_law_1746 : decode cL_law 1746 = .ok (.ifCond .ne 7, 3) := by decide +kernel
theorem dL_law_1749 : decode cL_law 1749 = .ok (.iconst 1, 1) := by decide +kernel
theorem dL_law_1750 : decode cL_law 1750 = .ok (.goto 4, 3) := by decide +kernel
theorem dL_law_1753 : decode cL_law 1753 = .ok (.iconst 0, 1) := by decide +kernel
theorem dL_law_1754 : decode cL_law 1754 = .ok (.if_icmp .ne 17, 3) := by decide +kernel
theorem dL_law_1757 : decode cL_law 1757 = .ok (.aload_n 1, 1) := by decide +kernel
theorem dL_law_1758 : decode cL_law 1758 = .ok (.invokestatic 220, 3) := by decide +kernel
theorem dL_law_1761 : decode cL_law 1761 = .ok (.lload 6, 2) := by decide +kernel
theorem dL_law_1763 : decode cL_law 1763 = .ok (.lcmp, 1) := by decide +kernel
theorem dL_law_1764 : decode cL_law 1764 = .ok (.ifCond .ne 7, 3) := by decide +kernel
theorem dL_law_1767 : decode cL_law 1767 = .ok (.iconst 1, 1) := by decide +kernel
theorem dL_law_1768 : decode cL_law 1768 = .ok (.goto 4, 3) := by decide +kernel
/-- a new row of five ints, its values f -/
def RF5 (μ0 μ : Mm) (f : Nat → Int32) : Prop := mK μ (mN μ0) = 31 ∧ mL μ (mN μ0) = 5 ∧ NF μ0 μ ∧ ∀ j, j < 5 → mI μ (mN μ0) j = f j
theorem RF5.init {μ0 : Mm} : RF5 μ0 (nw μ0 31 (Int32.toNatClampNeg 5) (Int32.toNatClampNeg 5)) (fun _ => 0) := by
  have e : Int32.toNatClampNeg 5 = 5 := by decide
  rw [e]
  refine ⟨nw_K _ _ _ _, nw_L _ _ _ _, NF.new, fun j _ => ?_⟩
  rw [nw_I]
theorem RF5.put {μ0 μ : Mm} {f : Nat → Int32} {k : Nat} {v : Int32} (h : RF5 μ0 μ f) : RF5 μ0 (sI μ (mN μ0) k v) (up1 f k v) := by
  obtain ⟨h1, h2, h3, h4⟩ := h
  refine ⟨h1, h2, h3.putI (N := 0) (Nat.le_refl _), fun j hj => ?_⟩
  rw [mI_i]
  unfold up1
  by_cases e : j = k
  · rw [if_pos ⟨rfl, e⟩, if_pos e]
  · rw [if_neg (fun t => e t.2), if_neg e]
    exact h4 j hj
theorem RF5.iv {μ0 μ : Mm} {f : Nat → Int32} (h : RF5 μ0 μ f) : IV5 μ (mN μ0) (f 0) (f 1) (f 2) (f 3) (f 4) := ⟨h.1, h.2.1, h.2.2.2 0 (by decide), h.2.2.2 1 (by decide), h.2.2.2 2 (by decide), h.2.2.2 3 (by decide), h.2.2.2 4 (by decide)⟩
theorem lj_new5 {L : List (Nat × Value)} {st : List Value} {pc : Nat} {c2 s2 : Nat} (C : CW G mL_law p R s m meth c) (hG : Gok3 l G) (d : decode mL_law.cc pc = .ok (.newarray .int, 2)) (hc : 1 + c2 ≤ c1) (hs : 5 + s2 ≤ s1) (kk : ∀ μ2, RF5 μ μ2 (fun _ => 0) → LJ l G mL_law p e R s m args below meth c Q (pc + 2) L (.ref (mN μ) :: st) μ2 c2 s2) : LJ l G mL_law p e R s m args below meth c Q pc L (.int 5 :: st) μ c1 s1 := by
  have t5 : Int32.toNatClampNeg 5 = 5 := by decide
  exact lj_newa (at9 := .int) C 31 hG.1.1 w_ac_int (by decide) (Or.inl ⟨rfl, rfl⟩) (by decide) (by decide) d (c2 := c2) (s2 := s2) (by omega) (by rw [t5]; omega) (kk _ RF5.init)
theorem lj_ast5 {L : List (Nat × Value)} {st : List Value} {pc : Nat} {μ0 : Mm} {f : Nat → Int32} {i v : Int32} {j : Nat} (C : CW G mL_law p R s m meth c) (hG : Gok3 l G) (r : RF5 μ0 μ f) (hi : i = nI j) (hj : j < 5) (d : decode mL_law.cc pc = .ok (.iastore, 1)) (kk : ∀ μ2, RF5 μ0 μ2 (up1 f j v) → LJ l G mL_law p e R s m args below meth c Q (pc + 1) L st μ2 c1 s1) : LJ l G mL_law p e R s m args below meth c Q pc L (.int v :: .int i :: .ref (mN μ0) :: st) μ c1 s1 := by
  refine lj_iast C hG.1.1 r.1 (by decide) rfl (vin5 r.2.1 hj hi) d (kk _ ?_)
  have e : i.toNatClampNeg = j := by rw [hi]; exact clN (by omega)
  rw [e]
  exact r.put
theorem kAdd_1 : kAdd A false = 1 := if_pos rfl
theorem kSet_1 : kSet A false = 1 := if_pos rfl
theorem kRun_1 {x : Int32} (h : (!decide (x < 1) && decide (x ≤ 60)) = false) : kRun A x = 1 := by
  unfold kRun okR
  rw [h]
  rfl
theorem ix_n {k : Nat} : ix (nI k) k = false := by
  unfold ix
  rw [decide_eq_false Int32.lt_irrefl, Bool.and_false]
theorem ix_m1 {k : Nat} : ix (-1) k = false := by
  unfold ix
  rw [show decide ((-1 : Int32) < 0) = true by decide]
  rfl
theorem gvB {q : Bool} {v : Int32} (h : q = false) : gv (k01 q) v exIOB = -2000000001 := by
  rw [h]
  exact gv_IOB
theorem gvA {q : Bool} {v : Int32} (h : q = false) : gv (k01 q) v exIAE = -2000000002 := by
  rw [h]
  exact gv_IAE
theorem lv3_1 {x y : Int32} (h : ix x (aS A 14) = false) : lv3 A x y = -2000000001 := by
  have hk : kLife A x y = 1 := by unfold kLife; rw [if_pos h]
  unfold lv3
  rw [hk, if_neg (by decide), if_pos rfl]
  exact exv_IOB
theorem lv3_2 {x y : Int32} (h : ix x (aS A 14) = true) (h2 : ix y 5 = false) : lv3 A x y = -2000000002 := by
  have hk : kLife A x y = 2 := by unfold kLife; rw [h, if_neg (by decide), if_pos h2]
  unfold lv3
  rw [hk, if_neg (by decide), if_neg (by decide), if_pos rfl]
  exact exv_IAE
set_option maxRecDepth 100000 in
theorem fin_add (C : CW G mL_law p R s m meth c) (hG : Gok3 l G) {inn : Nat} (h : JC b z A μ) (kk : ∀ μ2, JC b z A μ2 → LJ l G mL_law p e R s m args below meth c Q 1180 [(8, .int (nI (aS A 14))), (6, .long (sumV A)), (5, .int (nI inn)), (1, .ref b)] [] μ2 (c1 + PC A) (s1 + PS A)) : LJ l G mL_law p e R s m args below meth c Q 950 [(8, .int (nI (aS A 14))), (6, .long (sumV A)), (5, .int (nI inn)), (1, .ref b)] [] μ (c1 + PC A + 21) (s1 + PS A + 2100) := by
  refine lj_aload_n C dL_law_950 rfl (q := 3) rfl ?_
  refine lj_iconst (v := 5) C dL_law_951 (by decide) ?_
  refine lj_wf fun wf1 => ?_
  refine lj_new5 (c2 := c1 + PC A + 20) (s2 := s1 + PS A + 2000) C hG dL_law_952 (by omega) (by omega) fun m1_0 r1_0 => ?_
  refine lj_dup C dL_law_954 rfl ?_
  refine lj_iconst (v := 0) C dL_law_955 (by decide) ?_
  refine lj_bipush (v := 22) C dL_law_956 (by decide) ?_
  refine lj_ast5 (j := 0) C hG r1_0 (by decide) (by decide) dL_law_958 fun m1_1 r1_1 => ?_
  refine lj_dup C dL_law_959 rfl ?_
  refine lj_iconst (v := 1) C dL_law_960 (by decide) ?_
  refine lj_iconst (v := 0) C dL_law_961 (by decide) ?_
  refine lj_ast5 (j := 1) C hG r1_1 (by decide) (by decide) dL_law_962 fun m1_2 r1_2 => ?_
  refine lj_dup C dL_law_963 rfl ?_
  refine lj_iconst (v := 2) C dL_law_964 (by decide) ?_
  refine lj_iconst (v := 0) C dL_law_965 (by decide) ?_
  refine lj_ast5 (j := 2) C hG r1_2 (by decide) (by decide) dL_law_966 fun m1_3 r1_3 => ?_
  refine lj_dup C dL_law_967 rfl ?_
  refine lj_iconst (v := 3) C dL_law_968 (by decide) ?_
  refine lj_iconst (v := 0) C dL_law_969 (by decide) ?_
  refine lj_ast5 (j := 3) C hG r1_3 (by decide) (by decide) dL_law_970 fun m1_4 r1_4 => ?_
  refine lj_dup C dL_law_971 rfl ?_
  refine lj_iconst (v := 4) C dL_law_972 (by decide) ?_
  refine lj_iconst (v := 0) C dL_law_973 (by decide) ?_
  refine lj_ast5 (j := 4) C hG r1_4 (by decide) (by decide) dL_law_974 fun m1_5 r1_5 => ?_
  refine lj_add (c2 := c1 + PC A + 18) (s2 := s1 + PS A + 1800) C hG.1 rfl ⟨by decide, by decide⟩ r1_5.iv (h.nf wf1 r1_5.2.2.1) (Nat.le_of_ble_eq_true rfl) dL_law_975 (by omega) (by omega) fun A1 μ1 e1 ha1 => ?_
  have ok1 : okC 22 0 0 0 0 = false := by decide
  rw [show okC ((up1 (up1 (up1 (up1 (up1 (fun _ => 0) 0 22) 1 0) 2 0) 3 0) 4 0) 0) ((up1 (up1 (up1 (up1 (up1 (fun _ => 0) 0 22) 1 0) 2 0) 3 0) 4 0) 1) ((up1 (up1 (up1 (up1 (up1 (fun _ => 0) 0 22) 1 0) 2 0) 3 0) 4 0) 2) ((up1 (up1 (up1 (up1 (up1 (fun _ => 0) 0 22) 1 0) 2 0) 3 0) 4 0) 3) ((up1 (up1 (up1 (up1 (up1 (fun _ => 0) 0 22) 1 0) 2 0) 3 0) 4 0) 4) = false from ok1, kAdd_1] at e1 ⊢
  rw [if_neg (by decide)] at e1
  have f1 := e1.symm
  subst f1
  rw [exv_oc1]
  refine lj_ldc C hG.1.1 lc_L_15 dL_law_978 ?_
  refine lj_icmp_ne_f (tgt := 1412) C dL_law_980 (by decide) rfl ?_
  refine lj_aload_n C dL_law_983 rfl (q := 3) rfl ?_
  refine lj_iconst (v := 5) C dL_law_984 (by decide) ?_
  refine lj_wf fun wf2 => ?_
  refine lj_new5 (c2 := c1 + PC A + 17) (s2 := s1 + PS A + 1700) C hG dL_law_985 (by omega) (by omega) fun m2_0 r2_0 => ?_
  refine lj_dup C dL_law_987 rfl ?_
  refine lj_iconst (v := 0) C dL_law_988 (by decide) ?_
  refine lj_iconst (v := (-1)) C dL_law_989 (by decide) ?_
  refine lj_ast5 (j := 0) C hG r2_0 (by decide) (by decide) dL_law_990 fun m2_1 r2_1 => ?_
  refine lj_dup C dL_law_991 rfl ?_
  refine lj_iconst (v := 1) C dL_law_992 (by decide) ?_
  refine lj_iconst (v := 0) C dL_law_993 (by decide) ?_
  refine lj_ast5 (j := 1) C hG r2_1 (by decide) (by decide) dL_law_994 fun m2_2 r2_2 => ?_
  refine lj_dup C dL_law_995 rfl ?_
  refine lj_iconst (v := 2) C dL_law_996 (by decide) ?_
  refine lj_iconst (v := 0) C dL_law_997 (by decide) ?_
  refine lj_ast5 (j := 2) C hG r2_2 (by decide) (by decide) dL_law_998 fun m2_3 r2_3 => ?_
  refine lj_dup C dL_law_999 rfl ?_
  refine lj_iconst (v := 3) C dL_law_1000 (by decide) ?_
  refine lj_iconst (v := 0) C dL_law_1001 (by decide) ?_
  refine lj_ast5 (j := 3) C hG r2_3 (by decide) (by decide) dL_law_1002 fun m2_4 r2_4 => ?_
  refine lj_dup C dL_law_1003 rfl ?_
  refine lj_iconst (v := 4) C dL_law_1004 (by decide) ?_
  refine lj_iconst (v := 0) C dL_law_1005 (by decide) ?_
  refine lj_ast5 (j := 4) C hG r2_4 (by decide) (by decide) dL_law_1006 fun m2_5 r2_5 => ?_
  refine lj_add (c2 := c1 + PC A + 15) (s2 := s1 + PS A + 1500) C hG.1 rfl ⟨by decide, by decide⟩ r2_5.iv (ha1.nf wf2 r2_5.2.2.1) (Nat.le_of_ble_eq_true rfl) dL_law_1007 (by omega) (by omega) fun A2 μ2 e2 ha2 => ?_
  have ok2 : okC ((-1)) 0 0 0 0 = false := by decide
  rw [show okC ((up1 (up1 (up1 (up1 (up1 (fun _ => 0) 0 ((-1))) 1 0) 2 0) 3 0) 4 0) 0) ((up1 (up1 (up1 (up1 (up1 (fun _ => 0) 0 ((-1))) 1 0) 2 0) 3 0) 4 0) 1) ((up1 (up1 (up1 (up1 (up1 (fun _ => 0) 0 ((-1))) 1 0) 2 0) 3 0) 4 0) 2) ((up1 (up1 (up1 (up1 (up1 (fun _ => 0) 0 ((-1))) 1 0) 2 0) 3 0) 4 0) 3) ((up1 (up1 (up1 (up1 (up1 (fun _ => 0) 0 ((-1))) 1 0) 2 0) 3 0) 4 0) 4) = false from ok2, kAdd_1] at e2 ⊢
  rw [if_neg (by decide)] at e2
  have f2 := e2.symm
  subst f2
  rw [exv_oc1]
  refine lj_ldc C hG.1.1 lc_L_15 dL_law_1010 ?_
  refine lj_icmp_ne_f (tgt := 1412) C dL_law_1012 (by decide) rfl ?_
  refine lj_aload_n C dL_law_1015 rfl (q := 3) rfl ?_
  refine lj_iconst (v := 5) C dL_law_1016 (by decide) ?_
  refine lj_wf fun wf3 => ?_
  refine lj_new5 (c2 := c1 + PC A + 14) (s2 := s1 + PS A + 1400) C hG dL_law_1017 (by omega) (by omega) fun m3_0 r3_0 => ?_
  refine lj_dup C dL_law_1019 rfl ?_
  refine lj_iconst (v := 0) C dL_law_1020 (by decide) ?_
  refine lj_iconst (v := 1) C dL_law_1021 (by decide) ?_
  refine lj_ast5 (j := 0) C hG r3_0 (by decide) (by decide) dL_law_1022 fun m3_1 r3_1 => ?_
  refine lj_dup C dL_law_1023 rfl ?_
  refine lj_iconst (v := 1) C dL_law_1024 (by decide) ?_
  refine lj_bipush (v := 8) C dL_law_1025 (by decide) ?_
  refine lj_ast5 (j := 1) C hG r3_1 (by decide) (by decide) dL_law_1027 fun m3_2 r3_2 => ?_
  refine lj_dup C dL_law_1028 rfl ?_
  refine lj_iconst (v := 2) C dL_law_1029 (by decide) ?_
  refine lj_iconst (v := 0) C dL_law_1030 (by decide) ?_
  refine lj_ast5 (j := 2) C hG r3_2 (by decide) (by decide) dL_law_1031 fun m3_3 r3_3 => ?_
  refine lj_dup C dL_law_1032 rfl ?_
  refine lj_iconst (v := 3) C dL_law_1033 (by decide) ?_
  refine lj_iconst (v := 0) C dL_law_1034 (by decide) ?_
  refine lj_ast5 (j := 3) C hG r3_3 (by decide) (by decide) dL_law_1035 fun m3_4 r3_4 => ?_
  refine lj_dup C dL_law_1036 rfl ?_
  refine lj_iconst (v := 4) C dL_law_1037 (by decide) ?_
  refine lj_iconst (v := 0) C dL_law_1038 (by decide) ?_
  refine lj_ast5 (j := 4) C hG r3_4 (by decide) (by decide) dL_law_1039 fun m3_5 r3_5 => ?_
  refine lj_add (c2 := c1 + PC A + 12) (s2 := s1 + PS A + 1200) C hG.1 rfl ⟨by decide, by decide⟩ r3_5.iv (ha2.nf wf3 r3_5.2.2.1) (Nat.le_of_ble_eq_true rfl) dL_law_1040 (by omega) (by omega) fun A3 μ3 e3 ha3 => ?_
  have ok3 : okC 1 8 0 0 0 = false := by decide
  rw [show okC ((up1 (up1 (up1 (up1 (up1 (fun _ => 0) 0 1) 1 8) 2 0) 3 0) 4 0) 0) ((up1 (up1 (up1 (up1 (up1 (fun _ => 0) 0 1) 1 8) 2 0) 3 0) 4 0) 1) ((up1 (up1 (up1 (up1 (up1 (fun _ => 0) 0 1) 1 8) 2 0) 3 0) 4 0) 2) ((up1 (up1 (up1 (up1 (up1 (fun _ => 0) 0 1) 1 8) 2 0) 3 0) 4 0) 3) ((up1 (up1 (up1 (up1 (up1 (fun _ => 0) 0 1) 1 8) 2 0) 3 0) 4 0) 4) = false from ok3, kAdd_1] at e3 ⊢
  rw [if_neg (by decide)] at e3
  have f3 := e3.symm
  subst f3
  rw [exv_oc1]
  refine lj_ldc C hG.1.1 lc_L_15 dL_law_1043 ?_
  refine lj_icmp_ne_f (tgt := 1412) C dL_law_1045 (by decide) rfl ?_
  refine lj_aload_n C dL_law_1048 rfl (q := 3) rfl ?_
  refine lj_iconst (v := 5) C dL_law_1049 (by decide) ?_
  refine lj_wf fun wf4 => ?_
  refine lj_new5 (c2 := c1 + PC A + 11) (s2 := s1 + PS A + 1100) C hG dL_law_1050 (by omega) (by omega) fun m4_0 r4_0 => ?_
  refine lj_dup C dL_law_1052 rfl ?_
  refine lj_iconst (v := 0) C dL_law_1053 (by decide) ?_
  refine lj_iconst (v := 1) C dL_law_1054 (by decide) ?_
  refine lj_ast5 (j := 0) C hG r4_0 (by decide) (by decide) dL_law_1055 fun m4_1 r4_1 => ?_
  refine lj_dup C dL_law_1056 rfl ?_
  refine lj_iconst (v := 1) C dL_law_1057 (by decide) ?_
  refine lj_iconst (v := 0) C dL_law_1058 (by decide) ?_
  refine lj_ast5 (j := 1) C hG r4_1 (by decide) (by decide) dL_law_1059 fun m4_2 r4_2 => ?_
  refine lj_dup C dL_law_1060 rfl ?_
  refine lj_iconst (v := 2) C dL_law_1061 (by decide) ?_
  refine lj_iconst (v := (-1)) C dL_law_1062 (by decide) ?_
  refine lj_ast5 (j := 2) C hG r4_2 (by decide) (by decide) dL_law_1063 fun m4_3 r4_3 => ?_
  refine lj_dup C dL_law_1064 rfl ?_
  refine lj_iconst (v := 3) C dL_law_1065 (by decide) ?_
  refine lj_iconst (v := 0) C dL_law_1066 (by decide) ?_
  refine lj_ast5 (j := 3) C hG r4_3 (by decide) (by decide) dL_law_1067 fun m4_4 r4_4 => ?_
  refine lj_dup C dL_law_1068 rfl ?_
  refine lj_iconst (v := 4) C dL_law_1069 (by decide) ?_
  refine lj_iconst (v := 0) C dL_law_1070 (by decide) ?_
  refine lj_ast5 (j := 4) C hG r4_4 (by decide) (by decide) dL_law_1071 fun m4_5 r4_5 => ?_
  refine lj_add (c2 := c1 + PC A + 9) (s2 := s1 + PS A + 900) C hG.1 rfl ⟨by decide, by decide⟩ r4_5.iv (ha3.nf wf4 r4_5.2.2.1) (Nat.le_of_ble_eq_true rfl) dL_law_1072 (by omega) (by omega) fun A4 μ4 e4 ha4 => ?_
  have ok4 : okC 1 0 ((-1)) 0 0 = false := by decide
  rw [show okC ((up1 (up1 (up1 (up1 (up1 (fun _ => 0) 0 1) 1 0) 2 ((-1))) 3 0) 4 0) 0) ((up1 (up1 (up1 (up1 (up1 (fun _ => 0) 0 1) 1 0) 2 ((-1))) 3 0) 4 0) 1) ((up1 (up1 (up1 (up1 (up1 (fun _ => 0) 0 1) 1 0) 2 ((-1))) 3 0) 4 0) 2) ((up1 (up1 (up1 (up1 (up1 (fun _ => 0) 0 1) 1 0) 2 ((-1))) 3 0) 4 0) 3) ((up1 (up1 (up1 (up1 (up1 (fun _ => 0) 0 1) 1 0) 2 ((-1))) 3 0) 4 0) 4) = false from ok4, kAdd_1] at e4 ⊢
  rw [if_neg (by decide)] at e4
  have f4 := e4.symm
  subst f4
  rw [exv_oc1]
  refine lj_ldc C hG.1.1 lc_L_15 dL_law_1075 ?_
  refine lj_icmp_ne_f (tgt := 1412) C dL_law_1077 (by decide) rfl ?_
  refine lj_aload_n C dL_law_1080 rfl (q := 3) rfl ?_
  refine lj_iconst (v := 5) C dL_law_1081 (by decide) ?_
  refine lj_wf fun wf5 => ?_
  refine lj_new5 (c2 := c1 + PC A + 8) (s2 := s1 + PS A + 800) C hG dL_law_1082 (by omega) (by omega) fun m5_0 r5_0 => ?_
  refine lj_dup C dL_law_1084 rfl ?_
  refine lj_iconst (v := 0) C dL_law_1085 (by decide) ?_
  refine lj_iconst (v := 1) C dL_law_1086 (by decide) ?_
  refine lj_ast5 (j := 0) C hG r5_0 (by decide) (by decide) dL_law_1087 fun m5_1 r5_1 => ?_
  refine lj_dup C dL_law_1088 rfl ?_
  refine lj_iconst (v := 1) C dL_law_1089 (by decide) ?_
  refine lj_iconst (v := 0) C dL_law_1090 (by decide) ?_
  refine lj_ast5 (j := 1) C hG r5_1 (by decide) (by decide) dL_law_1091 fun m5_2 r5_2 => ?_
  refine lj_dup C dL_law_1092 rfl ?_
  refine lj_iconst (v := 2) C dL_law_1093 (by decide) ?_
  refine lj_iconst (v := 0) C dL_law_1094 (by decide) ?_
  refine lj_ast5 (j := 2) C hG r5_2 (by decide) (by decide) dL_law_1095 fun m5_3 r5_3 => ?_
  refine lj_dup C dL_law_1096 rfl ?_
  refine lj_iconst (v := 3) C dL_law_1097 (by decide) ?_
  refine lj_bipush (v := 8) C dL_law_1098 (by decide) ?_
  refine lj_ast5 (j := 3) C hG r5_3 (by decide) (by decide) dL_law_1100 fun m5_4 r5_4 => ?_
  refine lj_dup C dL_law_1101 rfl ?_
  refine lj_iconst (v := 4) C dL_law_1102 (by decide) ?_
  refine lj_iconst (v := 0) C dL_law_1103 (by decide) ?_
  refine lj_ast5 (j := 4) C hG r5_4 (by decide) (by decide) dL_law_1104 fun m5_5 r5_5 => ?_
  refine lj_add (c2 := c1 + PC A + 6) (s2 := s1 + PS A + 600) C hG.1 rfl ⟨by decide, by decide⟩ r5_5.iv (ha4.nf wf5 r5_5.2.2.1) (Nat.le_of_ble_eq_true rfl) dL_law_1105 (by omega) (by omega) fun A5 μ5 e5 ha5 => ?_
  have ok5 : okC 1 0 0 8 0 = false := by decide
  rw [show okC ((up1 (up1 (up1 (up1 (up1 (fun _ => 0) 0 1) 1 0) 2 0) 3 8) 4 0) 0) ((up1 (up1 (up1 (up1 (up1 (fun _ => 0) 0 1) 1 0) 2 0) 3 8) 4 0) 1) ((up1 (up1 (up1 (up1 (up1 (fun _ => 0) 0 1) 1 0) 2 0) 3 8) 4 0) 2) ((up1 (up1 (up1 (up1 (up1 (fun _ => 0) 0 1) 1 0) 2 0) 3 8) 4 0) 3) ((up1 (up1 (up1 (up1 (up1 (fun _ => 0) 0 1) 1 0) 2 0) 3 8) 4 0) 4) = false from ok5, kAdd_1] at e5 ⊢
  rw [if_neg (by decide)] at e5
  have f5 := e5.symm
  subst f5
  rw [exv_oc1]
  refine lj_ldc C hG.1.1 lc_L_15 dL_law_1108 ?_
  refine lj_icmp_ne_f (tgt := 1412) C dL_law_1110 (by decide) rfl ?_
  refine lj_aload_n C dL_law_1113 rfl (q := 3) rfl ?_
  refine lj_iconst (v := 5) C dL_law_1114 (by decide) ?_
  refine lj_wf fun wf6 => ?_
  refine lj_new5 (c2 := c1 + PC A + 5) (s2 := s1 + PS A + 500) C hG dL_law_1115 (by omega) (by omega) fun m6_0 r6_0 => ?_
  refine lj_dup C dL_law_1117 rfl ?_
  refine lj_iconst (v := 0) C dL_law_1118 (by decide) ?_
  refine lj_bipush (v := 12) C dL_law_1119 (by decide) ?_
  refine lj_ast5 (j := 0) C hG r6_0 (by decide) (by decide) dL_law_1121 fun m6_1 r6_1 => ?_
  refine lj_dup C dL_law_1122 rfl ?_
  refine lj_iconst (v := 1) C dL_law_1123 (by decide) ?_
  refine lj_iconst (v := 0) C dL_law_1124 (by decide) ?_
  refine lj_ast5 (j := 1) C hG r6_1 (by decide) (by decide) dL_law_1125 fun m6_2 r6_2 => ?_
  refine lj_dup C dL_law_1126 rfl ?_
  refine lj_iconst (v := 2) C dL_law_1127 (by decide) ?_
  refine lj_iconst (v := 0) C dL_law_1128 (by decide) ?_
  refine lj_ast5 (j := 2) C hG r6_2 (by decide) (by decide) dL_law_1129 fun m6_3 r6_3 => ?_
  refine lj_dup C dL_law_1130 rfl ?_
  refine lj_iconst (v := 3) C dL_law_1131 (by decide) ?_
  refine lj_iconst (v := 0) C dL_law_1132 (by decide) ?_
  refine lj_ast5 (j := 3) C hG r6_3 (by decide) (by decide) dL_law_1133 fun m6_4 r6_4 => ?_
  refine lj_dup C dL_law_1134 rfl ?_
  refine lj_iconst (v := 4) C dL_law_1135 (by decide) ?_
  refine lj_bipush (v := 64) C dL_law_1136 (by decide) ?_
  refine lj_ast5 (j := 4) C hG r6_4 (by decide) (by decide) dL_law_1138 fun m6_5 r6_5 => ?_
  refine lj_add (c2 := c1 + PC A + 3) (s2 := s1 + PS A + 300) C hG.1 rfl ⟨by decide, by decide⟩ r6_5.iv (ha5.nf wf6 r6_5.2.2.1) (Nat.le_of_ble_eq_true rfl) dL_law_1139 (by omega) (by omega) fun A6 μ6 e6 ha6 => ?_
  have ok6 : okC 12 0 0 0 64 = false := by decide
  rw [show okC ((up1 (up1 (up1 (up1 (up1 (fun _ => 0) 0 12) 1 0) 2 0) 3 0) 4 64) 0) ((up1 (up1 (up1 (up1 (up1 (fun _ => 0) 0 12) 1 0) 2 0) 3 0) 4 64) 1) ((up1 (up1 (up1 (up1 (up1 (fun _ => 0) 0 12) 1 0) 2 0) 3 0) 4 64) 2) ((up1 (up1 (up1 (up1 (up1 (fun _ => 0) 0 12) 1 0) 2 0) 3 0) 4 64) 3) ((up1 (up1 (up1 (up1 (up1 (fun _ => 0) 0 12) 1 0) 2 0) 3 0) 4 64) 4) = false from ok6, kAdd_1] at e6 ⊢
  rw [if_neg (by decide)] at e6
  have f6 := e6.symm
  subst f6
  rw [exv_oc1]
  refine lj_ldc C hG.1.1 lc_L_15 dL_law_1142 ?_
  refine lj_icmp_ne_f (tgt := 1412) C dL_law_1144 (by decide) rfl ?_
  refine lj_aload_n C dL_law_1147 rfl (q := 3) rfl ?_
  refine lj_iconst (v := 5) C dL_law_1148 (by decide) ?_
  refine lj_wf fun wf7 => ?_
  refine lj_new5 (c2 := c1 + PC A + 2) (s2 := s1 + PS A + 200) C hG dL_law_1149 (by omega) (by omega) fun m7_0 r7_0 => ?_
  refine lj_dup C dL_law_1151 rfl ?_
  refine lj_iconst (v := 0) C dL_law_1152 (by decide) ?_
  refine lj_bipush (v := 15) C dL_law_1153 (by decide) ?_
  refine lj_ast5 (j := 0) C hG r7_0 (by decide) (by decide) dL_law_1155 fun m7_1 r7_1 => ?_
  refine lj_dup C dL_law_1156 rfl ?_
  refine lj_iconst (v := 1) C dL_law_1157 (by decide) ?_
  refine lj_iconst (v := 0) C dL_law_1158 (by decide) ?_
  refine lj_ast5 (j := 1) C hG r7_1 (by decide) (by decide) dL_law_1159 fun m7_2 r7_2 => ?_
  refine lj_dup C dL_law_1160 rfl ?_
  refine lj_iconst (v := 2) C dL_law_1161 (by decide) ?_
  refine lj_iconst (v := 0) C dL_law_1162 (by decide) ?_
  refine lj_ast5 (j := 2) C hG r7_2 (by decide) (by decide) dL_law_1163 fun m7_3 r7_3 => ?_
  refine lj_dup C dL_law_1164 rfl ?_
  refine lj_iconst (v := 3) C dL_law_1165 (by decide) ?_
  refine lj_iconst (v := 0) C dL_law_1166 (by decide) ?_
  refine lj_ast5 (j := 3) C hG r7_3 (by decide) (by decide) dL_law_1167 fun m7_4 r7_4 => ?_
  refine lj_dup C dL_law_1168 rfl ?_
  refine lj_iconst (v := 4) C dL_law_1169 (by decide) ?_
  refine lj_iconst (v := (-1)) C dL_law_1170 (by decide) ?_
  refine lj_ast5 (j := 4) C hG r7_4 (by decide) (by decide) dL_law_1171 fun m7_5 r7_5 => ?_
  refine lj_add (c2 := c1 + PC A + 0) (s2 := s1 + PS A + 0) C hG.1 rfl ⟨by decide, by decide⟩ r7_5.iv (ha6.nf wf7 r7_5.2.2.1) (Nat.le_of_ble_eq_true rfl) dL_law_1172 (by omega) (by omega) fun A7 μ7 e7 ha7 => ?_
  have ok7 : okC 15 0 0 0 ((-1)) = false := by decide
  rw [show okC ((up1 (up1 (up1 (up1 (up1 (fun _ => 0) 0 15) 1 0) 2 0) 3 0) 4 ((-1))) 0) ((up1 (up1 (up1 (up1 (up1 (fun _ => 0) 0 15) 1 0) 2 0) 3 0) 4 ((-1))) 1) ((up1 (up1 (up1 (up1 (up1 (fun _ => 0) 0 15) 1 0) 2 0) 3 0) 4 ((-1))) 2) ((up1 (up1 (up1 (up1 (up1 (fun _ => 0) 0 15) 1 0) 2 0) 3 0) 4 ((-1))) 3) ((up1 (up1 (up1 (up1 (up1 (fun _ => 0) 0 15) 1 0) 2 0) 3 0) 4 ((-1))) 4) = false from ok7, kAdd_1] at e7 ⊢
  rw [if_neg (by decide)] at e7
  have f7 := e7.symm
  subst f7
  rw [exv_oc1]
  refine lj_ldc C hG.1.1 lc_L_15 dL_law_1175 ?_
  refine lj_icmp_ne_f (tgt := 1412) C dL_law_1177 (by decide) rfl ?_
  exact lj_w (by omega) (by omega) (kk _ ha7)
set_option maxRecDepth 100000 in
theorem fin_set (C : CW G mL_law p R s m meth c) (hG : Gok3 l G) {inn : Nat} (h : JC b z A μ) (kk : ∀ μ2, JC b z A μ2 → LJ l G mL_law p e R s m args below meth c Q 1414 [(8, .int (nI (aS A 14))), (6, .long (sumV A)), (5, .int (nI inn)), (1, .ref b)] [] μ2 (c1 + PC A) (s1 + PS A)) : LJ l G mL_law p e R s m args below meth c Q 1180 [(8, .int (nI (aS A 14))), (6, .long (sumV A)), (5, .int (nI inn)), (1, .ref b)] [] μ (c1 + PC A + 30) (s1 + PS A + 2100) := by
  refine lj_aload_n C dL_law_1180 rfl (q := 3) rfl ?_
  refine lj_bipush (v := 114) C dL_law_1181 (by decide) ?_
  refine lj_bipush (v := 8) C dL_law_1183 (by decide) ?_
  refine lj_iconst (v := 0) C dL_law_1185 (by decide) ?_
  refine ls_r (c2 := c1 + PC A + 29) (s2 := s1 + PS A + 2030) C hG.1 rfl ⟨by decide, by decide⟩ h (Nat.le_of_ble_eq_true rfl) dL_law_1186 (by omega) (by omega) fun A1 μ1 e1 hs1 => ?_
  have k1 : (rok (8 : Int32)) = false := by decide
  rw [k1, kSet_1, if_neg (by decide)] at e1
  rw [k1, kSet_1, exv_oc1]
  have f1 := e1.symm
  subst f1
  refine lj_ldc C hG.1.1 lc_L_15 dL_law_1189 ?_
  refine lj_icmp_ne_f (tgt := 1412) C dL_law_1191 (by decide) rfl ?_
  refine lj_aload_n C dL_law_1194 rfl (q := 3) rfl ?_
  refine lj_bipush (v := 119) C dL_law_1195 (by decide) ?_
  refine lj_bipush (v := 64) C dL_law_1197 (by decide) ?_
  refine lj_iconst (v := 0) C dL_law_1199 (by decide) ?_
  refine ls_w (c2 := c1 + PC A + 28) (s2 := s1 + PS A + 1960) C hG.1 rfl ⟨by decide, by decide⟩ hs1 (Nat.le_of_ble_eq_true rfl) dL_law_1200 (by omega) (by omega) fun A2 μ2 e2 hs2 => ?_
  have k2 : (adok (64 : Int32)) = false := by decide
  rw [k2, kSet_1, if_neg (by decide)] at e2
  rw [k2, kSet_1, exv_oc1]
  have f2 := e2.symm
  subst f2
  refine lj_ldc C hG.1.1 lc_L_15 dL_law_1203 ?_
  refine lj_icmp_ne_f (tgt := 1412) C dL_law_1205 (by decide) rfl ?_
  refine lj_aload_n C dL_law_1208 rfl (q := 3) rfl ?_
  refine lj_bipush (v := 100) C dL_law_1209 (by decide) ?_
  refine lj_iconst (v := 0) C dL_law_1211 (by decide) ?_
  refine lj_iconst (v := 0) C dL_law_1212 (by decide) ?_
  refine ls_d (c2 := c1 + PC A + 27) (s2 := s1 + PS A + 1890) C hG.1 rfl ⟨by decide, by decide⟩ hs2 (Nat.le_of_ble_eq_true rfl) dL_law_1213 (by omega) (by omega) fun A3 μ3 e3 hs3 => ?_
  have k3 : (!decide ((0 : Int32) < 1) && decide ((0 : Int32) ≤ 4)) = false := by decide
  rw [k3, kSet_1, if_neg (by decide)] at e3
  rw [k3, kSet_1, exv_oc1]
  have f3 := e3.symm
  subst f3
  refine lj_ldc C hG.1.1 lc_L_15 dL_law_1216 ?_
  refine lj_icmp_ne_f (tgt := 1412) C dL_law_1218 (by decide) rfl ?_
  refine lj_aload_n C dL_law_1221 rfl (q := 3) rfl ?_
  refine lj_bipush (v := 100) C dL_law_1222 (by decide) ?_
  refine lj_iconst (v := 5) C dL_law_1224 (by decide) ?_
  refine lj_iconst (v := 0) C dL_law_1225 (by decide) ?_
  refine ls_d (c2 := c1 + PC A + 26) (s2 := s1 + PS A + 1820) C hG.1 rfl ⟨by decide, by decide⟩ hs3 (Nat.le_of_ble_eq_true rfl) dL_law_1226 (by omega) (by omega) fun A4 μ4 e4 hs4 => ?_
  have k4 : (!decide ((5 : Int32) < 1) && decide ((5 : Int32) ≤ 4)) = false := by decide
  rw [k4, kSet_1, if_neg (by decide)] at e4
  rw [k4, kSet_1, exv_oc1]
  have f4 := e4.symm
  subst f4
  refine lj_ldc C hG.1.1 lc_L_15 dL_law_1229 ?_
  refine lj_icmp_ne_f (tgt := 1412) C dL_law_1231 (by decide) rfl ?_
  refine lj_aload_n C dL_law_1234 rfl (q := 3) rfl ?_
  refine lj_bipush (v := 98) C dL_law_1235 (by decide) ?_
  refine lj_iconst (v := 3) C dL_law_1237 (by decide) ?_
  refine lj_iconst (v := 0) C dL_law_1238 (by decide) ?_
  refine ls_b (c2 := c1 + PC A + 25) (s2 := s1 + PS A + 1750) C hG.1 rfl ⟨by decide, by decide⟩ hs4 (Nat.le_of_ble_eq_true rfl) dL_law_1239 (by omega) (by omega) fun A5 μ5 e5 hs5 => ?_
  have k5 : (!decide ((3 : Int32) < 4) && decide ((3 : Int32) ≤ 16)) = false := by decide
  rw [k5, kSet_1, if_neg (by decide)] at e5
  rw [k5, kSet_1, exv_oc1]
  have f5 := e5.symm
  subst f5
  refine lj_ldc C hG.1.1 lc_L_15 dL_law_1242 ?_
  refine lj_icmp_ne_f (tgt := 1412) C dL_law_1244 (by decide) rfl ?_
  refine lj_aload_n C dL_law_1247 rfl (q := 3) rfl ?_
  refine lj_bipush (v := 98) C dL_law_1248 (by decide) ?_
  refine lj_bipush (v := 17) C dL_law_1250 (by decide) ?_
  refine lj_iconst (v := 0) C dL_law_1252 (by decide) ?_
  refine ls_b (c2 := c1 + PC A + 24) (s2 := s1 + PS A + 1680) C hG.1 rfl ⟨by decide, by decide⟩ hs5 (Nat.le_of_ble_eq_true rfl) dL_law_1253 (by omega) (by omega) fun A6 μ6 e6 hs6 => ?_
  have k6 : (!decide ((17 : Int32) < 4) && decide ((17 : Int32) ≤ 16)) = false := by decide
  rw [k6, kSet_1, if_neg (by decide)] at e6
  rw [k6, kSet_1, exv_oc1]
  have f6 := e6.symm
  subst f6
  refine lj_ldc C hG.1.1 lc_L_15 dL_law_1256 ?_
  refine lj_icmp_ne_f (tgt := 1412) C dL_law_1258 (by decide) rfl ?_
  refine lj_aload_n C dL_law_1261 rfl (q := 3) rfl ?_
  refine lj_bipush (v := 113) C dL_law_1262 (by decide) ?_
  refine lj_iconst (v := 1) C dL_law_1264 (by decide) ?_
  refine lj_iconst (v := 0) C dL_law_1265 (by decide) ?_
  refine ls_q (c2 := c1 + PC A + 23) (s2 := s1 + PS A + 1610) C hG.1 rfl ⟨by decide, by decide⟩ hs6 (Nat.le_of_ble_eq_true rfl) dL_law_1266 (by omega) (by omega) fun A7 μ7 e7 hs7 => ?_
  have k7 : (!decide ((1 : Int32) < 2) && decide ((1 : Int32) ≤ 8)) = false := by decide
  rw [k7, kSet_1, if_neg (by decide)] at e7
  rw [k7, kSet_1, exv_oc1]
  have f7 := e7.symm
  subst f7
  refine lj_ldc C hG.1.1 lc_L_15 dL_law_1269 ?_
  refine lj_icmp_ne_f (tgt := 1412) C dL_law_1271 (by decide) rfl ?_
  refine lj_aload_n C dL_law_1274 rfl (q := 3) rfl ?_
  refine lj_bipush (v := 113) C dL_law_1275 (by decide) ?_
  refine lj_bipush (v := 9) C dL_law_1277 (by decide) ?_
  refine lj_iconst (v := 0) C dL_law_1279 (by decide) ?_
  refine ls_q (c2 := c1 + PC A + 22) (s2 := s1 + PS A + 1540) C hG.1 rfl ⟨by decide, by decide⟩ hs7 (Nat.le_of_ble_eq_true rfl) dL_law_1280 (by omega) (by omega) fun A8 μ8 e8 hs8 => ?_
  have k8 : (!decide ((9 : Int32) < 2) && decide ((9 : Int32) ≤ 8)) = false := by decide
  rw [k8, kSet_1, if_neg (by decide)] at e8
  rw [k8, kSet_1, exv_oc1]
  have f8 := e8.symm
  subst f8
  refine lj_ldc C hG.1.1 lc_L_15 dL_law_1283 ?_
  refine lj_icmp_ne_f (tgt := 1412) C dL_law_1285 (by decide) rfl ?_
  refine lj_aload_n C dL_law_1288 rfl (q := 3) rfl ?_
  refine lj_bipush (v := 105) C dL_law_1289 (by decide) ?_
  refine lj_bipush (v := 9) C dL_law_1291 (by decide) ?_
  refine lj_iconst (v := 0) C dL_law_1293 (by decide) ?_
  refine ls_i (c2 := c1 + PC A + 21) (s2 := s1 + PS A + 1470) C hG.1 rfl ⟨by decide, by decide⟩ hs8 (Nat.le_of_ble_eq_true rfl) dL_law_1294 (by omega) (by omega) fun A9 μ9 e9 hs9 => ?_
  have k9 : (!decide ((9 : Int32) < 10) && decide ((9 : Int32) ≤ 24)) = false := by decide
  rw [k9, kSet_1, if_neg (by decide)] at e9
  rw [k9, kSet_1, exv_oc1]
  have f9 := e9.symm
  subst f9
  refine lj_ldc C hG.1.1 lc_L_15 dL_law_1297 ?_
  refine lj_icmp_ne_f (tgt := 1412) C dL_law_1299 (by decide) rfl ?_
  refine lj_aload_n C dL_law_1302 rfl (q := 3) rfl ?_
  refine lj_bipush (v := 105) C dL_law_1303 (by decide) ?_
  refine lj_bipush (v := 25) C dL_law_1305 (by decide) ?_
  refine lj_iconst (v := 0) C dL_law_1307 (by decide) ?_
  refine ls_i (c2 := c1 + PC A + 20) (s2 := s1 + PS A + 1400) C hG.1 rfl ⟨by decide, by decide⟩ hs9 (Nat.le_of_ble_eq_true rfl) dL_law_1308 (by omega) (by omega) fun A10 μ10 e10 hs10 => ?_
  have k10 : (!decide ((25 : Int32) < 10) && decide ((25 : Int32) ≤ 24)) = false := by decide
  rw [k10, kSet_1, if_neg (by decide)] at e10
  rw [k10, kSet_1, exv_oc1]
  have f10 := e10.symm
  subst f10
  refine lj_ldc C hG.1.1 lc_L_15 dL_law_1311 ?_
  refine lj_icmp_ne_f (tgt := 1412) C dL_law_1313 (by decide) rfl ?_
  refine lj_aload_n C dL_law_1316 rfl (q := 3) rfl ?_
  refine lj_bipush (v := 104) C dL_law_1317 (by decide) ?_
  refine lj_bipush (v := (-2)) C dL_law_1319 (by decide) ?_
  refine lj_iconst (v := 0) C dL_law_1321 (by decide) ?_
  refine ls_h (c2 := c1 + PC A + 19) (s2 := s1 + PS A + 1330) C hG.1 rfl ⟨by decide, by decide⟩ hs10 (Nat.le_of_ble_eq_true rfl) dL_law_1322 (by omega) (by omega) fun A11 μ11 e11 hs11 => ?_
  have k11 : (okH ((-2) : Int32) && okH (0 : Int32)) = false := by decide
  rw [k11, kSet_1, if_neg (by decide)] at e11
  rw [k11, kSet_1, exv_oc1]
  have f11 := e11.symm
  subst f11
  refine lj_ldc C hG.1.1 lc_L_15 dL_law_1325 ?_
  refine lj_icmp_ne_f (tgt := 1412) C dL_law_1327 (by decide) rfl ?_
  refine lj_aload_n C dL_law_1330 rfl (q := 3) rfl ?_
  refine lj_bipush (v := 104) C dL_law_1331 (by decide) ?_
  refine lj_iconst (v := 0) C dL_law_1333 (by decide) ?_
  refine lj_bipush (v := 64) C dL_law_1334 (by decide) ?_
  refine ls_h (c2 := c1 + PC A + 18) (s2 := s1 + PS A + 1260) C hG.1 rfl ⟨by decide, by decide⟩ hs11 (Nat.le_of_ble_eq_true rfl) dL_law_1336 (by omega) (by omega) fun A12 μ12 e12 hs12 => ?_
  have k12 : (okH (0 : Int32) && okH (64 : Int32)) = false := by decide
  rw [k12, kSet_1, if_neg (by decide)] at e12
  rw [k12, kSet_1, exv_oc1]
  have f12 := e12.symm
  subst f12
  refine lj_ldc C hG.1.1 lc_L_15 dL_law_1339 ?_
  refine lj_icmp_ne_f (tgt := 1412) C dL_law_1341 (by decide) rfl ?_
  refine lj_aload_n C dL_law_1344 rfl (q := 3) rfl ?_
  refine lj_bipush (v := 116) C dL_law_1345 (by decide) ?_
  refine lj_bipush (v := 16) C dL_law_1347 (by decide) ?_
  refine lj_iconst (v := 1) C dL_law_1349 (by decide) ?_
  refine ls_t (c2 := c1 + PC A + 17) (s2 := s1 + PS A + 1190) C hG.1 rfl ⟨by decide, by decide⟩ hs12 (Nat.le_of_ble_eq_true rfl) dL_law_1350 (by omega) (by omega) fun A13 μ13 e13 hs13 => ?_
  have k13 : kTm 16 1 = 1 := by decide
  rw [k13, if_neg (by decide)] at e13
  rw [k13, exv_oc1]
  have f13 := e13.symm
  subst f13
  refine lj_ldc C hG.1.1 lc_L_15 dL_law_1353 ?_
  refine lj_icmp_ne_f (tgt := 1412) C dL_law_1355 (by decide) rfl ?_
  refine lj_aload_n C dL_law_1358 rfl (q := 3) rfl ?_
  refine lj_bipush (v := 116) C dL_law_1359 (by decide) ?_
  refine lj_iconst (v := 0) C dL_law_1361 (by decide) ?_
  refine lj_bipush (v := 31) C dL_law_1362 (by decide) ?_
  refine ls_t (c2 := c1 + PC A + 16) (s2 := s1 + PS A + 1120) C hG.1 rfl ⟨by decide, by decide⟩ hs13 (Nat.le_of_ble_eq_true rfl) dL_law_1364 (by omega) (by omega) fun A14 μ14 e14 hs14 => ?_
  have k14 : kTm 0 31 = 1 := by decide
  rw [k14, if_neg (by decide)] at e14
  rw [k14, exv_oc1]
  have f14 := e14.symm
  subst f14
  refine lj_ldc C hG.1.1 lc_L_15 dL_law_1367 ?_
  refine lj_icmp_ne_f (tgt := 1412) C dL_law_1369 (by decide) rfl ?_
  refine lj_aload_n C dL_law_1372 rfl (q := 3) rfl ?_
  refine lj_bipush (v := 116) C dL_law_1373 (by decide) ?_
  refine lj_iconst (v := 0) C dL_law_1375 (by decide) ?_
  refine lj_iconst (v := 0) C dL_law_1376 (by decide) ?_
  refine ls_t (c2 := c1 + PC A + 15) (s2 := s1 + PS A + 1050) C hG.1 rfl ⟨by decide, by decide⟩ hs14 (Nat.le_of_ble_eq_true rfl) dL_law_1377 (by omega) (by omega) fun A15 μ15 e15 hs15 => ?_
  have k15 : kTm 0 0 = 1 := by decide
  rw [k15, if_neg (by decide)] at e15
  rw [k15, exv_oc1]
  have f15 := e15.symm
  subst f15
  refine lj_ldc C hG.1.1 lc_L_15 dL_law_1380 ?_
  refine lj_icmp_ne_f (tgt := 1412) C dL_law_1382 (by decide) rfl ?_
  refine lj_aload_n C dL_law_1385 rfl (q := 3) rfl ?_
  refine lj_bipush (v := 99) C dL_law_1386 (by decide) ?_
  refine lj_iconst (v := 0) C dL_law_1388 (by decide) ?_
  refine lj_iconst (v := 0) C dL_law_1389 (by decide) ?_
  refine lj_w (c2 := c1 + 10 + 4 + PC A) (s2 := s1 + 700 + 220 + PS A) (by omega) (by omega) ?_
  refine ls_c (c2 := c1 + 10) (s2 := s1 + 700) C hG.1 rfl ⟨by decide, by decide⟩ hs15 (Nat.le_of_ble_eq_true rfl) dL_law_1390 fun A16 μ16 rn16 hs16 => ?_
  have k16 : kRun A 0 = 1 := kRun_1 (by decide)
  have e16 : A16 = A := by rw [rn16.1, k16, if_neg (by decide)]
  have f16 := e16.symm
  subst f16
  rw [k16, exv_oc1]
  refine lj_w (c2 := c1 + PC A + 10) (s2 := s1 + PS A + 700) (by omega) (by omega) ?_
  refine lj_ldc C hG.1.1 lc_L_15 dL_law_1393 ?_
  refine lj_icmp_ne_f (tgt := 1412) C dL_law_1395 (by decide) rfl ?_
  refine lj_aload_n C dL_law_1398 rfl (q := 3) rfl ?_
  refine lj_bipush (v := 99) C dL_law_1399 (by decide) ?_
  refine lj_bipush (v := 61) C dL_law_1401 (by decide) ?_
  refine lj_iconst (v := 0) C dL_law_1403 (by decide) ?_
  refine lj_w (c2 := c1 + 5 + 4 + PC A) (s2 := s1 + 350 + 220 + PS A) (by omega) (by omega) ?_
  refine ls_c (c2 := c1 + 5) (s2 := s1 + 350) C hG.1 rfl ⟨by decide, by decide⟩ hs16 (Nat.le_of_ble_eq_true rfl) dL_law_1404 fun A17 μ17 rn17 hs17 => ?_
  have k17 : kRun A 61 = 1 := kRun_1 (by decide)
  have e17 : A17 = A := by rw [rn17.1, k17, if_neg (by decide)]
  have f17 := e17.symm
  subst f17
  rw [k17, exv_oc1]
  refine lj_w (c2 := c1 + PC A + 5) (s2 := s1 + PS A + 350) (by omega) (by omega) ?_
  refine lj_ldc C hG.1.1 lc_L_15 dL_law_1407 ?_
  refine lj_icmp_eq_t (tgt := 1414) C dL_law_1409 (by decide) rfl ?_
  exact lj_w (by omega) (by omega) (kk _ hs17)
set_option maxRecDepth 100000 in
theorem fin_at (C : CW G mL_law p R s m meth c) (hG : Gok3 l G) {inn : Nat} (h : JC b z A μ) (kk : ∀ μ2, JC b z A μ2 → LJ l G mL_law p e R s m args below meth c Q 1468 [(8, .int (nI (aS A 14))), (6, .long (sumV A)), (5, .int (nI inn)), (1, .ref b)] [] μ2 (c1 + PC A) (s1 + PS A)) : LJ l G mL_law p e R s m args below meth c Q 1414 [(8, .int (nI (aS A 14))), (6, .long (sumV A)), (5, .int (nI inn)), (1, .ref b)] [] μ (c1 + PC A + 8) (s1 + PS A + 160) := by
  obtain ⟨q2, ht⟩ := hG.2.2.2
  refine lj_iconst (v := 0) C dL_law_1414 (by decide) ?_
  refine lj_istore C dL_law_1415 (by decide) rfl ?_
  refine lj_iload C dL_law_1417 (q := 0) rfl ?_
  refine lj_iconst (v := 4) C dL_law_1419 (by decide) ?_
  refine lj_icmp_ge_f (tgt := 1468) C dL_law_1420 (by decide) (by decide) ?_
  refine lj_aload_n C dL_law_1423 rfl (q := 4) rfl ?_
  refine lj_ldcwS C hG.2.2.1 rfl dL_law_1424 ?_
  refine lj_iload C dL_law_1427 (q := 0) rfl ?_
  refine lj_charAt (j := 0) C hG.1.1 rfl ⟨by decide, by decide⟩ ht (by decide) tx4_zc (by decide) (by decide) (Nat.le_of_ble_eq_true rfl) dL_law_1429 ?_
  rw [show tx4.getD 0 0 = 107 from rfl]
  refine lj_iload C dL_law_1432 (q := 1) rfl ?_
  refine la_k (c2 := c1 + PC A + 7) (s2 := s1 + PS A + 140) C hG.1 rfl ⟨by decide, by decide⟩ h (Nat.le_of_ble_eq_true rfl) dL_law_1434 (by omega) (by omega) fun mh1 h1 => ?_
  refine lj_ldc C hG.1.1 lc_L_82 dL_law_1437 ?_
  refine lj_icmp_ne_f (tgt := 1460) C dL_law_1439 (by decide) (gvB ix_n) ?_
  refine lj_aload_n C dL_law_1442 rfl (q := 4) rfl ?_
  refine lj_ldcwS C hG.2.2.1 rfl dL_law_1443 ?_
  refine lj_iload C dL_law_1446 (q := 0) rfl ?_
  refine lj_charAt (j := 0) C hG.1.1 rfl ⟨by decide, by decide⟩ ht (by decide) tx4_zc (by decide) (by decide) (Nat.le_of_ble_eq_true rfl) dL_law_1448 ?_
  rw [show tx4.getD 0 0 = 107 from rfl]
  refine lj_iconst (v := (-1)) C dL_law_1451 (by decide) ?_
  refine la_k (c2 := c1 + PC A + 6) (s2 := s1 + PS A + 120) C hG.1 rfl ⟨by decide, by decide⟩ h1 (Nat.le_of_ble_eq_true rfl) dL_law_1452 (by omega) (by omega) fun mh2 h2 => ?_
  refine lj_ldc C hG.1.1 lc_L_82 dL_law_1455 ?_
  refine lj_icmp_eq_t (tgt := 1462) C dL_law_1457 (by decide) (gvB ix_m1) ?_
  refine lj_iinc (v := 1) C dL_law_1462 (q := 0) rfl (by decide) (by decide) rfl ?_
  refine lj_goto (tgt := 1417) C dL_law_1465 (by decide) ?_
  refine lj_iload C dL_law_1417 (q := 0) rfl ?_
  refine lj_iconst (v := 4) C dL_law_1419 (by decide) ?_
  refine lj_icmp_ge_f (tgt := 1468) C dL_law_1420 (by decide) (by decide) ?_
  refine lj_aload_n C dL_law_1423 rfl (q := 4) rfl ?_
  refine lj_ldcwS C hG.2.2.1 rfl dL_law_1424 ?_
  refine lj_iload C dL_law_1427 (q := 0) rfl ?_
  refine lj_charAt (j := 1) C hG.1.1 rfl ⟨by decide, by decide⟩ ht (by decide) tx4_zc (by decide) (by decide) (Nat.le_of_ble_eq_true rfl) dL_law_1429 ?_
  rw [show tx4.getD 1 0 = 112 from rfl]
  refine lj_iload C dL_law_1432 (q := 1) rfl ?_
  refine la_p (c2 := c1 + PC A + 5) (s2 := s1 + PS A + 100) C hG.1 rfl ⟨by decide, by decide⟩ h2 (Nat.le_of_ble_eq_true rfl) dL_law_1434 (by omega) (by omega) fun mh3 h3 => ?_
  refine lj_ldc C hG.1.1 lc_L_82 dL_law_1437 ?_
  refine lj_icmp_ne_f (tgt := 1460) C dL_law_1439 (by decide) (gvB ix_n) ?_
  refine lj_aload_n C dL_law_1442 rfl (q := 4) rfl ?_
  refine lj_ldcwS C hG.2.2.1 rfl dL_law_1443 ?_
  refine lj_iload C dL_law_1446 (q := 0) rfl ?_
  refine lj_charAt (j := 1) C hG.1.1 rfl ⟨by decide, by decide⟩ ht (by decide) tx4_zc (by decide) (by decide) (Nat.le_of_ble_eq_true rfl) dL_law_1448 ?_
  rw [show tx4.getD 1 0 = 112 from rfl]
  refine lj_iconst (v := (-1)) C dL_law_1451 (by decide) ?_
  refine la_p (c2 := c1 + PC A + 4) (s2 := s1 + PS A + 80) C hG.1 rfl ⟨by decide, by decide⟩ h3 (Nat.le_of_ble_eq_true rfl) dL_law_1452 (by omega) (by omega) fun mh4 h4 => ?_
  refine lj_ldc C hG.1.1 lc_L_82 dL_law_1455 ?_
  refine lj_icmp_eq_t (tgt := 1462) C dL_law_1457 (by decide) (gvB ix_m1) ?_
  refine lj_iinc (v := 2) C dL_law_1462 (q := 0) rfl (by decide) (by decide) rfl ?_
  refine lj_goto (tgt := 1417) C dL_law_1465 (by decide) ?_
  refine lj_iload C dL_law_1417 (q := 0) rfl ?_
  refine lj_iconst (v := 4) C dL_law_1419 (by decide) ?_
  refine lj_icmp_ge_f (tgt := 1468) C dL_law_1420 (by decide) (by decide) ?_
  refine lj_aload_n C dL_law_1423 rfl (q := 4) rfl ?_
  refine lj_ldcwS C hG.2.2.1 rfl dL_law_1424 ?_
  refine lj_iload C dL_law_1427 (q := 0) rfl ?_
  refine lj_charAt (j := 2) C hG.1.1 rfl ⟨by decide, by decide⟩ ht (by decide) tx4_zc (by decide) (by decide) (Nat.le_of_ble_eq_true rfl) dL_law_1429 ?_
  rw [show tx4.getD 2 0 = 108 from rfl]
  refine lj_iload C dL_law_1432 (q := 1) rfl ?_
  refine la_l (c2 := c1 + PC A + 3) (s2 := s1 + PS A + 60) C hG.1 rfl ⟨by decide, by decide⟩ h4 (Nat.le_of_ble_eq_true rfl) dL_law_1434 (by omega) (by omega) fun mh5 h5 => ?_
  refine lj_ldc C hG.1.1 lc_L_82 dL_law_1437 ?_
  refine lj_icmp_ne_f (tgt := 1460) C dL_law_1439 (by decide) (gvB ix_n) ?_
  refine lj_aload_n C dL_law_1442 rfl (q := 4) rfl ?_
  refine lj_ldcwS C hG.2.2.1 rfl dL_law_1443 ?_
  refine lj_iload C dL_law_1446 (q := 0) rfl ?_
  refine lj_charAt (j := 2) C hG.1.1 rfl ⟨by decide, by decide⟩ ht (by decide) tx4_zc (by decide) (by decide) (Nat.le_of_ble_eq_true rfl) dL_law_1448 ?_
  rw [show tx4.getD 2 0 = 108 from rfl]
  refine lj_iconst (v := (-1)) C dL_law_1451 (by decide) ?_
  refine la_l (c2 := c1 + PC A + 2) (s2 := s1 + PS A + 40) C hG.1 rfl ⟨by decide, by decide⟩ h5 (Nat.le_of_ble_eq_true rfl) dL_law_1452 (by omega) (by omega) fun mh6 h6 => ?_
  refine lj_ldc C hG.1.1 lc_L_82 dL_law_1455 ?_
  refine lj_icmp_eq_t (tgt := 1462) C dL_law_1457 (by decide) (gvB ix_m1) ?_
  refine lj_iinc (v := 3) C dL_law_1462 (q := 0) rfl (by decide) (by decide) rfl ?_
  refine lj_goto (tgt := 1417) C dL_law_1465 (by decide) ?_
  refine lj_iload C dL_law_1417 (q := 0) rfl ?_
  refine lj_iconst (v := 4) C dL_law_1419 (by decide) ?_
  refine lj_icmp_ge_f (tgt := 1468) C dL_law_1420 (by decide) (by decide) ?_
  refine lj_aload_n C dL_law_1423 rfl (q := 4) rfl ?_
  refine lj_ldcwS C hG.2.2.1 rfl dL_law_1424 ?_
  refine lj_iload C dL_law_1427 (q := 0) rfl ?_
  refine lj_charAt (j := 3) C hG.1.1 rfl ⟨by decide, by decide⟩ ht (by decide) tx4_zc (by decide) (by decide) (Nat.le_of_ble_eq_true rfl) dL_law_1429 ?_
  rw [show tx4.getD 3 0 = 113 from rfl]
  refine lj_iload C dL_law_1432 (q := 1) rfl ?_
  refine la_q (c2 := c1 + PC A + 1) (s2 := s1 + PS A + 20) C hG.1 rfl ⟨by decide, by decide⟩ h6 (Nat.le_of_ble_eq_true rfl) dL_law_1434 (by omega) (by omega) fun mh7 h7 => ?_
  refine lj_ldc C hG.1.1 lc_L_82 dL_law_1437 ?_
  refine lj_icmp_ne_f (tgt := 1460) C dL_law_1439 (by decide) (gvB ix_n) ?_
  refine lj_aload_n C dL_law_1442 rfl (q := 4) rfl ?_
  refine lj_ldcwS C hG.2.2.1 rfl dL_law_1443 ?_
  refine lj_iload C dL_law_1446 (q := 0) rfl ?_
  refine lj_charAt (j := 3) C hG.1.1 rfl ⟨by decide, by decide⟩ ht (by decide) tx4_zc (by decide) (by decide) (Nat.le_of_ble_eq_true rfl) dL_law_1448 ?_
  rw [show tx4.getD 3 0 = 113 from rfl]
  refine lj_iconst (v := (-1)) C dL_law_1451 (by decide) ?_
  refine la_q (c2 := c1 + PC A + 0) (s2 := s1 + PS A + 0) C hG.1 rfl ⟨by decide, by decide⟩ h7 (Nat.le_of_ble_eq_true rfl) dL_law_1452 (by omega) (by omega) fun mh8 h8 => ?_
  refine lj_ldc C hG.1.1 lc_L_82 dL_law_1455 ?_
  refine lj_icmp_eq_t (tgt := 1462) C dL_law_1457 (by decide) (gvB ix_m1) ?_
  refine lj_iinc (v := 4) C dL_law_1462 (q := 0) rfl (by decide) (by decide) rfl ?_
  refine lj_goto (tgt := 1417) C dL_law_1465 (by decide) ?_
  refine lj_iload C dL_law_1417 (q := 0) rfl ?_
  refine lj_iconst (v := 4) C dL_law_1419 (by decide) ?_
  refine lj_icmp_ge_t (tgt := 1468) C dL_law_1420 (by decide) (by decide) ?_
  refine lj_sub C [1, 2, 3, 4] rfl ?_
  exact lj_w (by omega) (by omega) (kk _ h8)
set_option maxRecDepth 100000 in
theorem fin_life (C : CW G mL_law p R s m meth c) (hG : Gok3 l G) {inn : Nat} (h : JC b z A μ) (kk : ∀ μ2, JC b z A μ2 → LJ l G mL_law p e R s m args below meth c Q 1519 [(8, .int (nI (aS A 14))), (6, .long (sumV A)), (5, .int (nI inn)), (1, .ref b)] [] μ2 (c1 + PC A) (s1 + PS A)) : LJ l G mL_law p e R s m args below meth c Q 1468 [(8, .int (nI (aS A 14))), (6, .long (sumV A)), (5, .int (nI inn)), (1, .ref b)] [] μ (c1 + PC A + 4) (s1 + PS A + 80) := by
  refine lj_aload_n C dL_law_1468 rfl (q := 3) rfl ?_
  refine lj_iload C dL_law_1469 (q := 0) rfl ?_
  refine lj_iconst (v := 0) C dL_law_1471 (by decide) ?_
  refine lj_life (c2 := c1 + PC A + 3) (s2 := s1 + PS A + 60) C hG.1 rfl ⟨by decide, by decide⟩ h (Nat.le_of_ble_eq_true rfl) dL_law_1472 (by omega) (by omega) fun mhl1 hl1 => ?_
  refine lj_ldc C hG.1.1 lc_L_82 dL_law_1475 ?_
  refine lj_icmp_ne_f (tgt := 1771) C dL_law_1477 (by decide) (lv3_1 ix_n) ?_
  refine lj_aload_n C dL_law_1480 rfl (q := 3) rfl ?_
  refine lj_iconst (v := (-1)) C dL_law_1481 (by decide) ?_
  refine lj_bipush (v := 9) C dL_law_1482 (by decide) ?_
  refine lj_life (c2 := c1 + PC A + 2) (s2 := s1 + PS A + 40) C hG.1 rfl ⟨by decide, by decide⟩ hl1 (Nat.le_of_ble_eq_true rfl) dL_law_1484 (by omega) (by omega) fun mhl2 hl2 => ?_
  refine lj_ldc C hG.1.1 lc_L_82 dL_law_1487 ?_
  refine lj_icmp_ne_f (tgt := 1771) C dL_law_1489 (by decide) (lv3_1 ix_m1) ?_
  refine lj_iload C dL_law_1492 (q := 0) rfl ?_
  by_cases h0 : aS A 14 = 0
  · refine lj_if_eq_t (tgt := 1519) C dL_law_1494 (by decide) (by rw [h0]; rfl) ?_
    exact lj_w (by omega) (by omega) (kk _ hl2)
  · have n14 := h.2.2.n14
    have i0 : ix 0 (aS A 14) = true := by
      unfold ix
      rw [show decide ((0 : Int32) < 0) = false by decide, decide_eq_true (show (0 : Int32) < nI (aS A 14) from nI_lt (a := 0) (b := aS A 14) (by omega) (by omega))]
      rfl
    refine lj_if_eq_f (tgt := 1519) C dL_law_1494 (by decide) (nI_ne0 (by omega) (by omega)) ?_
    refine lj_aload_n C dL_law_1497 rfl (q := 3) rfl ?_
    refine lj_iconst (v := 0) C dL_law_1498 (by decide) ?_
    refine lj_iconst (v := 5) C dL_law_1499 (by decide) ?_
    refine lj_life (c2 := c1 + PC A + 1) (s2 := s1 + PS A + 20) C hG.1 rfl ⟨by decide, by decide⟩ hl2 (Nat.le_of_ble_eq_true rfl) dL_law_1500 (by omega) (by omega) fun mhl3 hl3 => ?_
    refine lj_ldc C hG.1.1 lc_L_15 dL_law_1503 ?_
    refine lj_icmp_ne_f (tgt := 1771) C dL_law_1505 (by decide) (lv3_2 i0 (by decide)) ?_
    refine lj_aload_n C dL_law_1508 rfl (q := 3) rfl ?_
    refine lj_iconst (v := 0) C dL_law_1509 (by decide) ?_
    refine lj_iconst (v := (-1)) C dL_law_1510 (by decide) ?_
    refine lj_life (c2 := c1 + PC A + 0) (s2 := s1 + PS A + 0) C hG.1 rfl ⟨by decide, by decide⟩ hl3 (Nat.le_of_ble_eq_true rfl) dL_law_1511 (by omega) (by omega) fun mhl4 hl4 => ?_
    refine lj_ldc C hG.1.1 lc_L_15 dL_law_1514 ?_
    refine lj_icmp_ne_f (tgt := 1771) C dL_law_1516 (by decide) (lv3_2 i0 (by decide)) ?_
    exact lj_w (by omega) (by omega) (kk _ hl4)
set_option maxRecDepth 100000 in
theorem fin_of (C : CW G mL_law p R s m meth c) (hG : Gok3 l G) {inn : Nat} (hi : aS A 8 = inn) (h : JC b z A μ) (kk : ∀ μ2, JC b z A μ2 → LJ l G mL_law p e R s m args below meth c Q 1727 [(8, .int (nI (aS A 14))), (6, .long (sumV A)), (5, .int (nI inn)), (1, .ref b)] [] μ2 (c1 + PC A) (s1 + PS A)) : LJ l G mL_law p e R s m args below meth c Q 1519 [(8, .int (nI (aS A 14))), (6, .long (sumV A)), (5, .int (nI inn)), (1, .ref b)] [] μ (c1 + PC A + 16) (s1 + PS A + 320) := by
  subst hi
  refine lj_aload_n C dL_law_1519 rfl (q := 3) rfl ?_
  refine lj_bipush (v := 114) C dL_law_1520 (by decide) ?_
  refine lj_bipush (v := 8) C dL_law_1522 (by decide) ?_
  refine lo_r (c2 := c1 + PC A + 15) (s2 := s1 + PS A + 300) C hG.1 rfl ⟨by decide, by decide⟩ h (Nat.le_of_ble_eq_true rfl) dL_law_1524 (by omega) (by omega) fun mh1 h1 => ?_
  refine lj_ldc C hG.1.1 lc_L_15 dL_law_1527 ?_
  refine lj_icmp_ne_f (tgt := 1771) C dL_law_1529 (by decide) (gvA (by decide)) ?_
  refine lj_aload_n C dL_law_1532 rfl (q := 3) rfl ?_
  refine lj_bipush (v := 113) C dL_law_1533 (by decide) ?_
  refine lj_iconst (v := (-1)) C dL_law_1535 (by decide) ?_
  refine lo_q (c2 := c1 + PC A + 14) (s2 := s1 + PS A + 280) C hG.1 rfl ⟨by decide, by decide⟩ h1 (Nat.le_of_ble_eq_true rfl) dL_law_1536 (by omega) (by omega) fun mh2 h2 => ?_
  refine lj_ldc C hG.1.1 lc_L_15 dL_law_1539 ?_
  refine lj_icmp_ne_f (tgt := 1771) C dL_law_1541 (by decide) (gvA (by decide)) ?_
  refine lj_aload_n C dL_law_1544 rfl (q := 3) rfl ?_
  refine lj_bipush (v := 119) C dL_law_1545 (by decide) ?_
  refine lj_bipush (v := 64) C dL_law_1547 (by decide) ?_
  refine lo_w (c2 := c1 + PC A + 13) (s2 := s1 + PS A + 260) C hG.1 rfl ⟨by decide, by decide⟩ h2 (Nat.le_of_ble_eq_true rfl) dL_law_1549 (by omega) (by omega) fun mh3 h3 => ?_
  refine lj_ldc C hG.1.1 lc_L_15 dL_law_1552 ?_
  refine lj_icmp_ne_f (tgt := 1771) C dL_law_1554 (by decide) (gvA (by decide)) ?_
  refine lj_aload_n C dL_law_1557 rfl (q := 3) rfl ?_
  refine lj_bipush (v := 118) C dL_law_1558 (by decide) ?_
  refine lj_iconst (v := (-1)) C dL_law_1560 (by decide) ?_
  refine lo_v (c2 := c1 + PC A + 12) (s2 := s1 + PS A + 240) C hG.1 rfl ⟨by decide, by decide⟩ h3 (Nat.le_of_ble_eq_true rfl) dL_law_1561 (by omega) (by omega) fun mh4 h4 => ?_
  refine lj_ldc C hG.1.1 lc_L_15 dL_law_1564 ?_
  refine lj_icmp_ne_f (tgt := 1771) C dL_law_1566 (by decide) (gvA (by decide)) ?_
  refine lj_aload_n C dL_law_1569 rfl (q := 3) rfl ?_
  refine lj_bipush (v := 105) C dL_law_1570 (by decide) ?_
  refine lj_bipush (v := 8) C dL_law_1572 (by decide) ?_
  refine lo_i (c2 := c1 + PC A + 11) (s2 := s1 + PS A + 220) C hG.1 rfl ⟨by decide, by decide⟩ h4 (Nat.le_of_ble_eq_true rfl) dL_law_1574 (by omega) (by omega) fun mh5 h5 => ?_
  refine lj_ldc C hG.1.1 lc_L_15 dL_law_1577 ?_
  refine lj_icmp_ne_f (tgt := 1771) C dL_law_1579 (by decide) (gvA (by decide)) ?_
  refine lj_aload_n C dL_law_1582 rfl (q := 3) rfl ?_
  refine lj_bipush (v := 106) C dL_law_1583 (by decide) ?_
  refine lj_iconst (v := (-1)) C dL_law_1585 (by decide) ?_
  refine lo_j (c2 := c1 + PC A + 10) (s2 := s1 + PS A + 200) C hG.1 rfl ⟨by decide, by decide⟩ h5 (Nat.le_of_ble_eq_true rfl) dL_law_1586 (by omega) (by omega) fun mh6 h6 => ?_
  refine lj_ldc C hG.1.1 lc_L_15 dL_law_1589 ?_
  refine lj_icmp_ne_f (tgt := 1771) C dL_law_1591 (by decide) (gvA (by decide)) ?_
  refine lj_aload_n C dL_law_1594 rfl (q := 3) rfl ?_
  refine lj_bipush (v := 99) C dL_law_1595 (by decide) ?_
  refine lj_bipush (v := 16) C dL_law_1597 (by decide) ?_
  refine lo_c (c2 := c1 + PC A + 9) (s2 := s1 + PS A + 180) C hG.1 rfl ⟨by decide, by decide⟩ h6 (Nat.le_of_ble_eq_true rfl) dL_law_1599 (by omega) (by omega) fun mh7 h7 => ?_
  refine lj_ldc C hG.1.1 lc_L_15 dL_law_1602 ?_
  refine lj_icmp_ne_f (tgt := 1771) C dL_law_1604 (by decide) (gvA (by decide)) ?_
  refine lj_aload_n C dL_law_1607 rfl (q := 3) rfl ?_
  refine lj_bipush (v := 109) C dL_law_1608 (by decide) ?_
  refine lj_iconst (v := (-1)) C dL_law_1610 (by decide) ?_
  refine lo_m (c2 := c1 + PC A + 8) (s2 := s1 + PS A + 160) C hG.1 rfl ⟨by decide, by decide⟩ h7 (Nat.le_of_ble_eq_true rfl) dL_law_1611 (by omega) (by omega) fun mh8 h8 => ?_
  refine lj_ldc C hG.1.1 lc_L_15 dL_law_1614 ?_
  refine lj_icmp_ne_f (tgt := 1771) C dL_law_1616 (by decide) (gvA (by decide)) ?_
  refine lj_aload_n C dL_law_1619 rfl (q := 3) rfl ?_
  refine lj_bipush (v := 108) C dL_law_1620 (by decide) ?_
  refine lj_iconst (v := 4) C dL_law_1622 (by decide) ?_
  refine lo_l (c2 := c1 + PC A + 7) (s2 := s1 + PS A + 140) C hG.1 rfl ⟨by decide, by decide⟩ h8 (Nat.le_of_ble_eq_true rfl) dL_law_1623 (by omega) (by omega) fun mh9 h9 => ?_
  refine lj_ldc C hG.1.1 lc_L_15 dL_law_1626 ?_
  refine lj_icmp_ne_f (tgt := 1771) C dL_law_1628 (by decide) (gvA (by decide)) ?_
  refine lj_aload_n C dL_law_1631 rfl (q := 3) rfl ?_
  refine lj_bipush (v := 111) C dL_law_1632 (by decide) ?_
  refine lj_bipush (v := 122) C dL_law_1634 (by decide) ?_
  refine lo_o (c2 := c1 + PC A + 6) (s2 := s1 + PS A + 120) C hG.1 rfl ⟨by decide, by decide⟩ h9 (Nat.le_of_ble_eq_true rfl) dL_law_1636 (by omega) (by omega) fun mh10 h10 => ?_
  refine lj_ldc C hG.1.1 lc_L_15 dL_law_1639 ?_
  refine lj_icmp_ne_f (tgt := 1771) C dL_law_1641 (by decide) (gvA (by decide)) ?_
  refine lj_aload_n C dL_law_1644 rfl (q := 3) rfl ?_
  refine lj_bipush (v := 116) C dL_law_1645 (by decide) ?_
  refine lj_iload C dL_law_1647 (q := 2) rfl ?_
  refine la_t (c2 := c1 + PC A + 5) (s2 := s1 + PS A + 100) C hG.1 rfl ⟨by decide, by decide⟩ h10 (Nat.le_of_ble_eq_true rfl) dL_law_1649 (by omega) (by omega) fun mh11 h11 => ?_
  refine lj_ldc C hG.1.1 lc_L_82 dL_law_1652 ?_
  refine lj_icmp_ne_f (tgt := 1771) C dL_law_1654 (by decide) (gvB ix_n) ?_
  refine lj_aload_n C dL_law_1657 rfl (q := 3) rfl ?_
  refine lj_bipush (v := 121) C dL_law_1658 (by decide) ?_
  refine lj_iload C dL_law_1660 (q := 2) rfl ?_
  refine la_y (c2 := c1 + PC A + 4) (s2 := s1 + PS A + 80) C hG.1 rfl ⟨by decide, by decide⟩ h11 (Nat.le_of_ble_eq_true rfl) dL_law_1662 (by omega) (by omega) fun mh12 h12 => ?_
  refine lj_ldc C hG.1.1 lc_L_82 dL_law_1665 ?_
  refine lj_icmp_ne_f (tgt := 1771) C dL_law_1667 (by decide) (gvB ix_n) ?_
  refine lj_aload_n C dL_law_1670 rfl (q := 3) rfl ?_
  refine lj_bipush (v := 102) C dL_law_1671 (by decide) ?_
  refine lj_aload_n C dL_law_1673 rfl (q := 3) rfl ?_
  refine lg_free C hG.1 rfl ⟨by decide, by decide⟩ h12 (Nat.le_of_ble_eq_true rfl) dL_law_1674 ?_
  refine la_f (c2 := c1 + PC A + 3) (s2 := s1 + PS A + 60) C hG.1 rfl ⟨by decide, by decide⟩ h12 (Nat.le_of_ble_eq_true rfl) dL_law_1677 (by omega) (by omega) fun mh13 h13 => ?_
  refine lj_ldc C hG.1.1 lc_L_82 dL_law_1680 ?_
  refine lj_icmp_ne_f (tgt := 1771) C dL_law_1682 (by decide) (gvB ix_n) ?_
  refine lj_aload_n C dL_law_1685 rfl (q := 3) rfl ?_
  refine lj_bipush (v := 98) C dL_law_1686 (by decide) ?_
  refine lj_aload_n C dL_law_1688 rfl (q := 3) rfl ?_
  refine lg_inBuffer C hG.1 rfl ⟨by decide, by decide⟩ h13 (Nat.le_of_ble_eq_true rfl) dL_law_1689 ?_
  refine la_b (c2 := c1 + PC A + 2) (s2 := s1 + PS A + 40) C hG.1 rfl ⟨by decide, by decide⟩ h13 (Nat.le_of_ble_eq_true rfl) dL_law_1692 (by omega) (by omega) fun mh14 h14 => ?_
  refine lj_ldc C hG.1.1 lc_L_82 dL_law_1695 ?_
  refine lj_icmp_ne_f (tgt := 1771) C dL_law_1697 (by decide) (gvB ix_n) ?_
  refine lj_aload_n C dL_law_1700 rfl (q := 3) rfl ?_
  refine lj_bipush (v := 115) C dL_law_1701 (by decide) ?_
  refine lj_iconst (v := (-1)) C dL_law_1703 (by decide) ?_
  refine la_s (c2 := c1 + PC A + 1) (s2 := s1 + PS A + 20) C hG.1 rfl ⟨by decide, by decide⟩ h14 (Nat.le_of_ble_eq_true rfl) dL_law_1704 (by omega) (by omega) fun mh15 h15 => ?_
  refine lj_ldc C hG.1.1 lc_L_82 dL_law_1707 ?_
  refine lj_icmp_ne_f (tgt := 1771) C dL_law_1709 (by decide) (gvB ix_m1) ?_
  refine lj_aload_n C dL_law_1712 rfl (q := 3) rfl ?_
  refine lj_bipush (v := 114) C dL_law_1713 (by decide) ?_
  refine lj_aload_n C dL_law_1715 rfl (q := 3) rfl ?_
  refine lg_returns C hG.1 rfl ⟨by decide, by decide⟩ h15 (Nat.le_of_ble_eq_true rfl) dL_law_1716 ?_
  refine la_r (c2 := c1 + PC A + 0) (s2 := s1 + PS A + 0) C hG.1 rfl ⟨by decide, by decide⟩ h15 (Nat.le_of_ble_eq_true rfl) dL_law_1719 (by omega) (by omega) fun mh16 h16 => ?_
  refine lj_ldc C hG.1.1 lc_L_82 dL_law_1722 ?_
  refine lj_icmp_ne_f (tgt := 1771) C dL_law_1724 (by decide) (gvB ix_n) ?_
  exact lj_w (by omega) (by omega) (kk _ h16)
set_option maxRecDepth 100000 in
theorem fin_sum (C : CW G mL_law p R s m meth c) (hG : Gok3 l G) {inn : Nat} (h : JC b z A μ) (kk : ∀ L μ2, LJ l G mL_law p e R s m args below meth c Q 1772 L [.int 1] μ2 c1 s1) : LJ l G mL_law p e R s m args below meth c Q 1727 [(8, .int (nI (aS A 14))), (6, .long (sumV A)), (5, .int (nI inn)), (1, .ref b)] [] μ (c1 + 100) (s1 + 2000) := by
  refine lj_aload_n C dL_law_1727 rfl (q := 3) rfl ?_
  refine lj_share (c2 := c1 + 99) (s2 := s1 + 1980) C hG.1 rfl ⟨by decide, by decide⟩ h (Nat.le_of_ble_eq_true rfl) dL_law_1728 (by omega) (by omega) fun μ1 h1 => ?_
  have fin : ∀ μ2, JC b z A μ2 → LJ l G mL_law p e R s m args below meth c Q 1757 [(8, .int (nI (aS A 14))), (6, .long (sumV A)), (5, .int (nI inn)), (1, .ref b)] [] μ2 (c1 + 99) (s1 + 1980) := fun μ2 h2 => by
    refine lj_aload_n C dL_law_1757 rfl (q := 3) rfl ?_
    refine lj_sum (c2 := c1 + 1) (s2 := s1 + 20) C hG.1 rfl ⟨by decide, by decide⟩ h2 (Nat.le_of_ble_eq_true rfl) dL_law_1758 (by omega) (by omega) fun μ3 h3 => ?_
    refine lj_lload C dL_law_1761 (q := 1) rfl ?_
    refine lj_lcmpG C dL_law_1763 ?_
    rw [lg_cmp_self]
    refine lj_if_ne_f (tgt := 1771) C dL_law_1764 (by decide) rfl ?_
    refine lj_iconst (v := 1) C dL_law_1767 (by decide) ?_
    refine lj_goto (tgt := 1772) C dL_law_1768 (by decide) ?_
    exact lj_w (by omega) (by omega) (kk _ μ3)
  by_cases h0 : aS A 0 = 0
  · rw [if_pos h0]
    refine lj_ldcf C hG.1.1 lc_L_131 dL_law_1731 ?_
    refine lj_fcmp C dL_law_1733 ?_
    refine lj_if_ne_f (tgt := 1741) C dL_law_1734 (by decide) cmpV_self ?_
    refine lj_iconst (v := 1) C dL_law_1737 (by decide) ?_
    refine lj_goto (tgt := 1742) C dL_law_1738 (by decide) ?_
    refine lj_aload_n C dL_law_1742 rfl (q := 3) rfl ?_
    refine lg_cycle C hG.1 rfl ⟨by decide, by decide⟩ h1 (Nat.le_of_ble_eq_true rfl) dL_law_1743 ?_
    refine lj_if_ne_f (tgt := 1753) C dL_law_1746 (by decide) (by rw [h0]; rfl) ?_
    refine lj_iconst (v := 1) C dL_law_1749 (by decide) ?_
    refine lj_goto (tgt := 1754) C dL_law_1750 (by decide) ?_
    refine lj_icmp_ne_f (tgt := 1771) C dL_law_1754 (by decide) rfl ?_
    exact fin μ1 h1
  · rw [if_neg h0]
    have n0 := h.2.2.2.2
    have n14 := h.2.2.n14
    refine lj_ldcf C hG.1.1 lc_L_131 dL_law_1731 ?_
    refine lj_fcmp C dL_law_1733 ?_
    refine lj_if_ne_t (tgt := 1741) C dL_law_1734 (by decide) (cmpV_ne (sh_ne (by omega) n0 (by omega))) ?_
    refine lj_iconst (v := 0) C dL_law_1741 (by decide) ?_
    refine lj_aload_n C dL_law_1742 rfl (q := 3) rfl ?_
    refine lg_cycle C hG.1 rfl ⟨by decide, by decide⟩ h1 (Nat.le_of_ble_eq_true rfl) dL_law_1743 ?_
    refine lj_if_ne_t (tgt := 1753) C dL_law_1746 (by decide) (nI_ne0 (by omega) (by omega)) ?_
    refine lj_iconst (v := 0) C dL_law_1753 (by decide) ?_
    refine lj_icmp_ne_f (tgt := 1771) C dL_law_1754 (by decide) rfl ?_
    exact fin μ1 h1
theorem law_fin (C : CW G mL_law p R s m meth c) (hG : Gok3 l G) {k inn steps pg : Nat} {be : Bool} (la : LA pg be inn A) (h : JC b z A μ) (kk : ∀ L μ2 c2 s2, LJ l G mL_law p e R s m args below meth c Q 1772 L [.int 1] μ2 c2 s2) : LJ l G mL_law p e R s m args below meth c Q 938 (L0 b q0 k inn be steps pg) [] μ (c1 + 300 + PC A) (s1 + 9000 + PS A) := by
  have f6 : ∀ μ2, JC b z A μ2 → LJ l G mL_law p e R s m args below meth c Q 1727 [(8, .int (nI (aS A 14))), (6, .long (sumV A)), (5, .int (nI inn)), (1, .ref b)] [] μ2 (c1 + 100 + PC A) (s1 + 2000 + PS A) := fun μ2 h2 => lj_w (by omega) (by omega) (fin_sum (c1 := c1) (s1 := s1) C hG h2 fun L μ3 => kk L μ3 c1 s1)
  have f5 := fun (μ2 : Mm) (h2 : JC b z A μ2) => fin_of (c1 := c1 + 100) (s1 := s1 + 2000) C hG la.2.1 h2 f6
  have f4 := fun (μ2 : Mm) (h2 : JC b z A μ2) => fin_life (c1 := c1 + 116) (s1 := s1 + 2320) C hG (inn := inn) h2 fun μ3 h3 => lj_w (by omega) (by omega) (f5 μ3 h3)
  have f3 := fun (μ2 : Mm) (h2 : JC b z A μ2) => fin_at (c1 := c1 + 120) (s1 := s1 + 2400) C hG (inn := inn) h2 fun μ3 h3 => lj_w (by omega) (by omega) (f4 μ3 h3)
  have f2 := fun (μ2 : Mm) (h2 : JC b z A μ2) => fin_set (c1 := c1 + 128) (s1 := s1 + 2560) C hG (inn := inn) h2 fun μ3 h3 => lj_w (by omega) (by omega) (f3 μ3 h3)
  have f1 := fun (μ2 : Mm) (h2 : JC b z A μ2) => fin_add (c1 := c1 + 158) (s1 := s1 + 4660) C hG (inn := inn) h2 fun μ3 h3 => lj_w (by omega) (by omega) (f2 μ3 h3)
  unfold L0
  refine lj_aload_n C dL_law_938 rfl (q := 5) rfl ?_
  refine lj_sum (c2 := c1 + 202 + PC A) (s2 := s1 + 8412 + PS A) C hG.1 rfl ⟨by decide, by decide⟩ h (Nat.le_of_ble_eq_true rfl) dL_law_939 (by omega) (by omega) fun μ1 h1 => ?_
  refine lj_lstore C dL_law_942 (by decide) rfl ?_
  refine lj_aload_n C dL_law_944 rfl (q := 5) rfl ?_
  refine lg_ends C hG.1 rfl ⟨by decide, by decide⟩ h1 (Nat.le_of_ble_eq_true rfl) dL_law_945 ?_
  refine lj_istore C dL_law_948 (by decide) rfl ?_
  refine lj_sub C [0, 1, 2, 6] rfl ?_
  exact lj_w (by omega) (by omega) (f1 _ h1)
end LAW8
