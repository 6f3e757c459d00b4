/-! the law: its calls, further -/
theorem eL_931 : decode mL_law.2.1 931 = .ok (.aload_n 1, 1) := dL_law_931
theorem eL_932 : decode mL_law.2.1 932 = .ok (.aload_n 0, 1) := dL_law_932
theorem eL_933 : decode mL_law.2.1 933 = .ok (.iload 4, 2) := dL_law_933
theorem eL_935 : decode mL_law.2.1 935 = .ok (.iconst 1, 1) := dL_law_935
theorem eL_936 : decode mL_law.2.1 936 = .ok (.iadd, 1) := dL_law_936
theorem eL_937 : decode mL_law.2.1 937 = .ok (.iaload, 1) := dL_law_937
theorem eL_938 : decode mL_law.2.1 938 = .ok (.aload_n 0, 1) := dL_law_938
theorem eL_939 : decode mL_law.2.1 939 = .ok (.iload 4, 2) := dL_law_939
theorem eL_941 : decode mL_law.2.1 941 = .ok (.iconst 2, 1) := dL_law_941
theorem eL_942 : decode mL_law.2.1 942 = .ok (.iadd, 1) := dL_law_942
theorem eL_943 : decode mL_law.2.1 943 = .ok (.iaload, 1) := dL_law_943
theorem eL_944 : decode mL_law.2.1 944 = .ok (.aload_n 0, 1) := dL_law_944
theorem eL_945 : decode mL_law.2.1 945 = .ok (.iload 4, 2) := dL_law_945
theorem eL_947 : decode mL_law.2.1 947 = .ok (.iconst 3, 1) := dL_law_947
theorem eL_948 : decode mL_law.2.1 948 = .ok (.iadd, 1) := dL_law_948
theorem eL_949 : decode mL_law.2.1 949 = .ok (.iaload, 1) := dL_law_949
theorem eL_950 : decode mL_law.2.1 950 = .ok (.aload_n 3, 1) := dL_law_950
theorem eL_951 : decode mL_law.2.1 951 = .ok (.invokestatic 137, 3) := dL_law_951
theorem eL_954 : decode mL_law.2.1 954 = .ok (.istore 5, 2) := dL_law_954
theorem eL_956 : decode mL_law.2.1 956 = .ok (.aload_n 2, 1) := dL_law_956
theorem eL_957 : decode mL_law.2.1 957 = .ok (.aload_n 0, 1) := dL_law_957
theorem eL_958 : decode mL_law.2.1 958 = .ok (.iload 4, 2) := dL_law_958
theorem eL_960 : decode mL_law.2.1 960 = .ok (.iconst 1, 1) := dL_law_960
theorem eL_961 : decode mL_law.2.1 961 = .ok (.iadd, 1) := dL_law_961
theorem eL_962 : decode mL_law.2.1 962 = .ok (.iaload, 1) := dL_law_962
theorem eL_963 : decode mL_law.2.1 963 = .ok (.aload_n 0, 1) := dL_law_963
theorem eL_964 : decode mL_law.2.1 964 = .ok (.iload 4, 2) := dL_law_964
theorem eL_966 : decode mL_law.2.1 966 = .ok (.iconst 2, 1) := dL_law_966
theorem eL_967 : decode mL_law.2.1 967 = .ok (.iadd, 1) := dL_law_967
theorem eL_968 : decode mL_law.2.1 968 = .ok (.iaload, 1) := dL_law_968
theorem eL_969 : decode mL_law.2.1 969 = .ok (.aload_n 0, 1) := dL_law_969
theorem eL_970 : decode mL_law.2.1 970 = .ok (.iload 4, 2) := dL_law_970
theorem eL_972 : decode mL_law.2.1 972 = .ok (.iconst 3, 1) := dL_law_972
theorem eL_973 : decode mL_law.2.1 973 = .ok (.iadd, 1) := dL_law_973
theorem eL_974 : decode mL_law.2.1 974 = .ok (.iaload, 1) := dL_law_974
theorem eL_975 : decode mL_law.2.1 975 = .ok (.invokevirtual 139, 3) := dL_law_975
theorem eL_978 : decode mL_law.2.1 978 = .ok (.istore 6, 2) := dL_law_978
theorem eL_980 : decode mL_law.2.1 980 = .ok (.aload_n 2, 1) := dL_law_980
theorem eL_981 : decode mL_law.2.1 981 = .ok (.invokevirtual 103, 3) := dL_law_981
theorem eL_984 : decode mL_law.2.1 984 = .ok (.iload 5, 2) := dL_law_984
theorem eL_986 : decode mL_law.2.1 986 = .ok (.if_icmp .eq 5, 3) := dL_law_986
theorem eL_989 : decode mL_law.2.1 989 = .ok (.iconst 0, 1) := dL_law_989
theorem eL_990 : decode mL_law.2.1 990 = .ok (.ireturn, 1) := dL_law_990
theorem eL_991 : decode mL_law.2.1 991 = .ok (.iload 5, 2) := dL_law_991
theorem eL_993 : decode mL_law.2.1 993 = .ok (.ifCond .ne 15, 3) := dL_law_993
theorem eL_996 : decode mL_law.2.1 996 = .ok (.aload_n 3, 1) := dL_law_996
theorem eL_997 : decode mL_law.2.1 997 = .ok (.iconst 0, 1) := dL_law_997
theorem eL_998 : decode mL_law.2.1 998 = .ok (.laload, 1) := dL_law_998
theorem eL_999 : decode mL_law.2.1 999 = .ok (.iload 6, 2) := dL_law_999
theorem eL_1001 : decode mL_law.2.1 1001 = .ok (.i2l, 1) := dL_law_1001
theorem eL_1002 : decode mL_law.2.1 1002 = .ok (.lcmp, 1) := dL_law_1002
theorem eL_1003 : decode mL_law.2.1 1003 = .ok (.ifCond .eq 5, 3) := dL_law_1003
theorem eL_1006 : decode mL_law.2.1 1006 = .ok (.iconst 0, 1) := dL_law_1006
theorem eL_1007 : decode mL_law.2.1 1007 = .ok (.ireturn, 1) := dL_law_1007
theorem eL_1008 : decode mL_law.2.1 1008 = .ok (.goto 891, 3) := dL_law_1008
theorem eL_1011 : decode mL_law.2.1 1011 = .ok (.aload_n 1, 1) := dL_law_1011
theorem eL_1012 : decode mL_law.2.1 1012 = .ok (.aload_n 0, 1) := dL_law_1012
theorem eL_1013 : decode mL_law.2.1 1013 = .ok (.iload 4, 2) := dL_law_1013
theorem eL_1015 : decode mL_law.2.1 1015 = .ok (.iconst 1, 1) := dL_law_1015
theorem eL_1016 : decode mL_law.2.1 1016 = .ok (.iadd, 1) := dL_law_1016
theorem eL_1017 : decode mL_law.2.1 1017 = .ok (.iaload, 1) := dL_law_1017
theorem eL_1018 : decode mL_law.2.1 1018 = .ok (.aload_n 0, 1) := dL_law_1018
theorem eL_1019 : decode mL_law.2.1 1019 = .ok (.iload 4, 2) := dL_law_1019
theorem eL_1021 : decode mL_law.2.1 1021 = .ok (.iconst 2, 1) := dL_law_1021
theorem eL_1022 : decode mL_law.2.1 1022 = .ok (.iadd, 1) := dL_law_1022
theorem eL_1023 : decode mL_law.2.1 1023 = .ok (.iaload, 1) := dL_law_1023
theorem eL_1024 : decode mL_law.2.1 1024 = .ok (.aload_n 3, 1) := dL_law_1024
theorem eL_1025 : decode mL_law.2.1 1025 = .ok (.invokestatic 140, 3) := dL_law_1025
theorem eL_1028 : decode mL_law.2.1 1028 = .ok (.istore 5, 2) := dL_law_1028
theorem eL_1030 : decode mL_law.2.1 1030 = .ok (.aload_n 2, 1) := dL_law_1030
theorem eL_1031 : decode mL_law.2.1 1031 = .ok (.aload_n 0, 1) := dL_law_1031
theorem eL_1032 : decode mL_law.2.1 1032 = .ok (.iload 4, 2) := dL_law_1032
theorem eL_1034 : decode mL_law.2.1 1034 = .ok (.iconst 1, 1) := dL_law_1034
theorem eL_1035 : decode mL_law.2.1 1035 = .ok (.iadd, 1) := dL_law_1035
theorem eL_1036 : decode mL_law.2.1 1036 = .ok (.iaload, 1) := dL_law_1036
theorem eL_1037 : decode mL_law.2.1 1037 = .ok (.aload_n 0, 1) := dL_law_1037
theorem eL_1038 : decode mL_law.2.1 1038 = .ok (.iload 4, 2) := dL_law_1038
theorem eL_1040 : decode mL_law.2.1 1040 = .ok (.iconst 2, 1) := dL_law_1040
theorem eL_1041 : decode mL_law.2.1 1041 = .ok (.iadd, 1) := dL_law_1041
theorem eL_1042 : decode mL_law.2.1 1042 = .ok (.iaload, 1) := dL_law_1042
theorem eL_1043 : decode mL_law.2.1 1043 = .ok (.invokevirtual 142, 3) := dL_law_1043
theorem eL_1046 : decode mL_law.2.1 1046 = .ok (.istore 6, 2) := dL_law_1046
theorem eL_1048 : decode mL_law.2.1 1048 = .ok (.aload_n 2, 1) := dL_law_1048
theorem eL_1049 : decode mL_law.2.1 1049 = .ok (.invokevirtual 103, 3) := dL_law_1049
theorem eL_1052 : decode mL_law.2.1 1052 = .ok (.iload 5, 2) := dL_law_1052
theorem eL_1054 : decode mL_law.2.1 1054 = .ok (.if_icmp .eq 5, 3) := dL_law_1054
theorem eL_1057 : decode mL_law.2.1 1057 = .ok (.iconst 0, 1) := dL_law_1057
theorem eL_1058 : decode mL_law.2.1 1058 = .ok (.ireturn, 1) := dL_law_1058
theorem eL_1059 : decode mL_law.2.1 1059 = .ok (.iload 5, 2) := dL_law_1059
theorem eL_1061 : decode mL_law.2.1 1061 = .ok (.ifCond .ne 15, 3) := dL_law_1061
theorem eL_1064 : decode mL_law.2.1 1064 = .ok (.aload_n 3, 1) := dL_law_1064
theorem eL_1065 : decode mL_law.2.1 1065 = .ok (.iconst 0, 1) := dL_law_1065
theorem eL_1066 : decode mL_law.2.1 1066 = .ok (.laload, 1) := dL_law_1066
theorem eL_1067 : decode mL_law.2.1 1067 = .ok (.iload 6, 2) := dL_law_1067
theorem eL_1069 : decode mL_law.2.1 1069 = .ok (.i2l, 1) := dL_law_1069
theorem eL_1070 : decode mL_law.2.1 1070 = .ok (.lcmp, 1) := dL_law_1070
theorem eL_1071 : decode mL_law.2.1 1071 = .ok (.ifCond .eq 5, 3) := dL_law_1071
theorem eL_1074 : decode mL_law.2.1 1074 = .ok (.iconst 0, 1) := dL_law_1074
theorem eL_1075 : decode mL_law.2.1 1075 = .ok (.ireturn, 1) := dL_law_1075
theorem eL_1076 : decode mL_law.2.1 1076 = .ok (.goto 823, 3) := dL_law_1076
theorem eL_1079 : decode mL_law.2.1 1079 = .ok (.aload_n 1, 1) := dL_law_1079
theorem eL_1080 : decode mL_law.2.1 1080 = .ok (.aload_n 0, 1) := dL_law_1080
theorem eL_1081 : decode mL_law.2.1 1081 = .ok (.iload 4, 2) := dL_law_1081
theorem eL_1083 : decode mL_law.2.1 1083 = .ok (.iconst 1, 1) := dL_law_1083
theorem eL_1084 : decode mL_law.2.1 1084 = .ok (.iadd, 1) := dL_law_1084
theorem eL_1085 : decode mL_law.2.1 1085 = .ok (.iaload, 1) := dL_law_1085
theorem eL_1086 : decode mL_law.2.1 1086 = .ok (.aload_n 0, 1) := dL_law_1086
theorem eL_1087 : decode mL_law.2.1 1087 = .ok (.iload 4, 2) := dL_law_1087
theorem eL_1089 : decode mL_law.2.1 1089 = .ok (.iconst 2, 1) := dL_law_1089
theorem eL_1090 : decode mL_law.2.1 1090 = .ok (.iadd, 1) := dL_law_1090
theorem eL_1091 : decode mL_law.2.1 1091 = .ok (.iaload, 1) := dL_law_1091
theorem eL_1092 : decode mL_law.2.1 1092 = .ok (.aload_n 3, 1) := dL_law_1092
theorem eL_1093 : decode mL_law.2.1 1093 = .ok (.invokestatic 143, 3) := dL_law_1093
theorem eL_1096 : decode mL_law.2.1 1096 = .ok (.istore 5, 2) := dL_law_1096
theorem eL_1098 : decode mL_law.2.1 1098 = .ok (.aload_n 2, 1) := dL_law_1098
theorem eL_1099 : decode mL_law.2.1 1099 = .ok (.aload_n 0, 1) := dL_law_1099
theorem eL_1100 : decode mL_law.2.1 1100 = .ok (.iload 4, 2) := dL_law_1100
theorem eL_1102 : decode mL_law.2.1 1102 = .ok (.iconst 1, 1) := dL_law_1102
theorem eL_1103 : decode mL_law.2.1 1103 = .ok (.iadd, 1) := dL_law_1103
theorem eL_1104 : decode mL_law.2.1 1104 = .ok (.iaload, 1) := dL_law_1104
theorem eL_1105 : decode mL_law.2.1 1105 = .ok (.aload_n 0, 1) := dL_law_1105
theorem eL_1106 : decode mL_law.2.1 1106 = .ok (.iload 4, 2) := dL_law_1106
theorem eL_1108 : decode mL_law.2.1 1108 = .ok (.iconst 2, 1) := dL_law_1108
theorem eL_1109 : decode mL_law.2.1 1109 = .ok (.iadd, 1) := dL_law_1109
theorem eL_1110 : decode mL_law.2.1 1110 = .ok (.iaload, 1) := dL_law_1110
theorem eL_1111 : decode mL_law.2.1 1111 = .ok (.invokevirtual 145, 3) := dL_law_1111
theorem eL_1114 : decode mL_law.2.1 1114 = .ok (.istore 6, 2) := dL_law_1114
theorem eL_1116 : decode mL_law.2.1 1116 = .ok (.aload_n 2, 1) := dL_law_1116
theorem eL_1117 : decode mL_law.2.1 1117 = .ok (.invokevirtual 103, 3) := dL_law_1117
theorem eL_1120 : decode mL_law.2.1 1120 = .ok (.iload 5, 2) := dL_law_1120
theorem eL_1122 : decode mL_law.2.1 1122 = .ok (.if_icmp .eq 5, 3) := dL_law_1122
theorem eL_1125 : decode mL_law.2.1 1125 = .ok (.iconst 0, 1) := dL_law_1125
theorem eL_1126 : decode mL_law.2.1 1126 = .ok (.ireturn, 1) := dL_law_1126
theorem eL_1127 : decode mL_law.2.1 1127 = .ok (.iload 5, 2) := dL_law_1127
theorem eL_1129 : decode mL_law.2.1 1129 = .ok (.ifCond .ne 15, 3) := dL_law_1129
theorem eL_1132 : decode mL_law.2.1 1132 = .ok (.aload_n 3, 1) := dL_law_1132
theorem eL_1133 : decode mL_law.2.1 1133 = .ok (.iconst 0, 1) := dL_law_1133
theorem eL_1134 : decode mL_law.2.1 1134 = .ok (.laload, 1) := dL_law_1134
theorem eL_1135 : decode mL_law.2.1 1135 = .ok (.iload 6, 2) := dL_law_1135
theorem eL_1137 : decode mL_law.2.1 1137 = .ok (.i2l, 1) := dL_law_1137
theorem eL_1138 : decode mL_law.2.1 1138 = .ok (.lcmp, 1) := dL_law_1138
theorem eL_1139 : decode mL_law.2.1 1139 = .ok (.ifCond .eq 5, 3) := dL_law_1139
theorem eL_1142 : decode mL_law.2.1 1142 = .ok (.iconst 0, 1) := dL_law_1142
theorem eL_1143 : decode mL_law.2.1 1143 = .ok (.ireturn, 1) := dL_law_1143
theorem eL_1144 : decode mL_law.2.1 1144 = .ok (.goto 755, 3) := dL_law_1144
theorem eL_1147 : decode mL_law.2.1 1147 = .ok (.aload_n 1, 1) := dL_law_1147
theorem eL_1148 : decode mL_law.2.1 1148 = .ok (.aload_n 0, 1) := dL_law_1148
theorem eL_1149 : decode mL_law.2.1 1149 = .ok (.iload 4, 2) := dL_law_1149
theorem eL_1151 : decode mL_law.2.1 1151 = .ok (.iconst 1, 1) := dL_law_1151
theorem eL_1152 : decode mL_law.2.1 1152 = .ok (.iadd, 1) := dL_law_1152
theorem eL_1153 : decode mL_law.2.1 1153 = .ok (.iaload, 1) := dL_law_1153
theorem eL_1154 : decode mL_law.2.1 1154 = .ok (.aload_n 3, 1) := dL_law_1154
theorem eL_1155 : decode mL_law.2.1 1155 = .ok (.invokestatic 146, 3) := dL_law_1155
theorem eL_1158 : decode mL_law.2.1 1158 = .ok (.istore 5, 2) := dL_law_1158
theorem eL_1160 : decode mL_law.2.1 1160 = .ok (.aload_n 2, 1) := dL_law_1160
theorem eL_1161 : decode mL_law.2.1 1161 = .ok (.aload_n 0, 1) := dL_law_1161
theorem eL_1162 : decode mL_law.2.1 1162 = .ok (.iload 4, 2) := dL_law_1162
theorem eL_1164 : decode mL_law.2.1 1164 = .ok (.iconst 1, 1) := dL_law_1164
theorem eL_1165 : decode mL_law.2.1 1165 = .ok (.iadd, 1) := dL_law_1165
theorem eL_1166 : decode mL_law.2.1 1166 = .ok (.iaload, 1) := dL_law_1166
theorem eL_1167 : decode mL_law.2.1 1167 = .ok (.invokevirtual 148, 3) := dL_law_1167
theorem eL_1170 : decode mL_law.2.1 1170 = .ok (.istore 6, 2) := dL_law_1170
theorem eL_1172 : decode mL_law.2.1 1172 = .ok (.aload_n 2, 1) := dL_law_1172
theorem eL_1173 : decode mL_law.2.1 1173 = .ok (.invokevirtual 103, 3) := dL_law_1173
theorem eL_1176 : decode mL_law.2.1 1176 = .ok (.iload 5, 2) := dL_law_1176
theorem eL_1178 : decode mL_law.2.1 1178 = .ok (.if_icmp .eq 5, 3) := dL_law_1178
theorem eL_1181 : decode mL_law.2.1 1181 = .ok (.iconst 0, 1) := dL_law_1181
theorem eL_1182 : decode mL_law.2.1 1182 = .ok (.ireturn, 1) := dL_law_1182
theorem eL_1183 : decode mL_law.2.1 1183 = .ok (.iload 5, 2) := dL_law_1183
theorem eL_1185 : decode mL_law.2.1 1185 = .ok (.ifCond .ne 15, 3) := dL_law_1185
theorem eL_1188 : decode mL_law.2.1 1188 = .ok (.aload_n 3, 1) := dL_law_1188
theorem eL_1189 : decode mL_law.2.1 1189 = .ok (.iconst 0, 1) := dL_law_1189
theorem eL_1190 : decode mL_law.2.1 1190 = .ok (.laload, 1) := dL_law_1190
theorem eL_1191 : decode mL_law.2.1 1191 = .ok (.iload 6, 2) := dL_law_1191
theorem eL_1193 : decode mL_law.2.1 1193 = .ok (.i2l, 1) := dL_law_1193
theorem eL_1194 : decode mL_law.2.1 1194 = .ok (.lcmp, 1) := dL_law_1194
theorem eL_1195 : decode mL_law.2.1 1195 = .ok (.ifCond .eq 5, 3) := dL_law_1195
theorem eL_1198 : decode mL_law.2.1 1198 = .ok (.iconst 0, 1) := dL_law_1198
theorem eL_1199 : decode mL_law.2.1 1199 = .ok (.ireturn, 1) := dL_law_1199
theorem eL_1200 : decode mL_law.2.1 1200 = .ok (.goto 699, 3) := dL_law_1200
theorem eL_1203 : decode mL_law.2.1 1203 = .ok (.aload_n 1, 1) := dL_law_1203
theorem eL_1204 : decode mL_law.2.1 1204 = .ok (.aload_n 0, 1) := dL_law_1204
theorem eL_1205 : decode mL_law.2.1 1205 = .ok (.iload 4, 2) := dL_law_1205
theorem eL_1207 : decode mL_law.2.1 1207 = .ok (.iconst 1, 1) := dL_law_1207
theorem eL_1208 : decode mL_law.2.1 1208 = .ok (.iadd, 1) := dL_law_1208
theorem eL_1209 : decode mL_law.2.1 1209 = .ok (.iaload, 1) := dL_law_1209
theorem eL_1210 : decode mL_law.2.1 1210 = .ok (.aload_n 0, 1) := dL_law_1210
theorem eL_1211 : decode mL_law.2.1 1211 = .ok (.iload 4, 2) := dL_law_1211
theorem eL_1213 : decode mL_law.2.1 1213 = .ok (.iconst 2, 1) := dL_law_1213
theorem eL_1214 : decode mL_law.2.1 1214 = .ok (.iadd, 1) := dL_law_1214
theorem eL_1215 : decode mL_law.2.1 1215 = .ok (.iaload, 1) := dL_law_1215
theorem eL_1216 : decode mL_law.2.1 1216 = .ok (.aload_n 3, 1) := dL_law_1216
theorem eL_1217 : decode mL_law.2.1 1217 = .ok (.invokestatic 149, 3) := dL_law_1217
theorem eL_1220 : decode mL_law.2.1 1220 = .ok (.istore 5, 2) := dL_law_1220
theorem eL_1222 : decode mL_law.2.1 1222 = .ok (.aload_n 2, 1) := dL_law_1222
theorem eL_1223 : decode mL_law.2.1 1223 = .ok (.aload_n 0, 1) := dL_law_1223
theorem eL_1224 : decode mL_law.2.1 1224 = .ok (.iload 4, 2) := dL_law_1224
theorem eL_1226 : decode mL_law.2.1 1226 = .ok (.iconst 1, 1) := dL_law_1226
theorem eL_1227 : decode mL_law.2.1 1227 = .ok (.iadd, 1) := dL_law_1227
theorem eL_1228 : decode mL_law.2.1 1228 = .ok (.iaload, 1) := dL_law_1228
theorem eL_1229 : decode mL_law.2.1 1229 = .ok (.aload_n 0, 1) := dL_law_1229
theorem eL_1230 : decode mL_law.2.1 1230 = .ok (.iload 4, 2) := dL_law_1230
theorem eL_1232 : decode mL_law.2.1 1232 = .ok (.iconst 2, 1) := dL_law_1232
theorem eL_1233 : decode mL_law.2.1 1233 = .ok (.iadd, 1) := dL_law_1233
theorem eL_1234 : decode mL_law.2.1 1234 = .ok (.iaload, 1) := dL_law_1234
theorem eL_1235 : decode mL_law.2.1 1235 = .ok (.invokevirtual 151, 3) := dL_law_1235
theorem eL_1238 : decode mL_law.2.1 1238 = .ok (.istore 6, 2) := dL_law_1238
theorem eL_1240 : decode mL_law.2.1 1240 = .ok (.aload_n 2, 1) := dL_law_1240
theorem eL_1241 : decode mL_law.2.1 1241 = .ok (.invokevirtual 103, 3) := dL_law_1241
theorem eL_1244 : decode mL_law.2.1 1244 = .ok (.iload 5, 2) := dL_law_1244
theorem eL_1246 : decode mL_law.2.1 1246 = .ok (.if_icmp .eq 5, 3) := dL_law_1246
theorem eL_1249 : decode mL_law.2.1 1249 = .ok (.iconst 0, 1) := dL_law_1249
theorem eL_1250 : decode mL_law.2.1 1250 = .ok (.ireturn, 1) := dL_law_1250
theorem eL_1251 : decode mL_law.2.1 1251 = .ok (.iload 5, 2) := dL_law_1251
theorem eL_1253 : decode mL_law.2.1 1253 = .ok (.ifCond .ne 15, 3) := dL_law_1253
theorem eL_1256 : decode mL_law.2.1 1256 = .ok (.aload_n 3, 1) := dL_law_1256
theorem eL_1257 : decode mL_law.2.1 1257 = .ok (.iconst 0, 1) := dL_law_1257
theorem eL_1258 : decode mL_law.2.1 1258 = .ok (.laload, 1) := dL_law_1258
theorem eL_1259 : decode mL_law.2.1 1259 = .ok (.iload 6, 2) := dL_law_1259
theorem eL_1261 : decode mL_law.2.1 1261 = .ok (.i2l, 1) := dL_law_1261
theorem eL_1262 : decode mL_law.2.1 1262 = .ok (.lcmp, 1) := dL_law_1262
theorem eL_1263 : decode mL_law.2.1 1263 = .ok (.ifCond .eq 5, 3) := dL_law_1263
theorem eL_1266 : decode mL_law.2.1 1266 = .ok (.iconst 0, 1) := dL_law_1266
theorem eL_1267 : decode mL_law.2.1 1267 = .ok (.ireturn, 1) := dL_law_1267
theorem eL_1268 : decode mL_law.2.1 1268 = .ok (.goto 631, 3) := dL_law_1268
theorem eL_1271 : decode mL_law.2.1 1271 = .ok (.aload_n 1, 1) := dL_law_1271
theorem eL_1272 : decode mL_law.2.1 1272 = .ok (.aload_n 0, 1) := dL_law_1272
theorem eL_1273 : decode mL_law.2.1 1273 = .ok (.iload 4, 2) := dL_law_1273
theorem eL_1275 : decode mL_law.2.1 1275 = .ok (.iconst 1, 1) := dL_law_1275
theorem eL_1276 : decode mL_law.2.1 1276 = .ok (.iadd, 1) := dL_law_1276
theorem eL_1277 : decode mL_law.2.1 1277 = .ok (.iaload, 1) := dL_law_1277
theorem eL_1278 : decode mL_law.2.1 1278 = .ok (.aload_n 0, 1) := dL_law_1278
theorem eL_1279 : decode mL_law.2.1 1279 = .ok (.iload 4, 2) := dL_law_1279
theorem eL_1281 : decode mL_law.2.1 1281 = .ok (.iconst 2, 1) := dL_law_1281
theorem eL_1282 : decode mL_law.2.1 1282 = .ok (.iadd, 1) := dL_law_1282
theorem eL_1283 : decode mL_law.2.1 1283 = .ok (.iaload, 1) := dL_law_1283
theorem eL_1284 : decode mL_law.2.1 1284 = .ok (.aload_n 0, 1) := dL_law_1284
theorem eL_1285 : decode mL_law.2.1 1285 = .ok (.iload 4, 2) := dL_law_1285
theorem eL_1287 : decode mL_law.2.1 1287 = .ok (.iconst 3, 1) := dL_law_1287
theorem eL_1288 : decode mL_law.2.1 1288 = .ok (.iadd, 1) := dL_law_1288
theorem eL_1289 : decode mL_law.2.1 1289 = .ok (.iaload, 1) := dL_law_1289
theorem eL_1290 : decode mL_law.2.1 1290 = .ok (.aload_n 3, 1) := dL_law_1290
theorem eL_1291 : decode mL_law.2.1 1291 = .ok (.invokestatic 152, 3) := dL_law_1291
theorem eL_1294 : decode mL_law.2.1 1294 = .ok (.istore 5, 2) := dL_law_1294
theorem eL_1296 : decode mL_law.2.1 1296 = .ok (.aload_n 2, 1) := dL_law_1296
theorem eL_1297 : decode mL_law.2.1 1297 = .ok (.aload_n 0, 1) := dL_law_1297
theorem eL_1298 : decode mL_law.2.1 1298 = .ok (.iload 4, 2) := dL_law_1298
theorem eL_1300 : decode mL_law.2.1 1300 = .ok (.iconst 1, 1) := dL_law_1300
theorem eL_1301 : decode mL_law.2.1 1301 = .ok (.iadd, 1) := dL_law_1301
theorem eL_1302 : decode mL_law.2.1 1302 = .ok (.iaload, 1) := dL_law_1302
theorem eL_1303 : decode mL_law.2.1 1303 = .ok (.aload_n 0, 1) := dL_law_1303
theorem eL_1304 : decode mL_law.2.1 1304 = .ok (.iload 4, 2) := dL_law_1304
theorem eL_1306 : decode mL_law.2.1 1306 = .ok (.iconst 2, 1) := dL_law_1306
theorem eL_1307 : decode mL_law.2.1 1307 = .ok (.iadd, 1) := dL_law_1307
theorem eL_1308 : decode mL_law.2.1 1308 = .ok (.iaload, 1) := dL_law_1308
theorem eL_1309 : decode mL_law.2.1 1309 = .ok (.aload_n 0, 1) := dL_law_1309
theorem eL_1310 : decode mL_law.2.1 1310 = .ok (.iload 4, 2) := dL_law_1310
theorem eL_1312 : decode mL_law.2.1 1312 = .ok (.iconst 3, 1) := dL_law_1312
theorem eL_1313 : decode mL_law.2.1 1313 = .ok (.iadd, 1) := dL_law_1313
theorem eL_1314 : decode mL_law.2.1 1314 = .ok (.iaload, 1) := dL_law_1314
theorem eL_1315 : decode mL_law.2.1 1315 = .ok (.invokevirtual 154, 3) := dL_law_1315
theorem eL_1318 : decode mL_law.2.1 1318 = .ok (.istore 6, 2) := dL_law_1318
theorem eL_1320 : decode mL_law.2.1 1320 = .ok (.aload_n 2, 1) := dL_law_1320
theorem eL_1321 : decode mL_law.2.1 1321 = .ok (.invokevirtual 103, 3) := dL_law_1321
theorem eL_1324 : decode mL_law.2.1 1324 = .ok (.iload 5, 2) := dL_law_1324
theorem eL_1326 : decode mL_law.2.1 1326 = .ok (.if_icmp .eq 5, 3) := dL_law_1326
theorem eL_1329 : decode mL_law.2.1 1329 = .ok (.iconst 0, 1) := dL_law_1329
theorem eL_1330 : decode mL_law.2.1 1330 = .ok (.ireturn, 1) := dL_law_1330
theorem eL_1331 : decode mL_law.2.1 1331 = .ok (.iload 5, 2) := dL_law_1331
theorem eL_1333 : decode mL_law.2.1 1333 = .ok (.ifCond .ne 15, 3) := dL_law_1333
theorem eL_1336 : decode mL_law.2.1 1336 = .ok (.aload_n 3, 1) := dL_law_1336
theorem eL_1337 : decode mL_law.2.1 1337 = .ok (.iconst 0, 1) := dL_law_1337
theorem eL_1338 : decode mL_law.2.1 1338 = .ok (.laload, 1) := dL_law_1338
theorem eL_1339 : decode mL_law.2.1 1339 = .ok (.iload 6, 2) := dL_law_1339
theorem eL_1341 : decode mL_law.2.1 1341 = .ok (.i2l, 1) := dL_law_1341
theorem eL_1342 : decode mL_law.2.1 1342 = .ok (.lcmp, 1) := dL_law_1342
theorem eL_1343 : decode mL_law.2.1 1343 = .ok (.ifCond .eq 5, 3) := dL_law_1343
theorem eL_1346 : decode mL_law.2.1 1346 = .ok (.iconst 0, 1) := dL_law_1346
theorem eL_1347 : decode mL_law.2.1 1347 = .ok (.ireturn, 1) := dL_law_1347
theorem eL_1348 : decode mL_law.2.1 1348 = .ok (.goto 551, 3) := dL_law_1348
theorem eL_1351 : decode mL_law.2.1 1351 = .ok (.aload_n 1, 1) := dL_law_1351
theorem eL_1352 : decode mL_law.2.1 1352 = .ok (.aload_n 0, 1) := dL_law_1352
theorem eL_1353 : decode mL_law.2.1 1353 = .ok (.iload 4, 2) := dL_law_1353
theorem eL_1355 : decode mL_law.2.1 1355 = .ok (.iconst 1, 1) := dL_law_1355
theorem eL_1356 : decode mL_law.2.1 1356 = .ok (.iadd, 1) := dL_law_1356
theorem eL_1357 : decode mL_law.2.1 1357 = .ok (.iaload, 1) := dL_law_1357
theorem eL_1358 : decode mL_law.2.1 1358 = .ok (.aload_n 0, 1) := dL_law_1358
theorem eL_1359 : decode mL_law.2.1 1359 = .ok (.iload 4, 2) := dL_law_1359
theorem eL_1361 : decode mL_law.2.1 1361 = .ok (.iconst 2, 1) := dL_law_1361
theorem eL_1362 : decode mL_law.2.1 1362 = .ok (.iadd, 1) := dL_law_1362
theorem eL_1363 : decode mL_law.2.1 1363 = .ok (.iaload, 1) := dL_law_1363
theorem eL_1364 : decode mL_law.2.1 1364 = .ok (.invokevirtual 155, 3) := dL_law_1364
theorem eL_1367 : decode mL_law.2.1 1367 = .ok (.aload_n 2, 1) := dL_law_1367
theorem eL_1368 : decode mL_law.2.1 1368 = .ok (.aload_n 0, 1) := dL_law_1368
theorem eL_1369 : decode mL_law.2.1 1369 = .ok (.iload 4, 2) := dL_law_1369
theorem eL_1371 : decode mL_law.2.1 1371 = .ok (.iconst 1, 1) := dL_law_1371
theorem eL_1372 : decode mL_law.2.1 1372 = .ok (.iadd, 1) := dL_law_1372
theorem eL_1373 : decode mL_law.2.1 1373 = .ok (.iaload, 1) := dL_law_1373
theorem eL_1374 : decode mL_law.2.1 1374 = .ok (.aload_n 0, 1) := dL_law_1374
theorem eL_1375 : decode mL_law.2.1 1375 = .ok (.iload 4, 2) := dL_law_1375
theorem eL_1377 : decode mL_law.2.1 1377 = .ok (.iconst 2, 1) := dL_law_1377
theorem eL_1378 : decode mL_law.2.1 1378 = .ok (.iadd, 1) := dL_law_1378
theorem eL_1379 : decode mL_law.2.1 1379 = .ok (.iaload, 1) := dL_law_1379
theorem eL_1380 : decode mL_law.2.1 1380 = .ok (.invokevirtual 158, 3) := dL_law_1380
theorem eL_1383 : decode mL_law.2.1 1383 = .ok (.if_icmp .eq 516, 3) := dL_law_1383
theorem eL_1386 : decode mL_law.2.1 1386 = .ok (.iconst 0, 1) := dL_law_1386
theorem eL_1387 : decode mL_law.2.1 1387 = .ok (.ireturn, 1) := dL_law_1387
theorem eL_1388 : decode mL_law.2.1 1388 = .ok (.aload_n 1, 1) := dL_law_1388
theorem eL_1389 : decode mL_law.2.1 1389 = .ok (.aload_n 0, 1) := dL_law_1389
theorem eL_1390 : decode mL_law.2.1 1390 = .ok (.iload 4, 2) := dL_law_1390
theorem eL_1392 : decode mL_law.2.1 1392 = .ok (.iconst 1, 1) := dL_law_1392
theorem eL_1393 : decode mL_law.2.1 1393 = .ok (.iadd, 1) := dL_law_1393
theorem eL_1394 : decode mL_law.2.1 1394 = .ok (.iaload, 1) := dL_law_1394
theorem eL_1395 : decode mL_law.2.1 1395 = .ok (.aload_n 0, 1) := dL_law_1395
theorem eL_1396 : decode mL_law.2.1 1396 = .ok (.iload 4, 2) := dL_law_1396
theorem eL_1398 : decode mL_law.2.1 1398 = .ok (.iconst 2, 1) := dL_law_1398
theorem eL_1399 : decode mL_law.2.1 1399 = .ok (.iadd, 1) := dL_law_1399
theorem eL_1400 : decode mL_law.2.1 1400 = .ok (.iaload, 1) := dL_law_1400
theorem eL_1401 : decode mL_law.2.1 1401 = .ok (.aload_n 3, 1) := dL_law_1401
theorem eL_1402 : decode mL_law.2.1 1402 = .ok (.invokestatic 159, 3) := dL_law_1402
theorem eL_1405 : decode mL_law.2.1 1405 = .ok (.istore 5, 2) := dL_law_1405
theorem eL_1407 : decode mL_law.2.1 1407 = .ok (.aload_n 2, 1) := dL_law_1407
theorem eL_1408 : decode mL_law.2.1 1408 = .ok (.aload_n 0, 1) := dL_law_1408
theorem eL_1409 : decode mL_law.2.1 1409 = .ok (.iload 4, 2) := dL_law_1409
theorem eL_1411 : decode mL_law.2.1 1411 = .ok (.iconst 1, 1) := dL_law_1411
theorem eL_1412 : decode mL_law.2.1 1412 = .ok (.iadd, 1) := dL_law_1412
theorem eL_1413 : decode mL_law.2.1 1413 = .ok (.iaload, 1) := dL_law_1413
theorem eL_1414 : decode mL_law.2.1 1414 = .ok (.aload_n 0, 1) := dL_law_1414
theorem eL_1415 : decode mL_law.2.1 1415 = .ok (.iload 4, 2) := dL_law_1415
theorem eL_1417 : decode mL_law.2.1 1417 = .ok (.iconst 2, 1) := dL_law_1417
theorem eL_1418 : decode mL_law.2.1 1418 = .ok (.iadd, 1) := dL_law_1418
theorem eL_1419 : decode mL_law.2.1 1419 = .ok (.iaload, 1) := dL_law_1419
theorem eL_1420 : decode mL_law.2.1 1420 = .ok (.invokevirtual 161, 3) := dL_law_1420
theorem eL_1423 : decode mL_law.2.1 1423 = .ok (.istore 6, 2) := dL_law_1423
theorem eL_1425 : decode mL_law.2.1 1425 = .ok (.aload_n 2, 1) := dL_law_1425
theorem eL_1426 : decode mL_law.2.1 1426 = .ok (.invokevirtual 103, 3) := dL_law_1426
theorem eL_1429 : decode mL_law.2.1 1429 = .ok (.iload 5, 2) := dL_law_1429
theorem eL_1431 : decode mL_law.2.1 1431 = .ok (.if_icmp .eq 5, 3) := dL_law_1431
theorem eL_1434 : decode mL_law.2.1 1434 = .ok (.iconst 0, 1) := dL_law_1434
theorem eL_1435 : decode mL_law.2.1 1435 = .ok (.ireturn, 1) := dL_law_1435
theorem eL_1436 : decode mL_law.2.1 1436 = .ok (.iload 5, 2) := dL_law_1436
theorem eL_1438 : decode mL_law.2.1 1438 = .ok (.ifCond .ne 15, 3) := dL_law_1438
theorem eL_1441 : decode mL_law.2.1 1441 = .ok (.aload_n 3, 1) := dL_law_1441
theorem eL_1442 : decode mL_law.2.1 1442 = .ok (.iconst 0, 1) := dL_law_1442
theorem eL_1443 : decode mL_law.2.1 1443 = .ok (.laload, 1) := dL_law_1443
theorem eL_1444 : decode mL_law.2.1 1444 = .ok (.iload 6, 2) := dL_law_1444
theorem eL_1446 : decode mL_law.2.1 1446 = .ok (.i2l, 1) := dL_law_1446
theorem eL_1447 : decode mL_law.2.1 1447 = .ok (.lcmp, 1) := dL_law_1447
theorem eL_1448 : decode mL_law.2.1 1448 = .ok (.ifCond .eq 5, 3) := dL_law_1448
theorem eL_1451 : decode mL_law.2.1 1451 = .ok (.iconst 0, 1) := dL_law_1451
theorem eL_1452 : decode mL_law.2.1 1452 = .ok (.ireturn, 1) := dL_law_1452
theorem eL_1453 : decode mL_law.2.1 1453 = .ok (.goto 446, 3) := dL_law_1453
theorem eL_1456 : decode mL_law.2.1 1456 = .ok (.aload_n 1, 1) := dL_law_1456
theorem eL_1457 : decode mL_law.2.1 1457 = .ok (.aload_n 0, 1) := dL_law_1457
theorem eL_1458 : decode mL_law.2.1 1458 = .ok (.iload 4, 2) := dL_law_1458
theorem eL_1460 : decode mL_law.2.1 1460 = .ok (.iconst 1, 1) := dL_law_1460
theorem eL_1461 : decode mL_law.2.1 1461 = .ok (.iadd, 1) := dL_law_1461
theorem eL_1462 : decode mL_law.2.1 1462 = .ok (.iaload, 1) := dL_law_1462
theorem eL_1463 : decode mL_law.2.1 1463 = .ok (.ifCond .eq 7, 3) := dL_law_1463
theorem eL_1466 : decode mL_law.2.1 1466 = .ok (.iconst 1, 1) := dL_law_1466
theorem eL_1467 : decode mL_law.2.1 1467 = .ok (.goto 4, 3) := dL_law_1467
theorem eL_1470 : decode mL_law.2.1 1470 = .ok (.iconst 0, 1) := dL_law_1470
theorem eL_1471 : decode mL_law.2.1 1471 = .ok (.aload_n 0, 1) := dL_law_1471
theorem eL_1472 : decode mL_law.2.1 1472 = .ok (.iload 4, 2) := dL_law_1472
theorem eL_1474 : decode mL_law.2.1 1474 = .ok (.iconst 2, 1) := dL_law_1474
theorem eL_1475 : decode mL_law.2.1 1475 = .ok (.iadd, 1) := dL_law_1475
theorem eL_1476 : decode mL_law.2.1 1476 = .ok (.iaload, 1) := dL_law_1476
theorem eL_1477 : decode mL_law.2.1 1477 = .ok (.invokevirtual 162, 3) := dL_law_1477
theorem eL_1480 : decode mL_law.2.1 1480 = .ok (.aload_n 2, 1) := dL_law_1480
theorem eL_1481 : decode mL_law.2.1 1481 = .ok (.aload_n 0, 1) := dL_law_1481
theorem eL_1482 : decode mL_law.2.1 1482 = .ok (.iload 4, 2) := dL_law_1482
theorem eL_1484 : decode mL_law.2.1 1484 = .ok (.iconst 1, 1) := dL_law_1484
theorem eL_1485 : decode mL_law.2.1 1485 = .ok (.iadd, 1) := dL_law_1485
theorem eL_1486 : decode mL_law.2.1 1486 = .ok (.iaload, 1) := dL_law_1486
theorem eL_1487 : decode mL_law.2.1 1487 = .ok (.ifCond .eq 7, 3) := dL_law_1487
theorem eL_1490 : decode mL_law.2.1 1490 = .ok (.iconst 1, 1) := dL_law_1490
theorem eL_1491 : decode mL_law.2.1 1491 = .ok (.goto 4, 3) := dL_law_1491
theorem eL_1494 : decode mL_law.2.1 1494 = .ok (.iconst 0, 1) := dL_law_1494
theorem eL_1495 : decode mL_law.2.1 1495 = .ok (.aload_n 0, 1) := dL_law_1495
theorem eL_1496 : decode mL_law.2.1 1496 = .ok (.iload 4, 2) := dL_law_1496
theorem eL_1498 : decode mL_law.2.1 1498 = .ok (.iconst 2, 1) := dL_law_1498
theorem eL_1499 : decode mL_law.2.1 1499 = .ok (.iadd, 1) := dL_law_1499
theorem eL_1500 : decode mL_law.2.1 1500 = .ok (.iaload, 1) := dL_law_1500
theorem eL_1501 : decode mL_law.2.1 1501 = .ok (.invokevirtual 166, 3) := dL_law_1501
theorem eL_1504 : decode mL_law.2.1 1504 = .ok (.if_icmp .eq 395, 3) := dL_law_1504
theorem eL_1507 : decode mL_law.2.1 1507 = .ok (.iconst 0, 1) := dL_law_1507
theorem eL_1508 : decode mL_law.2.1 1508 = .ok (.ireturn, 1) := dL_law_1508
set_option maxRecDepth 20000 in
theorem st_roots {S0 : Nat → Int} {n0 i oo nc ns dx cx sx dm cm sm D mc ms : Nat} {R : Option Int} {QX QM : HF → HA → Prop} {l5 l6 : Option LV} {F : HF} {A : HA} {al : AL} {Post : PO}
    (hK : KX al) (hM : KM al) (hs : al.1 0 = (4, n0)) (hoo : al.1 oo = (2, 1)) (h67 : 67 ≤ oo) (hot : oo < al.2) (hA0 : A 0 = S0) (hi : i + 6 ≤ n0) (hn0 : n0 ≤ 3072)
    (hD : 60 ≤ D) (hdx : dx ≤ 57) (hdm : dm ≤ 57) (hmc : nc + cx + cm ≤ mc) (hms : ns + sx + sm ≤ ms)
    (hQX : ∀ (F1 : HF) (A1 : HA) (F2 : HF) (A2 : HA), QX F1 A1 → (∀ b k, b < 44 → F2 b k = F1 b k) → (∀ b, b < 44 → A2 b = A1 b) → QX F2 A2)
    (evx : QE dx cx sx mX11_roots (vA 1 :: [vI (S0 ((i : Int) + 1).toNat), vI (S0 ((i : Int) + 2).toNat), vI (S0 ((i : Int) + 3).toNat)]) F A al (PXR eN R F A al QX))
    (evm : ∀ (F1 : HF) (A1 : HA), (∀ b k, 44 ≤ b → F1 b k = F b k) → (∀ b, 44 ≤ b → b < 67 → A1 b = A b) → QE dm cm sm mX12_roots (vA 44 :: [vI (S0 ((i : Int) + 1).toNat), vI (S0 ((i : Int) + 2).toNat), vI (S0 ((i : Int) + 3).toNat)]) F1 A1 al (PMR R F1 A1 al QM))
    (kk : ∀ (F2 : HF) (A2 : HA) (al2 : AL) (l5 l6 : Option LV), KE al.2 al al2 → QX F2 A2 → QM F2 A2 → A2 0 = S0 → QW mL_law D mc ms Post (nc + cx + cm) (ns + sx + sm) 1899 [some (vA 0), some (vA 1), some (vA 44), some (vA oo), some (vI (i : Nat)), l5, l6] [] F2 A2 al2) :
    QW mL_law D mc ms Post nc ns 931 [some (vA 0), some (vA 1), some (vA 44), some (vA oo), some (vI (i : Nat)), l5, l6] [] F A al := by
  refine q_aload_n eL_931 rfl ?_
  refine q_aload_n eL_932 rfl ?_
  refine q_iload eL_933 rfl ?_
  refine q_iconst eL_935 ?_
  refine q_iadd eL_936 ?_
  refine q_sldE eL_937 hA0 hs (by omega) (by omega) ?_
  refine q_aload_n eL_938 rfl ?_
  refine q_iload eL_939 rfl ?_
  refine q_iconst eL_941 ?_
  refine q_iadd eL_942 ?_
  refine q_sldE eL_943 hA0 hs (by omega) (by omega) ?_
  refine q_aload_n eL_944 rfl ?_
  refine q_iload eL_945 rfl ?_
  refine q_iconst eL_947 ?_
  refine q_iadd eL_948 ?_
  refine q_sldE eL_949 hA0 hs (by omega) (by omega) ?_
  refine q_aload_n eL_950 rfl ?_
  refine q_callSW [vA 1, vI (S0 ((i : Int) + 1).toNat), vI (S0 ((i : Int) + 2).toNat), vI (S0 ((i : Int) + 3).toNat), vA oo] (M1 := mL_roots) eL_951 mfw_roots lkw_roots (lw_roots (D := 58) hK hoo h67 (by omega) evx) nt_PW (by omega) (by omega) (by omega) (Nat.le_of_ble_eq_true rfl) (st := []) rfl (fun v1 F1 A1 al1 h1 => ?_)
  obtain ⟨e1, rfl, f1, a1, ⟨A9, q9, b9⟩, w9⟩ := h1
  obtain rfl := Sum.inl.inj e1
  have hA1 : A1 0 = S0 := (a1 0 (Or.inl rfl)).trans hA0
  refine q_istore eL_954 (by decide) rfl ?_
  refine q_aload_n eL_956 rfl ?_
  refine q_aload_n eL_957 rfl ?_
  refine q_iload eL_958 rfl ?_
  refine q_iconst eL_960 ?_
  refine q_iadd eL_961 ?_
  refine q_sldE eL_962 hA1 hs (by omega) (by omega) ?_
  refine q_aload_n eL_963 rfl ?_
  refine q_iload eL_964 rfl ?_
  refine q_iconst eL_966 ?_
  refine q_iadd eL_967 ?_
  refine q_sldE eL_968 hA1 hs (by omega) (by omega) ?_
  refine q_aload_n eL_969 rfl ?_
  refine q_iload eL_970 rfl ?_
  refine q_iconst eL_972 ?_
  refine q_iadd eL_973 ?_
  refine q_sldE eL_974 hA1 hs (by omega) (by omega) ?_
  refine q_callV [vI (S0 ((i : Int) + 1).toNat), vI (S0 ((i : Int) + 2).toNat), vI (S0 ((i : Int) + 3).toNat)] (M1 := mX12_roots) eL_975 mf_X12_roots lk_L_139 (hM 44 (by decide) (by decide)) (evm F1 A1 f1 (fun b h1 h2 => a1 b (Or.inr ⟨h1, h2⟩))) (by intro E F A al h; cases h.1) (by omega) (by omega) (by omega) (Nat.le_of_ble_eq_true rfl) (st := []) rfl (fun v2 F2 A2 al2 h2 => ?_)
  obtain ⟨e2, t2, ke, f2, a2, q2⟩ := h2
  obtain rfl := Sum.inl.inj e2
  have hA2 : A2 0 = S0 := (a2 0 (by omega) (Or.inl (by decide))).trans hA1
  have hx2 : QX F2 A2 := hQX F1 A9 F2 A2 q9 (fun b k hb => f2 b k (by omega) (by omega)) (fun b hb => (a2 b (by omega) (Or.inl hb)).trans (b9 b hb))
  have hM2 : KM al2 := fun a h1 h2 => (ke.2 a (by omega)).trans (hM a h1 h2)
  refine q_istore eL_978 (by decide) rfl ?_
  refine q_aload_n eL_980 rfl ?_
  refine q_callVP [] (M1 := mX12_thrown) eL_981 mf_X12_thrown lk_L_103 (hM2 44 (by decide) (by decide)) (mo_thrown hM2 t2) (by omega) (by omega) (by omega) (Nat.le_of_ble_eq_true rfl) rfl ?_
  refine q_iload eL_984 rfl ?_
  refine q_icmp_same (tgt := 991) eL_986 (by decide) ?_
  refine q_iload eL_991 rfl ?_
  rcases R with _ | a9
  · refine q_if_ne (tgt := 1008) eL_993 (by decide) ⟨by decide, by decide⟩ (fun c => ?_) (fun c => absurd c (by decide))
    refine q_goto (tgt := 1899) eL_1008 (by decide) ?_
    exact kk F2 A2 al2 _ _ ke hx2 q2 hA2
  · refine q_if_ne (tgt := 1008) eL_993 (by decide) inR0 (fun c => absurd (show thE (some a9) = 0 from rfl) c) (fun c => ?_)
    refine q_aload_n eL_996 rfl ?_
    refine q_iconst eL_997 ?_
    refine q_lald eL_998 ((ke.2 oo hot).trans hoo) (by decide) (by decide) ?_
    rw [show A2 oo (0 : Int).toNat = wr a9 from (congrFun (a2 oo hot (Or.inr h67)) 0).trans (w9 a9 rfl)]
    refine q_iload eL_999 rfl ?_
    refine q_i2lw eL_1001 ?_
    refine q_lcmp eL_1002 (wr_L _) (wr_L _) ?_
    refine q_if_eq (tgt := 1008) eL_1003 (by decide) (cmpL_R _ _) (fun c => ?_) (fun c => absurd (cmpL_same _) c)
    refine q_goto (tgt := 1899) eL_1008 (by decide) ?_
    exact kk F2 A2 al2 _ _ ke hx2 q2 hA2
set_option maxRecDepth 20000 in
theorem st_zeros {S0 : Nat → Int} {n0 i oo nc ns dx cx sx dm cm sm D mc ms : Nat} {R : Option Int} {QX QM : HF → HA → Prop} {l5 l6 : Option LV} {F : HF} {A : HA} {al : AL} {Post : PO}
    (hK : KX al) (hM : KM al) (hs : al.1 0 = (4, n0)) (hoo : al.1 oo = (2, 1)) (h67 : 67 ≤ oo) (hot : oo < al.2) (hA0 : A 0 = S0) (hi : i + 6 ≤ n0) (hn0 : n0 ≤ 3072)
    (hD : 60 ≤ D) (hdx : dx ≤ 57) (hdm : dm ≤ 57) (hmc : nc + cx + cm ≤ mc) (hms : ns + sx + sm ≤ ms)
    (hQX : ∀ (F1 : HF) (A1 : HA) (F2 : HF) (A2 : HA), QX F1 A1 → (∀ b k, b < 44 → F2 b k = F1 b k) → (∀ b, b < 44 → A2 b = A1 b) → QX F2 A2)
    (evx : QE dx cx sx mX11_zeros (vA 1 :: [vI (S0 ((i : Int) + 1).toNat), vI (S0 ((i : Int) + 2).toNat)]) F A al (PXR eN R F A al QX))
    (evm : ∀ (F1 : HF) (A1 : HA), (∀ b k, 44 ≤ b → F1 b k = F b k) → (∀ b, 44 ≤ b → b < 67 → A1 b = A b) → QE dm cm sm mX12_zeros (vA 44 :: [vI (S0 ((i : Int) + 1).toNat), vI (S0 ((i : Int) + 2).toNat)]) F1 A1 al (PMR R F1 A1 al QM))
    (kk : ∀ (F2 : HF) (A2 : HA) (al2 : AL) (l5 l6 : Option LV), KE al.2 al al2 → QX F2 A2 → QM F2 A2 → A2 0 = S0 → QW mL_law D mc ms Post (nc + cx + cm) (ns + sx + sm) 1899 [some (vA 0), some (vA 1), some (vA 44), some (vA oo), some (vI (i : Nat)), l5, l6] [] F2 A2 al2) :
    QW mL_law D mc ms Post nc ns 1011 [some (vA 0), some (vA 1), some (vA 44), some (vA oo), some (vI (i : Nat)), l5, l6] [] F A al := by
  refine q_aload_n eL_1011 rfl ?_
  refine q_aload_n eL_1012 rfl ?_
  refine q_iload eL_1013 rfl ?_
  refine q_iconst eL_1015 ?_
  refine q_iadd eL_1016 ?_
  refine q_sldE eL_1017 hA0 hs (by omega) (by omega) ?_
  refine q_aload_n eL_1018 rfl ?_
  refine q_iload eL_1019 rfl ?_
  refine q_iconst eL_1021 ?_
  refine q_iadd eL_1022 ?_
  refine q_sldE eL_1023 hA0 hs (by omega) (by omega) ?_
  refine q_aload_n eL_1024 rfl ?_
  refine q_callSW [vA 1, vI (S0 ((i : Int) + 1).toNat), vI (S0 ((i : Int) + 2).toNat), vA oo] (M1 := mL_zeros) eL_1025 mfw_zeros lkw_zeros (lw_zeros (D := 58) hK hoo h67 (by omega) evx) nt_PW (by omega) (by omega) (by omega) (Nat.le_of_ble_eq_true rfl) (st := []) rfl (fun v1 F1 A1 al1 h1 => ?_)
  obtain ⟨e1, rfl, f1, a1, ⟨A9, q9, b9⟩, w9⟩ := h1
  obtain rfl := Sum.inl.inj e1
  have hA1 : A1 0 = S0 := (a1 0 (Or.inl rfl)).trans hA0
  refine q_istore eL_1028 (by decide) rfl ?_
  refine q_aload_n eL_1030 rfl ?_
  refine q_aload_n eL_1031 rfl ?_
  refine q_iload eL_1032 rfl ?_
  refine q_iconst eL_1034 ?_
  refine q_iadd eL_1035 ?_
  refine q_sldE eL_1036 hA1 hs (by omega) (by omega) ?_
  refine q_aload_n eL_1037 rfl ?_
  refine q_iload eL_1038 rfl ?_
  refine q_iconst eL_1040 ?_
  refine q_iadd eL_1041 ?_
  refine q_sldE eL_1042 hA1 hs (by omega) (by omega) ?_
  refine q_callV [vI (S0 ((i : Int) + 1).toNat), vI (S0 ((i : Int) + 2).toNat)] (M1 := mX12_zeros) eL_1043 mf_X12_zeros lk_L_142 (hM 44 (by decide) (by decide)) (evm F1 A1 f1 (fun b h1 h2 => a1 b (Or.inr ⟨h1, h2⟩))) (by intro E F A al h; cases h.1) (by omega) (by omega) (by omega) (Nat.le_of_ble_eq_true rfl) (st := []) rfl (fun v2 F2 A2 al2 h2 => ?_)
  obtain ⟨e2, t2, ke, f2, a2, q2⟩ := h2
  obtain rfl := Sum.inl.inj e2
  have hA2 : A2 0 = S0 := (a2 0 (by omega) (Or.inl (by decide))).trans hA1
  have hx2 : QX F2 A2 := hQX F1 A9 F2 A2 q9 (fun b k hb => f2 b k (by omega) (by omega)) (fun b hb => (a2 b (by omega) (Or.inl hb)).trans (b9 b hb))
  have hM2 : KM al2 := fun a h1 h2 => (ke.2 a (by omega)).trans (hM a h1 h2)
  refine q_istore eL_1046 (by decide) rfl ?_
  refine q_aload_n eL_1048 rfl ?_
  refine q_callVP [] (M1 := mX12_thrown) eL_1049 mf_X12_thrown lk_L_103 (hM2 44 (by decide) (by decide)) (mo_thrown hM2 t2) (by omega) (by omega) (by omega) (Nat.le_of_ble_eq_true rfl) rfl ?_
  refine q_iload eL_1052 rfl ?_
  refine q_icmp_same (tgt := 1059) eL_1054 (by decide) ?_
  refine q_iload eL_1059 rfl ?_
  rcases R with _ | a9
  · refine q_if_ne (tgt := 1076) eL_1061 (by decide) ⟨by decide, by decide⟩ (fun c => ?_) (fun c => absurd c (by decide))
    refine q_goto (tgt := 1899) eL_1076 (by decide) ?_
    exact kk F2 A2 al2 _ _ ke hx2 q2 hA2
  · refine q_if_ne (tgt := 1076) eL_1061 (by decide) inR0 (fun c => absurd (show thE (some a9) = 0 from rfl) c) (fun c => ?_)
    refine q_aload_n eL_1064 rfl ?_
    refine q_iconst eL_1065 ?_
    refine q_lald eL_1066 ((ke.2 oo hot).trans hoo) (by decide) (by decide) ?_
    rw [show A2 oo (0 : Int).toNat = wr a9 from (congrFun (a2 oo hot (Or.inr h67)) 0).trans (w9 a9 rfl)]
    refine q_iload eL_1067 rfl ?_
    refine q_i2lw eL_1069 ?_
    refine q_lcmp eL_1070 (wr_L _) (wr_L _) ?_
    refine q_if_eq (tgt := 1076) eL_1071 (by decide) (cmpL_R _ _) (fun c => ?_) (fun c => absurd (cmpL_same _) c)
    refine q_goto (tgt := 1899) eL_1076 (by decide) ?_
    exact kk F2 A2 al2 _ _ ke hx2 q2 hA2
set_option maxRecDepth 20000 in
theorem st_within {S0 : Nat → Int} {n0 i oo nc ns dx cx sx dm cm sm D mc ms : Nat} {R : Option Int} {QX QM : HF → HA → Prop} {l5 l6 : Option LV} {F : HF} {A : HA} {al : AL} {Post : PO}
    (hK : KX al) (hM : KM al) (hs : al.1 0 = (4, n0)) (hoo : al.1 oo = (2, 1)) (h67 : 67 ≤ oo) (hot : oo < al.2) (hA0 : A 0 = S0) (hi : i + 6 ≤ n0) (hn0 : n0 ≤ 3072)
    (hD : 60 ≤ D) (hdx : dx ≤ 57) (hdm : dm ≤ 57) (hmc : nc + cx + cm ≤ mc) (hms : ns + sx + sm ≤ ms)
    (hQX : ∀ (F1 : HF) (A1 : HA) (F2 : HF) (A2 : HA), QX F1 A1 → (∀ b k, b < 44 → F2 b k = F1 b k) → (∀ b, b < 44 → A2 b = A1 b) → QX F2 A2)
    (evx : QE dx cx sx mX11_within (vA 1 :: [vI (S0 ((i : Int) + 1).toNat), vI (S0 ((i : Int) + 2).toNat)]) F A al (PXR eN R F A al QX))
    (evm : ∀ (F1 : HF) (A1 : HA), (∀ b k, 44 ≤ b → F1 b k = F b k) → (∀ b, 44 ≤ b → b < 67 → A1 b = A b) → QE dm cm sm mX12_within (vA 44 :: [vI (S0 ((i : Int) + 1).toNat), vI (S0 ((i : Int) + 2).toNat)]) F1 A1 al (PMR R F1 A1 al QM))
    (kk : ∀ (F2 : HF) (A2 : HA) (al2 : AL) (l5 l6 : Option LV), KE al.2 al al2 → QX F2 A2 → QM F2 A2 → A2 0 = S0 → QW mL_law D mc ms Post (nc + cx + cm) (ns + sx + sm) 1899 [some (vA 0), some (vA 1), some (vA 44), some (vA oo), some (vI (i : Nat)), l5, l6] [] F2 A2 al2) :
    QW mL_law D mc ms Post nc ns 1079 [some (vA 0), some (vA 1), some (vA 44), some (vA oo), some (vI (i : Nat)), l5, l6] [] F A al := by
  refine q_aload_n eL_1079 rfl ?_
  refine q_aload_n eL_1080 rfl ?_
  refine q_iload eL_1081 rfl ?_
  refine q_iconst eL_1083 ?_
  refine q_iadd eL_1084 ?_
  refine q_sldE eL_1085 hA0 hs (by omega) (by omega) ?_
  refine q_aload_n eL_1086 rfl ?_
  refine q_iload eL_1087 rfl ?_
  refine q_iconst eL_1089 ?_
  refine q_iadd eL_1090 ?_
  refine q_sldE eL_1091 hA0 hs (by omega) (by omega) ?_
  refine q_aload_n eL_1092 rfl ?_
  refine q_callSW [vA 1, vI (S0 ((i : Int) + 1).toNat), vI (S0 ((i : Int) + 2).toNat), vA oo] (M1 := mL_within) eL_1093 mfw_within lkw_within (lw_within (D := 58) hK hoo h67 (by omega) evx) nt_PW (by omega) (by omega) (by omega) (Nat.le_of_ble_eq_true rfl) (st := []) rfl (fun v1 F1 A1 al1 h1 => ?_)
  obtain ⟨e1, rfl, f1, a1, ⟨A9, q9, b9⟩, w9⟩ := h1
  obtain rfl := Sum.inl.inj e1
  have hA1 : A1 0 = S0 := (a1 0 (Or.inl rfl)).trans hA0
  refine q_istore eL_1096 (by decide) rfl ?_
  refine q_aload_n eL_1098 rfl ?_
  refine q_aload_n eL_1099 rfl ?_
  refine q_iload eL_1100 rfl ?_
  refine q_iconst eL_1102 ?_
  refine q_iadd eL_1103 ?_
  refine q_sldE eL_1104 hA1 hs (by omega) (by omega) ?_
  refine q_aload_n eL_1105 rfl ?_
  refine q_iload eL_1106 rfl ?_
  refine q_iconst eL_1108 ?_
  refine q_iadd eL_1109 ?_
  refine q_sldE eL_1110 hA1 hs (by omega) (by omega) ?_
  refine q_callV [vI (S0 ((i : Int) + 1).toNat), vI (S0 ((i : Int) + 2).toNat)] (M1 := mX12_within) eL_1111 mf_X12_within lk_L_145 (hM 44 (by decide) (by decide)) (evm F1 A1 f1 (fun b h1 h2 => a1 b (Or.inr ⟨h1, h2⟩))) (by intro E F A al h; cases h.1) (by omega) (by omega) (by omega) (Nat.le_of_ble_eq_true rfl) (st := []) rfl (fun v2 F2 A2 al2 h2 => ?_)
  obtain ⟨e2, t2, ke, f2, a2, q2⟩ := h2
  obtain rfl := Sum.inl.inj e2
  have hA2 : A2 0 = S0 := (a2 0 (by omega) (Or.inl (by decide))).trans hA1
  have hx2 : QX F2 A2 := hQX F1 A9 F2 A2 q9 (fun b k hb => f2 b k (by omega) (by omega)) (fun b hb => (a2 b (by omega) (Or.inl hb)).trans (b9 b hb))
  have hM2 : KM al2 := fun a h1 h2 => (ke.2 a (by omega)).trans (hM a h1 h2)
  refine q_istore eL_1114 (by decide) rfl ?_
  refine q_aload_n eL_1116 rfl ?_
  refine q_callVP [] (M1 := mX12_thrown) eL_1117 mf_X12_thrown lk_L_103 (hM2 44 (by decide) (by decide)) (mo_thrown hM2 t2) (by omega) (by omega) (by omega) (Nat.le_of_ble_eq_true rfl) rfl ?_
  refine q_iload eL_1120 rfl ?_
  refine q_icmp_same (tgt := 1127) eL_1122 (by decide) ?_
  refine q_iload eL_1127 rfl ?_
  rcases R with _ | a9
  · refine q_if_ne (tgt := 1144) eL_1129 (by decide) ⟨by decide, by decide⟩ (fun c => ?_) (fun c => absurd c (by decide))
    refine q_goto (tgt := 1899) eL_1144 (by decide) ?_
    exact kk F2 A2 al2 _ _ ke hx2 q2 hA2
  · refine q_if_ne (tgt := 1144) eL_1129 (by decide) inR0 (fun c => absurd (show thE (some a9) = 0 from rfl) c) (fun c => ?_)
    refine q_aload_n eL_1132 rfl ?_
    refine q_iconst eL_1133 ?_
    refine q_lald eL_1134 ((ke.2 oo hot).trans hoo) (by decide) (by decide) ?_
    rw [show A2 oo (0 : Int).toNat = wr a9 from (congrFun (a2 oo hot (Or.inr h67)) 0).trans (w9 a9 rfl)]
    refine q_iload eL_1135 rfl ?_
    refine q_i2lw eL_1137 ?_
    refine q_lcmp eL_1138 (wr_L _) (wr_L _) ?_
    refine q_if_eq (tgt := 1144) eL_1139 (by decide) (cmpL_R _ _) (fun c => ?_) (fun c => absurd (cmpL_same _) c)
    refine q_goto (tgt := 1899) eL_1144 (by decide) ?_
    exact kk F2 A2 al2 _ _ ke hx2 q2 hA2
set_option maxRecDepth 20000 in
theorem st_units {S0 : Nat → Int} {n0 i oo nc ns dx cx sx dm cm sm D mc ms : Nat} {R : Option Int} {QX QM : HF → HA → Prop} {l5 l6 : Option LV} {F : HF} {A : HA} {al : AL} {Post : PO}
    (hK : KX al) (hM : KM al) (hs : al.1 0 = (4, n0)) (hoo : al.1 oo = (2, 1)) (h67 : 67 ≤ oo) (hot : oo < al.2) (hA0 : A 0 = S0) (hi : i + 6 ≤ n0) (hn0 : n0 ≤ 3072)
    (hD : 60 ≤ D) (hdx : dx ≤ 57) (hdm : dm ≤ 57) (hmc : nc + cx + cm ≤ mc) (hms : ns + sx + sm ≤ ms)
    (hQX : ∀ (F1 : HF) (A1 : HA) (F2 : HF) (A2 : HA), QX F1 A1 → (∀ b k, b < 44 → F2 b k = F1 b k) → (∀ b, b < 44 → A2 b = A1 b) → QX F2 A2)
    (evx : QE dx cx sx mX11_units (vA 1 :: [vI (S0 ((i : Int) + 1).toNat)]) F A al (PXR eN R F A al QX))
    (evm : ∀ (F1 : HF) (A1 : HA), (∀ b k, 44 ≤ b → F1 b k = F b k) → (∀ b, 44 ≤ b → b < 67 → A1 b = A b) → QE dm cm sm mX12_units (vA 44 :: [vI (S0 ((i : Int) + 1).toNat)]) F1 A1 al (PMR R F1 A1 al QM))
    (kk : ∀ (F2 : HF) (A2 : HA) (al2 : AL) (l5 l6 : Option LV), KE al.2 al al2 → QX F2 A2 → QM F2 A2 → A2 0 = S0 → QW mL_law D mc ms Post (nc + cx + cm) (ns + sx + sm) 1899 [some (vA 0), some (vA 1), some (vA 44), some (vA oo), some (vI (i : Nat)), l5, l6] [] F2 A2 al2) :
    QW mL_law D mc ms Post nc ns 1147 [some (vA 0), some (vA 1), some (vA 44), some (vA oo), some (vI (i : Nat)), l5, l6] [] F A al := by
  refine q_aload_n eL_1147 rfl ?_
  refine q_aload_n eL_1148 rfl ?_
  refine q_iload eL_1149 rfl ?_
  refine q_iconst eL_1151 ?_
  refine q_iadd eL_1152 ?_
  refine q_sldE eL_1153 hA0 hs (by omega) (by omega) ?_
  refine q_aload_n eL_1154 rfl ?_
  refine q_callSW [vA 1, vI (S0 ((i : Int) + 1).toNat), vA oo] (M1 := mL_units) eL_1155 mfw_units lkw_units (lw_units (D := 58) hK hoo h67 (by omega) evx) nt_PW (by omega) (by omega) (by omega) (Nat.le_of_ble_eq_true rfl) (st := []) rfl (fun v1 F1 A1 al1 h1 => ?_)
  obtain ⟨e1, rfl, f1, a1, ⟨A9, q9, b9⟩, w9⟩ := h1
  obtain rfl := Sum.inl.inj e1
  have hA1 : A1 0 = S0 := (a1 0 (Or.inl rfl)).trans hA0
  refine q_istore eL_1158 (by decide) rfl ?_
  refine q_aload_n eL_1160 rfl ?_
  refine q_aload_n eL_1161 rfl ?_
  refine q_iload eL_1162 rfl ?_
  refine q_iconst eL_1164 ?_
  refine q_iadd eL_1165 ?_
  refine q_sldE eL_1166 hA1 hs (by omega) (by omega) ?_
  refine q_callV [vI (S0 ((i : Int) + 1).toNat)] (M1 := mX12_units) eL_1167 mf_X12_units lk_L_148 (hM 44 (by decide) (by decide)) (evm F1 A1 f1 (fun b h1 h2 => a1 b (Or.inr ⟨h1, h2⟩))) (by intro E F A al h; cases h.1) (by omega) (by omega) (by omega) (Nat.le_of_ble_eq_true rfl) (st := []) rfl (fun v2 F2 A2 al2 h2 => ?_)
  obtain ⟨e2, t2, ke, f2, a2, q2⟩ := h2
  obtain rfl := Sum.inl.inj e2
  have hA2 : A2 0 = S0 := (a2 0 (by omega) (Or.inl (by decide))).trans hA1
  have hx2 : QX F2 A2 := hQX F1 A9 F2 A2 q9 (fun b k hb => f2 b k (by omega) (by omega)) (fun b hb => (a2 b (by omega) (Or.inl hb)).trans (b9 b hb))
  have hM2 : KM al2 := fun a h1 h2 => (ke.2 a (by omega)).trans (hM a h1 h2)
  refine q_istore eL_1170 (by decide) rfl ?_
  refine q_aload_n eL_1172 rfl ?_
  refine q_callVP [] (M1 := mX12_thrown) eL_1173 mf_X12_thrown lk_L_103 (hM2 44 (by decide) (by decide)) (mo_thrown hM2 t2) (by omega) (by omega) (by omega) (Nat.le_of_ble_eq_true rfl) rfl ?_
  refine q_iload eL_1176 rfl ?_
  refine q_icmp_same (tgt := 1183) eL_1178 (by decide) ?_
  refine q_iload eL_1183 rfl ?_
  rcases R with _ | a9
  · refine q_if_ne (tgt := 1200) eL_1185 (by decide) ⟨by decide, by decide⟩ (fun c => ?_) (fun c => absurd c (by decide))
    refine q_goto (tgt := 1899) eL_1200 (by decide) ?_
    exact kk F2 A2 al2 _ _ ke hx2 q2 hA2
  · refine q_if_ne (tgt := 1200) eL_1185 (by decide) inR0 (fun c => absurd (show thE (some a9) = 0 from rfl) c) (fun c => ?_)
    refine q_aload_n eL_1188 rfl ?_
    refine q_iconst eL_1189 ?_
    refine q_lald eL_1190 ((ke.2 oo hot).trans hoo) (by decide) (by decide) ?_
    rw [show A2 oo (0 : Int).toNat = wr a9 from (congrFun (a2 oo hot (Or.inr h67)) 0).trans (w9 a9 rfl)]
    refine q_iload eL_1191 rfl ?_
    refine q_i2lw eL_1193 ?_
    refine q_lcmp eL_1194 (wr_L _) (wr_L _) ?_
    refine q_if_eq (tgt := 1200) eL_1195 (by decide) (cmpL_R _ _) (fun c => ?_) (fun c => absurd (cmpL_same _) c)
    refine q_goto (tgt := 1899) eL_1200 (by decide) ?_
    exact kk F2 A2 al2 _ _ ke hx2 q2 hA2
set_option maxRecDepth 20000 in
theorem st_many {S0 : Nat → Int} {n0 i oo nc ns dx cx sx dm cm sm D mc ms : Nat} {R : Option Int} {QX QM : HF → HA → Prop} {l5 l6 : Option LV} {F : HF} {A : HA} {al : AL} {Post : PO}
    (hK : KX al) (hM : KM al) (hs : al.1 0 = (4, n0)) (hoo : al.1 oo = (2, 1)) (h67 : 67 ≤ oo) (hot : oo < al.2) (hA0 : A 0 = S0) (hi : i + 6 ≤ n0) (hn0 : n0 ≤ 3072)
    (hD : 60 ≤ D) (hdx : dx ≤ 57) (hdm : dm ≤ 57) (hmc : nc + cx + cm ≤ mc) (hms : ns + sx + sm ≤ ms)
    (hQX : ∀ (F1 : HF) (A1 : HA) (F2 : HF) (A2 : HA), QX F1 A1 → (∀ b k, b < 44 → F2 b k = F1 b k) → (∀ b, b < 44 → A2 b = A1 b) → QX F2 A2)
    (evx : QE dx cx sx mX11_many (vA 1 :: [vI (S0 ((i : Int) + 1).toNat), vI (S0 ((i : Int) + 2).toNat)]) F A al (PXR eN R F A al QX))
    (evm : ∀ (F1 : HF) (A1 : HA), (∀ b k, 44 ≤ b → F1 b k = F b k) → (∀ b, 44 ≤ b → b < 67 → A1 b = A b) → QE dm cm sm mX12_many (vA 44 :: [vI (S0 ((i : Int) + 1).toNat), vI (S0 ((i : Int) + 2).toNat)]) F1 A1 al (PMR R F1 A1 al QM))
    (kk : ∀ (F2 : HF) (A2 : HA) (al2 : AL) (l5 l6 : Option LV), KE al.2 al al2 → QX F2 A2 → QM F2 A2 → A2 0 = S0 → QW mL_law D mc ms Post (nc + cx + cm) (ns + sx + sm) 1899 [some (vA 0), some (vA 1), some (vA 44), some (vA oo), some (vI (i : Nat)), l5, l6] [] F2 A2 al2) :
    QW mL_law D mc ms Post nc ns 1203 [some (vA 0), some (vA 1), some (vA 44), some (vA oo), some (vI (i : Nat)), l5, l6] [] F A al := by
  refine q_aload_n eL_1203 rfl ?_
  refine q_aload_n eL_1204 rfl ?_
  refine q_iload eL_1205 rfl ?_
  refine q_iconst eL_1207 ?_
  refine q_iadd eL_1208 ?_
  refine q_sldE eL_1209 hA0 hs (by omega) (by omega) ?_
  refine q_aload_n eL_1210 rfl ?_
  refine q_iload eL_1211 rfl ?_
  refine q_iconst eL_1213 ?_
  refine q_iadd eL_1214 ?_
  refine q_sldE eL_1215 hA0 hs (by omega) (by omega) ?_
  refine q_aload_n eL_1216 rfl ?_
  refine q_callSW [vA 1, vI (S0 ((i : Int) + 1).toNat), vI (S0 ((i : Int) + 2).toNat), vA oo] (M1 := mL_many) eL_1217 mfw_many lkw_many (lw_many (D := 58) hK hoo h67 (by omega) evx) nt_PW (by omega) (by omega) (by omega) (Nat.le_of_ble_eq_true rfl) (st := []) rfl (fun v1 F1 A1 al1 h1 => ?_)
  obtain ⟨e1, rfl, f1, a1, ⟨A9, q9, b9⟩, w9⟩ := h1
  obtain rfl := Sum.inl.inj e1
  have hA1 : A1 0 = S0 := (a1 0 (Or.inl rfl)).trans hA0
  refine q_istore eL_1220 (by decide) rfl ?_
  refine q_aload_n eL_1222 rfl ?_
  refine q_aload_n eL_1223 rfl ?_
  refine q_iload eL_1224 rfl ?_
  refine q_iconst eL_1226 ?_
  refine q_iadd eL_1227 ?_
  refine q_sldE eL_1228 hA1 hs (by omega) (by omega) ?_
  refine q_aload_n eL_1229 rfl ?_
  refine q_iload eL_1230 rfl ?_
  refine q_iconst eL_1232 ?_
  refine q_iadd eL_1233 ?_
  refine q_sldE eL_1234 hA1 hs (by omega) (by omega) ?_
  refine q_callV [vI (S0 ((i : Int) + 1).toNat), vI (S0 ((i : Int) + 2).toNat)] (M1 := mX12_many) eL_1235 mf_X12_many lk_L_151 (hM 44 (by decide) (by decide)) (evm F1 A1 f1 (fun b h1 h2 => a1 b (Or.inr ⟨h1, h2⟩))) (by intro E F A al h; cases h.1) (by omega) (by omega) (by omega) (Nat.le_of_ble_eq_true rfl) (st := []) rfl (fun v2 F2 A2 al2 h2 => ?_)
  obtain ⟨e2, t2, ke, f2, a2, q2⟩ := h2
  obtain rfl := Sum.inl.inj e2
  have hA2 : A2 0 = S0 := (a2 0 (by omega) (Or.inl (by decide))).trans hA1
  have hx2 : QX F2 A2 := hQX F1 A9 F2 A2 q9 (fun b k hb => f2 b k (by omega) (by omega)) (fun b hb => (a2 b (by omega) (Or.inl hb)).trans (b9 b hb))
  have hM2 : KM al2 := fun a h1 h2 => (ke.2 a (by omega)).trans (hM a h1 h2)
  refine q_istore eL_1238 (by decide) rfl ?_
  refine q_aload_n eL_1240 rfl ?_
  refine q_callVP [] (M1 := mX12_thrown) eL_1241 mf_X12_thrown lk_L_103 (hM2 44 (by decide) (by decide)) (mo_thrown hM2 t2) (by omega) (by omega) (by omega) (Nat.le_of_ble_eq_true rfl) rfl ?_
  refine q_iload eL_1244 rfl ?_
  refine q_icmp_same (tgt := 1251) eL_1246 (by decide) ?_
  refine q_iload eL_1251 rfl ?_
  rcases R with _ | a9
  · refine q_if_ne (tgt := 1268) eL_1253 (by decide) ⟨by decide, by decide⟩ (fun c => ?_) (fun c => absurd c (by decide))
    refine q_goto (tgt := 1899) eL_1268 (by decide) ?_
    exact kk F2 A2 al2 _ _ ke hx2 q2 hA2
  · refine q_if_ne (tgt := 1268) eL_1253 (by decide) inR0 (fun c => absurd (show thE (some a9) = 0 from rfl) c) (fun c => ?_)
    refine q_aload_n eL_1256 rfl ?_
    refine q_iconst eL_1257 ?_
    refine q_lald eL_1258 ((ke.2 oo hot).trans hoo) (by decide) (by decide) ?_
    rw [show A2 oo (0 : Int).toNat = wr a9 from (congrFun (a2 oo hot (Or.inr h67)) 0).trans (w9 a9 rfl)]
    refine q_iload eL_1259 rfl ?_
    refine q_i2lw eL_1261 ?_
    refine q_lcmp eL_1262 (wr_L _) (wr_L _) ?_
    refine q_if_eq (tgt := 1268) eL_1263 (by decide) (cmpL_R _ _) (fun c => ?_) (fun c => absurd (cmpL_same _) c)
    refine q_goto (tgt := 1899) eL_1268 (by decide) ?_
    exact kk F2 A2 al2 _ _ ke hx2 q2 hA2
set_option maxRecDepth 20000 in
theorem st_classes {S0 : Nat → Int} {n0 i oo nc ns dx cx sx dm cm sm D mc ms : Nat} {R : Option Int} {QX QM : HF → HA → Prop} {l5 l6 : Option LV} {F : HF} {A : HA} {al : AL} {Post : PO}
    (hK : KX al) (hM : KM al) (hs : al.1 0 = (4, n0)) (hoo : al.1 oo = (2, 1)) (h67 : 67 ≤ oo) (hot : oo < al.2) (hA0 : A 0 = S0) (hi : i + 6 ≤ n0) (hn0 : n0 ≤ 3072)
    (hD : 60 ≤ D) (hdx : dx ≤ 57) (hdm : dm ≤ 57) (hmc : nc + cx + cm ≤ mc) (hms : ns + sx + sm ≤ ms)
    (hQX : ∀ (F1 : HF) (A1 : HA) (F2 : HF) (A2 : HA), QX F1 A1 → (∀ b k, b < 44 → F2 b k = F1 b k) → (∀ b, b < 44 → A2 b = A1 b) → QX F2 A2)
    (evx : QE dx cx sx mX11_classes (vA 1 :: [vI (S0 ((i : Int) + 1).toNat), vI (S0 ((i : Int) + 2).toNat), vI (S0 ((i : Int) + 3).toNat)]) F A al (PXR eN R F A al QX))
    (evm : ∀ (F1 : HF) (A1 : HA), (∀ b k, 44 ≤ b → F1 b k = F b k) → (∀ b, 44 ≤ b → b < 67 → A1 b = A b) → QE dm cm sm mX12_classes (vA 44 :: [vI (S0 ((i : Int) + 1).toNat), vI (S0 ((i : Int) + 2).toNat), vI (S0 ((i : Int) + 3).toNat)]) F1 A1 al (PMR R F1 A1 al QM))
    (kk : ∀ (F2 : HF) (A2 : HA) (al2 : AL) (l5 l6 : Option LV), KE al.2 al al2 → QX F2 A2 → QM F2 A2 → A2 0 = S0 → QW mL_law D mc ms Post (nc + cx + cm) (ns + sx + sm) 1899 [some (vA 0), some (vA 1), some (vA 44), some (vA oo), some (vI (i : Nat)), l5, l6] [] F2 A2 al2) :
    QW mL_law D mc ms Post nc ns 1271 [some (vA 0), some (vA 1), some (vA 44), some (vA oo), some (vI (i : Nat)), l5, l6] [] F A al := by
  refine q_aload_n eL_1271 rfl ?_
  refine q_aload_n eL_1272 rfl ?_
  refine q_iload eL_1273 rfl ?_
  refine q_iconst eL_1275 ?_
  refine q_iadd eL_1276 ?_
  refine q_sldE eL_1277 hA0 hs (by omega) (by omega) ?_
  refine q_aload_n eL_1278 rfl ?_
  refine q_iload eL_1279 rfl ?_
  refine q_iconst eL_1281 ?_
  refine q_iadd eL_1282 ?_
  refine q_sldE eL_1283 hA0 hs (by omega) (by omega) ?_
  refine q_aload_n eL_1284 rfl ?_
  refine q_iload eL_1285 rfl ?_
  refine q_iconst eL_1287 ?_
  refine q_iadd eL_1288 ?_
  refine q_sldE eL_1289 hA0 hs (by omega) (by omega) ?_
  refine q_aload_n eL_1290 rfl ?_
  refine q_callSW [vA 1, vI (S0 ((i : Int) + 1).toNat), vI (S0 ((i : Int) + 2).toNat), vI (S0 ((i : Int) + 3).toNat), vA oo] (M1 := mL_classes) eL_1291 mfw_classes lkw_classes (lw_classes (D := 58) hK hoo h67 (by omega) evx) nt_PW (by omega) (by omega) (by omega) (Nat.le_of_ble_eq_true rfl) (st := []) rfl (fun v1 F1 A1 al1 h1 => ?_)
  obtain ⟨e1, rfl, f1, a1, ⟨A9, q9, b9⟩, w9⟩ := h1
  obtain rfl := Sum.inl.inj e1
  have hA1 : A1 0 = S0 := (a1 0 (Or.inl rfl)).trans hA0
  refine q_istore eL_1294 (by decide) rfl ?_
  refine q_aload_n eL_1296 rfl ?_
  refine q_aload_n eL_1297 rfl ?_
  refine q_iload eL_1298 rfl ?_
  refine q_iconst eL_1300 ?_
  refine q_iadd eL_1301 ?_
  refine q_sldE eL_1302 hA1 hs (by omega) (by omega) ?_
  refine q_aload_n eL_1303 rfl ?_
  refine q_iload eL_1304 rfl ?_
  refine q_iconst eL_1306 ?_
  refine q_iadd eL_1307 ?_
  refine q_sldE eL_1308 hA1 hs (by omega) (by omega) ?_
  refine q_aload_n eL_1309 rfl ?_
  refine q_iload eL_1310 rfl ?_
  refine q_iconst eL_1312 ?_
  refine q_iadd eL_1313 ?_
  refine q_sldE eL_1314 hA1 hs (by omega) (by omega) ?_
  refine q_callV [vI (S0 ((i : Int) + 1).toNat), vI (S0 ((i : Int) + 2).toNat), vI (S0 ((i : Int) + 3).toNat)] (M1 := mX12_classes) eL_1315 mf_X12_classes lk_L_154 (hM 44 (by decide) (by decide)) (evm F1 A1 f1 (fun b h1 h2 => a1 b (Or.inr ⟨h1, h2⟩))) (by intro E F A al h; cases h.1) (by omega) (by omega) (by omega) (Nat.le_of_ble_eq_true rfl) (st := []) rfl (fun v2 F2 A2 al2 h2 => ?_)
  obtain ⟨e2, t2, ke, f2, a2, q2⟩ := h2
  obtain rfl := Sum.inl.inj e2
  have hA2 : A2 0 = S0 := (a2 0 (by omega) (Or.inl (by decide))).trans hA1
  have hx2 : QX F2 A2 := hQX F1 A9 F2 A2 q9 (fun b k hb => f2 b k (by omega) (by omega)) (fun b hb => (a2 b (by omega) (Or.inl hb)).trans (b9 b hb))
  have hM2 : KM al2 := fun a h1 h2 => (ke.2 a (by omega)).trans (hM a h1 h2)
  refine q_istore eL_1318 (by decide) rfl ?_
  refine q_aload_n eL_1320 rfl ?_
  refine q_callVP [] (M1 := mX12_thrown) eL_1321 mf_X12_thrown lk_L_103 (hM2 44 (by decide) (by decide)) (mo_thrown hM2 t2) (by omega) (by omega) (by omega) (Nat.le_of_ble_eq_true rfl) rfl ?_
  refine q_iload eL_1324 rfl ?_
  refine q_icmp_same (tgt := 1331) eL_1326 (by decide) ?_
  refine q_iload eL_1331 rfl ?_
  rcases R with _ | a9
  · refine q_if_ne (tgt := 1348) eL_1333 (by decide) ⟨by decide, by decide⟩ (fun c => ?_) (fun c => absurd c (by decide))
    refine q_goto (tgt := 1899) eL_1348 (by decide) ?_
    exact kk F2 A2 al2 _ _ ke hx2 q2 hA2
  · refine q_if_ne (tgt := 1348) eL_1333 (by decide) inR0 (fun c => absurd (show thE (some a9) = 0 from rfl) c) (fun c => ?_)
    refine q_aload_n eL_1336 rfl ?_
    refine q_iconst eL_1337 ?_
    refine q_lald eL_1338 ((ke.2 oo hot).trans hoo) (by decide) (by decide) ?_
    rw [show A2 oo (0 : Int).toNat = wr a9 from (congrFun (a2 oo hot (Or.inr h67)) 0).trans (w9 a9 rfl)]
    refine q_iload eL_1339 rfl ?_
    refine q_i2lw eL_1341 ?_
    refine q_lcmp eL_1342 (wr_L _) (wr_L _) ?_
    refine q_if_eq (tgt := 1348) eL_1343 (by decide) (cmpL_R _ _) (fun c => ?_) (fun c => absurd (cmpL_same _) c)
    refine q_goto (tgt := 1899) eL_1348 (by decide) ?_
    exact kk F2 A2 al2 _ _ ke hx2 q2 hA2
set_option maxRecDepth 20000 in
theorem st_code {S0 : Nat → Int} {n0 i oo nc ns dx cx sx dm cm sm D mc ms : Nat} {v0 : Int} {QX QM : HF → HA → Prop} {l5 l6 : Option LV} {F : HF} {A : HA} {al : AL} {Post : PO}
    (hK : KX al) (hM : KM al) (hs : al.1 0 = (4, n0)) (hoo : al.1 oo = (2, 1)) (h67 : 67 ≤ oo) (hot : oo < al.2) (hA0 : A 0 = S0) (hi : i + 6 ≤ n0) (hn0 : n0 ≤ 3072)
    (hD : 60 ≤ D) (hdx : dx ≤ 57) (hdm : dm ≤ 57) (hmc : nc + cx + cm ≤ mc) (hms : ns + sx + sm ≤ ms)
    (hQX : ∀ (F1 : HF) (A1 : HA) (F2 : HF) (A2 : HA), QX F1 A1 → (∀ b k, b < 44 → F2 b k = F1 b k) → (∀ b, b < 44 → A2 b = A1 b) → QX F2 A2)
    (evx : QE dx cx sx mX11_code (vA 1 :: [vI (S0 ((i : Int) + 1).toNat), vI (S0 ((i : Int) + 2).toNat)]) F A al (PXR eN (some v0) F A al QX))
    (evm : ∀ (F1 : HF) (A1 : HA), (∀ b k, 44 ≤ b → F1 b k = F b k) → (∀ b, 44 ≤ b → b < 67 → A1 b = A b) → QE dm cm sm mX12_code (vA 44 :: [vI (S0 ((i : Int) + 1).toNat), vI (S0 ((i : Int) + 2).toNat)]) F1 A1 al (PMR (some v0) F1 A1 al QM))
    (kk : ∀ (F2 : HF) (A2 : HA) (al2 : AL) (l5 l6 : Option LV), KE al.2 al al2 → QX F2 A2 → QM F2 A2 → A2 0 = S0 → QW mL_law D mc ms Post (nc + cx + cm) (ns + sx + sm) 1899 [some (vA 0), some (vA 1), some (vA 44), some (vA oo), some (vI (i : Nat)), l5, l6] [] F2 A2 al2) :
    QW mL_law D mc ms Post nc ns 1351 [some (vA 0), some (vA 1), some (vA 44), some (vA oo), some (vI (i : Nat)), l5, l6] [] F A al := by
  refine q_aload_n eL_1351 rfl ?_
  refine q_aload_n eL_1352 rfl ?_
  refine q_iload eL_1353 rfl ?_
  refine q_iconst eL_1355 ?_
  refine q_iadd eL_1356 ?_
  refine q_sldE eL_1357 hA0 hs (by omega) (by omega) ?_
  refine q_aload_n eL_1358 rfl ?_
  refine q_iload eL_1359 rfl ?_
  refine q_iconst eL_1361 ?_
  refine q_iadd eL_1362 ?_
  refine q_sldE eL_1363 hA0 hs (by omega) (by omega) ?_
  refine q_callV [vI (S0 ((i : Int) + 1).toNat), vI (S0 ((i : Int) + 2).toNat)] (M1 := mX11_code) eL_1364 mf_X11_code lk_L_155 (hK 1 (by decide) (by decide)) evx (by intro E F A al h; cases h.1) (by omega) (by omega) (by omega) (Nat.le_of_ble_eq_true rfl) (st := []) rfl (fun v1 F1 A1 al1 h1 => ?_)
  obtain ⟨e1, rfl, f1, a1, q9⟩ := h1
  cases e1
  have hA1 : A1 0 = S0 := (a1 0 (Or.inl rfl)).trans hA0
  refine q_aload_n eL_1367 rfl ?_
  refine q_aload_n eL_1368 rfl ?_
  refine q_iload eL_1369 rfl ?_
  refine q_iconst eL_1371 ?_
  refine q_iadd eL_1372 ?_
  refine q_sldE eL_1373 hA1 hs (by omega) (by omega) ?_
  refine q_aload_n eL_1374 rfl ?_
  refine q_iload eL_1375 rfl ?_
  refine q_iconst eL_1377 ?_
  refine q_iadd eL_1378 ?_
  refine q_sldE eL_1379 hA1 hs (by omega) (by omega) ?_
  refine q_callV [vI (S0 ((i : Int) + 1).toNat), vI (S0 ((i : Int) + 2).toNat)] (M1 := mX12_code) eL_1380 mf_X12_code lk_L_158 (hM 44 (by decide) (by decide)) (evm F1 A1 f1 (fun b h1 _ => a1 b (Or.inr h1))) (by intro E F A al h; cases h.1) (by omega) (by omega) (by omega) (Nat.le_of_ble_eq_true rfl) (st := [vI v0]) rfl (fun v2 F2 A2 al2 h2 => ?_)
  obtain ⟨e2, t2, ke, f2, a2, q2⟩ := h2
  obtain rfl := Sum.inl.inj e2
  have hA2 : A2 0 = S0 := (a2 0 (by omega) (Or.inl (by decide))).trans hA1
  have hx2 : QX F2 A2 := hQX F1 A1 F2 A2 q9 (fun b k hb => f2 b k (by omega) (by omega)) (fun b hb => a2 b (by omega) (Or.inl hb))
  refine q_icmp_same (tgt := 1899) eL_1383 (by decide) ?_
  exact kk F2 A2 al2 _ _ ke hx2 q2 hA2
set_option maxRecDepth 20000 in
theorem st_coefficient {S0 : Nat → Int} {n0 i oo nc ns dx cx sx dm cm sm D mc ms : Nat} {R : Option Int} {QX QM : HF → HA → Prop} {l5 l6 : Option LV} {F : HF} {A : HA} {al : AL} {Post : PO}
    (hK : KX al) (hM : KM al) (hs : al.1 0 = (4, n0)) (hoo : al.1 oo = (2, 1)) (h67 : 67 ≤ oo) (hot : oo < al.2) (hA0 : A 0 = S0) (hi : i + 6 ≤ n0) (hn0 : n0 ≤ 3072)
    (hD : 60 ≤ D) (hdx : dx ≤ 57) (hdm : dm ≤ 57) (hmc : nc + cx + cm ≤ mc) (hms : ns + sx + sm ≤ ms)
    (hQX : ∀ (F1 : HF) (A1 : HA) (F2 : HF) (A2 : HA), QX F1 A1 → (∀ b k, b < 44 → F2 b k = F1 b k) → (∀ b, b < 44 → A2 b = A1 b) → QX F2 A2)
    (evx : QE dx cx sx mX11_coefficient (vA 1 :: [vI (S0 ((i : Int) + 1).toNat), vI (S0 ((i : Int) + 2).toNat)]) F A al (PXR eN R F A al QX))
    (evm : ∀ (F1 : HF) (A1 : HA), (∀ b k, 44 ≤ b → F1 b k = F b k) → (∀ b, 44 ≤ b → b < 67 → A1 b = A b) → QE dm cm sm mX12_coefficient (vA 44 :: [vI (S0 ((i : Int) + 1).toNat), vI (S0 ((i : Int) + 2).toNat)]) F1 A1 al (PMR R F1 A1 al QM))
    (kk : ∀ (F2 : HF) (A2 : HA) (al2 : AL) (l5 l6 : Option LV), KE al.2 al al2 → QX F2 A2 → QM F2 A2 → A2 0 = S0 → QW mL_law D mc ms Post (nc + cx + cm) (ns + sx + sm) 1899 [some (vA 0), some (vA 1), some (vA 44), some (vA oo), some (vI (i : Nat)), l5, l6] [] F2 A2 al2) :
    QW mL_law D mc ms Post nc ns 1388 [some (vA 0), some (vA 1), some (vA 44), some (vA oo), some (vI (i : Nat)), l5, l6] [] F A al := by
  refine q_aload_n eL_1388 rfl ?_
  refine q_aload_n eL_1389 rfl ?_
  refine q_iload eL_1390 rfl ?_
  refine q_iconst eL_1392 ?_
  refine q_iadd eL_1393 ?_
  refine q_sldE eL_1394 hA0 hs (by omega) (by omega) ?_
  refine q_aload_n eL_1395 rfl ?_
  refine q_iload eL_1396 rfl ?_
  refine q_iconst eL_1398 ?_
  refine q_iadd eL_1399 ?_
  refine q_sldE eL_1400 hA0 hs (by omega) (by omega) ?_
  refine q_aload_n eL_1401 rfl ?_
  refine q_callSW [vA 1, vI (S0 ((i : Int) + 1).toNat), vI (S0 ((i : Int) + 2).toNat), vA oo] (M1 := mL_coefficient) eL_1402 mfw_coefficient lkw_coefficient (lw_coefficient (D := 58) hK hoo h67 (by omega) evx) nt_PW (by omega) (by omega) (by omega) (Nat.le_of_ble_eq_true rfl) (st := []) rfl (fun v1 F1 A1 al1 h1 => ?_)
  obtain ⟨e1, rfl, f1, a1, ⟨A9, q9, b9⟩, w9⟩ := h1
  obtain rfl := Sum.inl.inj e1
  have hA1 : A1 0 = S0 := (a1 0 (Or.inl rfl)).trans hA0
  refine q_istore eL_1405 (by decide) rfl ?_
  refine q_aload_n eL_1407 rfl ?_
  refine q_aload_n eL_1408 rfl ?_
  refine q_iload eL_1409 rfl ?_
  refine q_iconst eL_1411 ?_
  refine q_iadd eL_1412 ?_
  refine q_sldE eL_1413 hA1 hs (by omega) (by omega) ?_
  refine q_aload_n eL_1414 rfl ?_
  refine q_iload eL_1415 rfl ?_
  refine q_iconst eL_1417 ?_
  refine q_iadd eL_1418 ?_
  refine q_sldE eL_1419 hA1 hs (by omega) (by omega) ?_
  refine q_callV [vI (S0 ((i : Int) + 1).toNat), vI (S0 ((i : Int) + 2).toNat)] (M1 := mX12_coefficient) eL_1420 mf_X12_coefficient lk_L_161 (hM 44 (by decide) (by decide)) (evm F1 A1 f1 (fun b h1 h2 => a1 b (Or.inr ⟨h1, h2⟩))) (by intro E F A al h; cases h.1) (by omega) (by omega) (by omega) (Nat.le_of_ble_eq_true rfl) (st := []) rfl (fun v2 F2 A2 al2 h2 => ?_)
  obtain ⟨e2, t2, ke, f2, a2, q2⟩ := h2
  obtain rfl := Sum.inl.inj e2
  have hA2 : A2 0 = S0 := (a2 0 (by omega) (Or.inl (by decide))).trans hA1
  have hx2 : QX F2 A2 := hQX F1 A9 F2 A2 q9 (fun b k hb => f2 b k (by omega) (by omega)) (fun b hb => (a2 b (by omega) (Or.inl hb)).trans (b9 b hb))
  have hM2 : KM al2 := fun a h1 h2 => (ke.2 a (by omega)).trans (hM a h1 h2)
  refine q_istore eL_1423 (by decide) rfl ?_
  refine q_aload_n eL_1425 rfl ?_
  refine q_callVP [] (M1 := mX12_thrown) eL_1426 mf_X12_thrown lk_L_103 (hM2 44 (by decide) (by decide)) (mo_thrown hM2 t2) (by omega) (by omega) (by omega) (Nat.le_of_ble_eq_true rfl) rfl ?_
  refine q_iload eL_1429 rfl ?_
  refine q_icmp_same (tgt := 1436) eL_1431 (by decide) ?_
  refine q_iload eL_1436 rfl ?_
  rcases R with _ | a9
  · refine q_if_ne (tgt := 1453) eL_1438 (by decide) ⟨by decide, by decide⟩ (fun c => ?_) (fun c => absurd c (by decide))
    refine q_goto (tgt := 1899) eL_1453 (by decide) ?_
    exact kk F2 A2 al2 _ _ ke hx2 q2 hA2
  · refine q_if_ne (tgt := 1453) eL_1438 (by decide) inR0 (fun c => absurd (show thE (some a9) = 0 from rfl) c) (fun c => ?_)
    refine q_aload_n eL_1441 rfl ?_
    refine q_iconst eL_1442 ?_
    refine q_lald eL_1443 ((ke.2 oo hot).trans hoo) (by decide) (by decide) ?_
    rw [show A2 oo (0 : Int).toNat = wr a9 from (congrFun (a2 oo hot (Or.inr h67)) 0).trans (w9 a9 rfl)]
    refine q_iload eL_1444 rfl ?_
    refine q_i2lw eL_1446 ?_
    refine q_lcmp eL_1447 (wr_L _) (wr_L _) ?_
    refine q_if_eq (tgt := 1453) eL_1448 (by decide) (cmpL_R _ _) (fun c => ?_) (fun c => absurd (cmpL_same _) c)
    refine q_goto (tgt := 1899) eL_1453 (by decide) ?_
    exact kk F2 A2 al2 _ _ ke hx2 q2 hA2
set_option maxRecDepth 20000 in
theorem st_weighing0 {S0 : Nat → Int} {n0 i oo nc ns dx cx sx dm cm sm D mc ms : Nat} {v0 : Int} {QX QM : HF → HA → Prop} {l5 l6 : Option LV} {F : HF} {A : HA} {al : AL} {Post : PO}
    (hK : KX al) (hM : KM al) (hs : al.1 0 = (4, n0)) (hoo : al.1 oo = (2, 1)) (h67 : 67 ≤ oo) (hot : oo < al.2) (hA0 : A 0 = S0) (hi : i + 6 ≤ n0) (hn0 : n0 ≤ 3072) (hz : S0 ((i : Int) + 1).toNat = 0) (hzr : InR (S0 ((i : Int) + 1).toNat))
    (hD : 60 ≤ D) (hdx : dx ≤ 57) (hdm : dm ≤ 57) (hmc : nc + cx + cm ≤ mc) (hms : ns + sx + sm ≤ ms)
    (hQX : ∀ (F1 : HF) (A1 : HA) (F2 : HF) (A2 : HA), QX F1 A1 → (∀ b k, b < 44 → F2 b k = F1 b k) → (∀ b, b < 44 → A2 b = A1 b) → QX F2 A2)
    (evx : QE dx cx sx mX11_weighing (vA 1 :: [vI 0, vI (S0 ((i : Int) + 2).toNat)]) F A al (PXR eN (some v0) F A al QX))
    (evm : ∀ (F1 : HF) (A1 : HA), (∀ b k, 44 ≤ b → F1 b k = F b k) → (∀ b, 44 ≤ b → b < 67 → A1 b = A b) → QE dm cm sm mX12_weighing (vA 44 :: [vI 0, vI (S0 ((i : Int) + 2).toNat)]) F1 A1 al (PMR (some v0) F1 A1 al QM))
    (kk : ∀ (F2 : HF) (A2 : HA) (al2 : AL) (l5 l6 : Option LV), KE al.2 al al2 → QX F2 A2 → QM F2 A2 → A2 0 = S0 → QW mL_law D mc ms Post (nc + cx + cm) (ns + sx + sm) 1899 [some (vA 0), some (vA 1), some (vA 44), some (vA oo), some (vI (i : Nat)), l5, l6] [] F2 A2 al2) :
    QW mL_law D mc ms Post nc ns 1456 [some (vA 0), some (vA 1), some (vA 44), some (vA oo), some (vI (i : Nat)), l5, l6] [] F A al := by
  refine q_aload_n eL_1456 rfl ?_
  refine q_aload_n eL_1457 rfl ?_
  refine q_iload eL_1458 rfl ?_
  refine q_iconst eL_1460 ?_
  refine q_iadd eL_1461 ?_
  refine q_sldE eL_1462 hA0 hs (by omega) (by omega) ?_
  refine q_if_eq (tgt := 1470) eL_1463 (by decide) hzr (fun c => ?_) (fun c => ?_)
  rotate_left
  · exact absurd hz c
  refine q_iconst eL_1470 ?_
  refine q_aload_n eL_1471 rfl ?_
  refine q_iload eL_1472 rfl ?_
  refine q_iconst eL_1474 ?_
  refine q_iadd eL_1475 ?_
  refine q_sldE eL_1476 hA0 hs (by omega) (by omega) ?_
  refine q_callV [vI 0, vI (S0 ((i : Int) + 2).toNat)] (M1 := mX11_weighing) eL_1477 mf_X11_weighing lk_L_162 (hK 1 (by decide) (by decide)) evx (by intro E F A al h; cases h.1) (by omega) (by omega) (by omega) (Nat.le_of_ble_eq_true rfl) (st := []) rfl (fun v1 F1 A1 al1 h1 => ?_)
  obtain ⟨e1, rfl, f1, a1, q9⟩ := h1
  cases e1
  have hA1 : A1 0 = S0 := (a1 0 (Or.inl rfl)).trans hA0
  refine q_aload_n eL_1480 rfl ?_
  refine q_aload_n eL_1481 rfl ?_
  refine q_iload eL_1482 rfl ?_
  refine q_iconst eL_1484 ?_
  refine q_iadd eL_1485 ?_
  refine q_sldE eL_1486 hA1 hs (by omega) (by omega) ?_
  refine q_if_eq (tgt := 1494) eL_1487 (by decide) hzr (fun c => ?_) (fun c => ?_)
  rotate_left
  · exact absurd hz c
  refine q_iconst eL_1494 ?_
  refine q_aload_n eL_1495 rfl ?_
  refine q_iload eL_1496 rfl ?_
  refine q_iconst eL_1498 ?_
  refine q_iadd eL_1499 ?_
  refine q_sldE eL_1500 hA1 hs (by omega) (by omega) ?_
  refine q_callV [vI 0, vI (S0 ((i : Int) + 2).toNat)] (M1 := mX12_weighing) eL_1501 mf_X12_weighing lk_L_166 (hM 44 (by decide) (by decide)) (evm F1 A1 f1 (fun b h1 _ => a1 b (Or.inr h1))) (by intro E F A al h; cases h.1) (by omega) (by omega) (by omega) (Nat.le_of_ble_eq_true rfl) (st := [vI v0]) rfl (fun v2 F2 A2 al2 h2 => ?_)
  obtain ⟨e2, t2, ke, f2, a2, q2⟩ := h2
  obtain rfl := Sum.inl.inj e2
  have hA2 : A2 0 = S0 := (a2 0 (by omega) (Or.inl (by decide))).trans hA1
  have hx2 : QX F2 A2 := hQX F1 A1 F2 A2 q9 (fun b k hb => f2 b k (by omega) (by omega)) (fun b hb => a2 b (by omega) (Or.inl hb))
  refine q_icmp_same (tgt := 1899) eL_1504 (by decide) ?_
  exact kk F2 A2 al2 _ _ ke hx2 q2 hA2
set_option maxRecDepth 20000 in
theorem st_weighing1 {S0 : Nat → Int} {n0 i oo nc ns dx cx sx dm cm sm D mc ms : Nat} {v0 : Int} {QX QM : HF → HA → Prop} {l5 l6 : Option LV} {F : HF} {A : HA} {al : AL} {Post : PO}
    (hK : KX al) (hM : KM al) (hs : al.1 0 = (4, n0)) (hoo : al.1 oo = (2, 1)) (h67 : 67 ≤ oo) (hot : oo < al.2) (hA0 : A 0 = S0) (hi : i + 6 ≤ n0) (hn0 : n0 ≤ 3072) (hz : ¬ S0 ((i : Int) + 1).toNat = 0) (hzr : InR (S0 ((i : Int) + 1).toNat))
    (hD : 60 ≤ D) (hdx : dx ≤ 57) (hdm : dm ≤ 57) (hmc : nc + cx + cm ≤ mc) (hms : ns + sx + sm ≤ ms)
    (hQX : ∀ (F1 : HF) (A1 : HA) (F2 : HF) (A2 : HA), QX F1 A1 → (∀ b k, b < 44 → F2 b k = F1 b k) → (∀ b, b < 44 → A2 b = A1 b) → QX F2 A2)
    (evx : QE dx cx sx mX11_weighing (vA 1 :: [vI 1, vI (S0 ((i : Int) + 2).toNat)]) F A al (PXR eN (some v0) F A al QX))
    (evm : ∀ (F1 : HF) (A1 : HA), (∀ b k, 44 ≤ b → F1 b k = F b k) → (∀ b, 44 ≤ b → b < 67 → A1 b = A b) → QE dm cm sm mX12_weighing (vA 44 :: [vI 1, vI (S0 ((i : Int) + 2).toNat)]) F1 A1 al (PMR (some v0) F1 A1 al QM))
    (kk : ∀ (F2 : HF) (A2 : HA) (al2 : AL) (l5 l6 : Option LV), KE al.2 al al2 → QX F2 A2 → QM F2 A2 → A2 0 = S0 → QW mL_law D mc ms Post (nc + cx + cm) (ns + sx + sm) 1899 [some (vA 0), some (vA 1), some (vA 44), some (vA oo), some (vI (i : Nat)), l5, l6] [] F2 A2 al2) :
    QW mL_law D mc ms Post nc ns 1456 [some (vA 0), some (vA 1), some (vA 44), some (vA oo), some (vI (i : Nat)), l5, l6] [] F A al := by
  refine q_aload_n eL_1456 rfl ?_
  refine q_aload_n eL_1457 rfl ?_
  refine q_iload eL_1458 rfl ?_
  refine q_iconst eL_1460 ?_
  refine q_iadd eL_1461 ?_
  refine q_sldE eL_1462 hA0 hs (by omega) (by omega) ?_
  refine q_if_eq (tgt := 1470) eL_1463 (by decide) hzr (fun c => ?_) (fun c => ?_)
  · exact absurd c hz
  refine q_iconst eL_1466 ?_
  refine q_goto (tgt := 1471) eL_1467 (by decide) ?_
  refine q_aload_n eL_1471 rfl ?_
  refine q_iload eL_1472 rfl ?_
  refine q_iconst eL_1474 ?_
  refine q_iadd eL_1475 ?_
  refine q_sldE eL_1476 hA0 hs (by omega) (by omega) ?_
  refine q_callV [vI 1, vI (S0 ((i : Int) + 2).toNat)] (M1 := mX11_weighing) eL_1477 mf_X11_weighing lk_L_162 (hK 1 (by decide) (by decide)) evx (by intro E F A al h; cases h.1) (by omega) (by omega) (by omega) (Nat.le_of_ble_eq_true rfl) (st := []) rfl (fun v1 F1 A1 al1 h1 => ?_)
  obtain ⟨e1, rfl, f1, a1, q9⟩ := h1
  cases e1
  have hA1 : A1 0 = S0 := (a1 0 (Or.inl rfl)).trans hA0
  refine q_aload_n eL_1480 rfl ?_
  refine q_aload_n eL_1481 rfl ?_
  refine q_iload eL_1482 rfl ?_
  refine q_iconst eL_1484 ?_
  refine q_iadd eL_1485 ?_
  refine q_sldE eL_1486 hA1 hs (by omega) (by omega) ?_
  refine q_if_eq (tgt := 1494) eL_1487 (by decide) hzr (fun c => ?_) (fun c => ?_)
  · exact absurd c hz
  refine q_iconst eL_1490 ?_
  refine q_goto (tgt := 1495) eL_1491 (by decide) ?_
  refine q_aload_n eL_1495 rfl ?_
  refine q_iload eL_1496 rfl ?_
  refine q_iconst eL_1498 ?_
  refine q_iadd eL_1499 ?_
  refine q_sldE eL_1500 hA1 hs (by omega) (by omega) ?_
  refine q_callV [vI 1, vI (S0 ((i : Int) + 2).toNat)] (M1 := mX12_weighing) eL_1501 mf_X12_weighing lk_L_166 (hM 44 (by decide) (by decide)) (evm F1 A1 f1 (fun b h1 _ => a1 b (Or.inr h1))) (by intro E F A al h; cases h.1) (by omega) (by omega) (by omega) (Nat.le_of_ble_eq_true rfl) (st := [vI v0]) rfl (fun v2 F2 A2 al2 h2 => ?_)
  obtain ⟨e2, t2, ke, f2, a2, q2⟩ := h2
  obtain rfl := Sum.inl.inj e2
  have hA2 : A2 0 = S0 := (a2 0 (by omega) (Or.inl (by decide))).trans hA1
  have hx2 : QX F2 A2 := hQX F1 A1 F2 A2 q9 (fun b k hb => f2 b k (by omega) (by omega)) (fun b hb => a2 b (by omega) (Or.inl hb))
  refine q_icmp_same (tgt := 1899) eL_1504 (by decide) ?_
  exact kk F2 A2 al2 _ _ ke hx2 q2 hA2
