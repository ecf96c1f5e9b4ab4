theorem dL_law__880 : decode code 880 = .ok (.iload 4, 2) := by decide +kernel
theorem dL_law__882 : decode code 882 = .ok (.iconst 1, 1) := by decide +kernel
theorem dL_law__883 : decode code 883 = .ok (.iadd, 1) := by decide +kernel
theorem dL_law__884 : decode code 884 = .ok (.iaload, 1) := by decide +kernel
theorem dL_law__885 : decode code 885 = .ok (.aload_n 0, 1) := by decide +kernel
theorem dL_law__886 : decode code 886 = .ok (.iload 4, 2) := by decide +kernel
theorem dL_law__888 : decode code 888 = .ok (.iconst 2, 1) := by decide +kernel
theorem dL_law__889 : decode code 889 = .ok (.iadd, 1) := by decide +kernel
theorem dL_law__890 : decode code 890 = .ok (.iaload, 1) := by decide +kernel
theorem dL_law__891 : decode code 891 = .ok (.invokevirtual 164, 3) := by decide +kernel
theorem dL_law__894 : decode code 894 = .ok (.istore 6, 2) := by decide +kernel
theorem dL_law__896 : decode code 896 = .ok (.aload_n 2, 1) := by decide +kernel
theorem dL_law__897 : decode code 897 = .ok (.invokevirtual 125, 3) := by decide +kernel
theorem dL_law__900 : decode code 900 = .ok (.iload 5, 2) := by decide +kernel
theorem dL_law__902 : decode code 902 = .ok (.if_icmp .eq 5, 3) := by decide +kernel
theorem dL_law__907 : decode code 907 = .ok (.iload 5, 2) := by decide +kernel
theorem dL_law__909 : decode code 909 = .ok (.ifCond .ne 15, 3) := by decide +kernel
theorem dL_law__912 : decode code 912 = .ok (.aload_n 3, 1) := by decide +kernel
theorem dL_law__913 : decode code 913 = .ok (.iconst 0, 1) := by decide +kernel
theorem dL_law__914 : decode code 914 = .ok (.laload, 1) := by decide +kernel
theorem dL_law__915 : decode code 915 = .ok (.iload 6, 2) := by decide +kernel
theorem dL_law__917 : decode code 917 = .ok (.i2l, 1) := by decide +kernel
theorem dL_law__918 : decode code 918 = .ok (.lcmp, 1) := by decide +kernel
theorem dL_law__919 : decode code 919 = .ok (.ifCond .eq 5, 3) := by decide +kernel
theorem dL_law__924 : decode code 924 = .ok (.goto 1567, 3) := by decide +kernel
theorem dL_law__927 : decode code 927 = .ok (.aload_n 1, 1) := by decide +kernel
theorem dL_law__928 : decode code 928 = .ok (.aload_n 0, 1) := by decide +kernel
theorem dL_law__929 : decode code 929 = .ok (.iload 4, 2) := by decide +kernel
theorem dL_law__931 : decode code 931 = .ok (.iconst 1, 1) := by decide +kernel
theorem dL_law__932 : decode code 932 = .ok (.iadd, 1) := by decide +kernel
theorem dL_law__933 : decode code 933 = .ok (.iaload, 1) := by decide +kernel
theorem dL_law__934 : decode code 934 = .ok (.aload_n 0, 1) := by decide +kernel
theorem dL_law__935 : decode code 935 = .ok (.iload 4, 2) := by decide +kernel
theorem dL_law__937 : decode code 937 = .ok (.iconst 2, 1) := by decide +kernel
theorem dL_law__938 : decode code 938 = .ok (.iadd, 1) := by decide +kernel
theorem dL_law__939 : decode code 939 = .ok (.iaload, 1) := by decide +kernel
theorem dL_law__940 : decode code 940 = .ok (.aload_n 0, 1) := by decide +kernel
theorem dL_law__941 : decode code 941 = .ok (.iload 4, 2) := by decide +kernel
theorem dL_law__943 : decode code 943 = .ok (.iconst 3, 1) := by decide +kernel
theorem dL_law__944 : decode code 944 = .ok (.iadd, 1) := by decide +kernel
theorem dL_law__945 : decode code 945 = .ok (.iaload, 1) := by decide +kernel
theorem dL_law__946 : decode code 946 = .ok (.aload_n 0, 1) := by decide +kernel
theorem dL_law__947 : decode code 947 = .ok (.iload 4, 2) := by decide +kernel
theorem dL_law__949 : decode code 949 = .ok (.iconst 4, 1) := by decide +kernel
theorem dL_law__950 : decode code 950 = .ok (.iadd, 1) := by decide +kernel
theorem dL_law__951 : decode code 951 = .ok (.iaload, 1) := by decide +kernel
theorem dL_law__952 : decode code 952 = .ok (.aload_n 0, 1) := by decide +kernel
theorem dL_law__953 : decode code 953 = .ok (.iload 4, 2) := by decide +kernel
theorem dL_law__955 : decode code 955 = .ok (.iconst 5, 1) := by decide +kernel
theorem dL_law__956 : decode code 956 = .ok (.iadd, 1) := by decide +kernel
theorem dL_law__957 : decode code 957 = .ok (.iaload, 1) := by decide +kernel
theorem dL_law__958 : decode code 958 = .ok (.aload_n 0, 1) := by decide +kernel
theorem dL_law__959 : decode code 959 = .ok (.iload 4, 2) := by decide +kernel
theorem dL_law__961 : decode code 961 = .ok (.bipush 6, 2) := by decide +kernel
theorem dL_law__963 : decode code 963 = .ok (.iadd, 1) := by decide +kernel
theorem dL_law__964 : decode code 964 = .ok (.iaload, 1) := by decide +kernel
theorem dL_law__965 : decode code 965 = .ok (.aload_n 0, 1) := by decide +kernel
theorem dL_law__966 : decode code 966 = .ok (.iload 4, 2) := by decide +kernel
theorem dL_law__968 : decode code 968 = .ok (.bipush 7, 2) := by decide +kernel
theorem dL_law__970 : decode code 970 = .ok (.iadd, 1) := by decide +kernel
theorem dL_law__971 : decode code 971 = .ok (.iaload, 1) := by decide +kernel
theorem dL_law__972 : decode code 972 = .ok (.aload_n 0, 1) := by decide +kernel
theorem dL_law__973 : decode code 973 = .ok (.iload 4, 2) := by decide +kernel
theorem dL_law__975 : decode code 975 = .ok (.bipush 8, 2) := by decide +kernel
theorem dL_law__977 : decode code 977 = .ok (.iadd, 1) := by decide +kernel
theorem dL_law__978 : decode code 978 = .ok (.iaload, 1) := by decide +kernel
theorem dL_law__979 : decode code 979 = .ok (.aload_n 3, 1) := by decide +kernel
theorem dL_law__980 : decode code 980 = .ok (.invokestatic 165, 3) := by decide +kernel
theorem dL_law__983 : decode code 983 = .ok (.istore 5, 2) := by decide +kernel
theorem dL_law__985 : decode code 985 = .ok (.aload_n 2, 1) := by decide +kernel
theorem dL_law__986 : decode code 986 = .ok (.aload_n 0, 1) := by decide +kernel
theorem dL_law__987 : decode code 987 = .ok (.iload 4, 2) := by decide +kernel
theorem dL_law__989 : decode code 989 = .ok (.iconst 1, 1) := by decide +kernel
theorem dL_law__990 : decode code 990 = .ok (.iadd, 1) := by decide +kernel
theorem dL_law__991 : decode code 991 = .ok (.iaload, 1) := by decide +kernel
theorem dL_law__992 : decode code 992 = .ok (.aload_n 0, 1) := by decide +kernel
theorem dL_law__993 : decode code 993 = .ok (.iload 4, 2) := by decide +kernel
theorem dL_law__995 : decode code 995 = .ok (.iconst 2, 1) := by decide +kernel
theorem dL_law__996 : decode code 996 = .ok (.iadd, 1) := by decide +kernel
theorem dL_law__997 : decode code 997 = .ok (.iaload, 1) := by decide +kernel
theorem dL_law__998 : decode code 998 = .ok (.aload_n 0, 1) := by decide +kernel
theorem dL_law__999 : decode code 999 = .ok (.iload 4, 2) := by decide +kernel
theorem dL_law__1001 : decode code 1001 = .ok (.iconst 3, 1) := by decide +kernel
theorem dL_law__1002 : decode code 1002 = .ok (.iadd, 1) := by decide +kernel
theorem dL_law__1003 : decode code 1003 = .ok (.iaload, 1) := by decide +kernel
theorem dL_law__1004 : decode code 1004 = .ok (.aload_n 0, 1) := by decide +kernel
theorem dL_law__1005 : decode code 1005 = .ok (.iload 4, 2) := by decide +kernel
theorem dL_law__1007 : decode code 1007 = .ok (.iconst 4, 1) := by decide +kernel
theorem dL_law__1008 : decode code 1008 = .ok (.iadd, 1) := by decide +kernel
theorem dL_law__1009 : decode code 1009 = .ok (.iaload, 1) := by decide +kernel
theorem dL_law__1010 : decode code 1010 = .ok (.aload_n 0, 1) := by decide +kernel
theorem dL_law__1011 : decode code 1011 = .ok (.iload 4, 2) := by decide +kernel
theorem dL_law__1013 : decode code 1013 = .ok (.iconst 5, 1) := by decide +kernel
theorem dL_law__1014 : decode code 1014 = .ok (.iadd, 1) := by decide +kernel
theorem dL_law__1015 : decode code 1015 = .ok (.iaload, 1) := by decide +kernel
theorem dL_law__1016 : decode code 1016 = .ok (.aload_n 0, 1) := by decide +kernel
theorem dL_law__1017 : decode code 1017 = .ok (.iload 4, 2) := by decide +kernel
theorem dL_law__1019 : decode code 1019 = .ok (.bipush 6, 2) := by decide +kernel
theorem dL_law__1021 : decode code 1021 = .ok (.iadd, 1) := by decide +kernel
theorem dL_law__1022 : decode code 1022 = .ok (.iaload, 1) := by decide +kernel
theorem dL_law__1023 : decode code 1023 = .ok (.aload_n 0, 1) := by decide +kernel
theorem dL_law__1024 : decode code 1024 = .ok (.iload 4, 2) := by decide +kernel
theorem dL_law__1026 : decode code 1026 = .ok (.bipush 7, 2) := by decide +kernel
theorem dL_law__1028 : decode code 1028 = .ok (.iadd, 1) := by decide +kernel
theorem dL_law__1029 : decode code 1029 = .ok (.iaload, 1) := by decide +kernel
theorem dL_law__1030 : decode code 1030 = .ok (.aload_n 0, 1) := by decide +kernel
theorem dL_law__1031 : decode code 1031 = .ok (.iload 4, 2) := by decide +kernel
theorem dL_law__1033 : decode code 1033 = .ok (.bipush 8, 2) := by decide +kernel
theorem dL_law__1035 : decode code 1035 = .ok (.iadd, 1) := by decide +kernel
theorem dL_law__1036 : decode code 1036 = .ok (.iaload, 1) := by decide +kernel
theorem dL_law__1037 : decode code 1037 = .ok (.invokevirtual 168, 3) := by decide +kernel
theorem dL_law__1040 : decode code 1040 = .ok (.istore 6, 2) := by decide +kernel
theorem dL_law__1042 : decode code 1042 = .ok (.aload_n 2, 1) := by decide +kernel
theorem dL_law__1043 : decode code 1043 = .ok (.invokevirtual 125, 3) := by decide +kernel
theorem dL_law__1046 : decode code 1046 = .ok (.iload 5, 2) := by decide +kernel
theorem dL_law__1048 : decode code 1048 = .ok (.if_icmp .eq 5, 3) := by decide +kernel
theorem dL_law__1053 : decode code 1053 = .ok (.iload 5, 2) := by decide +kernel
theorem dL_law__1055 : decode code 1055 = .ok (.ifCond .ne 15, 3) := by decide +kernel
theorem dL_law__1058 : decode code 1058 = .ok (.aload_n 3, 1) := by decide +kernel
theorem dL_law__1059 : decode code 1059 = .ok (.iconst 0, 1) := by decide +kernel
theorem dL_law__1060 : decode code 1060 = .ok (.laload, 1) := by decide +kernel
theorem dL_law__1061 : decode code 1061 = .ok (.iload 6, 2) := by decide +kernel
theorem dL_law__1063 : decode code 1063 = .ok (.i2l, 1) := by decide +kernel
theorem dL_law__1064 : decode code 1064 = .ok (.lcmp, 1) := by decide +kernel
theorem dL_law__1065 : decode code 1065 = .ok (.ifCond .eq 5, 3) := by decide +kernel
theorem dL_law__1070 : decode code 1070 = .ok (.goto 1421, 3) := by decide +kernel
theorem dL_law__1073 : decode code 1073 = .ok (.aload_n 1, 1) := by decide +kernel
theorem dL_law__1074 : decode code 1074 = .ok (.aload_n 0, 1) := by decide +kernel
theorem dL_law__1075 : decode code 1075 = .ok (.iload 4, 2) := by decide +kernel
theorem dL_law__1077 : decode code 1077 = .ok (.iconst 1, 1) := by decide +kernel
theorem dL_law__1078 : decode code 1078 = .ok (.iadd, 1) := by decide +kernel
theorem dL_law__1079 : decode code 1079 = .ok (.iaload, 1) := by decide +kernel
theorem dL_law__1080 : decode code 1080 = .ok (.aload_n 0, 1) := by decide +kernel
theorem dL_law__1081 : decode code 1081 = .ok (.iload 4, 2) := by decide +kernel
theorem dL_law__1083 : decode code 1083 = .ok (.iconst 2, 1) := by decide +kernel
theorem dL_law__1084 : decode code 1084 = .ok (.iadd, 1) := by decide +kernel
theorem dL_law__1085 : decode code 1085 = .ok (.iaload, 1) := by decide +kernel
theorem dL_law__1086 : decode code 1086 = .ok (.aload_n 3, 1) := by decide +kernel
theorem dL_law__1087 : decode code 1087 = .ok (.invokestatic 169, 3) := by decide +kernel
theorem dL_law__1090 : decode code 1090 = .ok (.istore 5, 2) := by decide +kernel
theorem dL_law__1092 : decode code 1092 = .ok (.aload_n 2, 1) := by decide +kernel
theorem dL_law__1093 : decode code 1093 = .ok (.aload_n 0, 1) := by decide +kernel
theorem dL_law__1094 : decode code 1094 = .ok (.iload 4, 2) := by decide +kernel
theorem dL_law__1096 : decode code 1096 = .ok (.iconst 1, 1) := by decide +kernel
theorem dL_law__1097 : decode code 1097 = .ok (.iadd, 1) := by decide +kernel
theorem dL_law__1098 : decode code 1098 = .ok (.iaload, 1) := by decide +kernel
theorem dL_law__1099 : decode code 1099 = .ok (.aload_n 0, 1) := by decide +kernel
theorem dL_law__1100 : decode code 1100 = .ok (.iload 4, 2) := by decide +kernel
theorem dL_law__1102 : decode code 1102 = .ok (.iconst 2, 1) := by decide +kernel
theorem dL_law__1103 : decode code 1103 = .ok (.iadd, 1) := by decide +kernel
theorem dL_law__1104 : decode code 1104 = .ok (.iaload, 1) := by decide +kernel
theorem dL_law__1105 : decode code 1105 = .ok (.invokevirtual 171, 3) := by decide +kernel
theorem dL_law__1108 : decode code 1108 = .ok (.istore 6, 2) := by decide +kernel
theorem dL_law__1110 : decode code 1110 = .ok (.aload_n 2, 1) := by decide +kernel
theorem dL_law__1111 : decode code 1111 = .ok (.invokevirtual 125, 3) := by decide +kernel
theorem dL_law__1114 : decode code 1114 = .ok (.iload 5, 2) := by decide +kernel
theorem dL_law__1116 : decode code 1116 = .ok (.if_icmp .eq 5, 3) := by decide +kernel
theorem dL_law__1121 : decode code 1121 = .ok (.iload 5, 2) := by decide +kernel
theorem dL_law__1123 : decode code 1123 = .ok (.ifCond .ne 15, 3) := by decide +kernel
theorem dL_law__1126 : decode code 1126 = .ok (.aload_n 3, 1) := by decide +kernel
theorem dL_law__1127 : decode code 1127 = .ok (.iconst 0, 1) := by decide +kernel
theorem dL_law__1128 : decode code 1128 = .ok (.laload, 1) := by decide +kernel
theorem dL_law__1129 : decode code 1129 = .ok (.iload 6, 2) := by decide +kernel
theorem dL_law__1131 : decode code 1131 = .ok (.i2l, 1) := by decide +kernel
theorem dL_law__1132 : decode code 1132 = .ok (.lcmp, 1) := by decide +kernel
theorem dL_law__1133 : decode code 1133 = .ok (.ifCond .eq 5, 3) := by decide +kernel
theorem dL_law__1138 : decode code 1138 = .ok (.goto 1353, 3) := by decide +kernel
theorem dL_law__1141 : decode code 1141 = .ok (.aload_n 1, 1) := by decide +kernel
theorem dL_law__1142 : decode code 1142 = .ok (.aload_n 0, 1) := by decide +kernel
theorem dL_law__1143 : decode code 1143 = .ok (.iload 4, 2) := by decide +kernel
theorem dL_law__1145 : decode code 1145 = .ok (.iconst 1, 1) := by decide +kernel
theorem dL_law__1146 : decode code 1146 = .ok (.iadd, 1) := by decide +kernel
theorem dL_law__1147 : decode code 1147 = .ok (.iaload, 1) := by decide +kernel
theorem dL_law__1148 : decode code 1148 = .ok (.aload_n 0, 1) := by decide +kernel
theorem dL_law__1149 : decode code 1149 = .ok (.iload 4, 2) := by decide +kernel
theorem dL_law__1151 : decode code 1151 = .ok (.iconst 2, 1) := by decide +kernel
theorem dL_law__1152 : decode code 1152 = .ok (.iadd, 1) := by decide +kernel
theorem dL_law__1153 : decode code 1153 = .ok (.iaload, 1) := by decide +kernel
theorem dL_law__1154 : decode code 1154 = .ok (.aload_n 3, 1) := by decide +kernel
theorem dL_law__1155 : decode code 1155 = .ok (.invokestatic 172, 3) := by decide +kernel
theorem dL_law__1158 : decode code 1158 = .ok (.istore 5, 2) := by decide +kernel
theorem dL_law__1160 : decode code 1160 = .ok (.aload_n 2, 1) := by decide +kernel
theorem dL_law__1161 : decode code 1161 = .ok (.aload_n 0, 1) := by decide +kernel
theorem dL_law__1162 : decode code 1162 = .ok (.iload 4, 2) := by decide +kernel
theorem dL_law__1164 : decode code 1164 = .ok (.iconst 1, 1) := by decide +kernel
theorem dL_law__1165 : decode code 1165 = .ok (.iadd, 1) := by decide +kernel
theorem dL_law__1166 : decode code 1166 = .ok (.iaload, 1) := by decide +kernel
theorem dL_law__1167 : decode code 1167 = .ok (.aload_n 0, 1) := by decide +kernel
theorem dL_law__1168 : decode code 1168 = .ok (.iload 4, 2) := by decide +kernel
theorem dL_law__1170 : decode code 1170 = .ok (.iconst 2, 1) := by decide +kernel
theorem dL_law__1171 : decode code 1171 = .ok (.iadd, 1) := by decide +kernel
theorem dL_law__1172 : decode code 1172 = .ok (.iaload, 1) := by decide +kernel
theorem dL_law__1173 : decode code 1173 = .ok (.invokevirtual 174, 3) := by decide +kernel
theorem dL_law__1176 : decode code 1176 = .ok (.istore 6, 2) := by decide +kernel
theorem dL_law__1178 : decode code 1178 = .ok (.aload_n 2, 1) := by decide +kernel
theorem dL_law__1179 : decode code 1179 = .ok (.invokevirtual 125, 3) := by decide +kernel
theorem dL_law__1182 : decode code 1182 = .ok (.iload 5, 2) := by decide +kernel
theorem dL_law__1184 : decode code 1184 = .ok (.if_icmp .eq 5, 3) := by decide +kernel
theorem dL_law__1189 : decode code 1189 = .ok (.iload 5, 2) := by decide +kernel
theorem dL_law__1191 : decode code 1191 = .ok (.ifCond .ne 15, 3) := by decide +kernel
theorem dL_law__1194 : decode code 1194 = .ok (.aload_n 3, 1) := by decide +kernel
theorem dL_law__1195 : decode code 1195 = .ok (.iconst 0, 1) := by decide +kernel
theorem dL_law__1196 : decode code 1196 = .ok (.laload, 1) := by decide +kernel
theorem dL_law__1197 : decode code 1197 = .ok (.iload 6, 2) := by decide +kernel
theorem dL_law__1199 : decode code 1199 = .ok (.i2l, 1) := by decide +kernel
theorem dL_law__1200 : decode code 1200 = .ok (.lcmp, 1) := by decide +kernel
theorem dL_law__1201 : decode code 1201 = .ok (.ifCond .eq 5, 3) := by decide +kernel
theorem dL_law__1206 : decode code 1206 = .ok (.goto 1285, 3) := by decide +kernel
theorem dL_law__1209 : decode code 1209 = .ok (.aload_n 1, 1) := by decide +kernel
theorem dL_law__1210 : decode code 1210 = .ok (.aload_n 0, 1) := by decide +kernel
theorem dL_law__1211 : decode code 1211 = .ok (.iload 4, 2) := by decide +kernel
theorem dL_law__1213 : decode code 1213 = .ok (.iconst 1, 1) := by decide +kernel
theorem dL_law__1214 : decode code 1214 = .ok (.iadd, 1) := by decide +kernel
theorem dL_law__1215 : decode code 1215 = .ok (.iaload, 1) := by decide +kernel
theorem dL_law__1216 : decode code 1216 = .ok (.aload_n 3, 1) := by decide +kernel
theorem dL_law__1217 : decode code 1217 = .ok (.invokestatic 175, 3) := by decide +kernel
theorem dL_law__1220 : decode code 1220 = .ok (.istore 5, 2) := by decide +kernel
theorem dL_law__1222 : decode code 1222 = .ok (.aload_n 2, 1) := by decide +kernel
theorem dL_law__1223 : decode code 1223 = .ok (.aload_n 0, 1) := by decide +kernel
theorem dL_law__1224 : decode code 1224 = .ok (.iload 4, 2) := by decide +kernel
theorem dL_law__1226 : decode code 1226 = .ok (.iconst 1, 1) := by decide +kernel
theorem dL_law__1227 : decode code 1227 = .ok (.iadd, 1) := by decide +kernel
theorem dL_law__1228 : decode code 1228 = .ok (.iaload, 1) := by decide +kernel
theorem dL_law__1229 : decode code 1229 = .ok (.invokevirtual 177, 3) := by decide +kernel
theorem dL_law__1232 : decode code 1232 = .ok (.istore 6, 2) := by decide +kernel
theorem dL_law__1234 : decode code 1234 = .ok (.aload_n 2, 1) := by decide +kernel
theorem dL_law__1235 : decode code 1235 = .ok (.invokevirtual 125, 3) := by decide +kernel
theorem dL_law__1238 : decode code 1238 = .ok (.iload 5, 2) := by decide +kernel
theorem dL_law__1240 : decode code 1240 = .ok (.if_icmp .eq 5, 3) := by decide +kernel
theorem dL_law__1245 : decode code 1245 = .ok (.iload 5, 2) := by decide +kernel
theorem dL_law__1247 : decode code 1247 = .ok (.ifCond .ne 15, 3) := by decide +kernel
theorem dL_law__1250 : decode code 1250 = .ok (.aload_n 3, 1) := by decide +kernel
theorem dL_law__1251 : decode code 1251 = .ok (.iconst 0, 1) := by decide +kernel
theorem dL_law__1252 : decode code 1252 = .ok (.laload, 1) := by decide +kernel
theorem dL_law__1253 : decode code 1253 = .ok (.iload 6, 2) := by decide +kernel
theorem dL_law__1255 : decode code 1255 = .ok (.i2l, 1) := by decide +kernel
theorem dL_law__1256 : decode code 1256 = .ok (.lcmp, 1) := by decide +kernel
theorem dL_law__1257 : decode code 1257 = .ok (.ifCond .eq 5, 3) := by decide +kernel
theorem dL_law__1262 : decode code 1262 = .ok (.goto 1229, 3) := by decide +kernel
theorem dL_law__1265 : decode code 1265 = .ok (.aload_n 1, 1) := by decide +kernel
theorem dL_law__1266 : decode code 1266 = .ok (.aload_n 0, 1) := by decide +kernel
theorem dL_law__1267 : decode code 1267 = .ok (.iload 4, 2) := by decide +kernel
theorem dL_law__1269 : decode code 1269 = .ok (.iconst 1, 1) := by decide +kernel
theorem dL_law__1270 : decode code 1270 = .ok (.iadd, 1) := by decide +kernel
theorem dL_law__1271 : decode code 1271 = .ok (.iaload, 1) := by decide +kernel
theorem dL_law__1272 : decode code 1272 = .ok (.aload_n 3, 1) := by decide +kernel
theorem dL_law__1273 : decode code 1273 = .ok (.invokestatic 178, 3) := by decide +kernel
theorem dL_law__1276 : decode code 1276 = .ok (.istore 5, 2) := by decide +kernel
theorem dL_law__1278 : decode code 1278 = .ok (.aload_n 2, 1) := by decide +kernel
theorem dL_law__1279 : decode code 1279 = .ok (.aload_n 0, 1) := by decide +kernel
theorem dL_law__1280 : decode code 1280 = .ok (.iload 4, 2) := by decide +kernel
theorem dL_law__1282 : decode code 1282 = .ok (.iconst 1, 1) := by decide +kernel
theorem dL_law__1283 : decode code 1283 = .ok (.iadd, 1) := by decide +kernel
theorem dL_law__1284 : decode code 1284 = .ok (.iaload, 1) := by decide +kernel
theorem dL_law__1285 : decode code 1285 = .ok (.invokevirtual 180, 3) := by decide +kernel
theorem dL_law__1288 : decode code 1288 = .ok (.istore 6, 2) := by decide +kernel
theorem dL_law__1290 : decode code 1290 = .ok (.aload_n 2, 1) := by decide +kernel
theorem dL_law__1291 : decode code 1291 = .ok (.invokevirtual 125, 3) := by decide +kernel
theorem dL_law__1294 : decode code 1294 = .ok (.iload 5, 2) := by decide +kernel
theorem dL_law__1296 : decode code 1296 = .ok (.if_icmp .eq 5, 3) := by decide +kernel
theorem dL_law__1301 : decode code 1301 = .ok (.iload 5, 2) := by decide +kernel
theorem dL_law__1303 : decode code 1303 = .ok (.ifCond .ne 15, 3) := by decide +kernel
theorem dL_law__1306 : decode code 1306 = .ok (.aload_n 3, 1) := by decide +kernel
theorem dL_law__1307 : decode code 1307 = .ok (.iconst 0, 1) := by decide +kernel
theorem dL_law__1308 : decode code 1308 = .ok (.laload, 1) := by decide +kernel
theorem dL_law__1309 : decode code 1309 = .ok (.iload 6, 2) := by decide +kernel
theorem dL_law__1311 : decode code 1311 = .ok (.i2l, 1) := by decide +kernel
theorem dL_law__1312 : decode code 1312 = .ok (.lcmp, 1) := by decide +kernel
theorem dL_law__1313 : decode code 1313 = .ok (.ifCond .eq 5, 3) := by decide +kernel
theorem dL_law__1318 : decode code 1318 = .ok (.goto 1173, 3) := by decide +kernel
theorem dL_law__1321 : decode code 1321 = .ok (.aload_n 1, 1) := by decide +kernel
theorem dL_law__1322 : decode code 1322 = .ok (.aload_n 0, 1) := by decide +kernel
theorem dL_law__1323 : decode code 1323 = .ok (.iload 4, 2) := by decide +kernel
theorem dL_law__1325 : decode code 1325 = .ok (.iconst 1, 1) := by decide +kernel
theorem dL_law__1326 : decode code 1326 = .ok (.iadd, 1) := by decide +kernel
theorem dL_law__1327 : decode code 1327 = .ok (.iaload, 1) := by decide +kernel
theorem dL_law__1328 : decode code 1328 = .ok (.aload_n 3, 1) := by decide +kernel
theorem dL_law__1329 : decode code 1329 = .ok (.invokestatic 181, 3) := by decide +kernel
theorem dL_law__1332 : decode code 1332 = .ok (.istore 5, 2) := by decide +kernel
theorem dL_law__1334 : decode code 1334 = .ok (.aload_n 2, 1) := by decide +kernel
theorem dL_law__1335 : decode code 1335 = .ok (.aload_n 0, 1) := by decide +kernel
theorem dL_law__1336 : decode code 1336 = .ok (.iload 4, 2) := by decide +kernel
theorem dL_law__1338 : decode code 1338 = .ok (.iconst 1, 1) := by decide +kernel
theorem dL_law__1339 : decode code 1339 = .ok (.iadd, 1) := by decide +kernel
theorem dL_law__1340 : decode code 1340 = .ok (.iaload, 1) := by decide +kernel
theorem dL_law__1341 : decode code 1341 = .ok (.invokevirtual 183, 3) := by decide +kernel
theorem dL_law__1344 : decode code 1344 = .ok (.istore 6, 2) := by decide +kernel
theorem dL_law__1346 : decode code 1346 = .ok (.aload_n 2, 1) := by decide +kernel
theorem dL_law__1347 : decode code 1347 = .ok (.invokevirtual 125, 3) := by decide +kernel
theorem dL_law__1350 : decode code 1350 = .ok (.iload 5, 2) := by decide +kernel
theorem dL_law__1352 : decode code 1352 = .ok (.if_icmp .eq 5, 3) := by decide +kernel
theorem dL_law__1357 : decode code 1357 = .ok (.iload 5, 2) := by decide +kernel
theorem dL_law__1359 : decode code 1359 = .ok (.ifCond .ne 15, 3) := by decide +kernel
theorem dL_law__1362 : decode code 1362 = .ok (.aload_n 3, 1) := by decide +kernel
theorem dL_law__1363 : decode code 1363 = .ok (.iconst 0, 1) := by decide +kernel
theorem dL_law__1364 : decode code 1364 = .ok (.laload, 1) := by decide +kernel
theorem dL_law__1365 : decode code 1365 = .ok (.iload 6, 2) := by decide +kernel
theorem dL_law__1367 : decode code 1367 = .ok (.i2l, 1) := by decide +kernel
theorem dL_law__1368 : decode code 1368 = .ok (.lcmp, 1) := by decide +kernel
theorem dL_law__1369 : decode code 1369 = .ok (.ifCond .eq 5, 3) := by decide +kernel
theorem dL_law__1374 : decode code 1374 = .ok (.goto 1117, 3) := by decide +kernel
theorem dL_law__1377 : decode code 1377 = .ok (.aload_n 1, 1) := by decide +kernel
theorem dL_law__1378 : decode code 1378 = .ok (.aload_n 0, 1) := by decide +kernel
theorem dL_law__1379 : decode code 1379 = .ok (.iload 4, 2) := by decide +kernel
theorem dL_law__1381 : decode code 1381 = .ok (.iconst 1, 1) := by decide +kernel
theorem dL_law__1382 : decode code 1382 = .ok (.iadd, 1) := by decide +kernel
theorem dL_law__1383 : decode code 1383 = .ok (.iaload, 1) := by decide +kernel
theorem dL_law__1384 : decode code 1384 = .ok (.aload_n 3, 1) := by decide +kernel
theorem dL_law__1385 : decode code 1385 = .ok (.invokestatic 184, 3) := by decide +kernel
theorem dL_law__1388 : decode code 1388 = .ok (.istore 5, 2) := by decide +kernel
theorem dL_law__1390 : decode code 1390 = .ok (.aload_n 2, 1) := by decide +kernel
theorem dL_law__1391 : decode code 1391 = .ok (.aload_n 0, 1) := by decide +kernel
theorem dL_law__1392 : decode code 1392 = .ok (.iload 4, 2) := by decide +kernel
theorem dL_law__1394 : decode code 1394 = .ok (.iconst 1, 1) := by decide +kernel
theorem dL_law__1395 : decode code 1395 = .ok (.iadd, 1) := by decide +kernel
theorem dL_law__1396 : decode code 1396 = .ok (.iaload, 1) := by decide +kernel
theorem dL_law__1397 : decode code 1397 = .ok (.invokevirtual 186, 3) := by decide +kernel
theorem dL_law__1400 : decode code 1400 = .ok (.istore 6, 2) := by decide +kernel
theorem dL_law__1402 : decode code 1402 = .ok (.aload_n 2, 1) := by decide +kernel
theorem dL_law__1403 : decode code 1403 = .ok (.invokevirtual 125, 3) := by decide +kernel
theorem dL_law__1406 : decode code 1406 = .ok (.iload 5, 2) := by decide +kernel
theorem dL_law__1408 : decode code 1408 = .ok (.if_icmp .eq 5, 3) := by decide +kernel
theorem dL_law__1413 : decode code 1413 = .ok (.iload 5, 2) := by decide +kernel
theorem dL_law__1415 : decode code 1415 = .ok (.ifCond .ne 15, 3) := by decide +kernel
theorem dL_law__1418 : decode code 1418 = .ok (.aload_n 3, 1) := by decide +kernel
theorem dL_law__1419 : decode code 1419 = .ok (.iconst 0, 1) := by decide +kernel
theorem dL_law__1420 : decode code 1420 = .ok (.laload, 1) := by decide +kernel
theorem dL_law__1421 : decode code 1421 = .ok (.iload 6, 2) := by decide +kernel
theorem dL_law__1423 : decode code 1423 = .ok (.i2l, 1) := by decide +kernel
theorem dL_law__1424 : decode code 1424 = .ok (.lcmp, 1) := by decide +kernel
theorem dL_law__1425 : decode code 1425 = .ok (.ifCond .eq 5, 3) := by decide +kernel
theorem dL_law__1430 : decode code 1430 = .ok (.goto 1061, 3) := by decide +kernel
theorem dL_law__1433 : decode code 1433 = .ok (.aload_n 1, 1) := by decide +kernel
theorem dL_law__1434 : decode code 1434 = .ok (.aload_n 0, 1) := by decide +kernel
theorem dL_law__1435 : decode code 1435 = .ok (.iload 4, 2) := by decide +kernel
theorem dL_law__1437 : decode code 1437 = .ok (.iconst 1, 1) := by decide +kernel
theorem dL_law__1438 : decode code 1438 = .ok (.iadd, 1) := by decide +kernel
theorem dL_law__1439 : decode code 1439 = .ok (.iaload, 1) := by decide +kernel
theorem dL_law__1440 : decode code 1440 = .ok (.aload_n 0, 1) := by decide +kernel
theorem dL_law__1441 : decode code 1441 = .ok (.iload 4, 2) := by decide +kernel
theorem dL_law__1443 : decode code 1443 = .ok (.iconst 2, 1) := by decide +kernel
theorem dL_law__1444 : decode code 1444 = .ok (.iadd, 1) := by decide +kernel
theorem dL_law__1445 : decode code 1445 = .ok (.iaload, 1) := by decide +kernel
theorem dL_law__1446 : decode code 1446 = .ok (.aload_n 0, 1) := by decide +kernel
theorem dL_law__1447 : decode code 1447 = .ok (.iload 4, 2) := by decide +kernel
theorem dL_law__1449 : decode code 1449 = .ok (.iconst 3, 1) := by decide +kernel
theorem dL_law__1450 : decode code 1450 = .ok (.iadd, 1) := by decide +kernel
theorem dL_law__1451 : decode code 1451 = .ok (.iaload, 1) := by decide +kernel
theorem dL_law__1452 : decode code 1452 = .ok (.aload_n 0, 1) := by decide +kernel
theorem dL_law__1453 : decode code 1453 = .ok (.iload 4, 2) := by decide +kernel
theorem dL_law__1455 : decode code 1455 = .ok (.iconst 4, 1) := by decide +kernel
theorem dL_law__1456 : decode code 1456 = .ok (.iadd, 1) := by decide +kernel
theorem dL_law__1457 : decode code 1457 = .ok (.iaload, 1) := by decide +kernel
theorem dL_law__1458 : decode code 1458 = .ok (.aload_n 3, 1) := by decide +kernel
theorem dL_law__1459 : decode code 1459 = .ok (.invokestatic 187, 3) := by decide +kernel
theorem dL_law__1462 : decode code 1462 = .ok (.istore 5, 2) := by decide +kernel
theorem dL_law__1464 : decode code 1464 = .ok (.aload_n 2, 1) := by decide +kernel
theorem dL_law__1465 : decode code 1465 = .ok (.aload_n 0, 1) := by decide +kernel
theorem dL_law__1466 : decode code 1466 = .ok (.iload 4, 2) := by decide +kernel
theorem dL_law__1468 : decode code 1468 = .ok (.iconst 1, 1) := by decide +kernel
theorem dL_law__1469 : decode code 1469 = .ok (.iadd, 1) := by decide +kernel
theorem dL_law__1470 : decode code 1470 = .ok (.iaload, 1) := by decide +kernel
theorem dL_law__1471 : decode code 1471 = .ok (.aload_n 0, 1) := by decide +kernel
theorem dL_law__1472 : decode code 1472 = .ok (.iload 4, 2) := by decide +kernel
theorem dL_law__1474 : decode code 1474 = .ok (.iconst 2, 1) := by decide +kernel
theorem dL_law__1475 : decode code 1475 = .ok (.iadd, 1) := by decide +kernel
theorem dL_law__1476 : decode code 1476 = .ok (.iaload, 1) := by decide +kernel
theorem dL_law__1477 : decode code 1477 = .ok (.aload_n 0, 1) := by decide +kernel
theorem dL_law__1478 : decode code 1478 = .ok (.iload 4, 2) := by decide +kernel
theorem dL_law__1480 : decode code 1480 = .ok (.iconst 3, 1) := by decide +kernel
theorem dL_law__1481 : decode code 1481 = .ok (.iadd, 1) := by decide +kernel
theorem dL_law__1482 : decode code 1482 = .ok (.iaload, 1) := by decide +kernel
theorem dL_law__1483 : decode code 1483 = .ok (.aload_n 0, 1) := by decide +kernel
theorem dL_law__1484 : decode code 1484 = .ok (.iload 4, 2) := by decide +kernel
theorem dL_law__1486 : decode code 1486 = .ok (.iconst 4, 1) := by decide +kernel
theorem dL_law__1487 : decode code 1487 = .ok (.iadd, 1) := by decide +kernel
theorem dL_law__1488 : decode code 1488 = .ok (.iaload, 1) := by decide +kernel
theorem dL_law__1489 : decode code 1489 = .ok (.invokevirtual 190, 3) := by decide +kernel
theorem dL_law__1492 : decode code 1492 = .ok (.lstore 6, 2) := by decide +kernel
theorem dL_law__1494 : decode code 1494 = .ok (.aload_n 2, 1) := by decide +kernel
theorem dL_law__1495 : decode code 1495 = .ok (.invokevirtual 125, 3) := by decide +kernel
theorem dL_law__1498 : decode code 1498 = .ok (.iload 5, 2) := by decide +kernel
theorem dL_law__1500 : decode code 1500 = .ok (.if_icmp .eq 5, 3) := by decide +kernel
theorem dL_law__1505 : decode code 1505 = .ok (.iload 5, 2) := by decide +kernel
theorem dL_law__1507 : decode code 1507 = .ok (.ifCond .ne 14, 3) := by decide +kernel
theorem dL_law__1510 : decode code 1510 = .ok (.aload_n 3, 1) := by decide +kernel
theorem dL_law__1511 : decode code 1511 = .ok (.iconst 0, 1) := by decide +kernel
theorem dL_law__1512 : decode code 1512 = .ok (.laload, 1) := by decide +kernel
theorem dL_law__1513 : decode code 1513 = .ok (.lload 6, 2) := by decide +kernel
theorem dL_law__1515 : decode code 1515 = .ok (.lcmp, 1) := by decide +kernel
theorem dL_law__1516 : decode code 1516 = .ok (.ifCond .eq 5, 3) := by decide +kernel
theorem dL_law__1521 : decode code 1521 = .ok (.goto 970, 3) := by decide +kernel
theorem dL_law__1524 : decode code 1524 = .ok (.aload_n 1, 1) := by decide +kernel
theorem dL_law__1525 : decode code 1525 = .ok (.aload_n 0, 1) := by decide +kernel
theorem dL_law__1526 : decode code 1526 = .ok (.iload 4, 2) := by decide +kernel
theorem dL_law__1528 : decode code 1528 = .ok (.iconst 1, 1) := by decide +kernel
theorem dL_law__1529 : decode code 1529 = .ok (.iadd, 1) := by decide +kernel
theorem dL_law__1530 : decode code 1530 = .ok (.iaload, 1) := by decide +kernel
theorem dL_law__1531 : decode code 1531 = .ok (.aload_n 0, 1) := by decide +kernel
theorem dL_law__1532 : decode code 1532 = .ok (.iload 4, 2) := by decide +kernel
