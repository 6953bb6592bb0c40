theorem dL_law__1017 : decode cL_law_ 1017 = .ok (.iconst 1, 1) := by decide +kernel
theorem dL_law__1018 : decode cL_law_ 1018 = .ok (.iadd, 1) := by decide +kernel
theorem dL_law__1019 : decode cL_law_ 1019 = .ok (.iaload, 1) := by decide +kernel
theorem dL_law__1020 : decode cL_law_ 1020 = .ok (.aload_n 0, 1) := by decide +kernel
theorem dL_law__1021 : decode cL_law_ 1021 = .ok (.iload 4, 2) := by decide +kernel
theorem dL_law__1023 : decode cL_law_ 1023 = .ok (.iconst 2, 1) := by decide +kernel
theorem dL_law__1024 : decode cL_law_ 1024 = .ok (.iadd, 1) := by decide +kernel
theorem dL_law__1025 : decode cL_law_ 1025 = .ok (.iaload, 1) := by decide +kernel
theorem dL_law__1026 : decode cL_law_ 1026 = .ok (.invokevirtual 175, 3) := by decide +kernel
theorem dL_law__1029 : decode cL_law_ 1029 = .ok (.istore 6, 2) := by decide +kernel
theorem dL_law__1031 : decode cL_law_ 1031 = .ok (.aload_n 2, 1) := by decide +kernel
theorem dL_law__1032 : decode cL_law_ 1032 = .ok (.invokevirtual 136, 3) := by decide +kernel
theorem dL_law__1035 : decode cL_law_ 1035 = .ok (.iload 5, 2) := by decide +kernel
theorem dL_law__1037 : decode cL_law_ 1037 = .ok (.if_icmp .eq 5, 3) := by decide +kernel
theorem dL_law__1042 : decode cL_law_ 1042 = .ok (.iload 5, 2) := by decide +kernel
theorem dL_law__1044 : decode cL_law_ 1044 = .ok (.ifCond .ne 15, 3) := by decide +kernel
theorem dL_law__1047 : decode cL_law_ 1047 = .ok (.aload_n 3, 1) := by decide +kernel
theorem dL_law__1048 : decode cL_law_ 1048 = .ok (.iconst 0, 1) := by decide +kernel
theorem dL_law__1049 : decode cL_law_ 1049 = .ok (.laload, 1) := by decide +kernel
theorem dL_law__1050 : decode cL_law_ 1050 = .ok (.iload 6, 2) := by decide +kernel
theorem dL_law__1052 : decode cL_law_ 1052 = .ok (.i2l, 1) := by decide +kernel
theorem dL_law__1053 : decode cL_law_ 1053 = .ok (.lcmp, 1) := by decide +kernel
theorem dL_law__1054 : decode cL_law_ 1054 = .ok (.ifCond .eq 5, 3) := by decide +kernel
theorem dL_law__1059 : decode cL_law_ 1059 = .ok (.goto 1555, 3) := by decide +kernel
theorem dL_law__1062 : decode cL_law_ 1062 = .ok (.aload_n 1, 1) := by decide +kernel
theorem dL_law__1063 : decode cL_law_ 1063 = .ok (.aload_n 0, 1) := by decide +kernel
theorem dL_law__1064 : decode cL_law_ 1064 = .ok (.iload 4, 2) := by decide +kernel
theorem dL_law__1066 : decode cL_law_ 1066 = .ok (.iconst 1, 1) := by decide +kernel
theorem dL_law__1067 : decode cL_law_ 1067 = .ok (.iadd, 1) := by decide +kernel
theorem dL_law__1068 : decode cL_law_ 1068 = .ok (.iaload, 1) := by decide +kernel
theorem dL_law__1069 : decode cL_law_ 1069 = .ok (.aload_n 0, 1) := by decide +kernel
theorem dL_law__1070 : decode cL_law_ 1070 = .ok (.iload 4, 2) := by decide +kernel
theorem dL_law__1072 : decode cL_law_ 1072 = .ok (.iconst 2, 1) := by decide +kernel
theorem dL_law__1073 : decode cL_law_ 1073 = .ok (.iadd, 1) := by decide +kernel
theorem dL_law__1074 : decode cL_law_ 1074 = .ok (.iaload, 1) := by decide +kernel
theorem dL_law__1075 : decode cL_law_ 1075 = .ok (.aload_n 3, 1) := by decide +kernel
theorem dL_law__1076 : decode cL_law_ 1076 = .ok (.invokestatic 176, 3) := by decide +kernel
theorem dL_law__1079 : decode cL_law_ 1079 = .ok (.istore 5, 2) := by decide +kernel
theorem dL_law__1081 : decode cL_law_ 1081 = .ok (.aload_n 2, 1) := by decide +kernel
theorem dL_law__1082 : decode cL_law_ 1082 = .ok (.aload_n 0, 1) := by decide +kernel
theorem dL_law__1083 : decode cL_law_ 1083 = .ok (.iload 4, 2) := by decide +kernel
theorem dL_law__1085 : decode cL_law_ 1085 = .ok (.iconst 1, 1) := by decide +kernel
theorem dL_law__1086 : decode cL_law_ 1086 = .ok (.iadd, 1) := by decide +kernel
theorem dL_law__1087 : decode cL_law_ 1087 = .ok (.iaload, 1) := by decide +kernel
theorem dL_law__1088 : decode cL_law_ 1088 = .ok (.aload_n 0, 1) := by decide +kernel
theorem dL_law__1089 : decode cL_law_ 1089 = .ok (.iload 4, 2) := by decide +kernel
theorem dL_law__1091 : decode cL_law_ 1091 = .ok (.iconst 2, 1) := by decide +kernel
theorem dL_law__1092 : decode cL_law_ 1092 = .ok (.iadd, 1) := by decide +kernel
theorem dL_law__1093 : decode cL_law_ 1093 = .ok (.iaload, 1) := by decide +kernel
theorem dL_law__1094 : decode cL_law_ 1094 = .ok (.invokevirtual 178, 3) := by decide +kernel
theorem dL_law__1097 : decode cL_law_ 1097 = .ok (.istore 6, 2) := by decide +kernel
theorem dL_law__1099 : decode cL_law_ 1099 = .ok (.aload_n 2, 1) := by decide +kernel
theorem dL_law__1100 : decode cL_law_ 1100 = .ok (.invokevirtual 136, 3) := by decide +kernel
theorem dL_law__1103 : decode cL_law_ 1103 = .ok (.iload 5, 2) := by decide +kernel
theorem dL_law__1105 : decode cL_law_ 1105 = .ok (.if_icmp .eq 5, 3) := by decide +kernel
theorem dL_law__1110 : decode cL_law_ 1110 = .ok (.iload 5, 2) := by decide +kernel
theorem dL_law__1112 : decode cL_law_ 1112 = .ok (.ifCond .ne 15, 3) := by decide +kernel
theorem dL_law__1115 : decode cL_law_ 1115 = .ok (.aload_n 3, 1) := by decide +kernel
theorem dL_law__1116 : decode cL_law_ 1116 = .ok (.iconst 0, 1) := by decide +kernel
theorem dL_law__1117 : decode cL_law_ 1117 = .ok (.laload, 1) := by decide +kernel
theorem dL_law__1118 : decode cL_law_ 1118 = .ok (.iload 6, 2) := by decide +kernel
theorem dL_law__1120 : decode cL_law_ 1120 = .ok (.i2l, 1) := by decide +kernel
theorem dL_law__1121 : decode cL_law_ 1121 = .ok (.lcmp, 1) := by decide +kernel
theorem dL_law__1122 : decode cL_law_ 1122 = .ok (.ifCond .eq 5, 3) := by decide +kernel
theorem dL_law__1127 : decode cL_law_ 1127 = .ok (.goto 1487, 3) := by decide +kernel
theorem dL_law__1130 : decode cL_law_ 1130 = .ok (.aload_n 1, 1) := by decide +kernel
theorem dL_law__1131 : decode cL_law_ 1131 = .ok (.aload_n 0, 1) := by decide +kernel
theorem dL_law__1132 : decode cL_law_ 1132 = .ok (.iload 4, 2) := by decide +kernel
theorem dL_law__1134 : decode cL_law_ 1134 = .ok (.iconst 1, 1) := by decide +kernel
theorem dL_law__1135 : decode cL_law_ 1135 = .ok (.iadd, 1) := by decide +kernel
theorem dL_law__1136 : decode cL_law_ 1136 = .ok (.iaload, 1) := by decide +kernel
theorem dL_law__1137 : decode cL_law_ 1137 = .ok (.aload_n 0, 1) := by decide +kernel
theorem dL_law__1138 : decode cL_law_ 1138 = .ok (.iload 4, 2) := by decide +kernel
theorem dL_law__1140 : decode cL_law_ 1140 = .ok (.iconst 2, 1) := by decide +kernel
theorem dL_law__1141 : decode cL_law_ 1141 = .ok (.iadd, 1) := by decide +kernel
theorem dL_law__1142 : decode cL_law_ 1142 = .ok (.iaload, 1) := by decide +kernel
theorem dL_law__1143 : decode cL_law_ 1143 = .ok (.aload_n 3, 1) := by decide +kernel
theorem dL_law__1144 : decode cL_law_ 1144 = .ok (.invokestatic 179, 3) := by decide +kernel
theorem dL_law__1147 : decode cL_law_ 1147 = .ok (.istore 5, 2) := by decide +kernel
theorem dL_law__1149 : decode cL_law_ 1149 = .ok (.aload_n 2, 1) := by decide +kernel
theorem dL_law__1150 : decode cL_law_ 1150 = .ok (.aload_n 0, 1) := by decide +kernel
theorem dL_law__1151 : decode cL_law_ 1151 = .ok (.iload 4, 2) := by decide +kernel
theorem dL_law__1153 : decode cL_law_ 1153 = .ok (.iconst 1, 1) := by decide +kernel
theorem dL_law__1154 : decode cL_law_ 1154 = .ok (.iadd, 1) := by decide +kernel
theorem dL_law__1155 : decode cL_law_ 1155 = .ok (.iaload, 1) := by decide +kernel
theorem dL_law__1156 : decode cL_law_ 1156 = .ok (.aload_n 0, 1) := by decide +kernel
theorem dL_law__1157 : decode cL_law_ 1157 = .ok (.iload 4, 2) := by decide +kernel
theorem dL_law__1159 : decode cL_law_ 1159 = .ok (.iconst 2, 1) := by decide +kernel
theorem dL_law__1160 : decode cL_law_ 1160 = .ok (.iadd, 1) := by decide +kernel
theorem dL_law__1161 : decode cL_law_ 1161 = .ok (.iaload, 1) := by decide +kernel
theorem dL_law__1162 : decode cL_law_ 1162 = .ok (.invokevirtual 181, 3) := by decide +kernel
theorem dL_law__1165 : decode cL_law_ 1165 = .ok (.istore 6, 2) := by decide +kernel
theorem dL_law__1167 : decode cL_law_ 1167 = .ok (.aload_n 2, 1) := by decide +kernel
theorem dL_law__1168 : decode cL_law_ 1168 = .ok (.invokevirtual 136, 3) := by decide +kernel
theorem dL_law__1171 : decode cL_law_ 1171 = .ok (.iload 5, 2) := by decide +kernel
theorem dL_law__1173 : decode cL_law_ 1173 = .ok (.if_icmp .eq 5, 3) := by decide +kernel
theorem dL_law__1178 : decode cL_law_ 1178 = .ok (.iload 5, 2) := by decide +kernel
theorem dL_law__1180 : decode cL_law_ 1180 = .ok (.ifCond .ne 15, 3) := by decide +kernel
theorem dL_law__1183 : decode cL_law_ 1183 = .ok (.aload_n 3, 1) := by decide +kernel
theorem dL_law__1184 : decode cL_law_ 1184 = .ok (.iconst 0, 1) := by decide +kernel
theorem dL_law__1185 : decode cL_law_ 1185 = .ok (.laload, 1) := by decide +kernel
theorem dL_law__1186 : decode cL_law_ 1186 = .ok (.iload 6, 2) := by decide +kernel
theorem dL_law__1188 : decode cL_law_ 1188 = .ok (.i2l, 1) := by decide +kernel
theorem dL_law__1189 : decode cL_law_ 1189 = .ok (.lcmp, 1) := by decide +kernel
theorem dL_law__1190 : decode cL_law_ 1190 = .ok (.ifCond .eq 5, 3) := by decide +kernel
theorem dL_law__1195 : decode cL_law_ 1195 = .ok (.goto 1419, 3) := by decide +kernel
theorem dL_law__1198 : decode cL_law_ 1198 = .ok (.aload_n 1, 1) := by decide +kernel
theorem dL_law__1199 : decode cL_law_ 1199 = .ok (.aload_n 0, 1) := by decide +kernel
theorem dL_law__1200 : decode cL_law_ 1200 = .ok (.iload 4, 2) := by decide +kernel
theorem dL_law__1202 : decode cL_law_ 1202 = .ok (.iconst 1, 1) := by decide +kernel
theorem dL_law__1203 : decode cL_law_ 1203 = .ok (.iadd, 1) := by decide +kernel
theorem dL_law__1204 : decode cL_law_ 1204 = .ok (.iaload, 1) := by decide +kernel
theorem dL_law__1205 : decode cL_law_ 1205 = .ok (.aload_n 3, 1) := by decide +kernel
theorem dL_law__1206 : decode cL_law_ 1206 = .ok (.invokestatic 182, 3) := by decide +kernel
theorem dL_law__1209 : decode cL_law_ 1209 = .ok (.istore 5, 2) := by decide +kernel
theorem dL_law__1211 : decode cL_law_ 1211 = .ok (.aload_n 2, 1) := by decide +kernel
theorem dL_law__1212 : decode cL_law_ 1212 = .ok (.aload_n 0, 1) := by decide +kernel
theorem dL_law__1213 : decode cL_law_ 1213 = .ok (.iload 4, 2) := by decide +kernel
theorem dL_law__1215 : decode cL_law_ 1215 = .ok (.iconst 1, 1) := by decide +kernel
theorem dL_law__1216 : decode cL_law_ 1216 = .ok (.iadd, 1) := by decide +kernel
theorem dL_law__1217 : decode cL_law_ 1217 = .ok (.iaload, 1) := by decide +kernel
theorem dL_law__1218 : decode cL_law_ 1218 = .ok (.invokevirtual 184, 3) := by decide +kernel
theorem dL_law__1221 : decode cL_law_ 1221 = .ok (.istore 6, 2) := by decide +kernel
theorem dL_law__1223 : decode cL_law_ 1223 = .ok (.aload_n 2, 1) := by decide +kernel
theorem dL_law__1224 : decode cL_law_ 1224 = .ok (.invokevirtual 136, 3) := by decide +kernel
theorem dL_law__1227 : decode cL_law_ 1227 = .ok (.iload 5, 2) := by decide +kernel
theorem dL_law__1229 : decode cL_law_ 1229 = .ok (.if_icmp .eq 5, 3) := by decide +kernel
theorem dL_law__1234 : decode cL_law_ 1234 = .ok (.iload 5, 2) := by decide +kernel
theorem dL_law__1236 : decode cL_law_ 1236 = .ok (.ifCond .ne 15, 3) := by decide +kernel
theorem dL_law__1239 : decode cL_law_ 1239 = .ok (.aload_n 3, 1) := by decide +kernel
theorem dL_law__1240 : decode cL_law_ 1240 = .ok (.iconst 0, 1) := by decide +kernel
theorem dL_law__1241 : decode cL_law_ 1241 = .ok (.laload, 1) := by decide +kernel
theorem dL_law__1242 : decode cL_law_ 1242 = .ok (.iload 6, 2) := by decide +kernel
theorem dL_law__1244 : decode cL_law_ 1244 = .ok (.i2l, 1) := by decide +kernel
theorem dL_law__1245 : decode cL_law_ 1245 = .ok (.lcmp, 1) := by decide +kernel
theorem dL_law__1246 : decode cL_law_ 1246 = .ok (.ifCond .eq 5, 3) := by decide +kernel
theorem dL_law__1251 : decode cL_law_ 1251 = .ok (.goto 1363, 3) := by decide +kernel
theorem dL_law__1254 : decode cL_law_ 1254 = .ok (.aload_n 1, 1) := by decide +kernel
theorem dL_law__1255 : decode cL_law_ 1255 = .ok (.aload_n 0, 1) := by decide +kernel
theorem dL_law__1256 : decode cL_law_ 1256 = .ok (.iload 4, 2) := by decide +kernel
theorem dL_law__1258 : decode cL_law_ 1258 = .ok (.iconst 1, 1) := by decide +kernel
theorem dL_law__1259 : decode cL_law_ 1259 = .ok (.iadd, 1) := by decide +kernel
theorem dL_law__1260 : decode cL_law_ 1260 = .ok (.iaload, 1) := by decide +kernel
theorem dL_law__1261 : decode cL_law_ 1261 = .ok (.aload_n 3, 1) := by decide +kernel
theorem dL_law__1262 : decode cL_law_ 1262 = .ok (.invokestatic 185, 3) := by decide +kernel
theorem dL_law__1265 : decode cL_law_ 1265 = .ok (.istore 5, 2) := by decide +kernel
theorem dL_law__1267 : decode cL_law_ 1267 = .ok (.aload_n 2, 1) := by decide +kernel
theorem dL_law__1268 : decode cL_law_ 1268 = .ok (.aload_n 0, 1) := by decide +kernel
theorem dL_law__1269 : decode cL_law_ 1269 = .ok (.iload 4, 2) := by decide +kernel
theorem dL_law__1271 : decode cL_law_ 1271 = .ok (.iconst 1, 1) := by decide +kernel
theorem dL_law__1272 : decode cL_law_ 1272 = .ok (.iadd, 1) := by decide +kernel
theorem dL_law__1273 : decode cL_law_ 1273 = .ok (.iaload, 1) := by decide +kernel
theorem dL_law__1274 : decode cL_law_ 1274 = .ok (.invokevirtual 187, 3) := by decide +kernel
theorem dL_law__1277 : decode cL_law_ 1277 = .ok (.istore 6, 2) := by decide +kernel
theorem dL_law__1279 : decode cL_law_ 1279 = .ok (.aload_n 2, 1) := by decide +kernel
theorem dL_law__1280 : decode cL_law_ 1280 = .ok (.invokevirtual 136, 3) := by decide +kernel
theorem dL_law__1283 : decode cL_law_ 1283 = .ok (.iload 5, 2) := by decide +kernel
theorem dL_law__1285 : decode cL_law_ 1285 = .ok (.if_icmp .eq 5, 3) := by decide +kernel
theorem dL_law__1290 : decode cL_law_ 1290 = .ok (.iload 5, 2) := by decide +kernel
theorem dL_law__1292 : decode cL_law_ 1292 = .ok (.ifCond .ne 15, 3) := by decide +kernel
theorem dL_law__1295 : decode cL_law_ 1295 = .ok (.aload_n 3, 1) := by decide +kernel
theorem dL_law__1296 : decode cL_law_ 1296 = .ok (.iconst 0, 1) := by decide +kernel
theorem dL_law__1297 : decode cL_law_ 1297 = .ok (.laload, 1) := by decide +kernel
theorem dL_law__1298 : decode cL_law_ 1298 = .ok (.iload 6, 2) := by decide +kernel
theorem dL_law__1300 : decode cL_law_ 1300 = .ok (.i2l, 1) := by decide +kernel
theorem dL_law__1301 : decode cL_law_ 1301 = .ok (.lcmp, 1) := by decide +kernel
theorem dL_law__1302 : decode cL_law_ 1302 = .ok (.ifCond .eq 5, 3) := by decide +kernel
theorem dL_law__1307 : decode cL_law_ 1307 = .ok (.goto 1307, 3) := by decide +kernel
theorem dL_law__1310 : decode cL_law_ 1310 = .ok (.aload_n 1, 1) := by decide +kernel
theorem dL_law__1311 : decode cL_law_ 1311 = .ok (.aload_n 0, 1) := by decide +kernel
theorem dL_law__1312 : decode cL_law_ 1312 = .ok (.iload 4, 2) := by decide +kernel
theorem dL_law__1314 : decode cL_law_ 1314 = .ok (.iconst 1, 1) := by decide +kernel
theorem dL_law__1315 : decode cL_law_ 1315 = .ok (.iadd, 1) := by decide +kernel
theorem dL_law__1316 : decode cL_law_ 1316 = .ok (.iaload, 1) := by decide +kernel
theorem dL_law__1317 : decode cL_law_ 1317 = .ok (.aload_n 3, 1) := by decide +kernel
theorem dL_law__1318 : decode cL_law_ 1318 = .ok (.invokestatic 188, 3) := by decide +kernel
theorem dL_law__1321 : decode cL_law_ 1321 = .ok (.istore 5, 2) := by decide +kernel
theorem dL_law__1323 : decode cL_law_ 1323 = .ok (.aload_n 2, 1) := by decide +kernel
theorem dL_law__1324 : decode cL_law_ 1324 = .ok (.aload_n 0, 1) := by decide +kernel
theorem dL_law__1325 : decode cL_law_ 1325 = .ok (.iload 4, 2) := by decide +kernel
theorem dL_law__1327 : decode cL_law_ 1327 = .ok (.iconst 1, 1) := by decide +kernel
theorem dL_law__1328 : decode cL_law_ 1328 = .ok (.iadd, 1) := by decide +kernel
theorem dL_law__1329 : decode cL_law_ 1329 = .ok (.iaload, 1) := by decide +kernel
theorem dL_law__1330 : decode cL_law_ 1330 = .ok (.invokevirtual 190, 3) := by decide +kernel
theorem dL_law__1333 : decode cL_law_ 1333 = .ok (.istore 6, 2) := by decide +kernel
theorem dL_law__1335 : decode cL_law_ 1335 = .ok (.aload_n 2, 1) := by decide +kernel
theorem dL_law__1336 : decode cL_law_ 1336 = .ok (.invokevirtual 136, 3) := by decide +kernel
theorem dL_law__1339 : decode cL_law_ 1339 = .ok (.iload 5, 2) := by decide +kernel
theorem dL_law__1341 : decode cL_law_ 1341 = .ok (.if_icmp .eq 5, 3) := by decide +kernel
theorem dL_law__1346 : decode cL_law_ 1346 = .ok (.iload 5, 2) := by decide +kernel
theorem dL_law__1348 : decode cL_law_ 1348 = .ok (.ifCond .ne 15, 3) := by decide +kernel
theorem dL_law__1351 : decode cL_law_ 1351 = .ok (.aload_n 3, 1) := by decide +kernel
theorem dL_law__1352 : decode cL_law_ 1352 = .ok (.iconst 0, 1) := by decide +kernel
theorem dL_law__1353 : decode cL_law_ 1353 = .ok (.laload, 1) := by decide +kernel
theorem dL_law__1354 : decode cL_law_ 1354 = .ok (.iload 6, 2) := by decide +kernel
theorem dL_law__1356 : decode cL_law_ 1356 = .ok (.i2l, 1) := by decide +kernel
theorem dL_law__1357 : decode cL_law_ 1357 = .ok (.lcmp, 1) := by decide +kernel
theorem dL_law__1358 : decode cL_law_ 1358 = .ok (.ifCond .eq 5, 3) := by decide +kernel
theorem dL_law__1363 : decode cL_law_ 1363 = .ok (.goto 1251, 3) := by decide +kernel
theorem dL_law__1366 : decode cL_law_ 1366 = .ok (.aload_n 1, 1) := by decide +kernel
theorem dL_law__1367 : decode cL_law_ 1367 = .ok (.aload_n 0, 1) := by decide +kernel
theorem dL_law__1368 : decode cL_law_ 1368 = .ok (.iload 4, 2) := by decide +kernel
theorem dL_law__1370 : decode cL_law_ 1370 = .ok (.iconst 1, 1) := by decide +kernel
theorem dL_law__1371 : decode cL_law_ 1371 = .ok (.iadd, 1) := by decide +kernel
theorem dL_law__1372 : decode cL_law_ 1372 = .ok (.iaload, 1) := by decide +kernel
theorem dL_law__1373 : decode cL_law_ 1373 = .ok (.aload_n 3, 1) := by decide +kernel
theorem dL_law__1374 : decode cL_law_ 1374 = .ok (.invokestatic 191, 3) := by decide +kernel
theorem dL_law__1377 : decode cL_law_ 1377 = .ok (.istore 5, 2) := by decide +kernel
theorem dL_law__1379 : decode cL_law_ 1379 = .ok (.aload_n 2, 1) := by decide +kernel
theorem dL_law__1380 : decode cL_law_ 1380 = .ok (.aload_n 0, 1) := by decide +kernel
theorem dL_law__1381 : decode cL_law_ 1381 = .ok (.iload 4, 2) := by decide +kernel
theorem dL_law__1383 : decode cL_law_ 1383 = .ok (.iconst 1, 1) := by decide +kernel
theorem dL_law__1384 : decode cL_law_ 1384 = .ok (.iadd, 1) := by decide +kernel
theorem dL_law__1385 : decode cL_law_ 1385 = .ok (.iaload, 1) := by decide +kernel
theorem dL_law__1386 : decode cL_law_ 1386 = .ok (.invokevirtual 193, 3) := by decide +kernel
theorem dL_law__1389 : decode cL_law_ 1389 = .ok (.istore 6, 2) := by decide +kernel
theorem dL_law__1391 : decode cL_law_ 1391 = .ok (.aload_n 2, 1) := by decide +kernel
theorem dL_law__1392 : decode cL_law_ 1392 = .ok (.invokevirtual 136, 3) := by decide +kernel
theorem dL_law__1395 : decode cL_law_ 1395 = .ok (.iload 5, 2) := by decide +kernel
theorem dL_law__1397 : decode cL_law_ 1397 = .ok (.if_icmp .eq 5, 3) := by decide +kernel
theorem dL_law__1402 : decode cL_law_ 1402 = .ok (.iload 5, 2) := by decide +kernel
theorem dL_law__1404 : decode cL_law_ 1404 = .ok (.ifCond .ne 15, 3) := by decide +kernel
theorem dL_law__1407 : decode cL_law_ 1407 = .ok (.aload_n 3, 1) := by decide +kernel
theorem dL_law__1408 : decode cL_law_ 1408 = .ok (.iconst 0, 1) := by decide +kernel
theorem dL_law__1409 : decode cL_law_ 1409 = .ok (.laload, 1) := by decide +kernel
theorem dL_law__1410 : decode cL_law_ 1410 = .ok (.iload 6, 2) := by decide +kernel
theorem dL_law__1412 : decode cL_law_ 1412 = .ok (.i2l, 1) := by decide +kernel
theorem dL_law__1413 : decode cL_law_ 1413 = .ok (.lcmp, 1) := by decide +kernel
theorem dL_law__1414 : decode cL_law_ 1414 = .ok (.ifCond .eq 5, 3) := by decide +kernel
theorem dL_law__1419 : decode cL_law_ 1419 = .ok (.goto 1195, 3) := by decide +kernel
theorem dL_law__1422 : decode cL_law_ 1422 = .ok (.aload_n 1, 1) := by decide +kernel
theorem dL_law__1423 : decode cL_law_ 1423 = .ok (.aload_n 0, 1) := by decide +kernel
theorem dL_law__1424 : decode cL_law_ 1424 = .ok (.iload 4, 2) := by decide +kernel
theorem dL_law__1426 : decode cL_law_ 1426 = .ok (.iconst 1, 1) := by decide +kernel
theorem dL_law__1427 : decode cL_law_ 1427 = .ok (.iadd, 1) := by decide +kernel
theorem dL_law__1428 : decode cL_law_ 1428 = .ok (.iaload, 1) := by decide +kernel
theorem dL_law__1429 : decode cL_law_ 1429 = .ok (.ifCond .eq 7, 3) := by decide +kernel
theorem dL_law__1432 : decode cL_law_ 1432 = .ok (.iconst 1, 1) := by decide +kernel
theorem dL_law__1433 : decode cL_law_ 1433 = .ok (.goto 4, 3) := by decide +kernel
theorem dL_law__1436 : decode cL_law_ 1436 = .ok (.iconst 0, 1) := by decide +kernel
theorem dL_law__1437 : decode cL_law_ 1437 = .ok (.invokevirtual 194, 3) := by decide +kernel
theorem dL_law__1440 : decode cL_law_ 1440 = .ok (.aload_n 2, 1) := by decide +kernel
theorem dL_law__1441 : decode cL_law_ 1441 = .ok (.aload_n 0, 1) := by decide +kernel
theorem dL_law__1442 : decode cL_law_ 1442 = .ok (.iload 4, 2) := by decide +kernel
theorem dL_law__1444 : decode cL_law_ 1444 = .ok (.iconst 1, 1) := by decide +kernel
theorem dL_law__1445 : decode cL_law_ 1445 = .ok (.iadd, 1) := by decide +kernel
theorem dL_law__1446 : decode cL_law_ 1446 = .ok (.iaload, 1) := by decide +kernel
theorem dL_law__1447 : decode cL_law_ 1447 = .ok (.ifCond .eq 7, 3) := by decide +kernel
theorem dL_law__1450 : decode cL_law_ 1450 = .ok (.iconst 1, 1) := by decide +kernel
theorem dL_law__1451 : decode cL_law_ 1451 = .ok (.goto 4, 3) := by decide +kernel
