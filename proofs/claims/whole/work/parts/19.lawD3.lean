theorem d_LW_law_1047 : decode code 1047 = .ok (.lload 6, 2) := by decide +kernel
theorem d_LW_law_1049 : decode code 1049 = .ok (.lcmp, 1) := by decide +kernel
theorem d_LW_law_1050 : decode code 1050 = .ok (.ifCond .eq 5, 3) := by decide +kernel
theorem d_LW_law_1053 : decode code 1053 = .ok (.iconst 0, 1) := by decide +kernel
theorem d_LW_law_1055 : decode code 1055 = .ok (.goto 468, 3) := by decide +kernel
theorem d_LW_law_1058 : decode code 1058 = .ok (.aload_n 1, 1) := by decide +kernel
theorem d_LW_law_1059 : decode code 1059 = .ok (.aload_n 0, 1) := by decide +kernel
theorem d_LW_law_1060 : decode code 1060 = .ok (.iload 4, 2) := by decide +kernel
theorem d_LW_law_1062 : decode code 1062 = .ok (.iconst 1, 1) := by decide +kernel
theorem d_LW_law_1063 : decode code 1063 = .ok (.iadd, 1) := by decide +kernel
theorem d_LW_law_1064 : decode code 1064 = .ok (.iaload, 1) := by decide +kernel
theorem d_LW_law_1065 : decode code 1065 = .ok (.aload_n 0, 1) := by decide +kernel
theorem d_LW_law_1066 : decode code 1066 = .ok (.iload 4, 2) := by decide +kernel
theorem d_LW_law_1068 : decode code 1068 = .ok (.iconst 2, 1) := by decide +kernel
theorem d_LW_law_1069 : decode code 1069 = .ok (.iadd, 1) := by decide +kernel
theorem d_LW_law_1070 : decode code 1070 = .ok (.iaload, 1) := by decide +kernel
theorem d_LW_law_1071 : decode code 1071 = .ok (.aload_n 3, 1) := by decide +kernel
theorem d_LW_law_1072 : decode code 1072 = .ok (.invokestatic 154, 3) := by decide +kernel
theorem d_LW_law_1075 : decode code 1075 = .ok (.istore 5, 2) := by decide +kernel
theorem d_LW_law_1077 : decode code 1077 = .ok (.aload_n 2, 1) := by decide +kernel
theorem d_LW_law_1078 : decode code 1078 = .ok (.aload_n 0, 1) := by decide +kernel
theorem d_LW_law_1079 : decode code 1079 = .ok (.iload 4, 2) := by decide +kernel
theorem d_LW_law_1081 : decode code 1081 = .ok (.iconst 1, 1) := by decide +kernel
theorem d_LW_law_1082 : decode code 1082 = .ok (.iadd, 1) := by decide +kernel
theorem d_LW_law_1083 : decode code 1083 = .ok (.iaload, 1) := by decide +kernel
theorem d_LW_law_1084 : decode code 1084 = .ok (.aload_n 0, 1) := by decide +kernel
theorem d_LW_law_1085 : decode code 1085 = .ok (.iload 4, 2) := by decide +kernel
theorem d_LW_law_1087 : decode code 1087 = .ok (.iconst 2, 1) := by decide +kernel
theorem d_LW_law_1088 : decode code 1088 = .ok (.iadd, 1) := by decide +kernel
theorem d_LW_law_1089 : decode code 1089 = .ok (.iaload, 1) := by decide +kernel
theorem d_LW_law_1090 : decode code 1090 = .ok (.invokevirtual 156, 3) := by decide +kernel
theorem d_LW_law_1093 : decode code 1093 = .ok (.lstore 6, 2) := by decide +kernel
theorem d_LW_law_1095 : decode code 1095 = .ok (.aload_n 2, 1) := by decide +kernel
theorem d_LW_law_1096 : decode code 1096 = .ok (.invokevirtual 104, 3) := by decide +kernel
theorem d_LW_law_1099 : decode code 1099 = .ok (.iload 5, 2) := by decide +kernel
theorem d_LW_law_1101 : decode code 1101 = .ok (.if_icmp .eq 5, 3) := by decide +kernel
theorem d_LW_law_1104 : decode code 1104 = .ok (.iconst 0, 1) := by decide +kernel
theorem d_LW_law_1106 : decode code 1106 = .ok (.iload 5, 2) := by decide +kernel
theorem d_LW_law_1108 : decode code 1108 = .ok (.ifCond .ne 14, 3) := by decide +kernel
theorem d_LW_law_1111 : decode code 1111 = .ok (.aload_n 3, 1) := by decide +kernel
theorem d_LW_law_1112 : decode code 1112 = .ok (.iconst 0, 1) := by decide +kernel
theorem d_LW_law_1113 : decode code 1113 = .ok (.laload, 1) := by decide +kernel
theorem d_LW_law_1114 : decode code 1114 = .ok (.lload 6, 2) := by decide +kernel
theorem d_LW_law_1116 : decode code 1116 = .ok (.lcmp, 1) := by decide +kernel
theorem d_LW_law_1117 : decode code 1117 = .ok (.ifCond .eq 5, 3) := by decide +kernel
theorem d_LW_law_1120 : decode code 1120 = .ok (.iconst 0, 1) := by decide +kernel
theorem d_LW_law_1122 : decode code 1122 = .ok (.goto 401, 3) := by decide +kernel
theorem d_LW_law_1125 : decode code 1125 = .ok (.aload_n 1, 1) := by decide +kernel
theorem d_LW_law_1126 : decode code 1126 = .ok (.aload_n 0, 1) := by decide +kernel
theorem d_LW_law_1127 : decode code 1127 = .ok (.iload 4, 2) := by decide +kernel
theorem d_LW_law_1129 : decode code 1129 = .ok (.iconst 1, 1) := by decide +kernel
theorem d_LW_law_1130 : decode code 1130 = .ok (.iadd, 1) := by decide +kernel
theorem d_LW_law_1131 : decode code 1131 = .ok (.iaload, 1) := by decide +kernel
theorem d_LW_law_1132 : decode code 1132 = .ok (.aload_n 0, 1) := by decide +kernel
theorem d_LW_law_1133 : decode code 1133 = .ok (.iload 4, 2) := by decide +kernel
theorem d_LW_law_1135 : decode code 1135 = .ok (.iconst 2, 1) := by decide +kernel
theorem d_LW_law_1136 : decode code 1136 = .ok (.iadd, 1) := by decide +kernel
theorem d_LW_law_1137 : decode code 1137 = .ok (.iaload, 1) := by decide +kernel
theorem d_LW_law_1138 : decode code 1138 = .ok (.aload_n 3, 1) := by decide +kernel
theorem d_LW_law_1139 : decode code 1139 = .ok (.invokestatic 157, 3) := by decide +kernel
theorem d_LW_law_1142 : decode code 1142 = .ok (.istore 5, 2) := by decide +kernel
theorem d_LW_law_1144 : decode code 1144 = .ok (.aload_n 2, 1) := by decide +kernel
theorem d_LW_law_1145 : decode code 1145 = .ok (.aload_n 0, 1) := by decide +kernel
theorem d_LW_law_1146 : decode code 1146 = .ok (.iload 4, 2) := by decide +kernel
theorem d_LW_law_1148 : decode code 1148 = .ok (.iconst 1, 1) := by decide +kernel
theorem d_LW_law_1149 : decode code 1149 = .ok (.iadd, 1) := by decide +kernel
theorem d_LW_law_1150 : decode code 1150 = .ok (.iaload, 1) := by decide +kernel
theorem d_LW_law_1151 : decode code 1151 = .ok (.aload_n 0, 1) := by decide +kernel
theorem d_LW_law_1152 : decode code 1152 = .ok (.iload 4, 2) := by decide +kernel
theorem d_LW_law_1154 : decode code 1154 = .ok (.iconst 2, 1) := by decide +kernel
theorem d_LW_law_1155 : decode code 1155 = .ok (.iadd, 1) := by decide +kernel
theorem d_LW_law_1156 : decode code 1156 = .ok (.iaload, 1) := by decide +kernel
theorem d_LW_law_1157 : decode code 1157 = .ok (.invokevirtual 159, 3) := by decide +kernel
theorem d_LW_law_1160 : decode code 1160 = .ok (.istore 6, 2) := by decide +kernel
theorem d_LW_law_1162 : decode code 1162 = .ok (.aload_n 2, 1) := by decide +kernel
theorem d_LW_law_1163 : decode code 1163 = .ok (.invokevirtual 104, 3) := by decide +kernel
theorem d_LW_law_1166 : decode code 1166 = .ok (.iload 5, 2) := by decide +kernel
theorem d_LW_law_1168 : decode code 1168 = .ok (.if_icmp .eq 5, 3) := by decide +kernel
theorem d_LW_law_1171 : decode code 1171 = .ok (.iconst 0, 1) := by decide +kernel
theorem d_LW_law_1173 : decode code 1173 = .ok (.iload 5, 2) := by decide +kernel
theorem d_LW_law_1175 : decode code 1175 = .ok (.ifCond .ne 15, 3) := by decide +kernel
theorem d_LW_law_1178 : decode code 1178 = .ok (.aload_n 3, 1) := by decide +kernel
theorem d_LW_law_1179 : decode code 1179 = .ok (.iconst 0, 1) := by decide +kernel
theorem d_LW_law_1180 : decode code 1180 = .ok (.laload, 1) := by decide +kernel
theorem d_LW_law_1181 : decode code 1181 = .ok (.iload 6, 2) := by decide +kernel
theorem d_LW_law_1183 : decode code 1183 = .ok (.i2l, 1) := by decide +kernel
theorem d_LW_law_1184 : decode code 1184 = .ok (.lcmp, 1) := by decide +kernel
theorem d_LW_law_1185 : decode code 1185 = .ok (.ifCond .eq 5, 3) := by decide +kernel
theorem d_LW_law_1188 : decode code 1188 = .ok (.iconst 0, 1) := by decide +kernel
theorem d_LW_law_1190 : decode code 1190 = .ok (.goto 333, 3) := by decide +kernel
theorem d_LW_law_1193 : decode code 1193 = .ok (.aload_n 1, 1) := by decide +kernel
theorem d_LW_law_1194 : decode code 1194 = .ok (.aload_n 0, 1) := by decide +kernel
theorem d_LW_law_1195 : decode code 1195 = .ok (.iload 4, 2) := by decide +kernel
theorem d_LW_law_1197 : decode code 1197 = .ok (.iconst 1, 1) := by decide +kernel
theorem d_LW_law_1198 : decode code 1198 = .ok (.iadd, 1) := by decide +kernel
theorem d_LW_law_1199 : decode code 1199 = .ok (.iaload, 1) := by decide +kernel
theorem d_LW_law_1200 : decode code 1200 = .ok (.aload_n 0, 1) := by decide +kernel
theorem d_LW_law_1201 : decode code 1201 = .ok (.iload 4, 2) := by decide +kernel
theorem d_LW_law_1203 : decode code 1203 = .ok (.iconst 2, 1) := by decide +kernel
theorem d_LW_law_1204 : decode code 1204 = .ok (.iadd, 1) := by decide +kernel
theorem d_LW_law_1205 : decode code 1205 = .ok (.iaload, 1) := by decide +kernel
theorem d_LW_law_1206 : decode code 1206 = .ok (.i2l, 1) := by decide +kernel
theorem d_LW_law_1207 : decode code 1207 = .ok (.bipush 32, 2) := by decide +kernel
theorem d_LW_law_1209 : decode code 1209 = .ok (.lshl, 1) := by decide +kernel
theorem d_LW_law_1210 : decode code 1210 = .ok (.aload_n 0, 1) := by decide +kernel
theorem d_LW_law_1211 : decode code 1211 = .ok (.iload 4, 2) := by decide +kernel
theorem d_LW_law_1213 : decode code 1213 = .ok (.iconst 3, 1) := by decide +kernel
theorem d_LW_law_1214 : decode code 1214 = .ok (.iadd, 1) := by decide +kernel
theorem d_LW_law_1215 : decode code 1215 = .ok (.iaload, 1) := by decide +kernel
theorem d_LW_law_1216 : decode code 1216 = .ok (.i2l, 1) := by decide +kernel
theorem d_LW_law_1217 : decode code 1217 = .ok (.ldc2_w 96, 3) := by decide +kernel
theorem d_LW_law_1220 : decode code 1220 = .ok (.land, 1) := by decide +kernel
theorem d_LW_law_1221 : decode code 1221 = .ok (.lor, 1) := by decide +kernel
theorem d_LW_law_1222 : decode code 1222 = .ok (.aload_n 3, 1) := by decide +kernel
theorem d_LW_law_1223 : decode code 1223 = .ok (.invokestatic 160, 3) := by decide +kernel
theorem d_LW_law_1226 : decode code 1226 = .ok (.istore 5, 2) := by decide +kernel
theorem d_LW_law_1228 : decode code 1228 = .ok (.aload_n 2, 1) := by decide +kernel
theorem d_LW_law_1229 : decode code 1229 = .ok (.aload_n 0, 1) := by decide +kernel
theorem d_LW_law_1230 : decode code 1230 = .ok (.iload 4, 2) := by decide +kernel
theorem d_LW_law_1232 : decode code 1232 = .ok (.iconst 1, 1) := by decide +kernel
theorem d_LW_law_1233 : decode code 1233 = .ok (.iadd, 1) := by decide +kernel
theorem d_LW_law_1234 : decode code 1234 = .ok (.iaload, 1) := by decide +kernel
theorem d_LW_law_1235 : decode code 1235 = .ok (.aload_n 0, 1) := by decide +kernel
theorem d_LW_law_1236 : decode code 1236 = .ok (.iload 4, 2) := by decide +kernel
theorem d_LW_law_1238 : decode code 1238 = .ok (.iconst 2, 1) := by decide +kernel
theorem d_LW_law_1239 : decode code 1239 = .ok (.iadd, 1) := by decide +kernel
theorem d_LW_law_1240 : decode code 1240 = .ok (.iaload, 1) := by decide +kernel
theorem d_LW_law_1241 : decode code 1241 = .ok (.i2l, 1) := by decide +kernel
theorem d_LW_law_1242 : decode code 1242 = .ok (.bipush 32, 2) := by decide +kernel
theorem d_LW_law_1244 : decode code 1244 = .ok (.lshl, 1) := by decide +kernel
theorem d_LW_law_1245 : decode code 1245 = .ok (.aload_n 0, 1) := by decide +kernel
theorem d_LW_law_1246 : decode code 1246 = .ok (.iload 4, 2) := by decide +kernel
theorem d_LW_law_1248 : decode code 1248 = .ok (.iconst 3, 1) := by decide +kernel
theorem d_LW_law_1249 : decode code 1249 = .ok (.iadd, 1) := by decide +kernel
theorem d_LW_law_1250 : decode code 1250 = .ok (.iaload, 1) := by decide +kernel
theorem d_LW_law_1251 : decode code 1251 = .ok (.i2l, 1) := by decide +kernel
theorem d_LW_law_1252 : decode code 1252 = .ok (.ldc2_w 96, 3) := by decide +kernel
theorem d_LW_law_1255 : decode code 1255 = .ok (.land, 1) := by decide +kernel
theorem d_LW_law_1256 : decode code 1256 = .ok (.lor, 1) := by decide +kernel
theorem d_LW_law_1257 : decode code 1257 = .ok (.invokevirtual 162, 3) := by decide +kernel
theorem d_LW_law_1260 : decode code 1260 = .ok (.istore 6, 2) := by decide +kernel
theorem d_LW_law_1262 : decode code 1262 = .ok (.aload_n 2, 1) := by decide +kernel
theorem d_LW_law_1263 : decode code 1263 = .ok (.invokevirtual 104, 3) := by decide +kernel
theorem d_LW_law_1266 : decode code 1266 = .ok (.iload 5, 2) := by decide +kernel
theorem d_LW_law_1268 : decode code 1268 = .ok (.if_icmp .eq 5, 3) := by decide +kernel
theorem d_LW_law_1271 : decode code 1271 = .ok (.iconst 0, 1) := by decide +kernel
theorem d_LW_law_1273 : decode code 1273 = .ok (.iload 5, 2) := by decide +kernel
theorem d_LW_law_1275 : decode code 1275 = .ok (.ifCond .ne 15, 3) := by decide +kernel
theorem d_LW_law_1278 : decode code 1278 = .ok (.aload_n 3, 1) := by decide +kernel
theorem d_LW_law_1279 : decode code 1279 = .ok (.iconst 0, 1) := by decide +kernel
theorem d_LW_law_1280 : decode code 1280 = .ok (.laload, 1) := by decide +kernel
theorem d_LW_law_1281 : decode code 1281 = .ok (.iload 6, 2) := by decide +kernel
theorem d_LW_law_1283 : decode code 1283 = .ok (.i2l, 1) := by decide +kernel
theorem d_LW_law_1284 : decode code 1284 = .ok (.lcmp, 1) := by decide +kernel
theorem d_LW_law_1285 : decode code 1285 = .ok (.ifCond .eq 5, 3) := by decide +kernel
theorem d_LW_law_1288 : decode code 1288 = .ok (.iconst 0, 1) := by decide +kernel
theorem d_LW_law_1290 : decode code 1290 = .ok (.goto 233, 3) := by decide +kernel
theorem d_LW_law_1293 : decode code 1293 = .ok (.aload_n 1, 1) := by decide +kernel
theorem d_LW_law_1294 : decode code 1294 = .ok (.aload_n 0, 1) := by decide +kernel
theorem d_LW_law_1295 : decode code 1295 = .ok (.iload 4, 2) := by decide +kernel
theorem d_LW_law_1297 : decode code 1297 = .ok (.iconst 1, 1) := by decide +kernel
theorem d_LW_law_1298 : decode code 1298 = .ok (.iadd, 1) := by decide +kernel
theorem d_LW_law_1299 : decode code 1299 = .ok (.iaload, 1) := by decide +kernel
theorem d_LW_law_1300 : decode code 1300 = .ok (.aload_n 3, 1) := by decide +kernel
theorem d_LW_law_1301 : decode code 1301 = .ok (.invokestatic 163, 3) := by decide +kernel
theorem d_LW_law_1304 : decode code 1304 = .ok (.istore 5, 2) := by decide +kernel
theorem d_LW_law_1306 : decode code 1306 = .ok (.aload_n 2, 1) := by decide +kernel
theorem d_LW_law_1307 : decode code 1307 = .ok (.aload_n 0, 1) := by decide +kernel
theorem d_LW_law_1308 : decode code 1308 = .ok (.iload 4, 2) := by decide +kernel
theorem d_LW_law_1310 : decode code 1310 = .ok (.iconst 1, 1) := by decide +kernel
theorem d_LW_law_1311 : decode code 1311 = .ok (.iadd, 1) := by decide +kernel
theorem d_LW_law_1312 : decode code 1312 = .ok (.iaload, 1) := by decide +kernel
theorem d_LW_law_1313 : decode code 1313 = .ok (.invokevirtual 165, 3) := by decide +kernel
theorem d_LW_law_1316 : decode code 1316 = .ok (.istore 6, 2) := by decide +kernel
theorem d_LW_law_1318 : decode code 1318 = .ok (.aload_n 2, 1) := by decide +kernel
theorem d_LW_law_1319 : decode code 1319 = .ok (.invokevirtual 104, 3) := by decide +kernel
theorem d_LW_law_1322 : decode code 1322 = .ok (.iload 5, 2) := by decide +kernel
theorem d_LW_law_1324 : decode code 1324 = .ok (.if_icmp .eq 5, 3) := by decide +kernel
theorem d_LW_law_1327 : decode code 1327 = .ok (.iconst 0, 1) := by decide +kernel
theorem d_LW_law_1329 : decode code 1329 = .ok (.iload 5, 2) := by decide +kernel
theorem d_LW_law_1331 : decode code 1331 = .ok (.ifCond .ne 22, 3) := by decide +kernel
theorem d_LW_law_1334 : decode code 1334 = .ok (.aload_n 3, 1) := by decide +kernel
theorem d_LW_law_1335 : decode code 1335 = .ok (.iconst 0, 1) := by decide +kernel
theorem d_LW_law_1336 : decode code 1336 = .ok (.laload, 1) := by decide +kernel
theorem d_LW_law_1337 : decode code 1337 = .ok (.iload 6, 2) := by decide +kernel
theorem d_LW_law_1339 : decode code 1339 = .ok (.ifCond .eq 7, 3) := by decide +kernel
theorem d_LW_law_1342 : decode code 1342 = .ok (.lconst 1, 1) := by decide +kernel
theorem d_LW_law_1343 : decode code 1343 = .ok (.goto 4, 3) := by decide +kernel
theorem d_LW_law_1346 : decode code 1346 = .ok (.lconst 0, 1) := by decide +kernel
theorem d_LW_law_1347 : decode code 1347 = .ok (.lcmp, 1) := by decide +kernel
theorem d_LW_law_1348 : decode code 1348 = .ok (.ifCond .eq 5, 3) := by decide +kernel
theorem d_LW_law_1351 : decode code 1351 = .ok (.iconst 0, 1) := by decide +kernel
theorem d_LW_law_1353 : decode code 1353 = .ok (.goto 170, 3) := by decide +kernel
theorem d_LW_law_1356 : decode code 1356 = .ok (.aload_n 1, 1) := by decide +kernel
theorem d_LW_law_1357 : decode code 1357 = .ok (.aload_n 0, 1) := by decide +kernel
theorem d_LW_law_1358 : decode code 1358 = .ok (.iload 4, 2) := by decide +kernel
theorem d_LW_law_1360 : decode code 1360 = .ok (.iconst 1, 1) := by decide +kernel
theorem d_LW_law_1361 : decode code 1361 = .ok (.iadd, 1) := by decide +kernel
theorem d_LW_law_1362 : decode code 1362 = .ok (.iaload, 1) := by decide +kernel
theorem d_LW_law_1363 : decode code 1363 = .ok (.aload_n 3, 1) := by decide +kernel
theorem d_LW_law_1364 : decode code 1364 = .ok (.invokestatic 166, 3) := by decide +kernel
theorem d_LW_law_1367 : decode code 1367 = .ok (.istore 5, 2) := by decide +kernel
theorem d_LW_law_1369 : decode code 1369 = .ok (.aload_n 2, 1) := by decide +kernel
theorem d_LW_law_1370 : decode code 1370 = .ok (.aload_n 0, 1) := by decide +kernel
theorem d_LW_law_1371 : decode code 1371 = .ok (.iload 4, 2) := by decide +kernel
theorem d_LW_law_1373 : decode code 1373 = .ok (.iconst 1, 1) := by decide +kernel
theorem d_LW_law_1374 : decode code 1374 = .ok (.iadd, 1) := by decide +kernel
theorem d_LW_law_1375 : decode code 1375 = .ok (.iaload, 1) := by decide +kernel
theorem d_LW_law_1376 : decode code 1376 = .ok (.invokevirtual 168, 3) := by decide +kernel
theorem d_LW_law_1379 : decode code 1379 = .ok (.istore 6, 2) := by decide +kernel
theorem d_LW_law_1381 : decode code 1381 = .ok (.aload_n 2, 1) := by decide +kernel
theorem d_LW_law_1382 : decode code 1382 = .ok (.invokevirtual 104, 3) := by decide +kernel
theorem d_LW_law_1385 : decode code 1385 = .ok (.iload 5, 2) := by decide +kernel
theorem d_LW_law_1387 : decode code 1387 = .ok (.if_icmp .eq 5, 3) := by decide +kernel
theorem d_LW_law_1390 : decode code 1390 = .ok (.iconst 0, 1) := by decide +kernel
theorem d_LW_law_1392 : decode code 1392 = .ok (.iload 5, 2) := by decide +kernel
theorem d_LW_law_1394 : decode code 1394 = .ok (.ifCond .ne 15, 3) := by decide +kernel
theorem d_LW_law_1397 : decode code 1397 = .ok (.aload_n 3, 1) := by decide +kernel
theorem d_LW_law_1398 : decode code 1398 = .ok (.iconst 0, 1) := by decide +kernel
theorem d_LW_law_1399 : decode code 1399 = .ok (.laload, 1) := by decide +kernel
theorem d_LW_law_1400 : decode code 1400 = .ok (.iload 6, 2) := by decide +kernel
theorem d_LW_law_1402 : decode code 1402 = .ok (.i2l, 1) := by decide +kernel
theorem d_LW_law_1403 : decode code 1403 = .ok (.lcmp, 1) := by decide +kernel
theorem d_LW_law_1404 : decode code 1404 = .ok (.ifCond .eq 5, 3) := by decide +kernel
theorem d_LW_law_1407 : decode code 1407 = .ok (.iconst 0, 1) := by decide +kernel
theorem d_LW_law_1409 : decode code 1409 = .ok (.goto 114, 3) := by decide +kernel
theorem d_LW_law_1412 : decode code 1412 = .ok (.aload_n 1, 1) := by decide +kernel
theorem d_LW_law_1413 : decode code 1413 = .ok (.aload_n 0, 1) := by decide +kernel
theorem d_LW_law_1414 : decode code 1414 = .ok (.iload 4, 2) := by decide +kernel
theorem d_LW_law_1416 : decode code 1416 = .ok (.iconst 1, 1) := by decide +kernel
theorem d_LW_law_1417 : decode code 1417 = .ok (.iadd, 1) := by decide +kernel
theorem d_LW_law_1418 : decode code 1418 = .ok (.iaload, 1) := by decide +kernel
theorem d_LW_law_1419 : decode code 1419 = .ok (.aload_n 3, 1) := by decide +kernel
theorem d_LW_law_1420 : decode code 1420 = .ok (.invokestatic 169, 3) := by decide +kernel
theorem d_LW_law_1423 : decode code 1423 = .ok (.istore 5, 2) := by decide +kernel
theorem d_LW_law_1425 : decode code 1425 = .ok (.aload_n 2, 1) := by decide +kernel
theorem d_LW_law_1426 : decode code 1426 = .ok (.aload_n 0, 1) := by decide +kernel
theorem d_LW_law_1427 : decode code 1427 = .ok (.iload 4, 2) := by decide +kernel
theorem d_LW_law_1429 : decode code 1429 = .ok (.iconst 1, 1) := by decide +kernel
theorem d_LW_law_1430 : decode code 1430 = .ok (.iadd, 1) := by decide +kernel
theorem d_LW_law_1431 : decode code 1431 = .ok (.iaload, 1) := by decide +kernel
theorem d_LW_law_1432 : decode code 1432 = .ok (.invokevirtual 171, 3) := by decide +kernel
theorem d_LW_law_1435 : decode code 1435 = .ok (.lstore 6, 2) := by decide +kernel
theorem d_LW_law_1437 : decode code 1437 = .ok (.aload_n 2, 1) := by decide +kernel
theorem d_LW_law_1438 : decode code 1438 = .ok (.invokevirtual 104, 3) := by decide +kernel
theorem d_LW_law_1441 : decode code 1441 = .ok (.iload 5, 2) := by decide +kernel
theorem d_LW_law_1443 : decode code 1443 = .ok (.if_icmp .eq 5, 3) := by decide +kernel
theorem d_LW_law_1446 : decode code 1446 = .ok (.iconst 0, 1) := by decide +kernel
theorem d_LW_law_1448 : decode code 1448 = .ok (.iload 5, 2) := by decide +kernel
theorem d_LW_law_1450 : decode code 1450 = .ok (.ifCond .ne 14, 3) := by decide +kernel
theorem d_LW_law_1453 : decode code 1453 = .ok (.aload_n 3, 1) := by decide +kernel
theorem d_LW_law_1454 : decode code 1454 = .ok (.iconst 0, 1) := by decide +kernel
theorem d_LW_law_1455 : decode code 1455 = .ok (.laload, 1) := by decide +kernel
theorem d_LW_law_1456 : decode code 1456 = .ok (.lload 6, 2) := by decide +kernel
theorem d_LW_law_1458 : decode code 1458 = .ok (.lcmp, 1) := by decide +kernel
theorem d_LW_law_1459 : decode code 1459 = .ok (.ifCond .eq 5, 3) := by decide +kernel
theorem d_LW_law_1462 : decode code 1462 = .ok (.iconst 0, 1) := by decide +kernel
theorem d_LW_law_1464 : decode code 1464 = .ok (.goto 59, 3) := by decide +kernel
theorem d_LW_law_1467 : decode code 1467 = .ok (.aload_n 1, 1) := by decide +kernel
theorem d_LW_law_1468 : decode code 1468 = .ok (.aload_n 0, 1) := by decide +kernel
theorem d_LW_law_1469 : decode code 1469 = .ok (.iload 4, 2) := by decide +kernel
theorem d_LW_law_1471 : decode code 1471 = .ok (.iconst 1, 1) := by decide +kernel
theorem d_LW_law_1472 : decode code 1472 = .ok (.iadd, 1) := by decide +kernel
theorem d_LW_law_1473 : decode code 1473 = .ok (.iaload, 1) := by decide +kernel
theorem d_LW_law_1474 : decode code 1474 = .ok (.aload_n 3, 1) := by decide +kernel
theorem d_LW_law_1475 : decode code 1475 = .ok (.invokestatic 172, 3) := by decide +kernel
theorem d_LW_law_1478 : decode code 1478 = .ok (.istore 5, 2) := by decide +kernel
theorem d_LW_law_1480 : decode code 1480 = .ok (.aload_n 2, 1) := by decide +kernel
theorem d_LW_law_1481 : decode code 1481 = .ok (.aload_n 0, 1) := by decide +kernel
theorem d_LW_law_1482 : decode code 1482 = .ok (.iload 4, 2) := by decide +kernel
theorem d_LW_law_1484 : decode code 1484 = .ok (.iconst 1, 1) := by decide +kernel
theorem d_LW_law_1485 : decode code 1485 = .ok (.iadd, 1) := by decide +kernel
theorem d_LW_law_1486 : decode code 1486 = .ok (.iaload, 1) := by decide +kernel
theorem d_LW_law_1487 : decode code 1487 = .ok (.invokevirtual 174, 3) := by decide +kernel
theorem d_LW_law_1490 : decode code 1490 = .ok (.istore 6, 2) := by decide +kernel
theorem d_LW_law_1492 : decode code 1492 = .ok (.aload_n 2, 1) := by decide +kernel
theorem d_LW_law_1493 : decode code 1493 = .ok (.invokevirtual 104, 3) := by decide +kernel
theorem d_LW_law_1496 : decode code 1496 = .ok (.iload 5, 2) := by decide +kernel
theorem d_LW_law_1498 : decode code 1498 = .ok (.if_icmp .eq 5, 3) := by decide +kernel
theorem d_LW_law_1501 : decode code 1501 = .ok (.iconst 0, 1) := by decide +kernel
theorem d_LW_law_1503 : decode code 1503 = .ok (.iload 5, 2) := by decide +kernel
theorem d_LW_law_1505 : decode code 1505 = .ok (.ifCond .ne 15, 3) := by decide +kernel
theorem d_LW_law_1508 : decode code 1508 = .ok (.aload_n 3, 1) := by decide +kernel
theorem d_LW_law_1509 : decode code 1509 = .ok (.iconst 0, 1) := by decide +kernel
theorem d_LW_law_1510 : decode code 1510 = .ok (.laload, 1) := by decide +kernel
theorem d_LW_law_1511 : decode code 1511 = .ok (.iload 6, 2) := by decide +kernel
theorem d_LW_law_1513 : decode code 1513 = .ok (.i2l, 1) := by decide +kernel
theorem d_LW_law_1514 : decode code 1514 = .ok (.lcmp, 1) := by decide +kernel
theorem d_LW_law_1515 : decode code 1515 = .ok (.ifCond .eq 5, 3) := by decide +kernel
theorem d_LW_law_1518 : decode code 1518 = .ok (.iconst 0, 1) := by decide +kernel
theorem d_LW_law_1520 : decode code 1520 = .ok (.goto 3, 3) := by decide +kernel
theorem d_LW_law_1523 : decode code 1523 = .ok (.iinc 4 5, 3) := by decide +kernel
theorem d_LW_law_1526 : decode code 1526 = .ok (.goto (-1503), 3) := by decide +kernel
theorem d_LW_law_1529 : decode code 1529 = .ok (.iconst 1, 1) := by decide +kernel
theorem d_LW_law_1530 : decode code 1530 = .ok (.ireturn, 1) := by decide +kernel
