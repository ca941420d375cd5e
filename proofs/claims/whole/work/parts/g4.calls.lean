/-! ===== the law, calls 24 to 33 ===== -/
theorem d_law_1085 : decode code 1085 = .ok (.aload_n 1, 1) := by decide +kernel
theorem d_law_1086 : decode code 1086 = .ok (.aload_n 0, 1) := by decide +kernel
theorem d_law_1087 : decode code 1087 = .ok (.iload_n 3, 1) := by decide +kernel
theorem d_law_1088 : decode code 1088 = .ok (.iconst 1, 1) := by decide +kernel
theorem d_law_1089 : decode code 1089 = .ok (.iadd, 1) := by decide +kernel
theorem d_law_1090 : decode code 1090 = .ok (.iaload, 1) := by decide +kernel
theorem d_law_1091 : decode code 1091 = .ok (.aload_n 0, 1) := by decide +kernel
theorem d_law_1092 : decode code 1092 = .ok (.iload_n 3, 1) := by decide +kernel
theorem d_law_1093 : decode code 1093 = .ok (.iconst 2, 1) := by decide +kernel
theorem d_law_1094 : decode code 1094 = .ok (.iadd, 1) := by decide +kernel
theorem d_law_1095 : decode code 1095 = .ok (.iaload, 1) := by decide +kernel
theorem d_law_1096 : decode code 1096 = .ok (.invokevirtual 122, 3) := by decide +kernel
theorem d_law_1099 : decode code 1099 = .ok (.aload_n 2, 1) := by decide +kernel
theorem d_law_1100 : decode code 1100 = .ok (.aload_n 0, 1) := by decide +kernel
theorem d_law_1101 : decode code 1101 = .ok (.iload_n 3, 1) := by decide +kernel
theorem d_law_1102 : decode code 1102 = .ok (.iconst 1, 1) := by decide +kernel
theorem d_law_1103 : decode code 1103 = .ok (.iadd, 1) := by decide +kernel
theorem d_law_1104 : decode code 1104 = .ok (.iaload, 1) := by decide +kernel
theorem d_law_1105 : decode code 1105 = .ok (.aload_n 0, 1) := by decide +kernel
theorem d_law_1106 : decode code 1106 = .ok (.iload_n 3, 1) := by decide +kernel
theorem d_law_1107 : decode code 1107 = .ok (.iconst 2, 1) := by decide +kernel
theorem d_law_1108 : decode code 1108 = .ok (.iadd, 1) := by decide +kernel
theorem d_law_1109 : decode code 1109 = .ok (.iaload, 1) := by decide +kernel
theorem d_law_1110 : decode code 1110 = .ok (.invokevirtual 125, 3) := by decide +kernel
theorem d_law_1113 : decode code 1113 = .ok (.if_icmp .eq 805, 3) := by decide +kernel
theorem d_law_1116 : decode code 1116 = .ok (.iconst 0, 1) := by decide +kernel
theorem d_law_1117 : decode code 1117 = .ok (.ireturn, 1) := by decide +kernel
theorem d_law_1118 : decode code 1118 = .ok (.aload_n 1, 1) := by decide +kernel
theorem d_law_1119 : decode code 1119 = .ok (.aload_n 0, 1) := by decide +kernel
theorem d_law_1120 : decode code 1120 = .ok (.iload_n 3, 1) := by decide +kernel
theorem d_law_1121 : decode code 1121 = .ok (.iconst 1, 1) := by decide +kernel
theorem d_law_1122 : decode code 1122 = .ok (.iadd, 1) := by decide +kernel
theorem d_law_1123 : decode code 1123 = .ok (.iaload, 1) := by decide +kernel
theorem d_law_1124 : decode code 1124 = .ok (.aload_n 0, 1) := by decide +kernel
theorem d_law_1125 : decode code 1125 = .ok (.iload_n 3, 1) := by decide +kernel
theorem d_law_1126 : decode code 1126 = .ok (.iconst 2, 1) := by decide +kernel
theorem d_law_1127 : decode code 1127 = .ok (.iadd, 1) := by decide +kernel
theorem d_law_1128 : decode code 1128 = .ok (.iaload, 1) := by decide +kernel
theorem d_law_1129 : decode code 1129 = .ok (.ifCond .eq 7, 3) := by decide +kernel
theorem d_law_1132 : decode code 1132 = .ok (.iconst 1, 1) := by decide +kernel
theorem d_law_1133 : decode code 1133 = .ok (.goto 4, 3) := by decide +kernel
theorem d_law_1136 : decode code 1136 = .ok (.iconst 0, 1) := by decide +kernel
theorem d_law_1137 : decode code 1137 = .ok (.invokevirtual 126, 3) := by decide +kernel
theorem d_law_1140 : decode code 1140 = .ok (.aload_n 2, 1) := by decide +kernel
theorem d_law_1141 : decode code 1141 = .ok (.aload_n 0, 1) := by decide +kernel
theorem d_law_1142 : decode code 1142 = .ok (.iload_n 3, 1) := by decide +kernel
theorem d_law_1143 : decode code 1143 = .ok (.iconst 1, 1) := by decide +kernel
theorem d_law_1144 : decode code 1144 = .ok (.iadd, 1) := by decide +kernel
theorem d_law_1145 : decode code 1145 = .ok (.iaload, 1) := by decide +kernel
theorem d_law_1146 : decode code 1146 = .ok (.aload_n 0, 1) := by decide +kernel
theorem d_law_1147 : decode code 1147 = .ok (.iload_n 3, 1) := by decide +kernel
theorem d_law_1148 : decode code 1148 = .ok (.iconst 2, 1) := by decide +kernel
theorem d_law_1149 : decode code 1149 = .ok (.iadd, 1) := by decide +kernel
theorem d_law_1150 : decode code 1150 = .ok (.iaload, 1) := by decide +kernel
theorem d_law_1151 : decode code 1151 = .ok (.ifCond .eq 7, 3) := by decide +kernel
theorem d_law_1154 : decode code 1154 = .ok (.iconst 1, 1) := by decide +kernel
theorem d_law_1155 : decode code 1155 = .ok (.goto 4, 3) := by decide +kernel
theorem d_law_1158 : decode code 1158 = .ok (.iconst 0, 1) := by decide +kernel
theorem d_law_1159 : decode code 1159 = .ok (.invokevirtual 129, 3) := by decide +kernel
theorem d_law_1162 : decode code 1162 = .ok (.if_icmp .eq 756, 3) := by decide +kernel
theorem d_law_1165 : decode code 1165 = .ok (.iconst 0, 1) := by decide +kernel
theorem d_law_1166 : decode code 1166 = .ok (.ireturn, 1) := by decide +kernel
theorem d_law_1167 : decode code 1167 = .ok (.aload_n 1, 1) := by decide +kernel
theorem d_law_1168 : decode code 1168 = .ok (.aload_n 0, 1) := by decide +kernel
theorem d_law_1169 : decode code 1169 = .ok (.iload_n 3, 1) := by decide +kernel
theorem d_law_1170 : decode code 1170 = .ok (.iconst 1, 1) := by decide +kernel
theorem d_law_1171 : decode code 1171 = .ok (.iadd, 1) := by decide +kernel
theorem d_law_1172 : decode code 1172 = .ok (.iaload, 1) := by decide +kernel
theorem d_law_1173 : decode code 1173 = .ok (.aload_n 0, 1) := by decide +kernel
theorem d_law_1174 : decode code 1174 = .ok (.iload_n 3, 1) := by decide +kernel
theorem d_law_1175 : decode code 1175 = .ok (.iconst 2, 1) := by decide +kernel
theorem d_law_1176 : decode code 1176 = .ok (.iadd, 1) := by decide +kernel
theorem d_law_1177 : decode code 1177 = .ok (.iaload, 1) := by decide +kernel
theorem d_law_1178 : decode code 1178 = .ok (.aload_n 0, 1) := by decide +kernel
theorem d_law_1179 : decode code 1179 = .ok (.iload_n 3, 1) := by decide +kernel
theorem d_law_1180 : decode code 1180 = .ok (.iconst 3, 1) := by decide +kernel
theorem d_law_1181 : decode code 1181 = .ok (.iadd, 1) := by decide +kernel
theorem d_law_1182 : decode code 1182 = .ok (.iaload, 1) := by decide +kernel
theorem d_law_1183 : decode code 1183 = .ok (.invokevirtual 130, 3) := by decide +kernel
theorem d_law_1186 : decode code 1186 = .ok (.aload_n 2, 1) := by decide +kernel
theorem d_law_1187 : decode code 1187 = .ok (.aload_n 0, 1) := by decide +kernel
theorem d_law_1188 : decode code 1188 = .ok (.iload_n 3, 1) := by decide +kernel
theorem d_law_1189 : decode code 1189 = .ok (.iconst 1, 1) := by decide +kernel
theorem d_law_1190 : decode code 1190 = .ok (.iadd, 1) := by decide +kernel
theorem d_law_1191 : decode code 1191 = .ok (.iaload, 1) := by decide +kernel
theorem d_law_1192 : decode code 1192 = .ok (.aload_n 0, 1) := by decide +kernel
theorem d_law_1193 : decode code 1193 = .ok (.iload_n 3, 1) := by decide +kernel
theorem d_law_1194 : decode code 1194 = .ok (.iconst 2, 1) := by decide +kernel
theorem d_law_1195 : decode code 1195 = .ok (.iadd, 1) := by decide +kernel
theorem d_law_1196 : decode code 1196 = .ok (.iaload, 1) := by decide +kernel
theorem d_law_1197 : decode code 1197 = .ok (.aload_n 0, 1) := by decide +kernel
theorem d_law_1198 : decode code 1198 = .ok (.iload_n 3, 1) := by decide +kernel
theorem d_law_1199 : decode code 1199 = .ok (.iconst 3, 1) := by decide +kernel
theorem d_law_1200 : decode code 1200 = .ok (.iadd, 1) := by decide +kernel
theorem d_law_1201 : decode code 1201 = .ok (.iaload, 1) := by decide +kernel
theorem d_law_1202 : decode code 1202 = .ok (.invokevirtual 133, 3) := by decide +kernel
theorem d_law_1205 : decode code 1205 = .ok (.if_icmp .eq 713, 3) := by decide +kernel
theorem d_law_1208 : decode code 1208 = .ok (.iconst 0, 1) := by decide +kernel
theorem d_law_1209 : decode code 1209 = .ok (.ireturn, 1) := by decide +kernel
theorem d_law_1210 : decode code 1210 = .ok (.aload_n 1, 1) := by decide +kernel
theorem d_law_1211 : decode code 1211 = .ok (.aload_n 0, 1) := by decide +kernel
theorem d_law_1212 : decode code 1212 = .ok (.iload_n 3, 1) := by decide +kernel
theorem d_law_1213 : decode code 1213 = .ok (.iconst 1, 1) := by decide +kernel
theorem d_law_1214 : decode code 1214 = .ok (.iadd, 1) := by decide +kernel
theorem d_law_1215 : decode code 1215 = .ok (.iaload, 1) := by decide +kernel
theorem d_law_1216 : decode code 1216 = .ok (.invokevirtual 134, 3) := by decide +kernel
theorem d_law_1219 : decode code 1219 = .ok (.aload_n 2, 1) := by decide +kernel
theorem d_law_1220 : decode code 1220 = .ok (.aload_n 0, 1) := by decide +kernel
theorem d_law_1221 : decode code 1221 = .ok (.iload_n 3, 1) := by decide +kernel
theorem d_law_1222 : decode code 1222 = .ok (.iconst 1, 1) := by decide +kernel
theorem d_law_1223 : decode code 1223 = .ok (.iadd, 1) := by decide +kernel
theorem d_law_1224 : decode code 1224 = .ok (.iaload, 1) := by decide +kernel
theorem d_law_1225 : decode code 1225 = .ok (.invokevirtual 138, 3) := by decide +kernel
theorem d_law_1228 : decode code 1228 = .ok (.lcmp, 1) := by decide +kernel
theorem d_law_1229 : decode code 1229 = .ok (.ifCond .eq 689, 3) := by decide +kernel
theorem d_law_1232 : decode code 1232 = .ok (.iconst 0, 1) := by decide +kernel
theorem d_law_1233 : decode code 1233 = .ok (.ireturn, 1) := by decide +kernel
theorem d_law_1234 : decode code 1234 = .ok (.aload_n 1, 1) := by decide +kernel
theorem d_law_1235 : decode code 1235 = .ok (.invokevirtual 139, 3) := by decide +kernel
theorem d_law_1238 : decode code 1238 = .ok (.aload_n 2, 1) := by decide +kernel
theorem d_law_1239 : decode code 1239 = .ok (.invokevirtual 142, 3) := by decide +kernel
theorem d_law_1242 : decode code 1242 = .ok (.if_icmp .eq 676, 3) := by decide +kernel
theorem d_law_1245 : decode code 1245 = .ok (.iconst 0, 1) := by decide +kernel
theorem d_law_1246 : decode code 1246 = .ok (.ireturn, 1) := by decide +kernel
theorem d_law_1247 : decode code 1247 = .ok (.aload_n 1, 1) := by decide +kernel
theorem d_law_1248 : decode code 1248 = .ok (.aload_n 0, 1) := by decide +kernel
theorem d_law_1249 : decode code 1249 = .ok (.iload_n 3, 1) := by decide +kernel
theorem d_law_1250 : decode code 1250 = .ok (.iconst 1, 1) := by decide +kernel
theorem d_law_1251 : decode code 1251 = .ok (.iadd, 1) := by decide +kernel
theorem d_law_1252 : decode code 1252 = .ok (.iaload, 1) := by decide +kernel
theorem d_law_1253 : decode code 1253 = .ok (.invokevirtual 143, 3) := by decide +kernel
theorem d_law_1256 : decode code 1256 = .ok (.aload_n 2, 1) := by decide +kernel
theorem d_law_1257 : decode code 1257 = .ok (.aload_n 0, 1) := by decide +kernel
theorem d_law_1258 : decode code 1258 = .ok (.iload_n 3, 1) := by decide +kernel
theorem d_law_1259 : decode code 1259 = .ok (.iconst 1, 1) := by decide +kernel
theorem d_law_1260 : decode code 1260 = .ok (.iadd, 1) := by decide +kernel
theorem d_law_1261 : decode code 1261 = .ok (.iaload, 1) := by decide +kernel
theorem d_law_1262 : decode code 1262 = .ok (.invokevirtual 146, 3) := by decide +kernel
theorem d_law_1265 : decode code 1265 = .ok (.if_icmp .eq 653, 3) := by decide +kernel
theorem d_law_1268 : decode code 1268 = .ok (.iconst 0, 1) := by decide +kernel
theorem d_law_1269 : decode code 1269 = .ok (.ireturn, 1) := by decide +kernel
theorem d_law_1270 : decode code 1270 = .ok (.aload_n 1, 1) := by decide +kernel
theorem d_law_1271 : decode code 1271 = .ok (.aload_n 0, 1) := by decide +kernel
theorem d_law_1272 : decode code 1272 = .ok (.iload_n 3, 1) := by decide +kernel
theorem d_law_1273 : decode code 1273 = .ok (.iconst 1, 1) := by decide +kernel
theorem d_law_1274 : decode code 1274 = .ok (.iadd, 1) := by decide +kernel
theorem d_law_1275 : decode code 1275 = .ok (.iaload, 1) := by decide +kernel
theorem d_law_1276 : decode code 1276 = .ok (.aload_n 0, 1) := by decide +kernel
theorem d_law_1277 : decode code 1277 = .ok (.iload_n 3, 1) := by decide +kernel
theorem d_law_1278 : decode code 1278 = .ok (.iconst 2, 1) := by decide +kernel
theorem d_law_1279 : decode code 1279 = .ok (.iadd, 1) := by decide +kernel
theorem d_law_1280 : decode code 1280 = .ok (.iaload, 1) := by decide +kernel
theorem d_law_1281 : decode code 1281 = .ok (.invokevirtual 147, 3) := by decide +kernel
theorem d_law_1284 : decode code 1284 = .ok (.aload_n 2, 1) := by decide +kernel
theorem d_law_1285 : decode code 1285 = .ok (.aload_n 0, 1) := by decide +kernel
theorem d_law_1286 : decode code 1286 = .ok (.iload_n 3, 1) := by decide +kernel
theorem d_law_1287 : decode code 1287 = .ok (.iconst 1, 1) := by decide +kernel
theorem d_law_1288 : decode code 1288 = .ok (.iadd, 1) := by decide +kernel
theorem d_law_1289 : decode code 1289 = .ok (.iaload, 1) := by decide +kernel
theorem d_law_1290 : decode code 1290 = .ok (.aload_n 0, 1) := by decide +kernel
theorem d_law_1291 : decode code 1291 = .ok (.iload_n 3, 1) := by decide +kernel
theorem d_law_1292 : decode code 1292 = .ok (.iconst 2, 1) := by decide +kernel
theorem d_law_1293 : decode code 1293 = .ok (.iadd, 1) := by decide +kernel
theorem d_law_1294 : decode code 1294 = .ok (.iaload, 1) := by decide +kernel
theorem d_law_1295 : decode code 1295 = .ok (.invokevirtual 150, 3) := by decide +kernel
theorem d_law_1298 : decode code 1298 = .ok (.if_icmp .eq 620, 3) := by decide +kernel
theorem d_law_1301 : decode code 1301 = .ok (.iconst 0, 1) := by decide +kernel
theorem d_law_1302 : decode code 1302 = .ok (.ireturn, 1) := by decide +kernel
theorem d_law_1303 : decode code 1303 = .ok (.aload_n 1, 1) := by decide +kernel
theorem d_law_1304 : decode code 1304 = .ok (.aload_n 0, 1) := by decide +kernel
theorem d_law_1305 : decode code 1305 = .ok (.iload_n 3, 1) := by decide +kernel
theorem d_law_1306 : decode code 1306 = .ok (.iconst 1, 1) := by decide +kernel
theorem d_law_1307 : decode code 1307 = .ok (.iadd, 1) := by decide +kernel
theorem d_law_1308 : decode code 1308 = .ok (.iaload, 1) := by decide +kernel
theorem d_law_1309 : decode code 1309 = .ok (.invokevirtual 151, 3) := by decide +kernel
theorem d_law_1312 : decode code 1312 = .ok (.aload_n 2, 1) := by decide +kernel
theorem d_law_1313 : decode code 1313 = .ok (.aload_n 0, 1) := by decide +kernel
theorem d_law_1314 : decode code 1314 = .ok (.iload_n 3, 1) := by decide +kernel
theorem d_law_1315 : decode code 1315 = .ok (.iconst 1, 1) := by decide +kernel
theorem d_law_1316 : decode code 1316 = .ok (.iadd, 1) := by decide +kernel
theorem d_law_1317 : decode code 1317 = .ok (.iaload, 1) := by decide +kernel
theorem d_law_1318 : decode code 1318 = .ok (.invokevirtual 154, 3) := by decide +kernel
theorem d_law_1321 : decode code 1321 = .ok (.if_icmp .eq 597, 3) := by decide +kernel
theorem d_law_1324 : decode code 1324 = .ok (.iconst 0, 1) := by decide +kernel
theorem d_law_1325 : decode code 1325 = .ok (.ireturn, 1) := by decide +kernel
theorem d_law_1326 : decode code 1326 = .ok (.aload_n 1, 1) := by decide +kernel
theorem d_law_1327 : decode code 1327 = .ok (.aload_n 0, 1) := by decide +kernel
theorem d_law_1328 : decode code 1328 = .ok (.iload_n 3, 1) := by decide +kernel
theorem d_law_1329 : decode code 1329 = .ok (.iconst 1, 1) := by decide +kernel
theorem d_law_1330 : decode code 1330 = .ok (.iadd, 1) := by decide +kernel
theorem d_law_1331 : decode code 1331 = .ok (.iaload, 1) := by decide +kernel
theorem d_law_1332 : decode code 1332 = .ok (.aload_n 0, 1) := by decide +kernel
theorem d_law_1333 : decode code 1333 = .ok (.iload_n 3, 1) := by decide +kernel
theorem d_law_1334 : decode code 1334 = .ok (.iconst 2, 1) := by decide +kernel
theorem d_law_1335 : decode code 1335 = .ok (.iadd, 1) := by decide +kernel
theorem d_law_1336 : decode code 1336 = .ok (.iaload, 1) := by decide +kernel
theorem d_law_1337 : decode code 1337 = .ok (.aload_n 0, 1) := by decide +kernel
theorem d_law_1338 : decode code 1338 = .ok (.iload_n 3, 1) := by decide +kernel
theorem d_law_1339 : decode code 1339 = .ok (.iconst 3, 1) := by decide +kernel
theorem d_law_1340 : decode code 1340 = .ok (.iadd, 1) := by decide +kernel
theorem d_law_1341 : decode code 1341 = .ok (.iaload, 1) := by decide +kernel
theorem d_law_1342 : decode code 1342 = .ok (.invokevirtual 155, 3) := by decide +kernel
theorem d_law_1345 : decode code 1345 = .ok (.aload_n 2, 1) := by decide +kernel
theorem d_law_1346 : decode code 1346 = .ok (.aload_n 0, 1) := by decide +kernel
theorem d_law_1347 : decode code 1347 = .ok (.iload_n 3, 1) := by decide +kernel
theorem d_law_1348 : decode code 1348 = .ok (.iconst 1, 1) := by decide +kernel
theorem d_law_1349 : decode code 1349 = .ok (.iadd, 1) := by decide +kernel
theorem d_law_1350 : decode code 1350 = .ok (.iaload, 1) := by decide +kernel
theorem d_law_1351 : decode code 1351 = .ok (.aload_n 0, 1) := by decide +kernel
theorem d_law_1352 : decode code 1352 = .ok (.iload_n 3, 1) := by decide +kernel
theorem d_law_1353 : decode code 1353 = .ok (.iconst 2, 1) := by decide +kernel
theorem d_law_1354 : decode code 1354 = .ok (.iadd, 1) := by decide +kernel
theorem d_law_1355 : decode code 1355 = .ok (.iaload, 1) := by decide +kernel
theorem d_law_1356 : decode code 1356 = .ok (.aload_n 0, 1) := by decide +kernel
theorem d_law_1357 : decode code 1357 = .ok (.iload_n 3, 1) := by decide +kernel
theorem d_law_1358 : decode code 1358 = .ok (.iconst 3, 1) := by decide +kernel
theorem d_law_1359 : decode code 1359 = .ok (.iadd, 1) := by decide +kernel
theorem d_law_1360 : decode code 1360 = .ok (.iaload, 1) := by decide +kernel
theorem d_law_1361 : decode code 1361 = .ok (.invokevirtual 158, 3) := by decide +kernel
theorem d_law_1364 : decode code 1364 = .ok (.if_icmp .eq 554, 3) := by decide +kernel
theorem d_law_1367 : decode code 1367 = .ok (.iconst 0, 1) := by decide +kernel
theorem d_law_1368 : decode code 1368 = .ok (.ireturn, 1) := by decide +kernel
theorem d_law_1369 : decode code 1369 = .ok (.aload_n 1, 1) := by decide +kernel
theorem d_law_1370 : decode code 1370 = .ok (.aload_n 0, 1) := by decide +kernel
theorem d_law_1371 : decode code 1371 = .ok (.iload_n 3, 1) := by decide +kernel
theorem d_law_1372 : decode code 1372 = .ok (.iconst 1, 1) := by decide +kernel
theorem d_law_1373 : decode code 1373 = .ok (.iadd, 1) := by decide +kernel
theorem d_law_1374 : decode code 1374 = .ok (.iaload, 1) := by decide +kernel
theorem d_law_1375 : decode code 1375 = .ok (.aload_n 0, 1) := by decide +kernel
theorem d_law_1376 : decode code 1376 = .ok (.iload_n 3, 1) := by decide +kernel
theorem d_law_1377 : decode code 1377 = .ok (.iconst 2, 1) := by decide +kernel
theorem d_law_1378 : decode code 1378 = .ok (.iadd, 1) := by decide +kernel
theorem d_law_1379 : decode code 1379 = .ok (.iaload, 1) := by decide +kernel
theorem d_law_1380 : decode code 1380 = .ok (.invokevirtual 159, 3) := by decide +kernel
theorem d_law_1383 : decode code 1383 = .ok (.aload_n 2, 1) := by decide +kernel
theorem d_law_1384 : decode code 1384 = .ok (.aload_n 0, 1) := by decide +kernel
theorem d_law_1385 : decode code 1385 = .ok (.iload_n 3, 1) := by decide +kernel
theorem d_law_1386 : decode code 1386 = .ok (.iconst 1, 1) := by decide +kernel
theorem d_law_1387 : decode code 1387 = .ok (.iadd, 1) := by decide +kernel
theorem d_law_1388 : decode code 1388 = .ok (.iaload, 1) := by decide +kernel
theorem d_law_1389 : decode code 1389 = .ok (.aload_n 0, 1) := by decide +kernel
theorem d_law_1390 : decode code 1390 = .ok (.iload_n 3, 1) := by decide +kernel
theorem d_law_1391 : decode code 1391 = .ok (.iconst 2, 1) := by decide +kernel
theorem d_law_1392 : decode code 1392 = .ok (.iadd, 1) := by decide +kernel
theorem d_law_1393 : decode code 1393 = .ok (.iaload, 1) := by decide +kernel
theorem d_law_1394 : decode code 1394 = .ok (.invokevirtual 162, 3) := by decide +kernel
theorem d_law_1397 : decode code 1397 = .ok (.if_icmp .eq 521, 3) := by decide +kernel
theorem d_law_1400 : decode code 1400 = .ok (.iconst 0, 1) := by decide +kernel
theorem d_law_1401 : decode code 1401 = .ok (.ireturn, 1) := by decide +kernel
section LAWC
variable {p : Program} {l : Launch} {e : Env} {s : State} {m : MethodId} {below : List Frame} {meth : Method} {c : Code} {b L : Nat} {xs : Nat → Int32} {G : Gm} {aP : Nat}
theorem law_24 (C : LCx p s m meth c b L xs G aP) (hL : L ≤ 3072) {i : Nat} (hi : i + 6 ≤ L) {hc hm : Hp} (J : JJ (pY G aP) (mY G (aP + 184)) hc aP hm (aP + 184) kw0) (nx : ∀ hc hm, JJ (pY G aP) (mY G (aP + 184)) hc aP hm (aP + 184) kw0 → LW p l e s m below meth c b G aP 1918 (lvL b aP i) [] hc hm) : LW p l e s m below meth c b G aP 1085 (lvL b aP i) [] hc hm := by
  obtain ⟨v, hc1, hm1, e1, e2, J1⟩ := so_strange J (xs (i + 1)) (xs (i + 2))
  refine lw_aload C (pc := 1085) (q := 2) d_law_1085 rfl rfl ?_
  refine lw_cell C (i := i) (k := 1) (pc := 1086) hL hi (by decide) d_law_1086 d_law_1087 d_law_1088 (by decide) d_law_1089 d_law_1090 ?_
  refine lw_cell C (i := i) (k := 2) (pc := 1091) hL hi (by decide) d_law_1091 d_law_1092 d_law_1093 (by decide) d_law_1094 d_law_1095 ?_
  refine lw_callC C (pc := 1096) (K' := K_LP_strange) (n' := 1) (As := [.int (xs (i + 1)), .int (xs (i + 2))]) (st := []) okV_LP_strange rfl (ok_LP_strange (pY G aP) aP (xs (i + 1)) (xs (i + 2)) hc (oP G aP)) e1 w5_80 d_law_1096 rfl (by decide) rfl (Nat.le_of_ble_eq_true rfl) ?_
  show LW p l e s m below meth c b G aP 1099 (lvL b aP i) [.int (b2i v)] hc1 hm
  refine lw_aload C (pc := 1099) (q := 3) d_law_1099 rfl rfl ?_
  refine lw_cell C (i := i) (k := 1) (pc := 1100) hL hi (by decide) d_law_1100 d_law_1101 d_law_1102 (by decide) d_law_1103 d_law_1104 ?_
  refine lw_cell C (i := i) (k := 2) (pc := 1105) hL hi (by decide) d_law_1105 d_law_1106 d_law_1107 (by decide) d_law_1108 d_law_1109 ?_
  refine lw_callM C (pc := 1110) (K' := K_M_strange) (n' := 2) (As := [.int (xs (i + 1)), .int (xs (i + 2))]) (st := [.int (b2i v)]) okV_M_strange rfl (ok_M_strange (mY G (aP + 184)) (aP + 184) (xs (i + 1)) (xs (i + 2)) hm (M_isO G (aP + 184))) e2 w9_121 d_law_1110 rfl (by decide) rfl (Nat.le_of_ble_eq_true rfl) ?_
  show LW p l e s m below meth c b G aP 1113 (lvL b aP i) [.int (b2i v), .int (b2i v)] hc1 hm1
  exact lw_icmp_eq C (pc := 1113) (tgt := 1918) d_law_1113 (by decide) (nx _ _ J1)
theorem law_25 (C : LCx p s m meth c b L xs G aP) (hL : L ≤ 3072) {i : Nat} (hi : i + 6 ≤ L) {hc hm : Hp} (J : JJ (pY G aP) (mY G (aP + 184)) hc aP hm (aP + 184) kw0) (nx : ∀ hc hm, JJ (pY G aP) (mY G (aP + 184)) hc aP hm (aP + 184) kw0 → LW p l e s m below meth c b G aP 1918 (lvL b aP i) [] hc hm) : LW p l e s m below meth c b G aP 1118 (lvL b aP i) [] hc hm := by
  by_cases hz : (xs (i + 2)) = 0
  · obtain ⟨v, hc1, hm1, e1, e2, J1⟩ := so_close J (xs (i + 1)) false
    refine lw_aload C (pc := 1118) (q := 2) d_law_1118 rfl rfl ?_
    refine lw_cell C (i := i) (k := 1) (pc := 1119) hL hi (by decide) d_law_1119 d_law_1120 d_law_1121 (by decide) d_law_1122 d_law_1123 ?_
    refine lw_cell C (i := i) (k := 2) (pc := 1124) hL hi (by decide) d_law_1124 d_law_1125 d_law_1126 (by decide) d_law_1127 d_law_1128 ?_
    refine lw_ifeq_t C (pc := 1129) (tgt := 1136) d_law_1129 (by decide) hz ?_
    refine lw_iconst C (pc := 1136) (x := 0) d_law_1136 (by decide) ?_
    refine lw_callC C (pc := 1137) (K' := K_LP_close) (n' := 2) (As := [.int (xs (i + 1)), .int (b2i false)]) (st := []) okV_LP_close rfl (ok_LP_close (pY G aP) aP (xs (i + 1)) false hc (oP G aP)) e1 w5_84 d_law_1137 rfl (by decide) rfl (Nat.le_of_ble_eq_true rfl) ?_
    show LW p l e s m below meth c b G aP 1140 (lvL b aP i) [.int (b2i v)] hc1 hm
    refine lw_aload C (pc := 1140) (q := 3) d_law_1140 rfl rfl ?_
    refine lw_cell C (i := i) (k := 1) (pc := 1141) hL hi (by decide) d_law_1141 d_law_1142 d_law_1143 (by decide) d_law_1144 d_law_1145 ?_
    refine lw_cell C (i := i) (k := 2) (pc := 1146) hL hi (by decide) d_law_1146 d_law_1147 d_law_1148 (by decide) d_law_1149 d_law_1150 ?_
    refine lw_ifeq_t C (pc := 1151) (tgt := 1158) d_law_1151 (by decide) hz ?_
    refine lw_iconst C (pc := 1158) (x := 0) d_law_1158 (by decide) ?_
    refine lw_callM C (pc := 1159) (K' := K_M_close) (n' := 2) (As := [.int (xs (i + 1)), .int (b2i false)]) (st := [.int (b2i v)]) okV_M_close rfl (ok_M_close (mY G (aP + 184)) (aP + 184) (xs (i + 1)) false hm (M_isO G (aP + 184))) e2 w9_126 d_law_1159 rfl (by decide) rfl (Nat.le_of_ble_eq_true rfl) ?_
    show LW p l e s m below meth c b G aP 1162 (lvL b aP i) [.int (b2i v), .int (b2i v)] hc1 hm1
    exact lw_icmp_eq C (pc := 1162) (tgt := 1918) d_law_1162 (by decide) (nx _ _ J1)
  · obtain ⟨v, hc1, hm1, e1, e2, J1⟩ := so_close J (xs (i + 1)) true
    refine lw_aload C (pc := 1118) (q := 2) d_law_1118 rfl rfl ?_
    refine lw_cell C (i := i) (k := 1) (pc := 1119) hL hi (by decide) d_law_1119 d_law_1120 d_law_1121 (by decide) d_law_1122 d_law_1123 ?_
    refine lw_cell C (i := i) (k := 2) (pc := 1124) hL hi (by decide) d_law_1124 d_law_1125 d_law_1126 (by decide) d_law_1127 d_law_1128 ?_
    refine lw_ifeq_f C (pc := 1129) (tgt := 1136) d_law_1129 (by decide) hz ?_
    refine lw_iconst C (pc := 1132) (x := 1) d_law_1132 (by decide) ?_
    refine lw_goto C (pc := 1133) (tgt := 1137) d_law_1133 (by decide) ?_
    refine lw_callC C (pc := 1137) (K' := K_LP_close) (n' := 2) (As := [.int (xs (i + 1)), .int (b2i true)]) (st := []) okV_LP_close rfl (ok_LP_close (pY G aP) aP (xs (i + 1)) true hc (oP G aP)) e1 w5_84 d_law_1137 rfl (by decide) rfl (Nat.le_of_ble_eq_true rfl) ?_
    show LW p l e s m below meth c b G aP 1140 (lvL b aP i) [.int (b2i v)] hc1 hm
    refine lw_aload C (pc := 1140) (q := 3) d_law_1140 rfl rfl ?_
    refine lw_cell C (i := i) (k := 1) (pc := 1141) hL hi (by decide) d_law_1141 d_law_1142 d_law_1143 (by decide) d_law_1144 d_law_1145 ?_
    refine lw_cell C (i := i) (k := 2) (pc := 1146) hL hi (by decide) d_law_1146 d_law_1147 d_law_1148 (by decide) d_law_1149 d_law_1150 ?_
    refine lw_ifeq_f C (pc := 1151) (tgt := 1158) d_law_1151 (by decide) hz ?_
    refine lw_iconst C (pc := 1154) (x := 1) d_law_1154 (by decide) ?_
    refine lw_goto C (pc := 1155) (tgt := 1159) d_law_1155 (by decide) ?_
    refine lw_callM C (pc := 1159) (K' := K_M_close) (n' := 2) (As := [.int (xs (i + 1)), .int (b2i true)]) (st := [.int (b2i v)]) okV_M_close rfl (ok_M_close (mY G (aP + 184)) (aP + 184) (xs (i + 1)) true hm (M_isO G (aP + 184))) e2 w9_126 d_law_1159 rfl (by decide) rfl (Nat.le_of_ble_eq_true rfl) ?_
    show LW p l e s m below meth c b G aP 1162 (lvL b aP i) [.int (b2i v), .int (b2i v)] hc1 hm1
    exact lw_icmp_eq C (pc := 1162) (tgt := 1918) d_law_1162 (by decide) (nx _ _ J1)
theorem law_26 (C : LCx p s m meth c b L xs G aP) (hL : L ≤ 3072) {i : Nat} (hi : i + 6 ≤ L) {hc hm : Hp} (J : JJ (pY G aP) (mY G (aP + 184)) hc aP hm (aP + 184) kw0) (nx : ∀ hc hm, JJ (pY G aP) (mY G (aP + 184)) hc aP hm (aP + 184) kw0 → LW p l e s m below meth c b G aP 1918 (lvL b aP i) [] hc hm) : LW p l e s m below meth c b G aP 1167 (lvL b aP i) [] hc hm := by
  obtain ⟨v, hc1, hm1, e1, e2, J1⟩ := so_lead J (xs (i + 1)) (xs (i + 2)) (xs (i + 3))
  refine lw_aload C (pc := 1167) (q := 2) d_law_1167 rfl rfl ?_
  refine lw_cell C (i := i) (k := 1) (pc := 1168) hL hi (by decide) d_law_1168 d_law_1169 d_law_1170 (by decide) d_law_1171 d_law_1172 ?_
  refine lw_cell C (i := i) (k := 2) (pc := 1173) hL hi (by decide) d_law_1173 d_law_1174 d_law_1175 (by decide) d_law_1176 d_law_1177 ?_
  refine lw_cell C (i := i) (k := 3) (pc := 1178) hL hi (by decide) d_law_1178 d_law_1179 d_law_1180 (by decide) d_law_1181 d_law_1182 ?_
  refine lw_callC C (pc := 1183) (K' := K_LP_lead) (n' := 2) (As := [.int (xs (i + 1)), .int (xs (i + 2)), .int (xs (i + 3))]) (st := []) okV_LP_lead rfl (ok_LP_lead (pY G aP) aP (xs (i + 1)) (xs (i + 2)) (xs (i + 3)) hc (oP G aP)) e1 w5_89 d_law_1183 rfl (by decide) rfl (Nat.le_of_ble_eq_true rfl) ?_
  show LW p l e s m below meth c b G aP 1186 (lvL b aP i) [.int (b2i v)] hc1 hm
  refine lw_aload C (pc := 1186) (q := 3) d_law_1186 rfl rfl ?_
  refine lw_cell C (i := i) (k := 1) (pc := 1187) hL hi (by decide) d_law_1187 d_law_1188 d_law_1189 (by decide) d_law_1190 d_law_1191 ?_
  refine lw_cell C (i := i) (k := 2) (pc := 1192) hL hi (by decide) d_law_1192 d_law_1193 d_law_1194 (by decide) d_law_1195 d_law_1196 ?_
  refine lw_cell C (i := i) (k := 3) (pc := 1197) hL hi (by decide) d_law_1197 d_law_1198 d_law_1199 (by decide) d_law_1200 d_law_1201 ?_
  refine lw_callM C (pc := 1202) (K' := K_M_lead) (n' := 2) (As := [.int (xs (i + 1)), .int (xs (i + 2)), .int (xs (i + 3))]) (st := [.int (b2i v)]) okV_M_lead rfl (ok_M_lead (mY G (aP + 184)) (aP + 184) (xs (i + 1)) (xs (i + 2)) (xs (i + 3)) hm (M_isO G (aP + 184))) e2 w9_130 d_law_1202 rfl (by decide) rfl (Nat.le_of_ble_eq_true rfl) ?_
  show LW p l e s m below meth c b G aP 1205 (lvL b aP i) [.int (b2i v), .int (b2i v)] hc1 hm1
  exact lw_icmp_eq C (pc := 1205) (tgt := 1918) d_law_1205 (by decide) (nx _ _ J1)
theorem law_27 (C : LCx p s m meth c b L xs G aP) (hL : L ≤ 3072) {i : Nat} (hi : i + 6 ≤ L) {hc hm : Hp} (J : JJ (pY G aP) (mY G (aP + 184)) hc aP hm (aP + 184) kw0) (nx : ∀ hc hm, JJ (pY G aP) (mY G (aP + 184)) hc aP hm (aP + 184) kw0 → LW p l e s m below meth c b G aP 1918 (lvL b aP i) [] hc hm) : LW p l e s m below meth c b G aP 1210 (lvL b aP i) [] hc hm := by
  obtain ⟨v, hc1, hm1, e1, e2, J1⟩ := so_endings J (xs (i + 1))
  refine lw_aload C (pc := 1210) (q := 2) d_law_1210 rfl rfl ?_
  refine lw_cell C (i := i) (k := 1) (pc := 1211) hL hi (by decide) d_law_1211 d_law_1212 d_law_1213 (by decide) d_law_1214 d_law_1215 ?_
  refine lw_callC C (pc := 1216) (K' := K_LP_endings) (n' := 4) (As := [.int (xs (i + 1))]) (st := []) okV_LP_endings rfl (ok_LP_endings (pY G aP) aP (xs (i + 1)) hc (oP G aP)) e1 w5_94 d_law_1216 rfl (by decide) rfl (Nat.le_of_ble_eq_true rfl) ?_
  show LW p l e s m below meth c b G aP 1219 (lvL b aP i) [.long v] hc1 hm
  refine lw_aload C (pc := 1219) (q := 3) d_law_1219 rfl rfl ?_
  refine lw_cell C (i := i) (k := 1) (pc := 1220) hL hi (by decide) d_law_1220 d_law_1221 d_law_1222 (by decide) d_law_1223 d_law_1224 ?_
  refine lw_callM C (pc := 1225) (K' := K_M_endings) (n' := 4) (As := [.int (xs (i + 1))]) (st := [.long v]) okV_M_endings rfl (ok_M_endings (mY G (aP + 184)) (aP + 184) (xs (i + 1)) hm (M_isO G (aP + 184))) e2 w9_134 d_law_1225 rfl (by decide) rfl (Nat.le_of_ble_eq_true rfl) ?_
  show LW p l e s m below meth c b G aP 1228 (lvL b aP i) [.long v, .long v] hc1 hm1
  exact lw_lcmp_eq C (pc := 1228) (tgt := 1918) d_law_1228 d_law_1229 (by decide) (nx _ _ J1)
theorem law_28 (C : LCx p s m meth c b L xs G aP) (hL : L ≤ 3072) {i : Nat} (hi : i + 6 ≤ L) {hc hm : Hp} (J : JJ (pY G aP) (mY G (aP + 184)) hc aP hm (aP + 184) kw0) (nx : ∀ hc hm, JJ (pY G aP) (mY G (aP + 184)) hc aP hm (aP + 184) kw0 → LW p l e s m below meth c b G aP 1918 (lvL b aP i) [] hc hm) : LW p l e s m below meth c b G aP 1234 (lvL b aP i) [] hc hm := by
  obtain ⟨v, hc1, hm1, e1, e2, J1⟩ := so_hopeless J 
  refine lw_aload C (pc := 1234) (q := 2) d_law_1234 rfl rfl ?_
  refine lw_callC C (pc := 1235) (K' := K_LP_hopeless) (n' := 4) (As := []) (st := []) okV_LP_hopeless rfl (ok_LP_hopeless (pY G aP) aP hc (oP G aP)) e1 w5_106 d_law_1235 rfl (by decide) rfl (Nat.le_of_ble_eq_true rfl) ?_
  show LW p l e s m below meth c b G aP 1238 (lvL b aP i) [.int v] hc1 hm
  refine lw_aload C (pc := 1238) (q := 3) d_law_1238 rfl rfl ?_
  refine lw_callM C (pc := 1239) (K' := K_M_hopeless) (n' := 4) (As := []) (st := [.int v]) okV_M_hopeless rfl (ok_M_hopeless (mY G (aP + 184)) (aP + 184) hm (M_isO G (aP + 184))) e2 w9_146 d_law_1239 rfl (by decide) rfl (Nat.le_of_ble_eq_true rfl) ?_
  show LW p l e s m below meth c b G aP 1242 (lvL b aP i) [.int v, .int v] hc1 hm1
  exact lw_icmp_eq C (pc := 1242) (tgt := 1918) d_law_1242 (by decide) (nx _ _ J1)
theorem law_29 (C : LCx p s m meth c b L xs G aP) (hL : L ≤ 3072) {i : Nat} (hi : i + 6 ≤ L) {hc hm : Hp} (J : JJ (pY G aP) (mY G (aP + 184)) hc aP hm (aP + 184) kw0) (nx : ∀ hc hm, JJ (pY G aP) (mY G (aP + 184)) hc aP hm (aP + 184) kw0 → LW p l e s m below meth c b G aP 1918 (lvL b aP i) [] hc hm) : LW p l e s m below meth c b G aP 1247 (lvL b aP i) [] hc hm := by
  obtain ⟨v, hc1, hm1, e1, e2, J1⟩ := so_best J (xs (i + 1))
  refine lw_aload C (pc := 1247) (q := 2) d_law_1247 rfl rfl ?_
  refine lw_cell C (i := i) (k := 1) (pc := 1248) hL hi (by decide) d_law_1248 d_law_1249 d_law_1250 (by decide) d_law_1251 d_law_1252 ?_
  refine lw_callC C (pc := 1253) (K' := K_LP_best) (n' := 4) (As := [.int (xs (i + 1))]) (st := []) okV_LP_best rfl (ok_LP_best (pY G aP) aP (xs (i + 1)) hc (oP G aP)) e1 w5_110 d_law_1253 rfl (by decide) rfl (Nat.le_of_ble_eq_true rfl) ?_
  show LW p l e s m below meth c b G aP 1256 (lvL b aP i) [.int v] hc1 hm
  refine lw_aload C (pc := 1256) (q := 3) d_law_1256 rfl rfl ?_
  refine lw_cell C (i := i) (k := 1) (pc := 1257) hL hi (by decide) d_law_1257 d_law_1258 d_law_1259 (by decide) d_law_1260 d_law_1261 ?_
  refine lw_callM C (pc := 1262) (K' := K_M_best) (n' := 5) (As := [.int (xs (i + 1))]) (st := [.int v]) okV_M_best rfl (ok_M_best (mY G (aP + 184)) (aP + 184) (xs (i + 1)) hm (M_isO G (aP + 184))) e2 w9_150 d_law_1262 rfl (by decide) rfl (Nat.le_of_ble_eq_true rfl) ?_
  show LW p l e s m below meth c b G aP 1265 (lvL b aP i) [.int v, .int v] hc1 hm1
  exact lw_icmp_eq C (pc := 1265) (tgt := 1918) d_law_1265 (by decide) (nx _ _ J1)
theorem law_30 (C : LCx p s m meth c b L xs G aP) (hL : L ≤ 3072) {i : Nat} (hi : i + 6 ≤ L) {hc hm : Hp} (J : JJ (pY G aP) (mY G (aP + 184)) hc aP hm (aP + 184) kw0) (nx : ∀ hc hm, JJ (pY G aP) (mY G (aP + 184)) hc aP hm (aP + 184) kw0 → LW p l e s m below meth c b G aP 1918 (lvL b aP i) [] hc hm) : LW p l e s m below meth c b G aP 1270 (lvL b aP i) [] hc hm := by
  obtain ⟨v, hc1, hm1, e1, e2, J1⟩ := so_bestAt J (xs (i + 1)) (xs (i + 2))
  refine lw_aload C (pc := 1270) (q := 2) d_law_1270 rfl rfl ?_
  refine lw_cell C (i := i) (k := 1) (pc := 1271) hL hi (by decide) d_law_1271 d_law_1272 d_law_1273 (by decide) d_law_1274 d_law_1275 ?_
  refine lw_cell C (i := i) (k := 2) (pc := 1276) hL hi (by decide) d_law_1276 d_law_1277 d_law_1278 (by decide) d_law_1279 d_law_1280 ?_
  refine lw_callC C (pc := 1281) (K' := K_LP_bestAt) (n' := 4) (As := [.int (xs (i + 1)), .int (xs (i + 2))]) (st := []) okV_LP_bestAt rfl (ok_LP_bestAt (pY G aP) aP (xs (i + 1)) (xs (i + 2)) hc (oP G aP)) e1 w5_123 d_law_1281 rfl (by decide) rfl (Nat.le_of_ble_eq_true rfl) ?_
  show LW p l e s m below meth c b G aP 1284 (lvL b aP i) [.int v] hc1 hm
  refine lw_aload C (pc := 1284) (q := 3) d_law_1284 rfl rfl ?_
  refine lw_cell C (i := i) (k := 1) (pc := 1285) hL hi (by decide) d_law_1285 d_law_1286 d_law_1287 (by decide) d_law_1288 d_law_1289 ?_
  refine lw_cell C (i := i) (k := 2) (pc := 1290) hL hi (by decide) d_law_1290 d_law_1291 d_law_1292 (by decide) d_law_1293 d_law_1294 ?_
  refine lw_callM C (pc := 1295) (K' := K_M_bestAt) (n' := 5) (As := [.int (xs (i + 1)), .int (xs (i + 2))]) (st := [.int v]) okV_M_bestAt rfl (ok_M_bestAt (mY G (aP + 184)) (aP + 184) (xs (i + 1)) (xs (i + 2)) hm (M_isO G (aP + 184))) e2 w9_171 d_law_1295 rfl (by decide) rfl (Nat.le_of_ble_eq_true rfl) ?_
  show LW p l e s m below meth c b G aP 1298 (lvL b aP i) [.int v, .int v] hc1 hm1
  exact lw_icmp_eq C (pc := 1298) (tgt := 1918) d_law_1298 (by decide) (nx _ _ J1)
theorem law_31 (C : LCx p s m meth c b L xs G aP) (hL : L ≤ 3072) {i : Nat} (hi : i + 6 ≤ L) {hc hm : Hp} (J : JJ (pY G aP) (mY G (aP + 184)) hc aP hm (aP + 184) kw0) (nx : ∀ hc hm, JJ (pY G aP) (mY G (aP + 184)) hc aP hm (aP + 184) kw0 → LW p l e s m below meth c b G aP 1918 (lvL b aP i) [] hc hm) : LW p l e s m below meth c b G aP 1303 (lvL b aP i) [] hc hm := by
  obtain ⟨v, hc1, hm1, e1, e2, J1⟩ := so_next J (xs (i + 1))
  refine lw_aload C (pc := 1303) (q := 2) d_law_1303 rfl rfl ?_
  refine lw_cell C (i := i) (k := 1) (pc := 1304) hL hi (by decide) d_law_1304 d_law_1305 d_law_1306 (by decide) d_law_1307 d_law_1308 ?_
  refine lw_callC C (pc := 1309) (K' := K_LP_next) (n' := 4) (As := [.int (xs (i + 1))]) (st := []) okV_LP_next rfl (ok_LP_next (pY G aP) aP (xs (i + 1)) hc (oP G aP)) e1 w5_135 d_law_1309 rfl (by decide) rfl (Nat.le_of_ble_eq_true rfl) ?_
  show LW p l e s m below meth c b G aP 1312 (lvL b aP i) [.int v] hc1 hm
  refine lw_aload C (pc := 1312) (q := 3) d_law_1312 rfl rfl ?_
  refine lw_cell C (i := i) (k := 1) (pc := 1313) hL hi (by decide) d_law_1313 d_law_1314 d_law_1315 (by decide) d_law_1316 d_law_1317 ?_
  refine lw_callM C (pc := 1318) (K' := K_M_next) (n' := 4) (As := [.int (xs (i + 1))]) (st := [.int v]) okV_M_next rfl (ok_M_next (mY G (aP + 184)) (aP + 184) (xs (i + 1)) hm (M_isO G (aP + 184))) e2 w9_179 d_law_1318 rfl (by decide) rfl (Nat.le_of_ble_eq_true rfl) ?_
  show LW p l e s m below meth c b G aP 1321 (lvL b aP i) [.int v, .int v] hc1 hm1
  exact lw_icmp_eq C (pc := 1321) (tgt := 1918) d_law_1321 (by decide) (nx _ _ J1)
theorem law_32 (C : LCx p s m meth c b L xs G aP) (hL : L ≤ 3072) {i : Nat} (hi : i + 6 ≤ L) {hc hm : Hp} (J : JJ (pY G aP) (mY G (aP + 184)) hc aP hm (aP + 184) kw0) (nx : ∀ hc hm, JJ (pY G aP) (mY G (aP + 184)) hc aP hm (aP + 184) kw0 → LW p l e s m below meth c b G aP 1918 (lvL b aP i) [] hc hm) : LW p l e s m below meth c b G aP 1326 (lvL b aP i) [] hc hm := by
  obtain ⟨v, hc1, hm1, e1, e2, J1⟩ := so_chance J (xs (i + 1)) (xs (i + 2)) (xs (i + 3))
  refine lw_aload C (pc := 1326) (q := 2) d_law_1326 rfl rfl ?_
  refine lw_cell C (i := i) (k := 1) (pc := 1327) hL hi (by decide) d_law_1327 d_law_1328 d_law_1329 (by decide) d_law_1330 d_law_1331 ?_
  refine lw_cell C (i := i) (k := 2) (pc := 1332) hL hi (by decide) d_law_1332 d_law_1333 d_law_1334 (by decide) d_law_1335 d_law_1336 ?_
  refine lw_cell C (i := i) (k := 3) (pc := 1337) hL hi (by decide) d_law_1337 d_law_1338 d_law_1339 (by decide) d_law_1340 d_law_1341 ?_
  refine lw_callC C (pc := 1342) (K' := K_LP_chance) (n' := 4) (As := [.int (xs (i + 1)), .int (xs (i + 2)), .int (xs (i + 3))]) (st := []) okV_LP_chance rfl (ok_LP_chance (pY G aP) aP (xs (i + 1)) (xs (i + 2)) (xs (i + 3)) hc (oP G aP)) e1 w5_160 d_law_1342 rfl (by decide) rfl (Nat.le_of_ble_eq_true rfl) ?_
  show LW p l e s m below meth c b G aP 1345 (lvL b aP i) [.int (b2i v)] hc1 hm
  refine lw_aload C (pc := 1345) (q := 3) d_law_1345 rfl rfl ?_
  refine lw_cell C (i := i) (k := 1) (pc := 1346) hL hi (by decide) d_law_1346 d_law_1347 d_law_1348 (by decide) d_law_1349 d_law_1350 ?_
  refine lw_cell C (i := i) (k := 2) (pc := 1351) hL hi (by decide) d_law_1351 d_law_1352 d_law_1353 (by decide) d_law_1354 d_law_1355 ?_
  refine lw_cell C (i := i) (k := 3) (pc := 1356) hL hi (by decide) d_law_1356 d_law_1357 d_law_1358 (by decide) d_law_1359 d_law_1360 ?_
  refine lw_callM C (pc := 1361) (K' := K_M_chance) (n' := 4) (As := [.int (xs (i + 1)), .int (xs (i + 2)), .int (xs (i + 3))]) (st := [.int (b2i v)]) okV_M_chance rfl (ok_M_chance (mY G (aP + 184)) (aP + 184) (xs (i + 1)) (xs (i + 2)) (xs (i + 3)) hm (M_isO G (aP + 184))) e2 w9_189 d_law_1361 rfl (by decide) rfl (Nat.le_of_ble_eq_true rfl) ?_
  show LW p l e s m below meth c b G aP 1364 (lvL b aP i) [.int (b2i v), .int (b2i v)] hc1 hm1
  exact lw_icmp_eq C (pc := 1364) (tgt := 1918) d_law_1364 (by decide) (nx _ _ J1)
theorem law_33 (C : LCx p s m meth c b L xs G aP) (hL : L ≤ 3072) {i : Nat} (hi : i + 6 ≤ L) {hc hm : Hp} (J : JJ (pY G aP) (mY G (aP + 184)) hc aP hm (aP + 184) kw0) (nx : ∀ hc hm, JJ (pY G aP) (mY G (aP + 184)) hc aP hm (aP + 184) kw0 → LW p l e s m below meth c b G aP 1918 (lvL b aP i) [] hc hm) : LW p l e s m below meth c b G aP 1369 (lvL b aP i) [] hc hm := by
  obtain ⟨v, hc1, hm1, e1, e2, J1⟩ := so_may J (xs (i + 1)) (xs (i + 2))
  refine lw_aload C (pc := 1369) (q := 2) d_law_1369 rfl rfl ?_
  refine lw_cell C (i := i) (k := 1) (pc := 1370) hL hi (by decide) d_law_1370 d_law_1371 d_law_1372 (by decide) d_law_1373 d_law_1374 ?_
  refine lw_cell C (i := i) (k := 2) (pc := 1375) hL hi (by decide) d_law_1375 d_law_1376 d_law_1377 (by decide) d_law_1378 d_law_1379 ?_
  refine lw_callC C (pc := 1380) (K' := K_LP_may) (n' := 4) (As := [.int (xs (i + 1)), .int (xs (i + 2))]) (st := []) okV_LP_may rfl (ok_LP_may (pY G aP) aP (xs (i + 1)) (xs (i + 2)) hc (oP G aP)) e1 w5_172 d_law_1380 rfl (by decide) rfl (Nat.le_of_ble_eq_true rfl) ?_
  show LW p l e s m below meth c b G aP 1383 (lvL b aP i) [.int v] hc1 hm
  refine lw_aload C (pc := 1383) (q := 3) d_law_1383 rfl rfl ?_
  refine lw_cell C (i := i) (k := 1) (pc := 1384) hL hi (by decide) d_law_1384 d_law_1385 d_law_1386 (by decide) d_law_1387 d_law_1388 ?_
  refine lw_cell C (i := i) (k := 2) (pc := 1389) hL hi (by decide) d_law_1389 d_law_1390 d_law_1391 (by decide) d_law_1392 d_law_1393 ?_
  refine lw_callM C (pc := 1394) (K' := K_M_may) (n' := 4) (As := [.int (xs (i + 1)), .int (xs (i + 2))]) (st := [.int v]) okV_M_may rfl (ok_M_may (mY G (aP + 184)) (aP + 184) (xs (i + 1)) (xs (i + 2)) hm (M_isO G (aP + 184))) e2 w9_200 d_law_1394 rfl (by decide) rfl (Nat.le_of_ble_eq_true rfl) ?_
  show LW p l e s m below meth c b G aP 1397 (lvL b aP i) [.int v, .int v] hc1 hm1
  exact lw_icmp_eq C (pc := 1397) (tgt := 1918) d_law_1397 (by decide) (nx _ _ J1)
end LAWC
