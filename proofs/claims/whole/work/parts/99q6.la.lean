theorem d_La_law_1208 : decode code 1208 = .ok (.iconst 1, 1) := by decide +kernel
theorem d_La_law_1209 : decode code 1209 = .ok (.iadd, 1) := by decide +kernel
theorem d_La_law_1210 : decode code 1210 = .ok (.iaload, 1) := by decide +kernel
theorem d_La_law_1211 : decode code 1211 = .ok (.invokevirtual 161, 3) := by decide +kernel
theorem d_La_law_1214 : decode code 1214 = .ok (.if_icmp .eq 307, 3) := by decide +kernel
theorem d_La_law_1217 : decode code 1217 = .ok (.iconst 0, 1) := by decide +kernel
theorem d_La_law_1218 : decode code 1218 = .ok (.ireturn, 1) := by decide +kernel
theorem d_La_law_1219 : decode code 1219 = .ok (.aload_n 1, 1) := by decide +kernel
theorem d_La_law_1220 : decode code 1220 = .ok (.aload_n 0, 1) := by decide +kernel
theorem d_La_law_1221 : decode code 1221 = .ok (.iload_n 3, 1) := by decide +kernel
theorem d_La_law_1222 : decode code 1222 = .ok (.iconst 1, 1) := by decide +kernel
theorem d_La_law_1223 : decode code 1223 = .ok (.iadd, 1) := by decide +kernel
theorem d_La_law_1224 : decode code 1224 = .ok (.iaload, 1) := by decide +kernel
theorem d_La_law_1225 : decode code 1225 = .ok (.aload_n 0, 1) := by decide +kernel
theorem d_La_law_1226 : decode code 1226 = .ok (.iload_n 3, 1) := by decide +kernel
theorem d_La_law_1227 : decode code 1227 = .ok (.iconst 2, 1) := by decide +kernel
theorem d_La_law_1228 : decode code 1228 = .ok (.iadd, 1) := by decide +kernel
theorem d_La_law_1229 : decode code 1229 = .ok (.iaload, 1) := by decide +kernel
theorem d_La_law_1230 : decode code 1230 = .ok (.invokevirtual 162, 3) := by decide +kernel
theorem d_La_law_1233 : decode code 1233 = .ok (.aload_n 2, 1) := by decide +kernel
theorem d_La_law_1234 : decode code 1234 = .ok (.aload_n 0, 1) := by decide +kernel
theorem d_La_law_1235 : decode code 1235 = .ok (.iload_n 3, 1) := by decide +kernel
theorem d_La_law_1236 : decode code 1236 = .ok (.iconst 1, 1) := by decide +kernel
theorem d_La_law_1237 : decode code 1237 = .ok (.iadd, 1) := by decide +kernel
theorem d_La_law_1238 : decode code 1238 = .ok (.iaload, 1) := by decide +kernel
theorem d_La_law_1239 : decode code 1239 = .ok (.aload_n 0, 1) := by decide +kernel
theorem d_La_law_1240 : decode code 1240 = .ok (.iload_n 3, 1) := by decide +kernel
theorem d_La_law_1241 : decode code 1241 = .ok (.iconst 2, 1) := by decide +kernel
theorem d_La_law_1242 : decode code 1242 = .ok (.iadd, 1) := by decide +kernel
theorem d_La_law_1243 : decode code 1243 = .ok (.iaload, 1) := by decide +kernel
theorem d_La_law_1244 : decode code 1244 = .ok (.invokevirtual 165, 3) := by decide +kernel
theorem d_La_law_1247 : decode code 1247 = .ok (.if_icmp .eq 274, 3) := by decide +kernel
theorem d_La_law_1250 : decode code 1250 = .ok (.iconst 0, 1) := by decide +kernel
theorem d_La_law_1251 : decode code 1251 = .ok (.ireturn, 1) := by decide +kernel
theorem d_La_law_1252 : decode code 1252 = .ok (.aload_n 1, 1) := by decide +kernel
theorem d_La_law_1253 : decode code 1253 = .ok (.aload_n 0, 1) := by decide +kernel
theorem d_La_law_1254 : decode code 1254 = .ok (.iload_n 3, 1) := by decide +kernel
theorem d_La_law_1255 : decode code 1255 = .ok (.iconst 1, 1) := by decide +kernel
theorem d_La_law_1256 : decode code 1256 = .ok (.iadd, 1) := by decide +kernel
theorem d_La_law_1257 : decode code 1257 = .ok (.iaload, 1) := by decide +kernel
theorem d_La_law_1258 : decode code 1258 = .ok (.aload_n 0, 1) := by decide +kernel
theorem d_La_law_1259 : decode code 1259 = .ok (.iload_n 3, 1) := by decide +kernel
theorem d_La_law_1260 : decode code 1260 = .ok (.iconst 2, 1) := by decide +kernel
theorem d_La_law_1261 : decode code 1261 = .ok (.iadd, 1) := by decide +kernel
theorem d_La_law_1262 : decode code 1262 = .ok (.iaload, 1) := by decide +kernel
theorem d_La_law_1263 : decode code 1263 = .ok (.aload_n 0, 1) := by decide +kernel
theorem d_La_law_1264 : decode code 1264 = .ok (.iload_n 3, 1) := by decide +kernel
theorem d_La_law_1265 : decode code 1265 = .ok (.iconst 3, 1) := by decide +kernel
theorem d_La_law_1266 : decode code 1266 = .ok (.iadd, 1) := by decide +kernel
theorem d_La_law_1267 : decode code 1267 = .ok (.iaload, 1) := by decide +kernel
theorem d_La_law_1268 : decode code 1268 = .ok (.invokevirtual 166, 3) := by decide +kernel
theorem d_La_law_1271 : decode code 1271 = .ok (.aload_n 2, 1) := by decide +kernel
theorem d_La_law_1272 : decode code 1272 = .ok (.aload_n 0, 1) := by decide +kernel
theorem d_La_law_1273 : decode code 1273 = .ok (.iload_n 3, 1) := by decide +kernel
theorem d_La_law_1274 : decode code 1274 = .ok (.iconst 1, 1) := by decide +kernel
theorem d_La_law_1275 : decode code 1275 = .ok (.iadd, 1) := by decide +kernel
theorem d_La_law_1276 : decode code 1276 = .ok (.iaload, 1) := by decide +kernel
theorem d_La_law_1277 : decode code 1277 = .ok (.aload_n 0, 1) := by decide +kernel
theorem d_La_law_1278 : decode code 1278 = .ok (.iload_n 3, 1) := by decide +kernel
theorem d_La_law_1279 : decode code 1279 = .ok (.iconst 2, 1) := by decide +kernel
theorem d_La_law_1280 : decode code 1280 = .ok (.iadd, 1) := by decide +kernel
theorem d_La_law_1281 : decode code 1281 = .ok (.iaload, 1) := by decide +kernel
theorem d_La_law_1282 : decode code 1282 = .ok (.aload_n 0, 1) := by decide +kernel
theorem d_La_law_1283 : decode code 1283 = .ok (.iload_n 3, 1) := by decide +kernel
theorem d_La_law_1284 : decode code 1284 = .ok (.iconst 3, 1) := by decide +kernel
theorem d_La_law_1285 : decode code 1285 = .ok (.iadd, 1) := by decide +kernel
theorem d_La_law_1286 : decode code 1286 = .ok (.iaload, 1) := by decide +kernel
theorem d_La_law_1287 : decode code 1287 = .ok (.invokevirtual 169, 3) := by decide +kernel
theorem d_La_law_1290 : decode code 1290 = .ok (.if_icmp .eq 231, 3) := by decide +kernel
theorem d_La_law_1293 : decode code 1293 = .ok (.iconst 0, 1) := by decide +kernel
theorem d_La_law_1294 : decode code 1294 = .ok (.ireturn, 1) := by decide +kernel
theorem d_La_law_1295 : decode code 1295 = .ok (.aload_n 1, 1) := by decide +kernel
theorem d_La_law_1296 : decode code 1296 = .ok (.aload_n 0, 1) := by decide +kernel
theorem d_La_law_1297 : decode code 1297 = .ok (.iload_n 3, 1) := by decide +kernel
theorem d_La_law_1298 : decode code 1298 = .ok (.iconst 1, 1) := by decide +kernel
theorem d_La_law_1299 : decode code 1299 = .ok (.iadd, 1) := by decide +kernel
theorem d_La_law_1300 : decode code 1300 = .ok (.iaload, 1) := by decide +kernel
theorem d_La_law_1301 : decode code 1301 = .ok (.aload_n 0, 1) := by decide +kernel
theorem d_La_law_1302 : decode code 1302 = .ok (.iload_n 3, 1) := by decide +kernel
theorem d_La_law_1303 : decode code 1303 = .ok (.iconst 2, 1) := by decide +kernel
theorem d_La_law_1304 : decode code 1304 = .ok (.iadd, 1) := by decide +kernel
theorem d_La_law_1305 : decode code 1305 = .ok (.iaload, 1) := by decide +kernel
theorem d_La_law_1306 : decode code 1306 = .ok (.aload_n 0, 1) := by decide +kernel
theorem d_La_law_1307 : decode code 1307 = .ok (.iload_n 3, 1) := by decide +kernel
theorem d_La_law_1308 : decode code 1308 = .ok (.iconst 3, 1) := by decide +kernel
theorem d_La_law_1309 : decode code 1309 = .ok (.iadd, 1) := by decide +kernel
theorem d_La_law_1310 : decode code 1310 = .ok (.iaload, 1) := by decide +kernel
theorem d_La_law_1311 : decode code 1311 = .ok (.i2l, 1) := by decide +kernel
theorem d_La_law_1312 : decode code 1312 = .ok (.bipush 32, 2) := by decide +kernel
theorem d_La_law_1314 : decode code 1314 = .ok (.lshl, 1) := by decide +kernel
theorem d_La_law_1315 : decode code 1315 = .ok (.aload_n 0, 1) := by decide +kernel
theorem d_La_law_1316 : decode code 1316 = .ok (.iload_n 3, 1) := by decide +kernel
theorem d_La_law_1317 : decode code 1317 = .ok (.iconst 4, 1) := by decide +kernel
theorem d_La_law_1318 : decode code 1318 = .ok (.iadd, 1) := by decide +kernel
theorem d_La_law_1319 : decode code 1319 = .ok (.iaload, 1) := by decide +kernel
theorem d_La_law_1320 : decode code 1320 = .ok (.i2l, 1) := by decide +kernel
theorem d_La_law_1321 : decode code 1321 = .ok (.ldc2_w 170, 3) := by decide +kernel
theorem d_La_law_1324 : decode code 1324 = .ok (.land, 1) := by decide +kernel
theorem d_La_law_1325 : decode code 1325 = .ok (.lor, 1) := by decide +kernel
theorem d_La_law_1326 : decode code 1326 = .ok (.invokevirtual 172, 3) := by decide +kernel
theorem d_La_law_1329 : decode code 1329 = .ok (.aload_n 2, 1) := by decide +kernel
theorem d_La_law_1330 : decode code 1330 = .ok (.aload_n 0, 1) := by decide +kernel
theorem d_La_law_1331 : decode code 1331 = .ok (.iload_n 3, 1) := by decide +kernel
theorem d_La_law_1332 : decode code 1332 = .ok (.iconst 1, 1) := by decide +kernel
theorem d_La_law_1333 : decode code 1333 = .ok (.iadd, 1) := by decide +kernel
theorem d_La_law_1334 : decode code 1334 = .ok (.iaload, 1) := by decide +kernel
theorem d_La_law_1335 : decode code 1335 = .ok (.aload_n 0, 1) := by decide +kernel
theorem d_La_law_1336 : decode code 1336 = .ok (.iload_n 3, 1) := by decide +kernel
theorem d_La_law_1337 : decode code 1337 = .ok (.iconst 2, 1) := by decide +kernel
theorem d_La_law_1338 : decode code 1338 = .ok (.iadd, 1) := by decide +kernel
theorem d_La_law_1339 : decode code 1339 = .ok (.iaload, 1) := by decide +kernel
theorem d_La_law_1340 : decode code 1340 = .ok (.aload_n 0, 1) := by decide +kernel
theorem d_La_law_1341 : decode code 1341 = .ok (.iload_n 3, 1) := by decide +kernel
theorem d_La_law_1342 : decode code 1342 = .ok (.iconst 3, 1) := by decide +kernel
theorem d_La_law_1343 : decode code 1343 = .ok (.iadd, 1) := by decide +kernel
theorem d_La_law_1344 : decode code 1344 = .ok (.iaload, 1) := by decide +kernel
theorem d_La_law_1345 : decode code 1345 = .ok (.i2l, 1) := by decide +kernel
theorem d_La_law_1346 : decode code 1346 = .ok (.bipush 32, 2) := by decide +kernel
theorem d_La_law_1348 : decode code 1348 = .ok (.lshl, 1) := by decide +kernel
theorem d_La_law_1349 : decode code 1349 = .ok (.aload_n 0, 1) := by decide +kernel
theorem d_La_law_1350 : decode code 1350 = .ok (.iload_n 3, 1) := by decide +kernel
theorem d_La_law_1351 : decode code 1351 = .ok (.iconst 4, 1) := by decide +kernel
theorem d_La_law_1352 : decode code 1352 = .ok (.iadd, 1) := by decide +kernel
theorem d_La_law_1353 : decode code 1353 = .ok (.iaload, 1) := by decide +kernel
theorem d_La_law_1354 : decode code 1354 = .ok (.i2l, 1) := by decide +kernel
theorem d_La_law_1355 : decode code 1355 = .ok (.ldc2_w 170, 3) := by decide +kernel
theorem d_La_law_1358 : decode code 1358 = .ok (.land, 1) := by decide +kernel
theorem d_La_law_1359 : decode code 1359 = .ok (.lor, 1) := by decide +kernel
theorem d_La_law_1360 : decode code 1360 = .ok (.invokevirtual 176, 3) := by decide +kernel
theorem d_La_law_1363 : decode code 1363 = .ok (.if_icmp .eq 158, 3) := by decide +kernel
theorem d_La_law_1366 : decode code 1366 = .ok (.iconst 0, 1) := by decide +kernel
theorem d_La_law_1367 : decode code 1367 = .ok (.ireturn, 1) := by decide +kernel
theorem d_La_law_1368 : decode code 1368 = .ok (.aload_n 1, 1) := by decide +kernel
