theorem dL_1208 : decode code 1208 = .ok (.iconst 1, 1) := by decide +kernel
theorem dL_1209 : decode code 1209 = .ok (.iadd, 1) := by decide +kernel
theorem dL_1210 : decode code 1210 = .ok (.iaload, 1) := by decide +kernel
theorem dL_1211 : decode code 1211 = .ok (.aload_n 0, 1) := by decide +kernel
theorem dL_1212 : decode code 1212 = .ok (.iload_n 3, 1) := by decide +kernel
theorem dL_1213 : decode code 1213 = .ok (.iconst 2, 1) := by decide +kernel
theorem dL_1214 : decode code 1214 = .ok (.iadd, 1) := by decide +kernel
theorem dL_1215 : decode code 1215 = .ok (.iaload, 1) := by decide +kernel
theorem dL_1216 : decode code 1216 = .ok (.aload_n 0, 1) := by decide +kernel
theorem dL_1217 : decode code 1217 = .ok (.iload_n 3, 1) := by decide +kernel
theorem dL_1218 : decode code 1218 = .ok (.iconst 3, 1) := by decide +kernel
theorem dL_1219 : decode code 1219 = .ok (.iadd, 1) := by decide +kernel
theorem dL_1220 : decode code 1220 = .ok (.iaload, 1) := by decide +kernel
theorem dL_1221 : decode code 1221 = .ok (.aload_n 0, 1) := by decide +kernel
theorem dL_1222 : decode code 1222 = .ok (.iload_n 3, 1) := by decide +kernel
theorem dL_1223 : decode code 1223 = .ok (.iconst 4, 1) := by decide +kernel
theorem dL_1224 : decode code 1224 = .ok (.iadd, 1) := by decide +kernel
theorem dL_1225 : decode code 1225 = .ok (.iaload, 1) := by decide +kernel
theorem dL_1226 : decode code 1226 = .ok (.aload_n 0, 1) := by decide +kernel
theorem dL_1227 : decode code 1227 = .ok (.iload_n 3, 1) := by decide +kernel
theorem dL_1228 : decode code 1228 = .ok (.iconst 5, 1) := by decide +kernel
theorem dL_1229 : decode code 1229 = .ok (.iadd, 1) := by decide +kernel
theorem dL_1230 : decode code 1230 = .ok (.iaload, 1) := by decide +kernel
theorem dL_1231 : decode code 1231 = .ok (.invokevirtual 141, 3) := by decide +kernel
theorem dL_1234 : decode code 1234 = .ok (.aload_n 2, 1) := by decide +kernel
theorem dL_1235 : decode code 1235 = .ok (.aload_n 0, 1) := by decide +kernel
theorem dL_1236 : decode code 1236 = .ok (.iload_n 3, 1) := by decide +kernel
theorem dL_1237 : decode code 1237 = .ok (.iconst 1, 1) := by decide +kernel
theorem dL_1238 : decode code 1238 = .ok (.iadd, 1) := by decide +kernel
theorem dL_1239 : decode code 1239 = .ok (.iaload, 1) := by decide +kernel
theorem dL_1240 : decode code 1240 = .ok (.aload_n 0, 1) := by decide +kernel
theorem dL_1241 : decode code 1241 = .ok (.iload_n 3, 1) := by decide +kernel
theorem dL_1242 : decode code 1242 = .ok (.iconst 2, 1) := by decide +kernel
theorem dL_1243 : decode code 1243 = .ok (.iadd, 1) := by decide +kernel
theorem dL_1244 : decode code 1244 = .ok (.iaload, 1) := by decide +kernel
theorem dL_1245 : decode code 1245 = .ok (.aload_n 0, 1) := by decide +kernel
theorem dL_1246 : decode code 1246 = .ok (.iload_n 3, 1) := by decide +kernel
theorem dL_1247 : decode code 1247 = .ok (.iconst 3, 1) := by decide +kernel
theorem dL_1248 : decode code 1248 = .ok (.iadd, 1) := by decide +kernel
theorem dL_1249 : decode code 1249 = .ok (.iaload, 1) := by decide +kernel
theorem dL_1250 : decode code 1250 = .ok (.aload_n 0, 1) := by decide +kernel
theorem dL_1251 : decode code 1251 = .ok (.iload_n 3, 1) := by decide +kernel
theorem dL_1252 : decode code 1252 = .ok (.iconst 4, 1) := by decide +kernel
theorem dL_1253 : decode code 1253 = .ok (.iadd, 1) := by decide +kernel
theorem dL_1254 : decode code 1254 = .ok (.iaload, 1) := by decide +kernel
theorem dL_1255 : decode code 1255 = .ok (.aload_n 0, 1) := by decide +kernel
theorem dL_1256 : decode code 1256 = .ok (.iload_n 3, 1) := by decide +kernel
theorem dL_1257 : decode code 1257 = .ok (.iconst 5, 1) := by decide +kernel
theorem dL_1258 : decode code 1258 = .ok (.iadd, 1) := by decide +kernel
theorem dL_1259 : decode code 1259 = .ok (.iaload, 1) := by decide +kernel
theorem dL_1260 : decode code 1260 = .ok (.invokevirtual 145, 3) := by decide +kernel
theorem dL_1263 : decode code 1263 = .ok (.if_icmp .eq 199, 3) := by decide +kernel
theorem dL_1266 : decode code 1266 = .ok (.iconst 0, 1) := by decide +kernel
theorem dL_1267 : decode code 1267 = .ok (.ireturn, 1) := by decide +kernel
theorem dL_1268 : decode code 1268 = .ok (.aload_n 1, 1) := by decide +kernel
theorem dL_1269 : decode code 1269 = .ok (.aload_n 0, 1) := by decide +kernel
theorem dL_1270 : decode code 1270 = .ok (.iload_n 3, 1) := by decide +kernel
theorem dL_1271 : decode code 1271 = .ok (.iconst 1, 1) := by decide +kernel
theorem dL_1272 : decode code 1272 = .ok (.iadd, 1) := by decide +kernel
theorem dL_1273 : decode code 1273 = .ok (.iaload, 1) := by decide +kernel
theorem dL_1274 : decode code 1274 = .ok (.aload_n 0, 1) := by decide +kernel
theorem dL_1275 : decode code 1275 = .ok (.iload_n 3, 1) := by decide +kernel
theorem dL_1276 : decode code 1276 = .ok (.iconst 2, 1) := by decide +kernel
theorem dL_1277 : decode code 1277 = .ok (.iadd, 1) := by decide +kernel
theorem dL_1278 : decode code 1278 = .ok (.iaload, 1) := by decide +kernel
theorem dL_1279 : decode code 1279 = .ok (.invokevirtual 146, 3) := by decide +kernel
theorem dL_1282 : decode code 1282 = .ok (.aload_n 2, 1) := by decide +kernel
theorem dL_1283 : decode code 1283 = .ok (.aload_n 0, 1) := by decide +kernel
theorem dL_1284 : decode code 1284 = .ok (.iload_n 3, 1) := by decide +kernel
theorem dL_1285 : decode code 1285 = .ok (.iconst 1, 1) := by decide +kernel
theorem dL_1286 : decode code 1286 = .ok (.iadd, 1) := by decide +kernel
theorem dL_1287 : decode code 1287 = .ok (.iaload, 1) := by decide +kernel
theorem dL_1288 : decode code 1288 = .ok (.aload_n 0, 1) := by decide +kernel
theorem dL_1289 : decode code 1289 = .ok (.iload_n 3, 1) := by decide +kernel
theorem dL_1290 : decode code 1290 = .ok (.iconst 2, 1) := by decide +kernel
theorem dL_1291 : decode code 1291 = .ok (.iadd, 1) := by decide +kernel
theorem dL_1292 : decode code 1292 = .ok (.iaload, 1) := by decide +kernel
theorem dL_1293 : decode code 1293 = .ok (.invokevirtual 149, 3) := by decide +kernel
theorem dL_1296 : decode code 1296 = .ok (.if_icmp .eq 166, 3) := by decide +kernel
theorem dL_1299 : decode code 1299 = .ok (.iconst 0, 1) := by decide +kernel
theorem dL_1300 : decode code 1300 = .ok (.ireturn, 1) := by decide +kernel
theorem dL_1301 : decode code 1301 = .ok (.aload_n 1, 1) := by decide +kernel
theorem dL_1302 : decode code 1302 = .ok (.aload_n 0, 1) := by decide +kernel
theorem dL_1303 : decode code 1303 = .ok (.iload_n 3, 1) := by decide +kernel
theorem dL_1304 : decode code 1304 = .ok (.iconst 1, 1) := by decide +kernel
theorem dL_1305 : decode code 1305 = .ok (.iadd, 1) := by decide +kernel
theorem dL_1306 : decode code 1306 = .ok (.iaload, 1) := by decide +kernel
theorem dL_1307 : decode code 1307 = .ok (.aload_n 0, 1) := by decide +kernel
theorem dL_1308 : decode code 1308 = .ok (.iload_n 3, 1) := by decide +kernel
theorem dL_1309 : decode code 1309 = .ok (.iconst 2, 1) := by decide +kernel
theorem dL_1310 : decode code 1310 = .ok (.iadd, 1) := by decide +kernel
theorem dL_1311 : decode code 1311 = .ok (.iaload, 1) := by decide +kernel
theorem dL_1312 : decode code 1312 = .ok (.invokevirtual 150, 3) := by decide +kernel
theorem dL_1315 : decode code 1315 = .ok (.aload_n 2, 1) := by decide +kernel
theorem dL_1316 : decode code 1316 = .ok (.aload_n 0, 1) := by decide +kernel
theorem dL_1317 : decode code 1317 = .ok (.iload_n 3, 1) := by decide +kernel
theorem dL_1318 : decode code 1318 = .ok (.iconst 1, 1) := by decide +kernel
theorem dL_1319 : decode code 1319 = .ok (.iadd, 1) := by decide +kernel
theorem dL_1320 : decode code 1320 = .ok (.iaload, 1) := by decide +kernel
theorem dL_1321 : decode code 1321 = .ok (.aload_n 0, 1) := by decide +kernel
theorem dL_1322 : decode code 1322 = .ok (.iload_n 3, 1) := by decide +kernel
theorem dL_1323 : decode code 1323 = .ok (.iconst 2, 1) := by decide +kernel
theorem dL_1324 : decode code 1324 = .ok (.iadd, 1) := by decide +kernel
theorem dL_1325 : decode code 1325 = .ok (.iaload, 1) := by decide +kernel
theorem dL_1326 : decode code 1326 = .ok (.invokevirtual 153, 3) := by decide +kernel
theorem dL_1329 : decode code 1329 = .ok (.if_icmp .eq 133, 3) := by decide +kernel
theorem dL_1332 : decode code 1332 = .ok (.iconst 0, 1) := by decide +kernel
theorem dL_1333 : decode code 1333 = .ok (.ireturn, 1) := by decide +kernel
theorem dL_1334 : decode code 1334 = .ok (.aload_n 1, 1) := by decide +kernel
theorem dL_1335 : decode code 1335 = .ok (.aload_n 0, 1) := by decide +kernel
theorem dL_1336 : decode code 1336 = .ok (.iload_n 3, 1) := by decide +kernel
theorem dL_1337 : decode code 1337 = .ok (.iconst 1, 1) := by decide +kernel
theorem dL_1338 : decode code 1338 = .ok (.iadd, 1) := by decide +kernel
theorem dL_1339 : decode code 1339 = .ok (.iaload, 1) := by decide +kernel
theorem dL_1340 : decode code 1340 = .ok (.aload_n 0, 1) := by decide +kernel
theorem dL_1341 : decode code 1341 = .ok (.iload_n 3, 1) := by decide +kernel
theorem dL_1342 : decode code 1342 = .ok (.iconst 2, 1) := by decide +kernel
theorem dL_1343 : decode code 1343 = .ok (.iadd, 1) := by decide +kernel
theorem dL_1344 : decode code 1344 = .ok (.iaload, 1) := by decide +kernel
theorem dL_1345 : decode code 1345 = .ok (.aload_n 0, 1) := by decide +kernel
theorem dL_1346 : decode code 1346 = .ok (.iload_n 3, 1) := by decide +kernel
theorem dL_1347 : decode code 1347 = .ok (.iconst 3, 1) := by decide +kernel
theorem dL_1348 : decode code 1348 = .ok (.iadd, 1) := by decide +kernel
theorem dL_1349 : decode code 1349 = .ok (.iaload, 1) := by decide +kernel
theorem dL_1350 : decode code 1350 = .ok (.invokevirtual 154, 3) := by decide +kernel
theorem dL_1353 : decode code 1353 = .ok (.aload_n 2, 1) := by decide +kernel
theorem dL_1354 : decode code 1354 = .ok (.aload_n 0, 1) := by decide +kernel
theorem dL_1355 : decode code 1355 = .ok (.iload_n 3, 1) := by decide +kernel
theorem dL_1356 : decode code 1356 = .ok (.iconst 1, 1) := by decide +kernel
theorem dL_1357 : decode code 1357 = .ok (.iadd, 1) := by decide +kernel
theorem dL_1358 : decode code 1358 = .ok (.iaload, 1) := by decide +kernel
theorem dL_1359 : decode code 1359 = .ok (.aload_n 0, 1) := by decide +kernel
theorem dL_1360 : decode code 1360 = .ok (.iload_n 3, 1) := by decide +kernel
theorem dL_1361 : decode code 1361 = .ok (.iconst 2, 1) := by decide +kernel
theorem dL_1362 : decode code 1362 = .ok (.iadd, 1) := by decide +kernel
theorem dL_1363 : decode code 1363 = .ok (.iaload, 1) := by decide +kernel
theorem dL_1364 : decode code 1364 = .ok (.aload_n 0, 1) := by decide +kernel
theorem dL_1365 : decode code 1365 = .ok (.iload_n 3, 1) := by decide +kernel
theorem dL_1366 : decode code 1366 = .ok (.iconst 3, 1) := by decide +kernel
theorem dL_1367 : decode code 1367 = .ok (.iadd, 1) := by decide +kernel
theorem dL_1368 : decode code 1368 = .ok (.iaload, 1) := by decide +kernel
theorem dL_1369 : decode code 1369 = .ok (.invokevirtual 157, 3) := by decide +kernel
theorem dL_1372 : decode code 1372 = .ok (.if_icmp .eq 90, 3) := by decide +kernel
theorem dL_1375 : decode code 1375 = .ok (.iconst 0, 1) := by decide +kernel
theorem dL_1376 : decode code 1376 = .ok (.ireturn, 1) := by decide +kernel
theorem dL_1377 : decode code 1377 = .ok (.aload_n 1, 1) := by decide +kernel
theorem dL_1378 : decode code 1378 = .ok (.invokevirtual 158, 3) := by decide +kernel
theorem dL_1381 : decode code 1381 = .ok (.aload_n 2, 1) := by decide +kernel
theorem dL_1382 : decode code 1382 = .ok (.invokevirtual 161, 3) := by decide +kernel
theorem dL_1385 : decode code 1385 = .ok (.if_icmp .eq 77, 3) := by decide +kernel
theorem dL_1388 : decode code 1388 = .ok (.iconst 0, 1) := by decide +kernel
theorem dL_1389 : decode code 1389 = .ok (.ireturn, 1) := by decide +kernel
theorem dL_1390 : decode code 1390 = .ok (.aload_n 1, 1) := by decide +kernel
theorem dL_1391 : decode code 1391 = .ok (.invokevirtual 162, 3) := by decide +kernel
theorem dL_1394 : decode code 1394 = .ok (.aload_n 2, 1) := by decide +kernel
theorem dL_1395 : decode code 1395 = .ok (.invokevirtual 165, 3) := by decide +kernel
theorem dL_1398 : decode code 1398 = .ok (.if_icmp .eq 64, 3) := by decide +kernel
theorem dL_1401 : decode code 1401 = .ok (.iconst 0, 1) := by decide +kernel
theorem dL_1402 : decode code 1402 = .ok (.ireturn, 1) := by decide +kernel
theorem dL_1403 : decode code 1403 = .ok (.aload_n 1, 1) := by decide +kernel
theorem dL_1404 : decode code 1404 = .ok (.invokevirtual 166, 3) := by decide +kernel
theorem dL_1407 : decode code 1407 = .ok (.aload_n 2, 1) := by decide +kernel
theorem dL_1408 : decode code 1408 = .ok (.invokevirtual 169, 3) := by decide +kernel
theorem dL_1411 : decode code 1411 = .ok (.if_icmp .eq 51, 3) := by decide +kernel
theorem dL_1414 : decode code 1414 = .ok (.iconst 0, 1) := by decide +kernel
theorem dL_1415 : decode code 1415 = .ok (.ireturn, 1) := by decide +kernel
theorem dL_1416 : decode code 1416 = .ok (.aload_n 1, 1) := by decide +kernel
theorem dL_1417 : decode code 1417 = .ok (.aload_n 0, 1) := by decide +kernel
theorem dL_1418 : decode code 1418 = .ok (.iload_n 3, 1) := by decide +kernel
theorem dL_1419 : decode code 1419 = .ok (.iconst 1, 1) := by decide +kernel
theorem dL_1420 : decode code 1420 = .ok (.iadd, 1) := by decide +kernel
theorem dL_1421 : decode code 1421 = .ok (.iaload, 1) := by decide +kernel
theorem dL_1422 : decode code 1422 = .ok (.invokevirtual 170, 3) := by decide +kernel
theorem dL_1425 : decode code 1425 = .ok (.aload_n 2, 1) := by decide +kernel
theorem dL_1426 : decode code 1426 = .ok (.aload_n 0, 1) := by decide +kernel
theorem dL_1427 : decode code 1427 = .ok (.iload_n 3, 1) := by decide +kernel
theorem dL_1428 : decode code 1428 = .ok (.iconst 1, 1) := by decide +kernel
theorem dL_1429 : decode code 1429 = .ok (.iadd, 1) := by decide +kernel
theorem dL_1430 : decode code 1430 = .ok (.iaload, 1) := by decide +kernel
theorem dL_1431 : decode code 1431 = .ok (.invokevirtual 173, 3) := by decide +kernel
theorem dL_1434 : decode code 1434 = .ok (.if_icmp .eq 28, 3) := by decide +kernel
theorem dL_1437 : decode code 1437 = .ok (.iconst 0, 1) := by decide +kernel
theorem dL_1438 : decode code 1438 = .ok (.ireturn, 1) := by decide +kernel
theorem dL_1439 : decode code 1439 = .ok (.aload_n 1, 1) := by decide +kernel
theorem dL_1440 : decode code 1440 = .ok (.aload_n 0, 1) := by decide +kernel
theorem dL_1441 : decode code 1441 = .ok (.iload_n 3, 1) := by decide +kernel
theorem dL_1442 : decode code 1442 = .ok (.iconst 1, 1) := by decide +kernel
theorem dL_1443 : decode code 1443 = .ok (.iadd, 1) := by decide +kernel
theorem dL_1444 : decode code 1444 = .ok (.iaload, 1) := by decide +kernel
theorem dL_1445 : decode code 1445 = .ok (.invokevirtual 174, 3) := by decide +kernel
theorem dL_1448 : decode code 1448 = .ok (.aload_n 2, 1) := by decide +kernel
theorem dL_1449 : decode code 1449 = .ok (.aload_n 0, 1) := by decide +kernel
theorem dL_1450 : decode code 1450 = .ok (.iload_n 3, 1) := by decide +kernel
theorem dL_1451 : decode code 1451 = .ok (.iconst 1, 1) := by decide +kernel
theorem dL_1452 : decode code 1452 = .ok (.iadd, 1) := by decide +kernel
theorem dL_1453 : decode code 1453 = .ok (.iaload, 1) := by decide +kernel
theorem dL_1454 : decode code 1454 = .ok (.invokevirtual 177, 3) := by decide +kernel
theorem dL_1457 : decode code 1457 = .ok (.if_icmp .eq 5, 3) := by decide +kernel
theorem dL_1460 : decode code 1460 = .ok (.iconst 0, 1) := by decide +kernel
theorem dL_1461 : decode code 1461 = .ok (.ireturn, 1) := by decide +kernel
theorem dL_1462 : decode code 1462 = .ok (.iinc 3 6, 3) := by decide +kernel
theorem dL_1465 : decode code 1465 = .ok (.goto (-1447), 3) := by decide +kernel
theorem dL_1468 : decode code 1468 = .ok (.iconst 1, 1) := by decide +kernel
theorem dL_1469 : decode code 1469 = .ok (.ireturn, 1) := by decide +kernel
