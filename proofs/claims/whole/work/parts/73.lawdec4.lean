theorem dLaw_1242 : decode cLaw 1242 = .ok (.aload_n 3, 1) := by decide +kernel
theorem dLaw_1243 : decode cLaw 1243 = .ok (.iconst 0, 1) := by decide +kernel
theorem dLaw_1244 : decode cLaw 1244 = .ok (.laload, 1) := by decide +kernel
theorem dLaw_1245 : decode cLaw 1245 = .ok (.iload 6, 2) := by decide +kernel
theorem dLaw_1247 : decode cLaw 1247 = .ok (.i2l, 1) := by decide +kernel
theorem dLaw_1248 : decode cLaw 1248 = .ok (.lcmp, 1) := by decide +kernel
theorem dLaw_1249 : decode cLaw 1249 = .ok (.ifCond .eq 5, 3) := by decide +kernel
theorem dLaw_1252 : decode cLaw 1252 = .ok (.iconst 0, 1) := by decide +kernel
theorem dLaw_1253 : decode cLaw 1253 = .ok (.ireturn, 1) := by decide +kernel
theorem dLaw_1254 : decode cLaw 1254 = .ok (.goto 267, 3) := by decide +kernel
theorem dLaw_1257 : decode cLaw 1257 = .ok (.aload_n 1, 1) := by decide +kernel
theorem dLaw_1258 : decode cLaw 1258 = .ok (.aload_n 0, 1) := by decide +kernel
theorem dLaw_1259 : decode cLaw 1259 = .ok (.iload 4, 2) := by decide +kernel
theorem dLaw_1261 : decode cLaw 1261 = .ok (.iconst 1, 1) := by decide +kernel
theorem dLaw_1262 : decode cLaw 1262 = .ok (.iadd, 1) := by decide +kernel
theorem dLaw_1263 : decode cLaw 1263 = .ok (.iaload, 1) := by decide +kernel
theorem dLaw_1264 : decode cLaw 1264 = .ok (.aload_n 0, 1) := by decide +kernel
theorem dLaw_1265 : decode cLaw 1265 = .ok (.iload 4, 2) := by decide +kernel
theorem dLaw_1267 : decode cLaw 1267 = .ok (.iconst 2, 1) := by decide +kernel
theorem dLaw_1268 : decode cLaw 1268 = .ok (.iadd, 1) := by decide +kernel
theorem dLaw_1269 : decode cLaw 1269 = .ok (.iaload, 1) := by decide +kernel
theorem dLaw_1270 : decode cLaw 1270 = .ok (.invokevirtual 158, 3) := by decide +kernel
theorem dLaw_1273 : decode cLaw 1273 = .ok (.aload_n 2, 1) := by decide +kernel
theorem dLaw_1274 : decode cLaw 1274 = .ok (.aload_n 0, 1) := by decide +kernel
theorem dLaw_1275 : decode cLaw 1275 = .ok (.iload 4, 2) := by decide +kernel
theorem dLaw_1277 : decode cLaw 1277 = .ok (.iconst 1, 1) := by decide +kernel
theorem dLaw_1278 : decode cLaw 1278 = .ok (.iadd, 1) := by decide +kernel
theorem dLaw_1279 : decode cLaw 1279 = .ok (.iaload, 1) := by decide +kernel
theorem dLaw_1280 : decode cLaw 1280 = .ok (.aload_n 0, 1) := by decide +kernel
theorem dLaw_1281 : decode cLaw 1281 = .ok (.iload 4, 2) := by decide +kernel
theorem dLaw_1283 : decode cLaw 1283 = .ok (.iconst 2, 1) := by decide +kernel
theorem dLaw_1284 : decode cLaw 1284 = .ok (.iadd, 1) := by decide +kernel
theorem dLaw_1285 : decode cLaw 1285 = .ok (.iaload, 1) := by decide +kernel
theorem dLaw_1286 : decode cLaw 1286 = .ok (.invokevirtual 161, 3) := by decide +kernel
theorem dLaw_1289 : decode cLaw 1289 = .ok (.if_icmp .eq 232, 3) := by decide +kernel
theorem dLaw_1292 : decode cLaw 1292 = .ok (.iconst 0, 1) := by decide +kernel
theorem dLaw_1293 : decode cLaw 1293 = .ok (.ireturn, 1) := by decide +kernel
theorem dLaw_1294 : decode cLaw 1294 = .ok (.aload_n 1, 1) := by decide +kernel
theorem dLaw_1295 : decode cLaw 1295 = .ok (.aload_n 0, 1) := by decide +kernel
theorem dLaw_1296 : decode cLaw 1296 = .ok (.iload 4, 2) := by decide +kernel
theorem dLaw_1298 : decode cLaw 1298 = .ok (.iconst 1, 1) := by decide +kernel
theorem dLaw_1299 : decode cLaw 1299 = .ok (.iadd, 1) := by decide +kernel
theorem dLaw_1300 : decode cLaw 1300 = .ok (.iaload, 1) := by decide +kernel
theorem dLaw_1301 : decode cLaw 1301 = .ok (.aload_n 3, 1) := by decide +kernel
theorem dLaw_1302 : decode cLaw 1302 = .ok (.invokestatic 162, 3) := by decide +kernel
theorem dLaw_1305 : decode cLaw 1305 = .ok (.istore 5, 2) := by decide +kernel
theorem dLaw_1307 : decode cLaw 1307 = .ok (.aload_n 2, 1) := by decide +kernel
theorem dLaw_1308 : decode cLaw 1308 = .ok (.aload_n 0, 1) := by decide +kernel
theorem dLaw_1309 : decode cLaw 1309 = .ok (.iload 4, 2) := by decide +kernel
theorem dLaw_1311 : decode cLaw 1311 = .ok (.iconst 1, 1) := by decide +kernel
theorem dLaw_1312 : decode cLaw 1312 = .ok (.iadd, 1) := by decide +kernel
theorem dLaw_1313 : decode cLaw 1313 = .ok (.iaload, 1) := by decide +kernel
theorem dLaw_1314 : decode cLaw 1314 = .ok (.invokevirtual 164, 3) := by decide +kernel
theorem dLaw_1317 : decode cLaw 1317 = .ok (.istore 6, 2) := by decide +kernel
theorem dLaw_1319 : decode cLaw 1319 = .ok (.aload_n 2, 1) := by decide +kernel
theorem dLaw_1320 : decode cLaw 1320 = .ok (.invokevirtual 83, 3) := by decide +kernel
theorem dLaw_1323 : decode cLaw 1323 = .ok (.iload 5, 2) := by decide +kernel
theorem dLaw_1325 : decode cLaw 1325 = .ok (.if_icmp .eq 5, 3) := by decide +kernel
theorem dLaw_1328 : decode cLaw 1328 = .ok (.iconst 0, 1) := by decide +kernel
theorem dLaw_1329 : decode cLaw 1329 = .ok (.ireturn, 1) := by decide +kernel
theorem dLaw_1330 : decode cLaw 1330 = .ok (.iload 5, 2) := by decide +kernel
theorem dLaw_1332 : decode cLaw 1332 = .ok (.ifCond .ne 15, 3) := by decide +kernel
theorem dLaw_1335 : decode cLaw 1335 = .ok (.aload_n 3, 1) := by decide +kernel
theorem dLaw_1336 : decode cLaw 1336 = .ok (.iconst 0, 1) := by decide +kernel
theorem dLaw_1337 : decode cLaw 1337 = .ok (.laload, 1) := by decide +kernel
theorem dLaw_1338 : decode cLaw 1338 = .ok (.iload 6, 2) := by decide +kernel
theorem dLaw_1340 : decode cLaw 1340 = .ok (.i2l, 1) := by decide +kernel
theorem dLaw_1341 : decode cLaw 1341 = .ok (.lcmp, 1) := by decide +kernel
theorem dLaw_1342 : decode cLaw 1342 = .ok (.ifCond .eq 5, 3) := by decide +kernel
theorem dLaw_1345 : decode cLaw 1345 = .ok (.iconst 0, 1) := by decide +kernel
theorem dLaw_1346 : decode cLaw 1346 = .ok (.ireturn, 1) := by decide +kernel
theorem dLaw_1347 : decode cLaw 1347 = .ok (.goto 174, 3) := by decide +kernel
theorem dLaw_1350 : decode cLaw 1350 = .ok (.aload_n 1, 1) := by decide +kernel
theorem dLaw_1351 : decode cLaw 1351 = .ok (.aload_n 0, 1) := by decide +kernel
theorem dLaw_1352 : decode cLaw 1352 = .ok (.iload 4, 2) := by decide +kernel
theorem dLaw_1354 : decode cLaw 1354 = .ok (.iconst 1, 1) := by decide +kernel
theorem dLaw_1355 : decode cLaw 1355 = .ok (.iadd, 1) := by decide +kernel
theorem dLaw_1356 : decode cLaw 1356 = .ok (.iaload, 1) := by decide +kernel
theorem dLaw_1357 : decode cLaw 1357 = .ok (.aload_n 3, 1) := by decide +kernel
theorem dLaw_1358 : decode cLaw 1358 = .ok (.invokestatic 165, 3) := by decide +kernel
theorem dLaw_1361 : decode cLaw 1361 = .ok (.istore 5, 2) := by decide +kernel
theorem dLaw_1363 : decode cLaw 1363 = .ok (.aload_n 2, 1) := by decide +kernel
theorem dLaw_1364 : decode cLaw 1364 = .ok (.aload_n 0, 1) := by decide +kernel
theorem dLaw_1365 : decode cLaw 1365 = .ok (.iload 4, 2) := by decide +kernel
theorem dLaw_1367 : decode cLaw 1367 = .ok (.iconst 1, 1) := by decide +kernel
theorem dLaw_1368 : decode cLaw 1368 = .ok (.iadd, 1) := by decide +kernel
theorem dLaw_1369 : decode cLaw 1369 = .ok (.iaload, 1) := by decide +kernel
theorem dLaw_1370 : decode cLaw 1370 = .ok (.invokevirtual 167, 3) := by decide +kernel
theorem dLaw_1373 : decode cLaw 1373 = .ok (.istore 6, 2) := by decide +kernel
theorem dLaw_1375 : decode cLaw 1375 = .ok (.aload_n 2, 1) := by decide +kernel
theorem dLaw_1376 : decode cLaw 1376 = .ok (.invokevirtual 83, 3) := by decide +kernel
theorem dLaw_1379 : decode cLaw 1379 = .ok (.iload 5, 2) := by decide +kernel
theorem dLaw_1381 : decode cLaw 1381 = .ok (.if_icmp .eq 5, 3) := by decide +kernel
theorem dLaw_1384 : decode cLaw 1384 = .ok (.iconst 0, 1) := by decide +kernel
theorem dLaw_1385 : decode cLaw 1385 = .ok (.ireturn, 1) := by decide +kernel
theorem dLaw_1386 : decode cLaw 1386 = .ok (.iload 5, 2) := by decide +kernel
theorem dLaw_1388 : decode cLaw 1388 = .ok (.ifCond .ne 15, 3) := by decide +kernel
theorem dLaw_1391 : decode cLaw 1391 = .ok (.aload_n 3, 1) := by decide +kernel
theorem dLaw_1392 : decode cLaw 1392 = .ok (.iconst 0, 1) := by decide +kernel
theorem dLaw_1393 : decode cLaw 1393 = .ok (.laload, 1) := by decide +kernel
theorem dLaw_1394 : decode cLaw 1394 = .ok (.iload 6, 2) := by decide +kernel
theorem dLaw_1396 : decode cLaw 1396 = .ok (.i2l, 1) := by decide +kernel
theorem dLaw_1397 : decode cLaw 1397 = .ok (.lcmp, 1) := by decide +kernel
theorem dLaw_1398 : decode cLaw 1398 = .ok (.ifCond .eq 5, 3) := by decide +kernel
theorem dLaw_1401 : decode cLaw 1401 = .ok (.iconst 0, 1) := by decide +kernel
theorem dLaw_1402 : decode cLaw 1402 = .ok (.ireturn, 1) := by decide +kernel
theorem dLaw_1403 : decode cLaw 1403 = .ok (.goto 118, 3) := by decide +kernel
theorem dLaw_1406 : decode cLaw 1406 = .ok (.aload_n 1, 1) := by decide +kernel
theorem dLaw_1407 : decode cLaw 1407 = .ok (.invokevirtual 168, 3) := by decide +kernel
theorem dLaw_1410 : decode cLaw 1410 = .ok (.aload_n 2, 1) := by decide +kernel
theorem dLaw_1411 : decode cLaw 1411 = .ok (.invokevirtual 171, 3) := by decide +kernel
theorem dLaw_1414 : decode cLaw 1414 = .ok (.goto 107, 3) := by decide +kernel
theorem dLaw_1417 : decode cLaw 1417 = .ok (.aload_n 1, 1) := by decide +kernel
theorem dLaw_1418 : decode cLaw 1418 = .ok (.aload_n 0, 1) := by decide +kernel
theorem dLaw_1419 : decode cLaw 1419 = .ok (.iload 4, 2) := by decide +kernel
theorem dLaw_1421 : decode cLaw 1421 = .ok (.iconst 1, 1) := by decide +kernel
theorem dLaw_1422 : decode cLaw 1422 = .ok (.iadd, 1) := by decide +kernel
theorem dLaw_1423 : decode cLaw 1423 = .ok (.iaload, 1) := by decide +kernel
theorem dLaw_1424 : decode cLaw 1424 = .ok (.aload_n 0, 1) := by decide +kernel
theorem dLaw_1425 : decode cLaw 1425 = .ok (.iload 4, 2) := by decide +kernel
theorem dLaw_1427 : decode cLaw 1427 = .ok (.iconst 2, 1) := by decide +kernel
theorem dLaw_1428 : decode cLaw 1428 = .ok (.iadd, 1) := by decide +kernel
theorem dLaw_1429 : decode cLaw 1429 = .ok (.iaload, 1) := by decide +kernel
theorem dLaw_1430 : decode cLaw 1430 = .ok (.aload_n 0, 1) := by decide +kernel
theorem dLaw_1431 : decode cLaw 1431 = .ok (.iload 4, 2) := by decide +kernel
theorem dLaw_1433 : decode cLaw 1433 = .ok (.iconst 3, 1) := by decide +kernel
theorem dLaw_1434 : decode cLaw 1434 = .ok (.iadd, 1) := by decide +kernel
theorem dLaw_1435 : decode cLaw 1435 = .ok (.iaload, 1) := by decide +kernel
theorem dLaw_1436 : decode cLaw 1436 = .ok (.aload_n 3, 1) := by decide +kernel
theorem dLaw_1437 : decode cLaw 1437 = .ok (.invokestatic 172, 3) := by decide +kernel
theorem dLaw_1440 : decode cLaw 1440 = .ok (.istore 5, 2) := by decide +kernel
theorem dLaw_1442 : decode cLaw 1442 = .ok (.aload_n 2, 1) := by decide +kernel
theorem dLaw_1443 : decode cLaw 1443 = .ok (.aload_n 0, 1) := by decide +kernel
theorem dLaw_1444 : decode cLaw 1444 = .ok (.iload 4, 2) := by decide +kernel
theorem dLaw_1446 : decode cLaw 1446 = .ok (.iconst 1, 1) := by decide +kernel
theorem dLaw_1447 : decode cLaw 1447 = .ok (.iadd, 1) := by decide +kernel
theorem dLaw_1448 : decode cLaw 1448 = .ok (.iaload, 1) := by decide +kernel
theorem dLaw_1449 : decode cLaw 1449 = .ok (.aload_n 0, 1) := by decide +kernel
theorem dLaw_1450 : decode cLaw 1450 = .ok (.iload 4, 2) := by decide +kernel
theorem dLaw_1452 : decode cLaw 1452 = .ok (.iconst 2, 1) := by decide +kernel
theorem dLaw_1453 : decode cLaw 1453 = .ok (.iadd, 1) := by decide +kernel
theorem dLaw_1454 : decode cLaw 1454 = .ok (.iaload, 1) := by decide +kernel
theorem dLaw_1455 : decode cLaw 1455 = .ok (.aload_n 0, 1) := by decide +kernel
theorem dLaw_1456 : decode cLaw 1456 = .ok (.iload 4, 2) := by decide +kernel
theorem dLaw_1458 : decode cLaw 1458 = .ok (.iconst 3, 1) := by decide +kernel
theorem dLaw_1459 : decode cLaw 1459 = .ok (.iadd, 1) := by decide +kernel
theorem dLaw_1460 : decode cLaw 1460 = .ok (.iaload, 1) := by decide +kernel
theorem dLaw_1461 : decode cLaw 1461 = .ok (.invokevirtual 174, 3) := by decide +kernel
theorem dLaw_1464 : decode cLaw 1464 = .ok (.istore 6, 2) := by decide +kernel
theorem dLaw_1466 : decode cLaw 1466 = .ok (.aload_n 2, 1) := by decide +kernel
theorem dLaw_1467 : decode cLaw 1467 = .ok (.invokevirtual 83, 3) := by decide +kernel
theorem dLaw_1470 : decode cLaw 1470 = .ok (.iload 5, 2) := by decide +kernel
theorem dLaw_1472 : decode cLaw 1472 = .ok (.if_icmp .eq 5, 3) := by decide +kernel
theorem dLaw_1475 : decode cLaw 1475 = .ok (.iconst 0, 1) := by decide +kernel
theorem dLaw_1476 : decode cLaw 1476 = .ok (.ireturn, 1) := by decide +kernel
theorem dLaw_1477 : decode cLaw 1477 = .ok (.iload 5, 2) := by decide +kernel
theorem dLaw_1479 : decode cLaw 1479 = .ok (.ifCond .ne 15, 3) := by decide +kernel
theorem dLaw_1482 : decode cLaw 1482 = .ok (.aload_n 3, 1) := by decide +kernel
theorem dLaw_1483 : decode cLaw 1483 = .ok (.iconst 0, 1) := by decide +kernel
theorem dLaw_1484 : decode cLaw 1484 = .ok (.laload, 1) := by decide +kernel
theorem dLaw_1485 : decode cLaw 1485 = .ok (.iload 6, 2) := by decide +kernel
theorem dLaw_1487 : decode cLaw 1487 = .ok (.i2l, 1) := by decide +kernel
theorem dLaw_1488 : decode cLaw 1488 = .ok (.lcmp, 1) := by decide +kernel
theorem dLaw_1489 : decode cLaw 1489 = .ok (.ifCond .eq 5, 3) := by decide +kernel
theorem dLaw_1492 : decode cLaw 1492 = .ok (.iconst 0, 1) := by decide +kernel
theorem dLaw_1493 : decode cLaw 1493 = .ok (.ireturn, 1) := by decide +kernel
theorem dLaw_1494 : decode cLaw 1494 = .ok (.goto 27, 3) := by decide +kernel
theorem dLaw_1497 : decode cLaw 1497 = .ok (.aload_n 1, 1) := by decide +kernel
theorem dLaw_1498 : decode cLaw 1498 = .ok (.invokevirtual 175, 3) := by decide +kernel
theorem dLaw_1501 : decode cLaw 1501 = .ok (.aload_n 2, 1) := by decide +kernel
theorem dLaw_1502 : decode cLaw 1502 = .ok (.invokevirtual 178, 3) := by decide +kernel
theorem dLaw_1505 : decode cLaw 1505 = .ok (.goto 16, 3) := by decide +kernel
theorem dLaw_1508 : decode cLaw 1508 = .ok (.aload_n 1, 1) := by decide +kernel
theorem dLaw_1509 : decode cLaw 1509 = .ok (.invokevirtual 179, 3) := by decide +kernel
theorem dLaw_1512 : decode cLaw 1512 = .ok (.aload_n 2, 1) := by decide +kernel
theorem dLaw_1513 : decode cLaw 1513 = .ok (.invokevirtual 183, 3) := by decide +kernel
theorem dLaw_1516 : decode cLaw 1516 = .ok (.if_icmp .eq 5, 3) := by decide +kernel
theorem dLaw_1519 : decode cLaw 1519 = .ok (.iconst 0, 1) := by decide +kernel
theorem dLaw_1520 : decode cLaw 1520 = .ok (.ireturn, 1) := by decide +kernel
theorem dLaw_1521 : decode cLaw 1521 = .ok (.iinc 4 6, 3) := by decide +kernel
theorem dLaw_1524 : decode cLaw 1524 = .ok (.goto (-1501), 3) := by decide +kernel
theorem dLaw_1527 : decode cLaw 1527 = .ok (.iconst 1, 1) := by decide +kernel
theorem dLaw_1528 : decode cLaw 1528 = .ok (.ireturn, 1) := by decide +kernel
