theorem d_La_law_1369 : decode code 1369 = .ok (.aload_n 0, 1) := by decide +kernel
theorem d_La_law_1370 : decode code 1370 = .ok (.iload_n 3, 1) := by decide +kernel
theorem d_La_law_1371 : decode code 1371 = .ok (.iconst 1, 1) := by decide +kernel
theorem d_La_law_1372 : decode code 1372 = .ok (.iadd, 1) := by decide +kernel
theorem d_La_law_1373 : decode code 1373 = .ok (.iaload, 1) := by decide +kernel
theorem d_La_law_1374 : decode code 1374 = .ok (.aload_n 0, 1) := by decide +kernel
theorem d_La_law_1375 : decode code 1375 = .ok (.iload_n 3, 1) := by decide +kernel
theorem d_La_law_1376 : decode code 1376 = .ok (.iconst 2, 1) := by decide +kernel
theorem d_La_law_1377 : decode code 1377 = .ok (.iadd, 1) := by decide +kernel
theorem d_La_law_1378 : decode code 1378 = .ok (.iaload, 1) := by decide +kernel
theorem d_La_law_1379 : decode code 1379 = .ok (.invokevirtual 177, 3) := by decide +kernel
theorem d_La_law_1382 : decode code 1382 = .ok (.aload_n 2, 1) := by decide +kernel
theorem d_La_law_1383 : decode code 1383 = .ok (.aload_n 0, 1) := by decide +kernel
theorem d_La_law_1384 : decode code 1384 = .ok (.iload_n 3, 1) := by decide +kernel
theorem d_La_law_1385 : decode code 1385 = .ok (.iconst 1, 1) := by decide +kernel
theorem d_La_law_1386 : decode code 1386 = .ok (.iadd, 1) := by decide +kernel
theorem d_La_law_1387 : decode code 1387 = .ok (.iaload, 1) := by decide +kernel
theorem d_La_law_1388 : decode code 1388 = .ok (.aload_n 0, 1) := by decide +kernel
theorem d_La_law_1389 : decode code 1389 = .ok (.iload_n 3, 1) := by decide +kernel
theorem d_La_law_1390 : decode code 1390 = .ok (.iconst 2, 1) := by decide +kernel
theorem d_La_law_1391 : decode code 1391 = .ok (.iadd, 1) := by decide +kernel
theorem d_La_law_1392 : decode code 1392 = .ok (.iaload, 1) := by decide +kernel
theorem d_La_law_1393 : decode code 1393 = .ok (.invokevirtual 181, 3) := by decide +kernel
theorem d_La_law_1396 : decode code 1396 = .ok (.lcmp, 1) := by decide +kernel
theorem d_La_law_1397 : decode code 1397 = .ok (.ifCond .eq 124, 3) := by decide +kernel
theorem d_La_law_1400 : decode code 1400 = .ok (.iconst 0, 1) := by decide +kernel
theorem d_La_law_1401 : decode code 1401 = .ok (.ireturn, 1) := by decide +kernel
theorem d_La_law_1402 : decode code 1402 = .ok (.aload_n 1, 1) := by decide +kernel
theorem d_La_law_1403 : decode code 1403 = .ok (.aload_n 0, 1) := by decide +kernel
theorem d_La_law_1404 : decode code 1404 = .ok (.iload_n 3, 1) := by decide +kernel
theorem d_La_law_1405 : decode code 1405 = .ok (.iconst 1, 1) := by decide +kernel
theorem d_La_law_1406 : decode code 1406 = .ok (.iadd, 1) := by decide +kernel
theorem d_La_law_1407 : decode code 1407 = .ok (.iaload, 1) := by decide +kernel
theorem d_La_law_1408 : decode code 1408 = .ok (.aload_n 0, 1) := by decide +kernel
theorem d_La_law_1409 : decode code 1409 = .ok (.iload_n 3, 1) := by decide +kernel
theorem d_La_law_1410 : decode code 1410 = .ok (.iconst 2, 1) := by decide +kernel
theorem d_La_law_1411 : decode code 1411 = .ok (.iadd, 1) := by decide +kernel
theorem d_La_law_1412 : decode code 1412 = .ok (.iaload, 1) := by decide +kernel
theorem d_La_law_1413 : decode code 1413 = .ok (.aload_n 0, 1) := by decide +kernel
theorem d_La_law_1414 : decode code 1414 = .ok (.iload_n 3, 1) := by decide +kernel
theorem d_La_law_1415 : decode code 1415 = .ok (.iconst 3, 1) := by decide +kernel
theorem d_La_law_1416 : decode code 1416 = .ok (.iadd, 1) := by decide +kernel
theorem d_La_law_1417 : decode code 1417 = .ok (.iaload, 1) := by decide +kernel
theorem d_La_law_1418 : decode code 1418 = .ok (.aload_n 0, 1) := by decide +kernel
theorem d_La_law_1419 : decode code 1419 = .ok (.iload_n 3, 1) := by decide +kernel
theorem d_La_law_1420 : decode code 1420 = .ok (.iconst 4, 1) := by decide +kernel
theorem d_La_law_1421 : decode code 1421 = .ok (.iadd, 1) := by decide +kernel
theorem d_La_law_1422 : decode code 1422 = .ok (.iaload, 1) := by decide +kernel
theorem d_La_law_1423 : decode code 1423 = .ok (.aload_n 0, 1) := by decide +kernel
theorem d_La_law_1424 : decode code 1424 = .ok (.iload_n 3, 1) := by decide +kernel
theorem d_La_law_1425 : decode code 1425 = .ok (.iconst 5, 1) := by decide +kernel
theorem d_La_law_1426 : decode code 1426 = .ok (.iadd, 1) := by decide +kernel
theorem d_La_law_1427 : decode code 1427 = .ok (.iaload, 1) := by decide +kernel
theorem d_La_law_1428 : decode code 1428 = .ok (.invokevirtual 182, 3) := by decide +kernel
theorem d_La_law_1431 : decode code 1431 = .ok (.aload_n 2, 1) := by decide +kernel
theorem d_La_law_1432 : decode code 1432 = .ok (.aload_n 0, 1) := by decide +kernel
theorem d_La_law_1433 : decode code 1433 = .ok (.iload_n 3, 1) := by decide +kernel
theorem d_La_law_1434 : decode code 1434 = .ok (.iconst 1, 1) := by decide +kernel
theorem d_La_law_1435 : decode code 1435 = .ok (.iadd, 1) := by decide +kernel
theorem d_La_law_1436 : decode code 1436 = .ok (.iaload, 1) := by decide +kernel
theorem d_La_law_1437 : decode code 1437 = .ok (.aload_n 0, 1) := by decide +kernel
theorem d_La_law_1438 : decode code 1438 = .ok (.iload_n 3, 1) := by decide +kernel
theorem d_La_law_1439 : decode code 1439 = .ok (.iconst 2, 1) := by decide +kernel
theorem d_La_law_1440 : decode code 1440 = .ok (.iadd, 1) := by decide +kernel
theorem d_La_law_1441 : decode code 1441 = .ok (.iaload, 1) := by decide +kernel
theorem d_La_law_1442 : decode code 1442 = .ok (.aload_n 0, 1) := by decide +kernel
theorem d_La_law_1443 : decode code 1443 = .ok (.iload_n 3, 1) := by decide +kernel
theorem d_La_law_1444 : decode code 1444 = .ok (.iconst 3, 1) := by decide +kernel
theorem d_La_law_1445 : decode code 1445 = .ok (.iadd, 1) := by decide +kernel
theorem d_La_law_1446 : decode code 1446 = .ok (.iaload, 1) := by decide +kernel
theorem d_La_law_1447 : decode code 1447 = .ok (.aload_n 0, 1) := by decide +kernel
theorem d_La_law_1448 : decode code 1448 = .ok (.iload_n 3, 1) := by decide +kernel
theorem d_La_law_1449 : decode code 1449 = .ok (.iconst 4, 1) := by decide +kernel
theorem d_La_law_1450 : decode code 1450 = .ok (.iadd, 1) := by decide +kernel
theorem d_La_law_1451 : decode code 1451 = .ok (.iaload, 1) := by decide +kernel
theorem d_La_law_1452 : decode code 1452 = .ok (.aload_n 0, 1) := by decide +kernel
theorem d_La_law_1453 : decode code 1453 = .ok (.iload_n 3, 1) := by decide +kernel
theorem d_La_law_1454 : decode code 1454 = .ok (.iconst 5, 1) := by decide +kernel
theorem d_La_law_1455 : decode code 1455 = .ok (.iadd, 1) := by decide +kernel
theorem d_La_law_1456 : decode code 1456 = .ok (.iaload, 1) := by decide +kernel
theorem d_La_law_1457 : decode code 1457 = .ok (.invokevirtual 186, 3) := by decide +kernel
theorem d_La_law_1460 : decode code 1460 = .ok (.if_icmp .eq 61, 3) := by decide +kernel
theorem d_La_law_1463 : decode code 1463 = .ok (.iconst 0, 1) := by decide +kernel
theorem d_La_law_1464 : decode code 1464 = .ok (.ireturn, 1) := by decide +kernel
theorem d_La_law_1465 : decode code 1465 = .ok (.aload_n 1, 1) := by decide +kernel
theorem d_La_law_1466 : decode code 1466 = .ok (.aload_n 0, 1) := by decide +kernel
theorem d_La_law_1467 : decode code 1467 = .ok (.iload_n 3, 1) := by decide +kernel
theorem d_La_law_1468 : decode code 1468 = .ok (.iconst 1, 1) := by decide +kernel
theorem d_La_law_1469 : decode code 1469 = .ok (.iadd, 1) := by decide +kernel
theorem d_La_law_1470 : decode code 1470 = .ok (.iaload, 1) := by decide +kernel
theorem d_La_law_1471 : decode code 1471 = .ok (.aload_n 0, 1) := by decide +kernel
theorem d_La_law_1472 : decode code 1472 = .ok (.iload_n 3, 1) := by decide +kernel
theorem d_La_law_1473 : decode code 1473 = .ok (.iconst 2, 1) := by decide +kernel
theorem d_La_law_1474 : decode code 1474 = .ok (.iadd, 1) := by decide +kernel
theorem d_La_law_1475 : decode code 1475 = .ok (.iaload, 1) := by decide +kernel
theorem d_La_law_1476 : decode code 1476 = .ok (.invokevirtual 187, 3) := by decide +kernel
theorem d_La_law_1479 : decode code 1479 = .ok (.aload_n 2, 1) := by decide +kernel
theorem d_La_law_1480 : decode code 1480 = .ok (.aload_n 0, 1) := by decide +kernel
theorem d_La_law_1481 : decode code 1481 = .ok (.iload_n 3, 1) := by decide +kernel
theorem d_La_law_1482 : decode code 1482 = .ok (.iconst 1, 1) := by decide +kernel
theorem d_La_law_1483 : decode code 1483 = .ok (.iadd, 1) := by decide +kernel
theorem d_La_law_1484 : decode code 1484 = .ok (.iaload, 1) := by decide +kernel
theorem d_La_law_1485 : decode code 1485 = .ok (.aload_n 0, 1) := by decide +kernel
theorem d_La_law_1486 : decode code 1486 = .ok (.iload_n 3, 1) := by decide +kernel
theorem d_La_law_1487 : decode code 1487 = .ok (.iconst 2, 1) := by decide +kernel
theorem d_La_law_1488 : decode code 1488 = .ok (.iadd, 1) := by decide +kernel
theorem d_La_law_1489 : decode code 1489 = .ok (.iaload, 1) := by decide +kernel
theorem d_La_law_1490 : decode code 1490 = .ok (.invokevirtual 190, 3) := by decide +kernel
theorem d_La_law_1493 : decode code 1493 = .ok (.if_icmp .eq 28, 3) := by decide +kernel
theorem d_La_law_1496 : decode code 1496 = .ok (.iconst 0, 1) := by decide +kernel
theorem d_La_law_1497 : decode code 1497 = .ok (.ireturn, 1) := by decide +kernel
theorem d_La_law_1498 : decode code 1498 = .ok (.aload_n 1, 1) := by decide +kernel
theorem d_La_law_1499 : decode code 1499 = .ok (.aload_n 0, 1) := by decide +kernel
theorem d_La_law_1500 : decode code 1500 = .ok (.iload_n 3, 1) := by decide +kernel
theorem d_La_law_1501 : decode code 1501 = .ok (.iconst 1, 1) := by decide +kernel
theorem d_La_law_1502 : decode code 1502 = .ok (.iadd, 1) := by decide +kernel
theorem d_La_law_1503 : decode code 1503 = .ok (.iaload, 1) := by decide +kernel
theorem d_La_law_1504 : decode code 1504 = .ok (.invokevirtual 191, 3) := by decide +kernel
theorem d_La_law_1507 : decode code 1507 = .ok (.aload_n 2, 1) := by decide +kernel
theorem d_La_law_1508 : decode code 1508 = .ok (.aload_n 0, 1) := by decide +kernel
theorem d_La_law_1509 : decode code 1509 = .ok (.iload_n 3, 1) := by decide +kernel
theorem d_La_law_1510 : decode code 1510 = .ok (.iconst 1, 1) := by decide +kernel
theorem d_La_law_1511 : decode code 1511 = .ok (.iadd, 1) := by decide +kernel
theorem d_La_law_1512 : decode code 1512 = .ok (.iaload, 1) := by decide +kernel
theorem d_La_law_1513 : decode code 1513 = .ok (.invokevirtual 194, 3) := by decide +kernel
theorem d_La_law_1516 : decode code 1516 = .ok (.if_icmp .eq 5, 3) := by decide +kernel
theorem d_La_law_1519 : decode code 1519 = .ok (.iconst 0, 1) := by decide +kernel
theorem d_La_law_1520 : decode code 1520 = .ok (.ireturn, 1) := by decide +kernel
theorem d_La_law_1521 : decode code 1521 = .ok (.iinc 3 6, 3) := by decide +kernel
theorem d_La_law_1524 : decode code 1524 = .ok (.goto (-1506), 3) := by decide +kernel
theorem d_La_law_1527 : decode code 1527 = .ok (.iconst 1, 1) := by decide +kernel
theorem d_La_law_1528 : decode code 1528 = .ok (.ireturn, 1) := by decide +kernel
