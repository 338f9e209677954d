/-! the law's entry, decoded -/
theorem dL_1372 : decode code 1372 = .ok (.iconst 2, 1) := by decide +kernel
theorem dL_1373 : decode code 1373 = .ok (.iadd, 1) := by decide +kernel
theorem dL_1374 : decode code 1374 = .ok (.iaload, 1) := by decide +kernel
theorem dL_1375 : decode code 1375 = .ok (.aload_n 0, 1) := by decide +kernel
theorem dL_1376 : decode code 1376 = .ok (.iload_n 3, 1) := by decide +kernel
theorem dL_1377 : decode code 1377 = .ok (.iconst 3, 1) := by decide +kernel
theorem dL_1378 : decode code 1378 = .ok (.iadd, 1) := by decide +kernel
theorem dL_1379 : decode code 1379 = .ok (.iaload, 1) := by decide +kernel
theorem dL_1380 : decode code 1380 = .ok (.invokevirtual 183, 3) := by decide +kernel
theorem dL_1383 : decode code 1383 = .ok (.aload_n 2, 1) := by decide +kernel
theorem dL_1384 : decode code 1384 = .ok (.aload_n 0, 1) := by decide +kernel
theorem dL_1385 : decode code 1385 = .ok (.iload_n 3, 1) := by decide +kernel
theorem dL_1386 : decode code 1386 = .ok (.iconst 1, 1) := by decide +kernel
theorem dL_1387 : decode code 1387 = .ok (.iadd, 1) := by decide +kernel
theorem dL_1388 : decode code 1388 = .ok (.iaload, 1) := by decide +kernel
theorem dL_1389 : decode code 1389 = .ok (.aload_n 0, 1) := by decide +kernel
theorem dL_1390 : decode code 1390 = .ok (.iload_n 3, 1) := by decide +kernel
theorem dL_1391 : decode code 1391 = .ok (.iconst 2, 1) := by decide +kernel
theorem dL_1392 : decode code 1392 = .ok (.iadd, 1) := by decide +kernel
theorem dL_1393 : decode code 1393 = .ok (.iaload, 1) := by decide +kernel
theorem dL_1394 : decode code 1394 = .ok (.aload_n 0, 1) := by decide +kernel
theorem dL_1395 : decode code 1395 = .ok (.iload_n 3, 1) := by decide +kernel
theorem dL_1396 : decode code 1396 = .ok (.iconst 3, 1) := by decide +kernel
theorem dL_1397 : decode code 1397 = .ok (.iadd, 1) := by decide +kernel
theorem dL_1398 : decode code 1398 = .ok (.iaload, 1) := by decide +kernel
theorem dL_1399 : decode code 1399 = .ok (.invokevirtual 186, 3) := by decide +kernel
theorem dL_1402 : decode code 1402 = .ok (.if_icmp .eq 199, 3) := by decide +kernel
theorem dL_1405 : decode code 1405 = .ok (.iconst 0, 1) := by decide +kernel
theorem dL_1406 : decode code 1406 = .ok (.ireturn, 1) := by decide +kernel
theorem dL_1407 : decode code 1407 = .ok (.aload_n 1, 1) := by decide +kernel
theorem dL_1408 : decode code 1408 = .ok (.aload_n 0, 1) := by decide +kernel
theorem dL_1409 : decode code 1409 = .ok (.iload_n 3, 1) := by decide +kernel
theorem dL_1410 : decode code 1410 = .ok (.iconst 1, 1) := by decide +kernel
theorem dL_1411 : decode code 1411 = .ok (.iadd, 1) := by decide +kernel
theorem dL_1412 : decode code 1412 = .ok (.iaload, 1) := by decide +kernel
theorem dL_1413 : decode code 1413 = .ok (.aload_n 0, 1) := by decide +kernel
theorem dL_1414 : decode code 1414 = .ok (.iload_n 3, 1) := by decide +kernel
theorem dL_1415 : decode code 1415 = .ok (.iconst 2, 1) := by decide +kernel
theorem dL_1416 : decode code 1416 = .ok (.iadd, 1) := by decide +kernel
theorem dL_1417 : decode code 1417 = .ok (.iaload, 1) := by decide +kernel
theorem dL_1418 : decode code 1418 = .ok (.aload_n 0, 1) := by decide +kernel
theorem dL_1419 : decode code 1419 = .ok (.iload_n 3, 1) := by decide +kernel
theorem dL_1420 : decode code 1420 = .ok (.iconst 3, 1) := by decide +kernel
theorem dL_1421 : decode code 1421 = .ok (.iadd, 1) := by decide +kernel
theorem dL_1422 : decode code 1422 = .ok (.iaload, 1) := by decide +kernel
theorem dL_1423 : decode code 1423 = .ok (.aload_n 0, 1) := by decide +kernel
theorem dL_1424 : decode code 1424 = .ok (.iload_n 3, 1) := by decide +kernel
theorem dL_1425 : decode code 1425 = .ok (.iconst 4, 1) := by decide +kernel
theorem dL_1426 : decode code 1426 = .ok (.iadd, 1) := by decide +kernel
theorem dL_1427 : decode code 1427 = .ok (.iaload, 1) := by decide +kernel
theorem dL_1428 : decode code 1428 = .ok (.aload_n 0, 1) := by decide +kernel
theorem dL_1429 : decode code 1429 = .ok (.iload_n 3, 1) := by decide +kernel
theorem dL_1430 : decode code 1430 = .ok (.iconst 5, 1) := by decide +kernel
theorem dL_1431 : decode code 1431 = .ok (.iadd, 1) := by decide +kernel
theorem dL_1432 : decode code 1432 = .ok (.iaload, 1) := by decide +kernel
theorem dL_1433 : decode code 1433 = .ok (.invokevirtual 187, 3) := by decide +kernel
theorem dL_1436 : decode code 1436 = .ok (.aload_n 2, 1) := by decide +kernel
theorem dL_1437 : decode code 1437 = .ok (.aload_n 0, 1) := by decide +kernel
theorem dL_1438 : decode code 1438 = .ok (.iload_n 3, 1) := by decide +kernel
theorem dL_1439 : decode code 1439 = .ok (.iconst 1, 1) := by decide +kernel
theorem dL_1440 : decode code 1440 = .ok (.iadd, 1) := by decide +kernel
theorem dL_1441 : decode code 1441 = .ok (.iaload, 1) := by decide +kernel
theorem dL_1442 : decode code 1442 = .ok (.aload_n 0, 1) := by decide +kernel
theorem dL_1443 : decode code 1443 = .ok (.iload_n 3, 1) := by decide +kernel
theorem dL_1444 : decode code 1444 = .ok (.iconst 2, 1) := by decide +kernel
theorem dL_1445 : decode code 1445 = .ok (.iadd, 1) := by decide +kernel
theorem dL_1446 : decode code 1446 = .ok (.iaload, 1) := by decide +kernel
theorem dL_1447 : decode code 1447 = .ok (.aload_n 0, 1) := by decide +kernel
theorem dL_1448 : decode code 1448 = .ok (.iload_n 3, 1) := by decide +kernel
theorem dL_1449 : decode code 1449 = .ok (.iconst 3, 1) := by decide +kernel
theorem dL_1450 : decode code 1450 = .ok (.iadd, 1) := by decide +kernel
theorem dL_1451 : decode code 1451 = .ok (.iaload, 1) := by decide +kernel
theorem dL_1452 : decode code 1452 = .ok (.aload_n 0, 1) := by decide +kernel
theorem dL_1453 : decode code 1453 = .ok (.iload_n 3, 1) := by decide +kernel
theorem dL_1454 : decode code 1454 = .ok (.iconst 4, 1) := by decide +kernel
theorem dL_1455 : decode code 1455 = .ok (.iadd, 1) := by decide +kernel
theorem dL_1456 : decode code 1456 = .ok (.iaload, 1) := by decide +kernel
theorem dL_1457 : decode code 1457 = .ok (.aload_n 0, 1) := by decide +kernel
theorem dL_1458 : decode code 1458 = .ok (.iload_n 3, 1) := by decide +kernel
theorem dL_1459 : decode code 1459 = .ok (.iconst 5, 1) := by decide +kernel
theorem dL_1460 : decode code 1460 = .ok (.iadd, 1) := by decide +kernel
theorem dL_1461 : decode code 1461 = .ok (.iaload, 1) := by decide +kernel
theorem dL_1462 : decode code 1462 = .ok (.invokevirtual 191, 3) := by decide +kernel
theorem dL_1465 : decode code 1465 = .ok (.if_icmp .eq 136, 3) := by decide +kernel
theorem dL_1468 : decode code 1468 = .ok (.iconst 0, 1) := by decide +kernel
theorem dL_1469 : decode code 1469 = .ok (.ireturn, 1) := by decide +kernel
theorem dL_1470 : decode code 1470 = .ok (.aload_n 1, 1) := by decide +kernel
theorem dL_1471 : decode code 1471 = .ok (.aload_n 0, 1) := by decide +kernel
theorem dL_1472 : decode code 1472 = .ok (.iload_n 3, 1) := by decide +kernel
theorem dL_1473 : decode code 1473 = .ok (.iconst 1, 1) := by decide +kernel
theorem dL_1474 : decode code 1474 = .ok (.iadd, 1) := by decide +kernel
theorem dL_1475 : decode code 1475 = .ok (.iaload, 1) := by decide +kernel
theorem dL_1476 : decode code 1476 = .ok (.invokevirtual 192, 3) := by decide +kernel
theorem dL_1479 : decode code 1479 = .ok (.aload_n 2, 1) := by decide +kernel
theorem dL_1480 : decode code 1480 = .ok (.aload_n 0, 1) := by decide +kernel
theorem dL_1481 : decode code 1481 = .ok (.iload_n 3, 1) := by decide +kernel
theorem dL_1482 : decode code 1482 = .ok (.iconst 1, 1) := by decide +kernel
theorem dL_1483 : decode code 1483 = .ok (.iadd, 1) := by decide +kernel
theorem dL_1484 : decode code 1484 = .ok (.iaload, 1) := by decide +kernel
theorem dL_1485 : decode code 1485 = .ok (.invokevirtual 195, 3) := by decide +kernel
theorem dL_1488 : decode code 1488 = .ok (.if_icmp .eq 113, 3) := by decide +kernel
theorem dL_1491 : decode code 1491 = .ok (.iconst 0, 1) := by decide +kernel
theorem dL_1492 : decode code 1492 = .ok (.ireturn, 1) := by decide +kernel
theorem dL_1493 : decode code 1493 = .ok (.aload_n 1, 1) := by decide +kernel
theorem dL_1494 : decode code 1494 = .ok (.aload_n 0, 1) := by decide +kernel
theorem dL_1495 : decode code 1495 = .ok (.iload_n 3, 1) := by decide +kernel
theorem dL_1496 : decode code 1496 = .ok (.iconst 1, 1) := by decide +kernel
theorem dL_1497 : decode code 1497 = .ok (.iadd, 1) := by decide +kernel
theorem dL_1498 : decode code 1498 = .ok (.iaload, 1) := by decide +kernel
theorem dL_1499 : decode code 1499 = .ok (.invokevirtual 196, 3) := by decide +kernel
theorem dL_1502 : decode code 1502 = .ok (.aload_n 2, 1) := by decide +kernel
theorem dL_1503 : decode code 1503 = .ok (.aload_n 0, 1) := by decide +kernel
theorem dL_1504 : decode code 1504 = .ok (.iload_n 3, 1) := by decide +kernel
theorem dL_1505 : decode code 1505 = .ok (.iconst 1, 1) := by decide +kernel
theorem dL_1506 : decode code 1506 = .ok (.iadd, 1) := by decide +kernel
theorem dL_1507 : decode code 1507 = .ok (.iaload, 1) := by decide +kernel
theorem dL_1508 : decode code 1508 = .ok (.invokevirtual 199, 3) := by decide +kernel
theorem dL_1511 : decode code 1511 = .ok (.if_icmp .eq 90, 3) := by decide +kernel
theorem dL_1514 : decode code 1514 = .ok (.iconst 0, 1) := by decide +kernel
theorem dL_1515 : decode code 1515 = .ok (.ireturn, 1) := by decide +kernel
theorem dL_1516 : decode code 1516 = .ok (.aload_n 1, 1) := by decide +kernel
theorem dL_1517 : decode code 1517 = .ok (.invokevirtual 200, 3) := by decide +kernel
theorem dL_1520 : decode code 1520 = .ok (.aload_n 2, 1) := by decide +kernel
theorem dL_1521 : decode code 1521 = .ok (.invokevirtual 203, 3) := by decide +kernel
theorem dL_1524 : decode code 1524 = .ok (.if_icmp .eq 77, 3) := by decide +kernel
theorem dL_1527 : decode code 1527 = .ok (.iconst 0, 1) := by decide +kernel
theorem dL_1528 : decode code 1528 = .ok (.ireturn, 1) := by decide +kernel
theorem dL_1529 : decode code 1529 = .ok (.aload_n 1, 1) := by decide +kernel
theorem dL_1530 : decode code 1530 = .ok (.invokevirtual 204, 3) := by decide +kernel
theorem dL_1533 : decode code 1533 = .ok (.aload_n 2, 1) := by decide +kernel
theorem dL_1534 : decode code 1534 = .ok (.invokevirtual 207, 3) := by decide +kernel
theorem dL_1537 : decode code 1537 = .ok (.if_icmp .eq 64, 3) := by decide +kernel
theorem dL_1540 : decode code 1540 = .ok (.iconst 0, 1) := by decide +kernel
theorem dL_1541 : decode code 1541 = .ok (.ireturn, 1) := by decide +kernel
theorem dL_1542 : decode code 1542 = .ok (.aload_n 1, 1) := by decide +kernel
theorem dL_1543 : decode code 1543 = .ok (.invokevirtual 208, 3) := by decide +kernel
theorem dL_1546 : decode code 1546 = .ok (.aload_n 2, 1) := by decide +kernel
theorem dL_1547 : decode code 1547 = .ok (.invokevirtual 211, 3) := by decide +kernel
theorem dL_1550 : decode code 1550 = .ok (.if_icmp .eq 51, 3) := by decide +kernel
theorem dL_1553 : decode code 1553 = .ok (.iconst 0, 1) := by decide +kernel
theorem dL_1554 : decode code 1554 = .ok (.ireturn, 1) := by decide +kernel
theorem dL_1555 : decode code 1555 = .ok (.aload_n 1, 1) := by decide +kernel
theorem dL_1556 : decode code 1556 = .ok (.aload_n 0, 1) := by decide +kernel
theorem dL_1557 : decode code 1557 = .ok (.iload_n 3, 1) := by decide +kernel
theorem dL_1558 : decode code 1558 = .ok (.iconst 1, 1) := by decide +kernel
theorem dL_1559 : decode code 1559 = .ok (.iadd, 1) := by decide +kernel
theorem dL_1560 : decode code 1560 = .ok (.iaload, 1) := by decide +kernel
theorem dL_1561 : decode code 1561 = .ok (.invokevirtual 212, 3) := by decide +kernel
theorem dL_1564 : decode code 1564 = .ok (.aload_n 2, 1) := by decide +kernel
theorem dL_1565 : decode code 1565 = .ok (.aload_n 0, 1) := by decide +kernel
