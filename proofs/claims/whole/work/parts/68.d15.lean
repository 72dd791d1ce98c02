theorem dL_1456 : decode code 1456 = .ok (.ireturn, 1) := by decide +kernel
theorem dL_1457 : decode code 1457 = .ok (.aload_n 1, 1) := by decide +kernel
theorem dL_1458 : decode code 1458 = .ok (.invokevirtual 161, 3) := by decide +kernel
theorem dL_1461 : decode code 1461 = .ok (.aload_n 2, 1) := by decide +kernel
theorem dL_1462 : decode code 1462 = .ok (.invokevirtual 165, 3) := by decide +kernel
theorem dL_1465 : decode code 1465 = .ok (.if_icmp .eq 100, 3) := by decide +kernel
theorem dL_1468 : decode code 1468 = .ok (.iconst 0, 1) := by decide +kernel
theorem dL_1469 : decode code 1469 = .ok (.ireturn, 1) := by decide +kernel
theorem dL_1470 : decode code 1470 = .ok (.aload_n 1, 1) := by decide +kernel
theorem dL_1471 : decode code 1471 = .ok (.invokevirtual 166, 3) := by decide +kernel
theorem dL_1474 : decode code 1474 = .ok (.aload_n 2, 1) := by decide +kernel
theorem dL_1475 : decode code 1475 = .ok (.invokevirtual 169, 3) := by decide +kernel
theorem dL_1478 : decode code 1478 = .ok (.if_icmp .eq 87, 3) := by decide +kernel
theorem dL_1481 : decode code 1481 = .ok (.iconst 0, 1) := by decide +kernel
theorem dL_1482 : decode code 1482 = .ok (.ireturn, 1) := by decide +kernel
theorem dL_1483 : decode code 1483 = .ok (.aload_n 1, 1) := by decide +kernel
theorem dL_1484 : decode code 1484 = .ok (.aload_n 0, 1) := by decide +kernel
theorem dL_1485 : decode code 1485 = .ok (.iload_n 3, 1) := by decide +kernel
theorem dL_1486 : decode code 1486 = .ok (.iconst 1, 1) := by decide +kernel
theorem dL_1487 : decode code 1487 = .ok (.iadd, 1) := by decide +kernel
theorem dL_1488 : decode code 1488 = .ok (.iaload, 1) := by decide +kernel
theorem dL_1489 : decode code 1489 = .ok (.invokevirtual 170, 3) := by decide +kernel
theorem dL_1492 : decode code 1492 = .ok (.aload_n 2, 1) := by decide +kernel
theorem dL_1493 : decode code 1493 = .ok (.aload_n 0, 1) := by decide +kernel
theorem dL_1494 : decode code 1494 = .ok (.iload_n 3, 1) := by decide +kernel
theorem dL_1495 : decode code 1495 = .ok (.iconst 1, 1) := by decide +kernel
theorem dL_1496 : decode code 1496 = .ok (.iadd, 1) := by decide +kernel
theorem dL_1497 : decode code 1497 = .ok (.iaload, 1) := by decide +kernel
theorem dL_1498 : decode code 1498 = .ok (.invokevirtual 173, 3) := by decide +kernel
theorem dL_1501 : decode code 1501 = .ok (.if_icmp .eq 64, 3) := by decide +kernel
theorem dL_1504 : decode code 1504 = .ok (.iconst 0, 1) := by decide +kernel
theorem dL_1505 : decode code 1505 = .ok (.ireturn, 1) := by decide +kernel
theorem dL_1506 : decode code 1506 = .ok (.aload_n 1, 1) := by decide +kernel
theorem dL_1507 : decode code 1507 = .ok (.invokevirtual 174, 3) := by decide +kernel
theorem dL_1510 : decode code 1510 = .ok (.aload_n 2, 1) := by decide +kernel
theorem dL_1511 : decode code 1511 = .ok (.invokevirtual 177, 3) := by decide +kernel
theorem dL_1514 : decode code 1514 = .ok (.if_icmp .eq 51, 3) := by decide +kernel
theorem dL_1517 : decode code 1517 = .ok (.iconst 0, 1) := by decide +kernel
theorem dL_1518 : decode code 1518 = .ok (.ireturn, 1) := by decide +kernel
theorem dL_1519 : decode code 1519 = .ok (.aload_n 1, 1) := by decide +kernel
theorem dL_1520 : decode code 1520 = .ok (.aload_n 0, 1) := by decide +kernel
theorem dL_1521 : decode code 1521 = .ok (.iload_n 3, 1) := by decide +kernel
theorem dL_1522 : decode code 1522 = .ok (.iconst 1, 1) := by decide +kernel
theorem dL_1523 : decode code 1523 = .ok (.iadd, 1) := by decide +kernel
theorem dL_1524 : decode code 1524 = .ok (.iaload, 1) := by decide +kernel
theorem dL_1525 : decode code 1525 = .ok (.invokevirtual 178, 3) := by decide +kernel
theorem dL_1528 : decode code 1528 = .ok (.aload_n 2, 1) := by decide +kernel
theorem dL_1529 : decode code 1529 = .ok (.aload_n 0, 1) := by decide +kernel
theorem dL_1530 : decode code 1530 = .ok (.iload_n 3, 1) := by decide +kernel
theorem dL_1531 : decode code 1531 = .ok (.iconst 1, 1) := by decide +kernel
theorem dL_1532 : decode code 1532 = .ok (.iadd, 1) := by decide +kernel
theorem dL_1533 : decode code 1533 = .ok (.iaload, 1) := by decide +kernel
theorem dL_1534 : decode code 1534 = .ok (.invokevirtual 181, 3) := by decide +kernel
theorem dL_1537 : decode code 1537 = .ok (.if_icmp .eq 28, 3) := by decide +kernel
theorem dL_1540 : decode code 1540 = .ok (.iconst 0, 1) := by decide +kernel
theorem dL_1541 : decode code 1541 = .ok (.ireturn, 1) := by decide +kernel
theorem dL_1542 : decode code 1542 = .ok (.aload_n 1, 1) := by decide +kernel
theorem dL_1543 : decode code 1543 = .ok (.aload_n 0, 1) := by decide +kernel
theorem dL_1544 : decode code 1544 = .ok (.iload_n 3, 1) := by decide +kernel
theorem dL_1545 : decode code 1545 = .ok (.iconst 1, 1) := by decide +kernel
theorem dL_1546 : decode code 1546 = .ok (.iadd, 1) := by decide +kernel
theorem dL_1547 : decode code 1547 = .ok (.iaload, 1) := by decide +kernel
theorem dL_1548 : decode code 1548 = .ok (.invokevirtual 182, 3) := by decide +kernel
theorem dL_1551 : decode code 1551 = .ok (.aload_n 2, 1) := by decide +kernel
theorem dL_1552 : decode code 1552 = .ok (.aload_n 0, 1) := by decide +kernel
theorem dL_1553 : decode code 1553 = .ok (.iload_n 3, 1) := by decide +kernel
theorem dL_1554 : decode code 1554 = .ok (.iconst 1, 1) := by decide +kernel
theorem dL_1555 : decode code 1555 = .ok (.iadd, 1) := by decide +kernel
theorem dL_1556 : decode code 1556 = .ok (.iaload, 1) := by decide +kernel
theorem dL_1557 : decode code 1557 = .ok (.invokevirtual 185, 3) := by decide +kernel
