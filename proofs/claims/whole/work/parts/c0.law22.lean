theorem dL_law_1568 : decode cL_law 1568 = .ok (.iconst 1, 1) := by decide +kernel
theorem dL_law_1569 : decode cL_law 1569 = .ok (.iadd, 1) := by decide +kernel
theorem dL_law_1570 : decode cL_law 1570 = .ok (.iaload, 1) := by decide +kernel
theorem dL_law_1571 : decode cL_law 1571 = .ok (.aload_n 0, 1) := by decide +kernel
theorem dL_law_1572 : decode cL_law 1572 = .ok (.iload_n 3, 1) := by decide +kernel
theorem dL_law_1573 : decode cL_law 1573 = .ok (.iconst 2, 1) := by decide +kernel
theorem dL_law_1574 : decode cL_law 1574 = .ok (.iadd, 1) := by decide +kernel
theorem dL_law_1575 : decode cL_law 1575 = .ok (.iaload, 1) := by decide +kernel
theorem dL_law_1576 : decode cL_law 1576 = .ok (.invokevirtual 147, 3) := by decide +kernel
theorem dL_law_1579 : decode cL_law 1579 = .ok (.aload_n 2, 1) := by decide +kernel
theorem dL_law_1580 : decode cL_law 1580 = .ok (.aload_n 0, 1) := by decide +kernel
theorem dL_law_1581 : decode cL_law 1581 = .ok (.iload_n 3, 1) := by decide +kernel
theorem dL_law_1582 : decode cL_law 1582 = .ok (.iconst 1, 1) := by decide +kernel
theorem dL_law_1583 : decode cL_law 1583 = .ok (.iadd, 1) := by decide +kernel
theorem dL_law_1584 : decode cL_law 1584 = .ok (.iaload, 1) := by decide +kernel
theorem dL_law_1585 : decode cL_law 1585 = .ok (.aload_n 0, 1) := by decide +kernel
theorem dL_law_1586 : decode cL_law 1586 = .ok (.iload_n 3, 1) := by decide +kernel
theorem dL_law_1587 : decode cL_law 1587 = .ok (.iconst 2, 1) := by decide +kernel
theorem dL_law_1588 : decode cL_law 1588 = .ok (.iadd, 1) := by decide +kernel
theorem dL_law_1589 : decode cL_law 1589 = .ok (.iaload, 1) := by decide +kernel
theorem dL_law_1590 : decode cL_law 1590 = .ok (.invokevirtual 150, 3) := by decide +kernel
theorem dL_law_1593 : decode cL_law 1593 = .ok (.if_icmp .eq 456, 3) := by decide +kernel
theorem dL_law_1596 : decode cL_law 1596 = .ok (.iconst 0, 1) := by decide +kernel
theorem dL_law_1597 : decode cL_law 1597 = .ok (.ireturn, 1) := by decide +kernel
theorem dL_law_1598 : decode cL_law 1598 = .ok (.aload_n 1, 1) := by decide +kernel
theorem dL_law_1599 : decode cL_law 1599 = .ok (.aload_n 0, 1) := by decide +kernel
theorem dL_law_1600 : decode cL_law 1600 = .ok (.iload_n 3, 1) := by decide +kernel
theorem dL_law_1601 : decode cL_law 1601 = .ok (.iconst 1, 1) := by decide +kernel
theorem dL_law_1602 : decode cL_law 1602 = .ok (.iadd, 1) := by decide +kernel
theorem dL_law_1603 : decode cL_law 1603 = .ok (.iaload, 1) := by decide +kernel
theorem dL_law_1604 : decode cL_law 1604 = .ok (.aload_n 0, 1) := by decide +kernel
theorem dL_law_1605 : decode cL_law 1605 = .ok (.iload_n 3, 1) := by decide +kernel
theorem dL_law_1606 : decode cL_law 1606 = .ok (.iconst 2, 1) := by decide +kernel
theorem dL_law_1607 : decode cL_law 1607 = .ok (.iadd, 1) := by decide +kernel
theorem dL_law_1608 : decode cL_law 1608 = .ok (.iaload, 1) := by decide +kernel
theorem dL_law_1609 : decode cL_law 1609 = .ok (.aload_n 0, 1) := by decide +kernel
theorem dL_law_1610 : decode cL_law 1610 = .ok (.iload_n 3, 1) := by decide +kernel
theorem dL_law_1611 : decode cL_law 1611 = .ok (.iconst 3, 1) := by decide +kernel
theorem dL_law_1612 : decode cL_law 1612 = .ok (.iadd, 1) := by decide +kernel
theorem dL_law_1613 : decode cL_law 1613 = .ok (.iaload, 1) := by decide +kernel
theorem dL_law_1614 : decode cL_law 1614 = .ok (.invokevirtual 151, 3) := by decide +kernel
theorem dL_law_1617 : decode cL_law 1617 = .ok (.aload_n 2, 1) := by decide +kernel
theorem dL_law_1618 : decode cL_law 1618 = .ok (.aload_n 0, 1) := by decide +kernel
theorem dL_law_1619 : decode cL_law 1619 = .ok (.iload_n 3, 1) := by decide +kernel
theorem dL_law_1620 : decode cL_law 1620 = .ok (.iconst 1, 1) := by decide +kernel
theorem dL_law_1621 : decode cL_law 1621 = .ok (.iadd, 1) := by decide +kernel
theorem dL_law_1622 : decode cL_law 1622 = .ok (.iaload, 1) := by decide +kernel
theorem dL_law_1623 : decode cL_law 1623 = .ok (.aload_n 0, 1) := by decide +kernel
theorem dL_law_1624 : decode cL_law 1624 = .ok (.iload_n 3, 1) := by decide +kernel
theorem dL_law_1625 : decode cL_law 1625 = .ok (.iconst 2, 1) := by decide +kernel
theorem dL_law_1626 : decode cL_law 1626 = .ok (.iadd, 1) := by decide +kernel
theorem dL_law_1627 : decode cL_law 1627 = .ok (.iaload, 1) := by decide +kernel
