/-! the law's entry, decoded -/
theorem dL_1566 : decode code 1566 = .ok (.iload_n 3, 1) := by decide +kernel
theorem dL_1567 : decode code 1567 = .ok (.iconst 1, 1) := by decide +kernel
theorem dL_1568 : decode code 1568 = .ok (.iadd, 1) := by decide +kernel
theorem dL_1569 : decode code 1569 = .ok (.iaload, 1) := by decide +kernel
theorem dL_1570 : decode code 1570 = .ok (.invokevirtual 215, 3) := by decide +kernel
theorem dL_1573 : decode code 1573 = .ok (.if_icmp .eq 28, 3) := by decide +kernel
theorem dL_1576 : decode code 1576 = .ok (.iconst 0, 1) := by decide +kernel
theorem dL_1577 : decode code 1577 = .ok (.ireturn, 1) := by decide +kernel
theorem dL_1578 : decode code 1578 = .ok (.aload_n 1, 1) := by decide +kernel
theorem dL_1579 : decode code 1579 = .ok (.aload_n 0, 1) := by decide +kernel
theorem dL_1580 : decode code 1580 = .ok (.iload_n 3, 1) := by decide +kernel
theorem dL_1581 : decode code 1581 = .ok (.iconst 1, 1) := by decide +kernel
theorem dL_1582 : decode code 1582 = .ok (.iadd, 1) := by decide +kernel
theorem dL_1583 : decode code 1583 = .ok (.iaload, 1) := by decide +kernel
theorem dL_1584 : decode code 1584 = .ok (.invokevirtual 216, 3) := by decide +kernel
theorem dL_1587 : decode code 1587 = .ok (.aload_n 2, 1) := by decide +kernel
theorem dL_1588 : decode code 1588 = .ok (.aload_n 0, 1) := by decide +kernel
theorem dL_1589 : decode code 1589 = .ok (.iload_n 3, 1) := by decide +kernel
theorem dL_1590 : decode code 1590 = .ok (.iconst 1, 1) := by decide +kernel
theorem dL_1591 : decode code 1591 = .ok (.iadd, 1) := by decide +kernel
theorem dL_1592 : decode code 1592 = .ok (.iaload, 1) := by decide +kernel
theorem dL_1593 : decode code 1593 = .ok (.invokevirtual 219, 3) := by decide +kernel
theorem dL_1596 : decode code 1596 = .ok (.if_icmp .eq 5, 3) := by decide +kernel
theorem dL_1599 : decode code 1599 = .ok (.iconst 0, 1) := by decide +kernel
theorem dL_1600 : decode code 1600 = .ok (.ireturn, 1) := by decide +kernel
theorem dL_1601 : decode code 1601 = .ok (.iinc 3 6, 3) := by decide +kernel
theorem dL_1604 : decode code 1604 = .ok (.goto (-1586), 3) := by decide +kernel
theorem dL_1607 : decode code 1607 = .ok (.iconst 1, 1) := by decide +kernel
theorem dL_1608 : decode code 1608 = .ok (.ireturn, 1) := by decide +kernel
