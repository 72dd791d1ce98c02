theorem dL_1560 : decode code 1560 = .ok (.if_icmp .eq 5, 3) := by decide +kernel
theorem dL_1563 : decode code 1563 = .ok (.iconst 0, 1) := by decide +kernel
theorem dL_1564 : decode code 1564 = .ok (.ireturn, 1) := by decide +kernel
theorem dL_1565 : decode code 1565 = .ok (.iinc 3 6, 3) := by decide +kernel
theorem dL_1568 : decode code 1568 = .ok (.goto (-1550), 3) := by decide +kernel
theorem dL_1571 : decode code 1571 = .ok (.iconst 1, 1) := by decide +kernel
theorem dL_1572 : decode code 1572 = .ok (.ireturn, 1) := by decide +kernel
