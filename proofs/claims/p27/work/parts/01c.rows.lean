theorem dX9_has_0 : decode cX9_has 0 = .ok (.iload_n 0, 1) := by decide +kernel
theorem dX9_has_1 : decode cX9_has 1 = .ok (.iload_n 1, 1) := by decide +kernel
theorem dX9_has_2 : decode cX9_has 2 = .ok (.ishr, 1) := by decide +kernel
theorem dX9_has_3 : decode cX9_has 3 = .ok (.iconst 1, 1) := by decide +kernel
theorem dX9_has_4 : decode cX9_has 4 = .ok (.iand, 1) := by decide +kernel
theorem dX9_has_5 : decode cX9_has 5 = .ok (.iconst 1, 1) := by decide +kernel
theorem dX9_has_6 : decode cX9_has 6 = .ok (.if_icmp .ne 7, 3) := by decide +kernel
theorem dX9_has_9 : decode cX9_has 9 = .ok (.iconst 1, 1) := by decide +kernel
theorem dX9_has_10 : decode cX9_has 10 = .ok (.goto 4, 3) := by decide +kernel
theorem dX9_has_13 : decode cX9_has 13 = .ok (.iconst 0, 1) := by decide +kernel
theorem dX9_has_14 : decode cX9_has 14 = .ok (.ireturn, 1) := by decide +kernel
theorem dX9_isZeroOrOne_0 : decode cX9_isZeroOrOne 0 = .ok (.iload_n 0, 1) := by decide +kernel
theorem dX9_isZeroOrOne_1 : decode cX9_isZeroOrOne 1 = .ok (.ifCond .eq 8, 3) := by decide +kernel
theorem dX9_isZeroOrOne_4 : decode cX9_isZeroOrOne 4 = .ok (.iload_n 0, 1) := by decide +kernel
theorem dX9_isZeroOrOne_5 : decode cX9_isZeroOrOne 5 = .ok (.iconst 1, 1) := by decide +kernel
theorem dX9_isZeroOrOne_6 : decode cX9_isZeroOrOne 6 = .ok (.if_icmp .ne 7, 3) := by decide +kernel
theorem dX9_isZeroOrOne_9 : decode cX9_isZeroOrOne 9 = .ok (.iconst 1, 1) := by decide +kernel
theorem dX9_isZeroOrOne_10 : decode cX9_isZeroOrOne 10 = .ok (.goto 4, 3) := by decide +kernel
theorem dX9_isZeroOrOne_13 : decode cX9_isZeroOrOne 13 = .ok (.iconst 0, 1) := by decide +kernel
theorem dX9_isZeroOrOne_14 : decode cX9_isZeroOrOne 14 = .ok (.ireturn, 1) := by decide +kernel
theorem dX9_power_0 : decode cX9_power 0 = .ok (.lconst 1, 1) := by decide +kernel
theorem dX9_power_1 : decode cX9_power 1 = .ok (.lstore_n 2, 1) := by decide +kernel
theorem dX9_power_2 : decode cX9_power 2 = .ok (.iconst 0, 1) := by decide +kernel
theorem dX9_power_3 : decode cX9_power 3 = .ok (.istore 4, 2) := by decide +kernel
theorem dX9_power_5 : decode cX9_power 5 = .ok (.iload 4, 2) := by decide +kernel
theorem dX9_power_7 : decode cX9_power 7 = .ok (.iload_n 1, 1) := by decide +kernel
theorem dX9_power_8 : decode cX9_power 8 = .ok (.if_icmp .ge 14, 3) := by decide +kernel
theorem dX9_power_11 : decode cX9_power 11 = .ok (.lload_n 2, 1) := by decide +kernel
theorem dX9_power_12 : decode cX9_power 12 = .ok (.iload_n 0, 1) := by decide +kernel
theorem dX9_power_13 : decode cX9_power 13 = .ok (.i2l, 1) := by decide +kernel
theorem dX9_power_14 : decode cX9_power 14 = .ok (.lmul, 1) := by decide +kernel
theorem dX9_power_15 : decode cX9_power 15 = .ok (.lstore_n 2, 1) := by decide +kernel
theorem dX9_power_16 : decode cX9_power 16 = .ok (.iinc 4 1, 3) := by decide +kernel
theorem dX9_power_19 : decode cX9_power 19 = .ok (.goto (-14), 3) := by decide +kernel
theorem dX9_power_22 : decode cX9_power 22 = .ok (.lload_n 2, 1) := by decide +kernel
theorem dX9_power_23 : decode cX9_power 23 = .ok (.lreturn, 1) := by decide +kernel
