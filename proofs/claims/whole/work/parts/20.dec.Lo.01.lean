theorem d_Lo_compare_0 : decode b_Lo_compare 0 = .ok (.lload_n 0, 1) := by decide +kernel
theorem d_Lo_compare_1 : decode b_Lo_compare 1 = .ok (.lload_n 2, 1) := by decide +kernel
theorem d_Lo_compare_2 : decode b_Lo_compare 2 = .ok (.lcmp, 1) := by decide +kernel
theorem d_Lo_compare_3 : decode b_Lo_compare 3 = .ok (.ifCond .ge 7, 3) := by decide +kernel
theorem d_Lo_compare_6 : decode b_Lo_compare 6 = .ok (.iconst (-1), 1) := by decide +kernel
theorem d_Lo_compare_7 : decode b_Lo_compare 7 = .ok (.goto 14, 3) := by decide +kernel
theorem d_Lo_compare_10 : decode b_Lo_compare 10 = .ok (.lload_n 0, 1) := by decide +kernel
theorem d_Lo_compare_11 : decode b_Lo_compare 11 = .ok (.lload_n 2, 1) := by decide +kernel
theorem d_Lo_compare_12 : decode b_Lo_compare 12 = .ok (.lcmp, 1) := by decide +kernel
theorem d_Lo_compare_13 : decode b_Lo_compare 13 = .ok (.ifCond .ne 7, 3) := by decide +kernel
theorem d_Lo_compare_16 : decode b_Lo_compare 16 = .ok (.iconst 0, 1) := by decide +kernel
theorem d_Lo_compare_17 : decode b_Lo_compare 17 = .ok (.goto 4, 3) := by decide +kernel
theorem d_Lo_compare_20 : decode b_Lo_compare 20 = .ok (.iconst 1, 1) := by decide +kernel
theorem d_Lo_compare_21 : decode b_Lo_compare 21 = .ok (.ireturn, 1) := by decide +kernel
