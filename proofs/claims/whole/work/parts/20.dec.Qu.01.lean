theorem d_Qu_init_0 : decode b_Qu_init 0 = .ok (.aload_n 0, 1) := by decide +kernel
theorem d_Qu_init_1 : decode b_Qu_init 1 = .ok (.invokespecial 3, 3) := by decide +kernel
theorem d_Qu_init_4 : decode b_Qu_init 4 = .ok (.aload_n 0, 1) := by decide +kernel
theorem d_Qu_init_5 : decode b_Qu_init 5 = .ok (.iconst 4, 1) := by decide +kernel
theorem d_Qu_init_6 : decode b_Qu_init 6 = .ok (.anewarray 9, 3) := by decide +kernel
theorem d_Qu_init_9 : decode b_Qu_init 9 = .ok (.putfield 11, 3) := by decide +kernel
theorem d_Qu_init_12 : decode b_Qu_init 12 = .ok (.aload_n 0, 1) := by decide +kernel
theorem d_Qu_init_13 : decode b_Qu_init 13 = .ok (.iconst 2, 1) := by decide +kernel
theorem d_Qu_init_14 : decode b_Qu_init 14 = .ok (.anewarray 17, 3) := by decide +kernel
theorem d_Qu_init_17 : decode b_Qu_init 17 = .ok (.putfield 19, 3) := by decide +kernel
theorem d_Qu_init_20 : decode b_Qu_init 20 = .ok (.aload_n 0, 1) := by decide +kernel
theorem d_Qu_init_21 : decode b_Qu_init 21 = .ok (.new 23, 3) := by decide +kernel
theorem d_Qu_init_24 : decode b_Qu_init 24 = .ok (.dup, 1) := by decide +kernel
theorem d_Qu_init_25 : decode b_Qu_init 25 = .ok (.invokespecial 25, 3) := by decide +kernel
theorem d_Qu_init_28 : decode b_Qu_init 28 = .ok (.putfield 26, 3) := by decide +kernel
theorem d_Qu_init_31 : decode b_Qu_init 31 = .ok (.aload_n 0, 1) := by decide +kernel
theorem d_Qu_init_32 : decode b_Qu_init 32 = .ok (.new 23, 3) := by decide +kernel
theorem d_Qu_init_35 : decode b_Qu_init 35 = .ok (.dup, 1) := by decide +kernel
theorem d_Qu_init_36 : decode b_Qu_init 36 = .ok (.invokespecial 25, 3) := by decide +kernel
theorem d_Qu_init_39 : decode b_Qu_init 39 = .ok (.putfield 30, 3) := by decide +kernel
theorem d_Qu_init_42 : decode b_Qu_init 42 = .ok (.return_, 1) := by decide +kernel
