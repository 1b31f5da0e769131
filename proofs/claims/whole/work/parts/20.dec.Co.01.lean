theorem d_Co_init_0 : decode b_Co_init 0 = .ok (.aload_n 0, 1) := by decide +kernel
theorem d_Co_init_1 : decode b_Co_init 1 = .ok (.invokespecial 3, 3) := by decide +kernel
theorem d_Co_init_4 : decode b_Co_init 4 = .ok (.aload_n 0, 1) := by decide +kernel
theorem d_Co_init_5 : decode b_Co_init 5 = .ok (.getstatic 9, 3) := by decide +kernel
theorem d_Co_init_8 : decode b_Co_init 8 = .ok (.putfield 15, 3) := by decide +kernel
theorem d_Co_init_11 : decode b_Co_init 11 = .ok (.aload_n 0, 1) := by decide +kernel
theorem d_Co_init_12 : decode b_Co_init 12 = .ok (.iconst 3, 1) := by decide +kernel
theorem d_Co_init_13 : decode b_Co_init 13 = .ok (.anewarray 16, 3) := by decide +kernel
theorem d_Co_init_16 : decode b_Co_init 16 = .ok (.putfield 20, 3) := by decide +kernel
theorem d_Co_init_19 : decode b_Co_init 19 = .ok (.return_, 1) := by decide +kernel
