theorem d_Abl_init_0 : decode b_Abl_init 0 = .ok (.aload_n 0, 1) := by decide +kernel
theorem d_Abl_init_1 : decode b_Abl_init 1 = .ok (.invokespecial 1, 3) := by decide +kernel
theorem d_Abl_init_4 : decode b_Abl_init 4 = .ok (.aload_n 0, 1) := by decide +kernel
theorem d_Abl_init_5 : decode b_Abl_init 5 = .ok (.iconst 0, 1) := by decide +kernel
theorem d_Abl_init_6 : decode b_Abl_init 6 = .ok (.putfield 7, 3) := by decide +kernel
theorem d_Abl_init_9 : decode b_Abl_init 9 = .ok (.return_, 1) := by decide +kernel
