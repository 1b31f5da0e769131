theorem d_Abc_init_0 : decode b_Abc_init 0 = .ok (.aload_n 0, 1) := by decide +kernel
theorem d_Abc_init_1 : decode b_Abc_init 1 = .ok (.invokespecial 1, 3) := by decide +kernel
theorem d_Abc_init_4 : decode b_Abc_init 4 = .ok (.return_, 1) := by decide +kernel
