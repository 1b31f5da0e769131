theorem d_E_init_0 : decode b_E_init 0 = .ok (.aload_n 0, 1) := by decide +kernel
theorem d_E_init_1 : decode b_E_init 1 = .ok (.invokespecial 3, 3) := by decide +kernel
theorem d_E_init_4 : decode b_E_init 4 = .ok (.aload_n 0, 1) := by decide +kernel
theorem d_E_init_5 : decode b_E_init 5 = .ok (.iconst 5, 1) := by decide +kernel
theorem d_E_init_6 : decode b_E_init 6 = .ok (.anewarray 9, 3) := by decide +kernel
theorem d_E_init_9 : decode b_E_init 9 = .ok (.putfield 11, 3) := by decide +kernel
theorem d_E_init_12 : decode b_E_init 12 = .ok (.aload_n 0, 1) := by decide +kernel
theorem d_E_init_13 : decode b_E_init 13 = .ok (.new 15, 3) := by decide +kernel
theorem d_E_init_16 : decode b_E_init 16 = .ok (.dup, 1) := by decide +kernel
theorem d_E_init_17 : decode b_E_init 17 = .ok (.invokespecial 17, 3) := by decide +kernel
theorem d_E_init_20 : decode b_E_init 20 = .ok (.putfield 18, 3) := by decide +kernel
theorem d_E_init_23 : decode b_E_init 23 = .ok (.aload_n 0, 1) := by decide +kernel
theorem d_E_init_24 : decode b_E_init 24 = .ok (.new 22, 3) := by decide +kernel
theorem d_E_init_27 : decode b_E_init 27 = .ok (.dup, 1) := by decide +kernel
theorem d_E_init_28 : decode b_E_init 28 = .ok (.invokespecial 24, 3) := by decide +kernel
theorem d_E_init_31 : decode b_E_init 31 = .ok (.putfield 25, 3) := by decide +kernel
theorem d_E_init_34 : decode b_E_init 34 = .ok (.aload_n 0, 1) := by decide +kernel
theorem d_E_init_35 : decode b_E_init 35 = .ok (.new 29, 3) := by decide +kernel
theorem d_E_init_38 : decode b_E_init 38 = .ok (.dup, 1) := by decide +kernel
theorem d_E_init_39 : decode b_E_init 39 = .ok (.invokespecial 31, 3) := by decide +kernel
theorem d_E_init_42 : decode b_E_init 42 = .ok (.putfield 32, 3) := by decide +kernel
theorem d_E_init_45 : decode b_E_init 45 = .ok (.aload_n 0, 1) := by decide +kernel
theorem d_E_init_46 : decode b_E_init 46 = .ok (.iconst 0, 1) := by decide +kernel
theorem d_E_init_47 : decode b_E_init 47 = .ok (.putfield 36, 3) := by decide +kernel
theorem d_E_init_50 : decode b_E_init 50 = .ok (.aload_n 0, 1) := by decide +kernel
theorem d_E_init_51 : decode b_E_init 51 = .ok (.aconst_null, 1) := by decide +kernel
theorem d_E_init_52 : decode b_E_init 52 = .ok (.putfield 40, 3) := by decide +kernel
theorem d_E_init_55 : decode b_E_init 55 = .ok (.aload_n 0, 1) := by decide +kernel
theorem d_E_init_56 : decode b_E_init 56 = .ok (.iconst 0, 1) := by decide +kernel
theorem d_E_init_57 : decode b_E_init 57 = .ok (.putfield 44, 3) := by decide +kernel
theorem d_E_init_60 : decode b_E_init 60 = .ok (.aload_n 0, 1) := by decide +kernel
theorem d_E_init_61 : decode b_E_init 61 = .ok (.iconst 0, 1) := by decide +kernel
theorem d_E_init_62 : decode b_E_init 62 = .ok (.putfield 47, 3) := by decide +kernel
theorem d_E_init_65 : decode b_E_init 65 = .ok (.return_, 1) := by decide +kernel
theorem d_E_text_0 : decode b_E_text 0 = .ok (.aload_n 0, 1) := by decide +kernel
theorem d_E_text_1 : decode b_E_text 1 = .ok (.getfield 18, 3) := by decide +kernel
theorem d_E_text_4 : decode b_E_text 4 = .ok (.getfield 79, 3) := by decide +kernel
theorem d_E_text_7 : decode b_E_text 7 = .ok (.istore 6, 2) := by decide +kernel
theorem d_E_text_9 : decode b_E_text 9 = .ok (.aload_n 0, 1) := by decide +kernel
theorem d_E_text_10 : decode b_E_text 10 = .ok (.getfield 18, 3) := by decide +kernel
theorem d_E_text_13 : decode b_E_text 13 = .ok (.iload_n 1, 1) := by decide +kernel
theorem d_E_text_14 : decode b_E_text 14 = .ok (.invokevirtual 82, 3) := by decide +kernel
theorem d_E_text_17 : decode b_E_text 17 = .ok (.ifCond .eq 53, 3) := by decide +kernel
theorem d_E_text_20 : decode b_E_text 20 = .ok (.aload_n 0, 1) := by decide +kernel
theorem d_E_text_21 : decode b_E_text 21 = .ok (.getfield 18, 3) := by decide +kernel
theorem d_E_text_24 : decode b_E_text 24 = .ok (.iload_n 2, 1) := by decide +kernel
theorem d_E_text_25 : decode b_E_text 25 = .ok (.invokevirtual 82, 3) := by decide +kernel
theorem d_E_text_28 : decode b_E_text 28 = .ok (.ifCond .eq 42, 3) := by decide +kernel
theorem d_E_text_31 : decode b_E_text 31 = .ok (.aload_n 0, 1) := by decide +kernel
theorem d_E_text_32 : decode b_E_text 32 = .ok (.getfield 18, 3) := by decide +kernel
theorem d_E_text_35 : decode b_E_text 35 = .ok (.iload_n 3, 1) := by decide +kernel
theorem d_E_text_36 : decode b_E_text 36 = .ok (.invokevirtual 82, 3) := by decide +kernel
theorem d_E_text_39 : decode b_E_text 39 = .ok (.ifCond .eq 31, 3) := by decide +kernel
theorem d_E_text_42 : decode b_E_text 42 = .ok (.aload_n 0, 1) := by decide +kernel
theorem d_E_text_43 : decode b_E_text 43 = .ok (.getfield 18, 3) := by decide +kernel
theorem d_E_text_46 : decode b_E_text 46 = .ok (.iload 4, 2) := by decide +kernel
theorem d_E_text_48 : decode b_E_text 48 = .ok (.invokevirtual 82, 3) := by decide +kernel
theorem d_E_text_51 : decode b_E_text 51 = .ok (.ifCond .eq 19, 3) := by decide +kernel
theorem d_E_text_54 : decode b_E_text 54 = .ok (.aload_n 0, 1) := by decide +kernel
theorem d_E_text_55 : decode b_E_text 55 = .ok (.getfield 18, 3) := by decide +kernel
theorem d_E_text_58 : decode b_E_text 58 = .ok (.iload 5, 2) := by decide +kernel
theorem d_E_text_60 : decode b_E_text 60 = .ok (.invokevirtual 82, 3) := by decide +kernel
theorem d_E_text_63 : decode b_E_text 63 = .ok (.ifCond .eq 7, 3) := by decide +kernel
theorem d_E_text_66 : decode b_E_text 66 = .ok (.iconst 1, 1) := by decide +kernel
theorem d_E_text_67 : decode b_E_text 67 = .ok (.goto 4, 3) := by decide +kernel
theorem d_E_text_70 : decode b_E_text 70 = .ok (.iconst 0, 1) := by decide +kernel
theorem d_E_text_71 : decode b_E_text 71 = .ok (.istore 7, 2) := by decide +kernel
theorem d_E_text_73 : decode b_E_text 73 = .ok (.iload 7, 2) := by decide +kernel
theorem d_E_text_75 : decode b_E_text 75 = .ok (.ifCond .ne 12, 3) := by decide +kernel
theorem d_E_text_78 : decode b_E_text 78 = .ok (.aload_n 0, 1) := by decide +kernel
theorem d_E_text_79 : decode b_E_text 79 = .ok (.getfield 18, 3) := by decide +kernel
theorem d_E_text_82 : decode b_E_text 82 = .ok (.iload 6, 2) := by decide +kernel
theorem d_E_text_84 : decode b_E_text 84 = .ok (.putfield 79, 3) := by decide +kernel
theorem d_E_text_87 : decode b_E_text 87 = .ok (.iload 7, 2) := by decide +kernel
theorem d_E_text_89 : decode b_E_text 89 = .ok (.ireturn, 1) := by decide +kernel
theorem d_E_fault_0 : decode b_E_fault 0 = .ok (.aload_n 0, 1) := by decide +kernel
theorem d_E_fault_1 : decode b_E_fault 1 = .ok (.getfield 44, 3) := by decide +kernel
theorem d_E_fault_4 : decode b_E_fault 4 = .ok (.ireturn, 1) := by decide +kernel
