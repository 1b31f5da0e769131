theorem d_Te_init_0 : decode b_Te_init 0 = .ok (.aload_n 0, 1) := by decide +kernel
theorem d_Te_init_1 : decode b_Te_init 1 = .ok (.invokespecial 3, 3) := by decide +kernel
theorem d_Te_init_4 : decode b_Te_init 4 = .ok (.aload_n 0, 1) := by decide +kernel
theorem d_Te_init_5 : decode b_Te_init 5 = .ok (.iload_n 1, 1) := by decide +kernel
theorem d_Te_init_6 : decode b_Te_init 6 = .ok (.putfield 9, 3) := by decide +kernel
theorem d_Te_init_9 : decode b_Te_init 9 = .ok (.aload_n 0, 1) := by decide +kernel
theorem d_Te_init_10 : decode b_Te_init 10 = .ok (.iload_n 2, 1) := by decide +kernel
theorem d_Te_init_11 : decode b_Te_init 11 = .ok (.putfield 15, 3) := by decide +kernel
theorem d_Te_init_14 : decode b_Te_init 14 = .ok (.aload_n 0, 1) := by decide +kernel
theorem d_Te_init_15 : decode b_Te_init 15 = .ok (.aload_n 3, 1) := by decide +kernel
theorem d_Te_init_16 : decode b_Te_init 16 = .ok (.putfield 19, 3) := by decide +kernel
theorem d_Te_init_19 : decode b_Te_init 19 = .ok (.aload_n 0, 1) := by decide +kernel
theorem d_Te_init_20 : decode b_Te_init 20 = .ok (.aload 4, 2) := by decide +kernel
theorem d_Te_init_22 : decode b_Te_init 22 = .ok (.putfield 23, 3) := by decide +kernel
theorem d_Te_init_25 : decode b_Te_init 25 = .ok (.return_, 1) := by decide +kernel
theorem d_Te_value_0 : decode b_Te_value 0 = .ok (.lconst 0, 1) := by decide +kernel
theorem d_Te_value_1 : decode b_Te_value 1 = .ok (.lstore_n 1, 1) := by decide +kernel
theorem d_Te_value_2 : decode b_Te_value 2 = .ok (.aload_n 0, 1) := by decide +kernel
theorem d_Te_value_3 : decode b_Te_value 3 = .ok (.astore_n 3, 1) := by decide +kernel
theorem d_Te_value_4 : decode b_Te_value 4 = .ok (.aload_n 3, 1) := by decide +kernel
theorem d_Te_value_5 : decode b_Te_value 5 = .ok (.ifnull 84, 3) := by decide +kernel
theorem d_Te_value_8 : decode b_Te_value 8 = .ok (.aload_n 3, 1) := by decide +kernel
theorem d_Te_value_9 : decode b_Te_value 9 = .ok (.getfield 27, 3) := by decide +kernel
theorem d_Te_value_12 : decode b_Te_value 12 = .ok (.ifnonnull 10, 3) := by decide +kernel
theorem d_Te_value_15 : decode b_Te_value 15 = .ok (.aload_n 3, 1) := by decide +kernel
theorem d_Te_value_16 : decode b_Te_value 16 = .ok (.getfield 31, 3) := by decide +kernel
theorem d_Te_value_19 : decode b_Te_value 19 = .ok (.goto 28, 3) := by decide +kernel
theorem d_Te_value_22 : decode b_Te_value 22 = .ok (.aload_n 3, 1) := by decide +kernel
theorem d_Te_value_23 : decode b_Te_value 23 = .ok (.getfield 27, 3) := by decide +kernel
theorem d_Te_value_26 : decode b_Te_value 26 = .ok (.getfield 35, 3) := by decide +kernel
theorem d_Te_value_29 : decode b_Te_value 29 = .ok (.getfield 41, 3) := by decide +kernel
theorem d_Te_value_32 : decode b_Te_value 32 = .ok (.aload_n 3, 1) := by decide +kernel
theorem d_Te_value_33 : decode b_Te_value 33 = .ok (.getfield 27, 3) := by decide +kernel
theorem d_Te_value_36 : decode b_Te_value 36 = .ok (.getfield 47, 3) := by decide +kernel
theorem d_Te_value_39 : decode b_Te_value 39 = .ok (.iconst 4, 1) := by decide +kernel
theorem d_Te_value_40 : decode b_Te_value 40 = .ok (.imul, 1) := by decide +kernel
theorem d_Te_value_41 : decode b_Te_value 41 = .ok (.aload_n 3, 1) := by decide +kernel
theorem d_Te_value_42 : decode b_Te_value 42 = .ok (.getfield 50, 3) := by decide +kernel
theorem d_Te_value_45 : decode b_Te_value 45 = .ok (.iadd, 1) := by decide +kernel
theorem d_Te_value_46 : decode b_Te_value 46 = .ok (.laload, 1) := by decide +kernel
theorem d_Te_value_47 : decode b_Te_value 47 = .ok (.lstore 4, 2) := by decide +kernel
theorem d_Te_value_49 : decode b_Te_value 49 = .ok (.lload 4, 2) := by decide +kernel
theorem d_Te_value_51 : decode b_Te_value 51 = .ok (.ldc2_w 53, 3) := by decide +kernel
theorem d_Te_value_54 : decode b_Te_value 54 = .ok (.lcmp, 1) := by decide +kernel
theorem d_Te_value_55 : decode b_Te_value 55 = .ok (.ifCond .ne 7, 3) := by decide +kernel
theorem d_Te_value_58 : decode b_Te_value 58 = .ok (.ldc2_w 53, 3) := by decide +kernel
theorem d_Te_value_61 : decode b_Te_value 61 = .ok (.lreturn, 1) := by decide +kernel
theorem d_Te_value_62 : decode b_Te_value 62 = .ok (.aload_n 3, 1) := by decide +kernel
theorem d_Te_value_63 : decode b_Te_value 63 = .ok (.getfield 9, 3) := by decide +kernel
theorem d_Te_value_66 : decode b_Te_value 66 = .ok (.ifCond .eq 10, 3) := by decide +kernel
theorem d_Te_value_69 : decode b_Te_value 69 = .ok (.lload_n 1, 1) := by decide +kernel
theorem d_Te_value_70 : decode b_Te_value 70 = .ok (.lload 4, 2) := by decide +kernel
theorem d_Te_value_72 : decode b_Te_value 72 = .ok (.lsub, 1) := by decide +kernel
theorem d_Te_value_73 : decode b_Te_value 73 = .ok (.goto 7, 3) := by decide +kernel
theorem d_Te_value_76 : decode b_Te_value 76 = .ok (.lload_n 1, 1) := by decide +kernel
theorem d_Te_value_77 : decode b_Te_value 77 = .ok (.lload 4, 2) := by decide +kernel
theorem d_Te_value_79 : decode b_Te_value 79 = .ok (.ladd, 1) := by decide +kernel
theorem d_Te_value_80 : decode b_Te_value 80 = .ok (.lstore_n 1, 1) := by decide +kernel
theorem d_Te_value_81 : decode b_Te_value 81 = .ok (.aload_n 3, 1) := by decide +kernel
theorem d_Te_value_82 : decode b_Te_value 82 = .ok (.getfield 55, 3) := by decide +kernel
theorem d_Te_value_85 : decode b_Te_value 85 = .ok (.astore_n 3, 1) := by decide +kernel
theorem d_Te_value_86 : decode b_Te_value 86 = .ok (.goto (-82), 3) := by decide +kernel
theorem d_Te_value_89 : decode b_Te_value 89 = .ok (.lload_n 1, 1) := by decide +kernel
theorem d_Te_value_90 : decode b_Te_value 90 = .ok (.lreturn, 1) := by decide +kernel
