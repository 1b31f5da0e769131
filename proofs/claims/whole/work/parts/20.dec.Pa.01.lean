theorem d_Pa_init_0 : decode b_Pa_init 0 = .ok (.aload_n 0, 1) := by decide +kernel
theorem d_Pa_init_1 : decode b_Pa_init 1 = .ok (.invokespecial 3, 3) := by decide +kernel
theorem d_Pa_init_4 : decode b_Pa_init 4 = .ok (.aload_n 0, 1) := by decide +kernel
theorem d_Pa_init_5 : decode b_Pa_init 5 = .ok (.bipush 7, 2) := by decide +kernel
theorem d_Pa_init_7 : decode b_Pa_init 7 = .ok (.newarray .long, 2) := by decide +kernel
theorem d_Pa_init_9 : decode b_Pa_init 9 = .ok (.putfield 9, 3) := by decide +kernel
theorem d_Pa_init_12 : decode b_Pa_init 12 = .ok (.aload_n 0, 1) := by decide +kernel
theorem d_Pa_init_13 : decode b_Pa_init 13 = .ok (.bipush 7, 2) := by decide +kernel
theorem d_Pa_init_15 : decode b_Pa_init 15 = .ok (.newarray .int, 2) := by decide +kernel
theorem d_Pa_init_17 : decode b_Pa_init 17 = .ok (.putfield 15, 3) := by decide +kernel
theorem d_Pa_init_20 : decode b_Pa_init 20 = .ok (.aload_n 0, 1) := by decide +kernel
theorem d_Pa_init_21 : decode b_Pa_init 21 = .ok (.iconst 4, 1) := by decide +kernel
theorem d_Pa_init_22 : decode b_Pa_init 22 = .ok (.anewarray 19, 3) := by decide +kernel
theorem d_Pa_init_25 : decode b_Pa_init 25 = .ok (.putfield 21, 3) := by decide +kernel
theorem d_Pa_init_28 : decode b_Pa_init 28 = .ok (.aload_n 0, 1) := by decide +kernel
theorem d_Pa_init_29 : decode b_Pa_init 29 = .ok (.iconst (-1), 1) := by decide +kernel
theorem d_Pa_init_30 : decode b_Pa_init 30 = .ok (.putfield 25, 3) := by decide +kernel
theorem d_Pa_init_33 : decode b_Pa_init 33 = .ok (.aload_n 0, 1) := by decide +kernel
theorem d_Pa_init_34 : decode b_Pa_init 34 = .ok (.iconst (-1), 1) := by decide +kernel
theorem d_Pa_init_35 : decode b_Pa_init 35 = .ok (.putfield 29, 3) := by decide +kernel
theorem d_Pa_init_38 : decode b_Pa_init 38 = .ok (.aload_n 0, 1) := by decide +kernel
theorem d_Pa_init_39 : decode b_Pa_init 39 = .ok (.iconst (-1), 1) := by decide +kernel
theorem d_Pa_init_40 : decode b_Pa_init 40 = .ok (.putfield 32, 3) := by decide +kernel
theorem d_Pa_init_43 : decode b_Pa_init 43 = .ok (.return_, 1) := by decide +kernel
theorem d_Pa_columnNamedAt_0 : decode b_Pa_columnNamedAt 0 = .ok (.iconst 0, 1) := by decide +kernel
theorem d_Pa_columnNamedAt_1 : decode b_Pa_columnNamedAt 1 = .ok (.istore_n 2, 1) := by decide +kernel
theorem d_Pa_columnNamedAt_2 : decode b_Pa_columnNamedAt 2 = .ok (.iload_n 2, 1) := by decide +kernel
theorem d_Pa_columnNamedAt_3 : decode b_Pa_columnNamedAt 3 = .ok (.aload_n 0, 1) := by decide +kernel
theorem d_Pa_columnNamedAt_4 : decode b_Pa_columnNamedAt 4 = .ok (.getfield 35, 3) := by decide +kernel
theorem d_Pa_columnNamedAt_7 : decode b_Pa_columnNamedAt 7 = .ok (.if_icmp .ge 27, 3) := by decide +kernel
theorem d_Pa_columnNamedAt_10 : decode b_Pa_columnNamedAt 10 = .ok (.aload_n 0, 1) := by decide +kernel
theorem d_Pa_columnNamedAt_11 : decode b_Pa_columnNamedAt 11 = .ok (.getfield 9, 3) := by decide +kernel
theorem d_Pa_columnNamedAt_14 : decode b_Pa_columnNamedAt 14 = .ok (.iload_n 2, 1) := by decide +kernel
theorem d_Pa_columnNamedAt_15 : decode b_Pa_columnNamedAt 15 = .ok (.laload, 1) := by decide +kernel
theorem d_Pa_columnNamedAt_16 : decode b_Pa_columnNamedAt 16 = .ok (.aload_n 0, 1) := by decide +kernel
theorem d_Pa_columnNamedAt_17 : decode b_Pa_columnNamedAt 17 = .ok (.getfield 9, 3) := by decide +kernel
theorem d_Pa_columnNamedAt_20 : decode b_Pa_columnNamedAt 20 = .ok (.iload_n 1, 1) := by decide +kernel
theorem d_Pa_columnNamedAt_21 : decode b_Pa_columnNamedAt 21 = .ok (.laload, 1) := by decide +kernel
theorem d_Pa_columnNamedAt_22 : decode b_Pa_columnNamedAt 22 = .ok (.lcmp, 1) := by decide +kernel
theorem d_Pa_columnNamedAt_23 : decode b_Pa_columnNamedAt 23 = .ok (.ifCond .ne 5, 3) := by decide +kernel
theorem d_Pa_columnNamedAt_26 : decode b_Pa_columnNamedAt 26 = .ok (.iload_n 2, 1) := by decide +kernel
theorem d_Pa_columnNamedAt_27 : decode b_Pa_columnNamedAt 27 = .ok (.ireturn, 1) := by decide +kernel
theorem d_Pa_columnNamedAt_28 : decode b_Pa_columnNamedAt 28 = .ok (.iinc 2 1, 3) := by decide +kernel
theorem d_Pa_columnNamedAt_31 : decode b_Pa_columnNamedAt 31 = .ok (.goto (-29), 3) := by decide +kernel
theorem d_Pa_columnNamedAt_34 : decode b_Pa_columnNamedAt 34 = .ok (.iconst (-1), 1) := by decide +kernel
theorem d_Pa_columnNamedAt_35 : decode b_Pa_columnNamedAt 35 = .ok (.ireturn, 1) := by decide +kernel
