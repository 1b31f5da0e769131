theorem d_So_init_0 : decode b_So_init 0 = .ok (.aload_n 0, 1) := by decide +kernel
theorem d_So_init_1 : decode b_So_init 1 = .ok (.invokespecial 3, 3) := by decide +kernel
theorem d_So_init_4 : decode b_So_init 4 = .ok (.aload_n 0, 1) := by decide +kernel
theorem d_So_init_5 : decode b_So_init 5 = .ok (.iconst (-1), 1) := by decide +kernel
theorem d_So_init_6 : decode b_So_init 6 = .ok (.putfield 9, 3) := by decide +kernel
theorem d_So_init_9 : decode b_So_init 9 = .ok (.aload_n 0, 1) := by decide +kernel
theorem d_So_init_10 : decode b_So_init 10 = .ok (.iconst (-1), 1) := by decide +kernel
theorem d_So_init_11 : decode b_So_init 11 = .ok (.putfield 15, 3) := by decide +kernel
theorem d_So_init_14 : decode b_So_init 14 = .ok (.aload_n 0, 1) := by decide +kernel
theorem d_So_init_15 : decode b_So_init 15 = .ok (.aload_n 1, 1) := by decide +kernel
theorem d_So_init_16 : decode b_So_init 16 = .ok (.putfield 18, 3) := by decide +kernel
theorem d_So_init_19 : decode b_So_init 19 = .ok (.aload_n 0, 1) := by decide +kernel
theorem d_So_init_20 : decode b_So_init 20 = .ok (.iload_n 2, 1) := by decide +kernel
theorem d_So_init_21 : decode b_So_init 21 = .ok (.putfield 22, 3) := by decide +kernel
theorem d_So_init_24 : decode b_So_init 24 = .ok (.aload_n 0, 1) := by decide +kernel
theorem d_So_init_25 : decode b_So_init 25 = .ok (.iload_n 3, 1) := by decide +kernel
theorem d_So_init_26 : decode b_So_init 26 = .ok (.putfield 25, 3) := by decide +kernel
theorem d_So_init_29 : decode b_So_init 29 = .ok (.return_, 1) := by decide +kernel
theorem d_So_isInner_0 : decode b_So_isInner 0 = .ok (.aload_n 0, 1) := by decide +kernel
theorem d_So_isInner_1 : decode b_So_isInner 1 = .ok (.getfield 22, 3) := by decide +kernel
theorem d_So_isInner_4 : decode b_So_isInner 4 = .ok (.ifCond .ge 7, 3) := by decide +kernel
theorem d_So_isInner_7 : decode b_So_isInner 7 = .ok (.iconst 1, 1) := by decide +kernel
theorem d_So_isInner_8 : decode b_So_isInner 8 = .ok (.goto 4, 3) := by decide +kernel
theorem d_So_isInner_11 : decode b_So_isInner 11 = .ok (.iconst 0, 1) := by decide +kernel
theorem d_So_isInner_12 : decode b_So_isInner 12 = .ok (.ireturn, 1) := by decide +kernel
theorem d_So_passesOver_0 : decode b_So_passesOver 0 = .ok (.aload_n 0, 1) := by decide +kernel
theorem d_So_passesOver_1 : decode b_So_passesOver 1 = .ok (.getfield 28, 3) := by decide +kernel
theorem d_So_passesOver_4 : decode b_So_passesOver 4 = .ok (.ifCond .eq 25, 3) := by decide +kernel
theorem d_So_passesOver_7 : decode b_So_passesOver 7 = .ok (.aload_n 0, 1) := by decide +kernel
theorem d_So_passesOver_8 : decode b_So_passesOver 8 = .ok (.getfield 32, 3) := by decide +kernel
theorem d_So_passesOver_11 : decode b_So_passesOver 11 = .ok (.getfield 36, 3) := by decide +kernel
theorem d_So_passesOver_14 : decode b_So_passesOver 14 = .ok (.iload_n 1, 1) := by decide +kernel
theorem d_So_passesOver_15 : decode b_So_passesOver 15 = .ok (.iconst 4, 1) := by decide +kernel
theorem d_So_passesOver_16 : decode b_So_passesOver 16 = .ok (.imul, 1) := by decide +kernel
theorem d_So_passesOver_17 : decode b_So_passesOver 17 = .ok (.iconst 3, 1) := by decide +kernel
theorem d_So_passesOver_18 : decode b_So_passesOver 18 = .ok (.iadd, 1) := by decide +kernel
theorem d_So_passesOver_19 : decode b_So_passesOver 19 = .ok (.laload, 1) := by decide +kernel
theorem d_So_passesOver_20 : decode b_So_passesOver 20 = .ok (.lconst 1, 1) := by decide +kernel
theorem d_So_passesOver_21 : decode b_So_passesOver 21 = .ok (.lcmp, 1) := by decide +kernel
theorem d_So_passesOver_22 : decode b_So_passesOver 22 = .ok (.ifCond .ne 7, 3) := by decide +kernel
theorem d_So_passesOver_25 : decode b_So_passesOver 25 = .ok (.iconst 1, 1) := by decide +kernel
theorem d_So_passesOver_26 : decode b_So_passesOver 26 = .ok (.goto 4, 3) := by decide +kernel
theorem d_So_passesOver_29 : decode b_So_passesOver 29 = .ok (.iconst 0, 1) := by decide +kernel
theorem d_So_passesOver_30 : decode b_So_passesOver 30 = .ok (.ireturn, 1) := by decide +kernel
