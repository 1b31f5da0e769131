theorem d_Al_init_0 : decode b_Al_init 0 = .ok (.aload_n 0, 1) := by decide +kernel
theorem d_Al_init_1 : decode b_Al_init 1 = .ok (.invokespecial 1, 3) := by decide +kernel
theorem d_Al_init_4 : decode b_Al_init 4 = .ok (.aload_n 0, 1) := by decide +kernel
theorem d_Al_init_5 : decode b_Al_init 5 = .ok (.getstatic 39, 3) := by decide +kernel
theorem d_Al_init_8 : decode b_Al_init 8 = .ok (.putfield 9, 3) := by decide +kernel
theorem d_Al_init_11 : decode b_Al_init 11 = .ok (.return_, 1) := by decide +kernel
theorem d_Al_grow2_0 : decode b_Al_grow2 0 = .ok (.aload_n 0, 1) := by decide +kernel
theorem d_Al_grow2_1 : decode b_Al_grow2 1 = .ok (.getfield 9, 3) := by decide +kernel
theorem d_Al_grow2_4 : decode b_Al_grow2 4 = .ok (.arraylength, 1) := by decide +kernel
theorem d_Al_grow2_5 : decode b_Al_grow2 5 = .ok (.istore_n 2, 1) := by decide +kernel
theorem d_Al_grow2_6 : decode b_Al_grow2 6 = .ok (.iload_n 2, 1) := by decide +kernel
theorem d_Al_grow2_7 : decode b_Al_grow2 7 = .ok (.ifCond .gt 13, 3) := by decide +kernel
theorem d_Al_grow2_10 : decode b_Al_grow2 10 = .ok (.aload_n 0, 1) := by decide +kernel
theorem d_Al_grow2_11 : decode b_Al_grow2 11 = .ok (.getfield 9, 3) := by decide +kernel
theorem d_Al_grow2_14 : decode b_Al_grow2 14 = .ok (.getstatic 39, 3) := by decide +kernel
theorem d_Al_grow2_17 : decode b_Al_grow2 17 = .ok (.if_acmp .eq 28, 3) := by decide +kernel
theorem d_Al_grow2_20 : decode b_Al_grow2 20 = .ok (.iload_n 2, 1) := by decide +kernel
theorem d_Al_grow2_21 : decode b_Al_grow2 21 = .ok (.iload_n 1, 1) := by decide +kernel
theorem d_Al_grow2_22 : decode b_Al_grow2 22 = .ok (.iload_n 2, 1) := by decide +kernel
theorem d_Al_grow2_23 : decode b_Al_grow2 23 = .ok (.isub, 1) := by decide +kernel
theorem d_Al_grow2_24 : decode b_Al_grow2 24 = .ok (.iload_n 2, 1) := by decide +kernel
theorem d_Al_grow2_25 : decode b_Al_grow2 25 = .ok (.iconst 1, 1) := by decide +kernel
theorem d_Al_grow2_26 : decode b_Al_grow2 26 = .ok (.ishr, 1) := by decide +kernel
theorem d_Al_grow2_27 : decode b_Al_grow2 27 = .ok (.invokestatic 73, 3) := by decide +kernel
theorem d_Al_grow2_30 : decode b_Al_grow2 30 = .ok (.istore_n 3, 1) := by decide +kernel
theorem d_Al_grow2_31 : decode b_Al_grow2 31 = .ok (.aload_n 0, 1) := by decide +kernel
theorem d_Al_grow2_32 : decode b_Al_grow2 32 = .ok (.aload_n 0, 1) := by decide +kernel
theorem d_Al_grow2_33 : decode b_Al_grow2 33 = .ok (.getfield 9, 3) := by decide +kernel
theorem d_Al_grow2_36 : decode b_Al_grow2 36 = .ok (.iload_n 3, 1) := by decide +kernel
theorem d_Al_grow2_37 : decode b_Al_grow2 37 = .ok (.invokestatic 66, 3) := by decide +kernel
theorem d_Al_grow2_40 : decode b_Al_grow2 40 = .ok (.dup_x1, 1) := by decide +kernel
theorem d_Al_grow2_41 : decode b_Al_grow2 41 = .ok (.putfield 9, 3) := by decide +kernel
theorem d_Al_grow2_44 : decode b_Al_grow2 44 = .ok (.areturn, 1) := by decide +kernel
theorem d_Al_grow2_45 : decode b_Al_grow2 45 = .ok (.aload_n 0, 1) := by decide +kernel
theorem d_Al_grow2_46 : decode b_Al_grow2 46 = .ok (.bipush 10, 2) := by decide +kernel
theorem d_Al_grow2_48 : decode b_Al_grow2 48 = .ok (.iload_n 1, 1) := by decide +kernel
theorem d_Al_grow2_49 : decode b_Al_grow2 49 = .ok (.invokestatic 79, 3) := by decide +kernel
theorem d_Al_grow2_52 : decode b_Al_grow2 52 = .ok (.anewarray 7, 3) := by decide +kernel
theorem d_Al_grow2_55 : decode b_Al_grow2 55 = .ok (.dup_x1, 1) := by decide +kernel
theorem d_Al_grow2_56 : decode b_Al_grow2 56 = .ok (.putfield 9, 3) := by decide +kernel
theorem d_Al_grow2_59 : decode b_Al_grow2 59 = .ok (.areturn, 1) := by decide +kernel
theorem d_Al_grow_0 : decode b_Al_grow 0 = .ok (.aload_n 0, 1) := by decide +kernel
theorem d_Al_grow_1 : decode b_Al_grow 1 = .ok (.aload_n 0, 1) := by decide +kernel
theorem d_Al_grow_2 : decode b_Al_grow 2 = .ok (.getfield 48, 3) := by decide +kernel
theorem d_Al_grow_5 : decode b_Al_grow 5 = .ok (.iconst 1, 1) := by decide +kernel
theorem d_Al_grow_6 : decode b_Al_grow 6 = .ok (.iadd, 1) := by decide +kernel
theorem d_Al_grow_7 : decode b_Al_grow 7 = .ok (.invokevirtual 69, 3) := by decide +kernel
theorem d_Al_grow_10 : decode b_Al_grow 10 = .ok (.areturn, 1) := by decide +kernel
theorem d_Al_add2_0 : decode b_Al_add2 0 = .ok (.iload_n 3, 1) := by decide +kernel
theorem d_Al_add2_1 : decode b_Al_add2 1 = .ok (.aload_n 2, 1) := by decide +kernel
theorem d_Al_add2_2 : decode b_Al_add2 2 = .ok (.arraylength, 1) := by decide +kernel
theorem d_Al_add2_3 : decode b_Al_add2 3 = .ok (.if_icmp .ne 8, 3) := by decide +kernel
theorem d_Al_add2_6 : decode b_Al_add2 6 = .ok (.aload_n 0, 1) := by decide +kernel
theorem d_Al_add2_7 : decode b_Al_add2 7 = .ok (.invokevirtual 129, 3) := by decide +kernel
theorem d_Al_add2_10 : decode b_Al_add2 10 = .ok (.astore_n 2, 1) := by decide +kernel
theorem d_Al_add2_11 : decode b_Al_add2 11 = .ok (.aload_n 2, 1) := by decide +kernel
theorem d_Al_add2_12 : decode b_Al_add2 12 = .ok (.iload_n 3, 1) := by decide +kernel
theorem d_Al_add2_13 : decode b_Al_add2 13 = .ok (.aload_n 1, 1) := by decide +kernel
theorem d_Al_add2_14 : decode b_Al_add2 14 = .ok (.aastore, 1) := by decide +kernel
theorem d_Al_add2_15 : decode b_Al_add2 15 = .ok (.aload_n 0, 1) := by decide +kernel
theorem d_Al_add2_16 : decode b_Al_add2 16 = .ok (.iload_n 3, 1) := by decide +kernel
theorem d_Al_add2_17 : decode b_Al_add2 17 = .ok (.iconst 1, 1) := by decide +kernel
theorem d_Al_add2_18 : decode b_Al_add2 18 = .ok (.iadd, 1) := by decide +kernel
theorem d_Al_add2_19 : decode b_Al_add2 19 = .ok (.putfield 48, 3) := by decide +kernel
theorem d_Al_add2_22 : decode b_Al_add2 22 = .ok (.return_, 1) := by decide +kernel
theorem d_Al_add_0 : decode b_Al_add 0 = .ok (.aload_n 0, 1) := by decide +kernel
theorem d_Al_add_1 : decode b_Al_add 1 = .ok (.dup, 1) := by decide +kernel
theorem d_Al_add_2 : decode b_Al_add 2 = .ok (.getfield 63, 3) := by decide +kernel
theorem d_Al_add_5 : decode b_Al_add 5 = .ok (.iconst 1, 1) := by decide +kernel
theorem d_Al_add_6 : decode b_Al_add 6 = .ok (.iadd, 1) := by decide +kernel
theorem d_Al_add_7 : decode b_Al_add 7 = .ok (.putfield 63, 3) := by decide +kernel
theorem d_Al_add_10 : decode b_Al_add 10 = .ok (.aload_n 0, 1) := by decide +kernel
theorem d_Al_add_11 : decode b_Al_add 11 = .ok (.aload_n 1, 1) := by decide +kernel
theorem d_Al_add_12 : decode b_Al_add 12 = .ok (.aload_n 0, 1) := by decide +kernel
theorem d_Al_add_13 : decode b_Al_add 13 = .ok (.getfield 9, 3) := by decide +kernel
theorem d_Al_add_16 : decode b_Al_add 16 = .ok (.aload_n 0, 1) := by decide +kernel
theorem d_Al_add_17 : decode b_Al_add 17 = .ok (.getfield 48, 3) := by decide +kernel
theorem d_Al_add_20 : decode b_Al_add 20 = .ok (.invokevirtual 131, 3) := by decide +kernel
theorem d_Al_add_23 : decode b_Al_add 23 = .ok (.iconst 1, 1) := by decide +kernel
theorem d_Al_add_24 : decode b_Al_add 24 = .ok (.ireturn, 1) := by decide +kernel
theorem d_Al_size_0 : decode b_Al_size 0 = .ok (.aload_n 0, 1) := by decide +kernel
theorem d_Al_size_1 : decode b_Al_size 1 = .ok (.getfield 48, 3) := by decide +kernel
theorem d_Al_size_4 : decode b_Al_size 4 = .ok (.ireturn, 1) := by decide +kernel
theorem d_Al_elementData_0 : decode b_Al_elementData 0 = .ok (.aload_n 0, 1) := by decide +kernel
theorem d_Al_elementData_1 : decode b_Al_elementData 1 = .ok (.getfield 9, 3) := by decide +kernel
theorem d_Al_elementData_4 : decode b_Al_elementData 4 = .ok (.iload_n 1, 1) := by decide +kernel
theorem d_Al_elementData_5 : decode b_Al_elementData 5 = .ok (.aaload, 1) := by decide +kernel
theorem d_Al_elementData_6 : decode b_Al_elementData 6 = .ok (.areturn, 1) := by decide +kernel
theorem d_Al_get_0 : decode b_Al_get 0 = .ok (.iload_n 1, 1) := by decide +kernel
theorem d_Al_get_1 : decode b_Al_get 1 = .ok (.aload_n 0, 1) := by decide +kernel
theorem d_Al_get_2 : decode b_Al_get 2 = .ok (.getfield 48, 3) := by decide +kernel
theorem d_Al_get_5 : decode b_Al_get 5 = .ok (.invokestatic 118, 3) := by decide +kernel
theorem d_Al_get_8 : decode b_Al_get 8 = .ok (.pop, 1) := by decide +kernel
theorem d_Al_get_9 : decode b_Al_get 9 = .ok (.aload_n 0, 1) := by decide +kernel
theorem d_Al_get_10 : decode b_Al_get 10 = .ok (.iload_n 1, 1) := by decide +kernel
theorem d_Al_get_11 : decode b_Al_get 11 = .ok (.invokevirtual 123, 3) := by decide +kernel
theorem d_Al_get_14 : decode b_Al_get 14 = .ok (.areturn, 1) := by decide +kernel
